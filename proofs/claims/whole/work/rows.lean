section
-- ===== PART A: goes FIRST, ahead of the names: the tables' words, and 'selects' of the private methods out of them =====
/-- a private method of a class that the tables say can be made, by its rows of tables_1 -/
def lw_okq (q : MethodName × Nat) : Prop := (q.1.cls ≠ "java/lang/invoke/MethodHandle" ∧ q.1.cls ≠ "java/lang/invoke/VarHandle") ∧ Cond.instantiable q.1.cls q.2 ∈ tables_1 ∧ Cond.privateMethod q.1 ∈ tables_1 ∧ Cond.instanceMethod q.1 ∈ tables_1
theorem lw_p0 : lw_okq (⟨"ExactNumbers", "store", "(I[JZ)I"⟩, 9) := ⟨⟨by decide +kernel, by decide +kernel⟩, List.mem_of_getElem? (i := 9) (by decide +kernel), List.mem_of_getElem? (i := 61) (by decide +kernel), List.mem_of_getElem? (i := 62) (by decide +kernel)⟩
theorem lw_p1 : lw_okq (⟨"ExactNumbers", "areDigitsOf", "(II)Z"⟩, 9) := ⟨⟨by decide +kernel, by decide +kernel⟩, List.mem_of_getElem? (i := 9) (by decide +kernel), List.mem_of_getElem? (i := 85) (by decide +kernel), List.mem_of_getElem? (i := 86) (by decide +kernel)⟩
theorem lw_p2 : lw_okq (⟨"ExactNumbers", "sum", "(IIIZ)I"⟩, 9) := ⟨⟨by decide +kernel, by decide +kernel⟩, List.mem_of_getElem? (i := 9) (by decide +kernel), List.mem_of_getElem? (i := 98) (by decide +kernel), List.mem_of_getElem? (i := 99) (by decide +kernel)⟩
theorem lw_p3 : lw_okq (⟨"ExactNumbers", "quotientOrRest", "(IIIZ)I"⟩, 9) := ⟨⟨by decide +kernel, by decide +kernel⟩, List.mem_of_getElem? (i := 9) (by decide +kernel), List.mem_of_getElem? (i := 119) (by decide +kernel), List.mem_of_getElem? (i := 120) (by decide +kernel)⟩
theorem lw_p4 : lw_okq (⟨"ExactNumbers", "bitByBit", "(IIII)I"⟩, 9) := ⟨⟨by decide +kernel, by decide +kernel⟩, List.mem_of_getElem? (i := 9) (by decide +kernel), List.mem_of_getElem? (i := 151) (by decide +kernel), List.mem_of_getElem? (i := 152) (by decide +kernel)⟩
theorem lw_p5 : lw_okq (⟨"ExactNumbers", "signedCopy", "(I[J)V"⟩, 9) := ⟨⟨by decide +kernel, by decide +kernel⟩, List.mem_of_getElem? (i := 9) (by decide +kernel), List.mem_of_getElem? (i := 155) (by decide +kernel), List.mem_of_getElem? (i := 156) (by decide +kernel)⟩
theorem lw_p6 : lw_okq (⟨"ExactNumbers", "putGroup", "(JII)V"⟩, 9) := ⟨⟨by decide +kernel, by decide +kernel⟩, List.mem_of_getElem? (i := 9) (by decide +kernel), List.mem_of_getElem? (i := 227) (by decide +kernel), List.mem_of_getElem? (i := 228) (by decide +kernel)⟩
theorem lw_p7 : lw_okq (⟨"ExactNumbers", "put", "(I)V"⟩, 9) := ⟨⟨by decide +kernel, by decide +kernel⟩, List.mem_of_getElem? (i := 9) (by decide +kernel), List.mem_of_getElem? (i := 231) (by decide +kernel), List.mem_of_getElem? (i := 232) (by decide +kernel)⟩
theorem lw_p8 : lw_okq (⟨"ExactNumbersModel", "keep", "(I)I"⟩, 17) := ⟨⟨by decide +kernel, by decide +kernel⟩, List.mem_of_getElem? (i := 239) (by decide +kernel), List.mem_of_getElem? (i := 314) (by decide +kernel), List.mem_of_getElem? (i := 315) (by decide +kernel)⟩
theorem lw_p9 : lw_okq (⟨"ExactNumbersModel", "loadBoth", "(II)V"⟩, 17) := ⟨⟨by decide +kernel, by decide +kernel⟩, List.mem_of_getElem? (i := 239) (by decide +kernel), List.mem_of_getElem? (i := 340) (by decide +kernel), List.mem_of_getElem? (i := 341) (by decide +kernel)⟩
theorem lw_p10 : lw_okq (⟨"ExactNumbersModel", "load", "(I[I)V"⟩, 17) := ⟨⟨by decide +kernel, by decide +kernel⟩, List.mem_of_getElem? (i := 239) (by decide +kernel), List.mem_of_getElem? (i := 344) (by decide +kernel), List.mem_of_getElem? (i := 345) (by decide +kernel)⟩
theorem lw_p11 : lw_okq (⟨"ExactNumbersModel", "sum", "(Z)V"⟩, 17) := ⟨⟨by decide +kernel, by decide +kernel⟩, List.mem_of_getElem? (i := 239) (by decide +kernel), List.mem_of_getElem? (i := 348) (by decide +kernel), List.mem_of_getElem? (i := 349) (by decide +kernel)⟩
theorem lw_p12 : lw_okq (⟨"ExactNumbersModel", "times", "()V"⟩, 17) := ⟨⟨by decide +kernel, by decide +kernel⟩, List.mem_of_getElem? (i := 239) (by decide +kernel), List.mem_of_getElem? (i := 361) (by decide +kernel), List.mem_of_getElem? (i := 362) (by decide +kernel)⟩
theorem lw_p13 : lw_okq (⟨"ExactNumbersModel", "divide", "()V"⟩, 17) := ⟨⟨by decide +kernel, by decide +kernel⟩, List.mem_of_getElem? (i := 239) (by decide +kernel), List.mem_of_getElem? (i := 365) (by decide +kernel), List.mem_of_getElem? (i := 366) (by decide +kernel)⟩
theorem lw_p14 : lw_okq (⟨"ExactNumbersModel", "bitwise", "(I)V"⟩, 17) := ⟨⟨by decide +kernel, by decide +kernel⟩, List.mem_of_getElem? (i := 239) (by decide +kernel), List.mem_of_getElem? (i := 369) (by decide +kernel), List.mem_of_getElem? (i := 370) (by decide +kernel)⟩
theorem lw_p15 : lw_okq (⟨"ExactNumbersModel", "toBits", "([IZ[I)V"⟩, 17) := ⟨⟨by decide +kernel, by decide +kernel⟩, List.mem_of_getElem? (i := 239) (by decide +kernel), List.mem_of_getElem? (i := 373) (by decide +kernel), List.mem_of_getElem? (i := 374) (by decide +kernel)⟩
def lw_privs_1 : List (MethodName × Nat) := [(⟨"ExactNumbers", "store", "(I[JZ)I"⟩, 9), (⟨"ExactNumbers", "areDigitsOf", "(II)Z"⟩, 9), (⟨"ExactNumbers", "sum", "(IIIZ)I"⟩, 9), (⟨"ExactNumbers", "quotientOrRest", "(IIIZ)I"⟩, 9), (⟨"ExactNumbers", "bitByBit", "(IIII)I"⟩, 9), (⟨"ExactNumbers", "signedCopy", "(I[J)V"⟩, 9), (⟨"ExactNumbers", "putGroup", "(JII)V"⟩, 9), (⟨"ExactNumbers", "put", "(I)V"⟩, 9), (⟨"ExactNumbersModel", "keep", "(I)I"⟩, 17), (⟨"ExactNumbersModel", "loadBoth", "(II)V"⟩, 17), (⟨"ExactNumbersModel", "load", "(I[I)V"⟩, 17), (⟨"ExactNumbersModel", "sum", "(Z)V"⟩, 17), (⟨"ExactNumbersModel", "times", "()V"⟩, 17), (⟨"ExactNumbersModel", "divide", "()V"⟩, 17), (⟨"ExactNumbersModel", "bitwise", "(I)V"⟩, 17), (⟨"ExactNumbersModel", "toBits", "([IZ[I)V"⟩, 17)]
theorem lw_r1 : ∀ q ∈ lw_privs_1, lw_okq q := List.forall_mem_cons.mpr ⟨lw_p0, List.forall_mem_cons.mpr ⟨lw_p1, List.forall_mem_cons.mpr ⟨lw_p2, List.forall_mem_cons.mpr ⟨lw_p3, List.forall_mem_cons.mpr ⟨lw_p4, List.forall_mem_cons.mpr ⟨lw_p5, List.forall_mem_cons.mpr ⟨lw_p6, List.forall_mem_cons.mpr ⟨lw_p7, List.forall_mem_cons.mpr ⟨lw_p8, List.forall_mem_cons.mpr ⟨lw_p9, List.forall_mem_cons.mpr ⟨lw_p10, List.forall_mem_cons.mpr ⟨lw_p11, List.forall_mem_cons.mpr ⟨lw_p12, List.forall_mem_cons.mpr ⟨lw_p13, List.forall_mem_cons.mpr ⟨lw_p14, List.forall_mem_cons.mpr ⟨lw_p15, fun _ h => absurd h List.not_mem_nil⟩⟩⟩⟩⟩⟩⟩⟩⟩⟩⟩⟩⟩⟩⟩⟩
theorem lw_p16 : lw_okq (⟨"ExactNumbersModel", "fromBits", "([I)V"⟩, 17) := ⟨⟨by decide +kernel, by decide +kernel⟩, List.mem_of_getElem? (i := 239) (by decide +kernel), List.mem_of_getElem? (i := 380) (by decide +kernel), List.mem_of_getElem? (i := 381) (by decide +kernel)⟩
def lw_privs_2 : List (MethodName × Nat) := [(⟨"ExactNumbersModel", "fromBits", "([I)V"⟩, 17)]
theorem lw_r2 : ∀ q ∈ lw_privs_2, lw_okq q := List.forall_mem_cons.mpr ⟨lw_p16, fun _ h => absurd h List.not_mem_nil⟩
def lw_privs : List (MethodName × Nat) := lw_privs_1 ++ (lw_privs_2)
def lw_tbl : List Cond := k2_sels lw_privs ++ tables_1
theorem lw_privs_ok : ∀ q ∈ lw_privs, lw_okq q := by
  show ∀ q ∈ lw_privs_1 ++ (lw_privs_2), lw_okq q
  exact List.forall_mem_append.mpr ⟨lw_r1, lw_r2⟩
end
section
/-! ===== BEGIN words of one list among another's, by their places ===== -/
theorem goodIn_r {big : List Cond} (ws : List Cond) (ps : List Nat) (hp : ws = ps.filterMap (fun i => big[i]?)) (h : ws.all goodWord = true) : GoodIn big ws := by
  intro w hw
  have h1 := List.all_eq_true.mp h w hw
  rw [hp] at hw
  obtain ⟨i, -, hi⟩ := List.mem_filterMap.mp hw
  have hm : w ∈ big := by first | exact List.mem_of_getElem? hi | exact List.getElem?_mem hi
  exact ⟨hm, good_of_word h1⟩
theorem goodIn_app {big a b : List Cond} (ha : GoodIn big a) (hb : GoodIn big b) : GoodIn big (a ++ b) := fun w h => (List.mem_append.mp h).elim (ha w) (hb w)
theorem goodIn_ca {big a b : List Cond} {c : Cond} (ha : GoodIn big (c :: a)) (hb : GoodIn big b) : GoodIn big (c :: (a ++ b)) := fun w h => (List.mem_cons.mp h).elim (fun e => ha w (List.mem_cons.mpr (Or.inl e))) (fun h => (List.mem_append.mp h).elim (fun h => ha w (List.mem_cons.mpr (Or.inr h))) (hb w))
theorem goodIn_sub {big ws : List Cond} (hm : ∀ w ∈ ws, w ∈ big) (h : ws.all goodWord = true) : GoodIn big ws := fun w hw => ⟨hm w hw, good_of_word (List.all_eq_true.mp h w hw)⟩
/-! ===== END ===== -/

/-! ===== BEGIN new T[n][m]: the outer array a place, the inner ones among the pooled ===== -/
/-- f, but v at every address of l -/
def vr_up {α : Type} (f : Nat → α) (l : List Nat) (v : α) : Nat → α := fun a => if a ∈ l then v else f a
theorem vr_up_in {α : Type} {f : Nat → α} {l : List Nat} {v : α} {a : Nat} (h : a ∈ l) : vr_up f l v a = v := if_pos h
theorem vr_up_ne {α : Type} {f : Nat → α} {l : List Nat} {v : α} {a : Nat} (h : a ∉ l) : vr_up f l v a = f a := if_neg h
theorem vr_rows {L l : List Nat} {f : Nat → va_E} {e : va_E} (h : ∀ a, a ∈ l → a ∉ L) : va_pl L f ++ l.map (fun a => (a, e)) = va_pl (L ++ l) (vr_up f l e) := by
  unfold va_pl
  rw [List.map_append]
  congr 1
  · apply List.map_congr_left
    intro a ha
    rw [vr_up_ne (fun q => h a q ha)]
  · apply List.map_congr_left
    intro a ha
    rw [vr_up_in ha]
theorem vr_lay {X rows : va_W} {x : Nat × va_E} {pl : va_W} {D : va_G} {cl : List vw_C} {H : Heap} (hP : va_P D cl (((X ++ pl) ++ [x]) ++ rows) H) : va_P D cl ((X ++ [x]) ++ (pl ++ rows)) H := by
  rw [List.append_assoc (X ++ pl)] at hP
  have h := va_P.swap hP
  rw [← List.append_assoc X] at h
  have h2 := va_P.swap h
  rw [List.append_assoc (X ++ [x])] at h2
  exact h2
theorem vr_layD {X rows : va_W} {x : Nat × va_E} {pl : va_W} {A : Nat → Prop} (hD : va_D A (((X ++ pl) ++ [x]) ++ rows)) : va_D A ((X ++ [x]) ++ (pl ++ rows)) := by
  rw [List.append_assoc (X ++ pl)] at hD
  have h := va_D.swap hD
  rw [← List.append_assoc X] at h
  have h2 := va_D.swap h
  rw [List.append_assoc (X ++ [x])] at h2
  exact h2
theorem vr_outer (c : ClassId) (N h0 : Nat) : ∀ i : Nat, Jvm.Free.Multi.outerC c N h0 i = arrV c N (fun j => va_rf (if j < i then some (h0 + 1 + j) else none))
  | 0 => by
    show ({ cls := c, slots := Array.replicate N .null, vm := .none } : Cell) = _
    rw [arrV_new]
    refine congrArg (arrV c N) (funext fun j => ?_)
    simp [va_rf]
  | i + 1 => by
    show (Jvm.Free.Multi.outerC c N h0 i).setSlot i (.ref (h0 + 1 + i)) = _
    rw [vr_outer c N h0 i, arrV_store]
    refine congrArg (arrV c N) (funext fun j => ?_)
    by_cases e : j = i
    · subst e
      simp [updV, va_rf]
    · by_cases h : j < i
      · simp [updV, e, h, Nat.lt_succ_of_lt h]
      · simp [updV, e, h, show ¬ j < i + 1 by omega]
section VGM
variable {p : Program} {l : Launch} {e : Env} {R : Room} {s : State} {m : MethodId} {args : Array Value} {below : List Frame} {meth : Method} {c : Code} {H : Heap} {locs : List Loc} {cells slots : Nat} {Q : State → Prop}
variable {cc : ByteArray} {pc : Nat} {ls : Array Slot} {rest : List Value} {D : va_G} {cl : List vw_C} {A : Nat → Prop} {a : Nat} {tys : List (ClassId × FieldType)} {ws : va_W} {H0 : Heap}
theorem va_mna {X : va_W} {L : List Nat} {f : Nat → va_E} {cc : ByteArray} (hexec : p.tables.exec = Jvm.exec) (hb : c.code = cc) {own : String} {index : Nat} {ty : FieldType} {cy : ClassId} (hown : s.vm.findClass own = some m.cls) (hclink : (Cond.classLink own index ("[" ++ (FieldType.array ty).toString)).before args s = true) (hover : (Cond.arrayOver (.array ty)).before args s = true) (harr : (Cond.arrayClass ty).before args s = true) (hcy : s.vm.findClass (FieldType.array ty).toString = some cy)
    (hK : va_K D cl tys s) (hP : va_P D cl (X ++ va_pl L f) H) (hD : va_D A (X ++ va_pl L f)) (hS : va_S A H0 H locs) (hA : ∀ q, H0.size ≤ q → A q) {n k : Int32} {N' K' : Nat} {z : vp_A} (hn : ¬ n < 0) (hk : ¬ k < 0) (hN : n.toNatClampNeg = N') (hM : k.toNatClampNeg = K')
    (hb1 : N' * 4 ≤ 536870912) (hb2 : K' * componentBytes ty ≤ 536870912) (hb3 : K' ≤ 536870912) (hdf : fits ty (defaultValue ty) = true) (hdd : (defaultValue ty).isDefault = true) (hcells : cells + (1 + N') ≤ R.cells) (hslots : slots + (N' + N' * K') ≤ R.slots) (hz : ∀ c : ClassId, Jvm.Free.Multi.innerC c K' (defaultValue ty) = vp_cell c z) (hdg : decode cc pc = .ok (.multianewarray index 2, 4))
    (kk : ∀ (q : Nat) (r : Nat → Nat) (cA : ClassId) (H1 : Heap), (∀ i j : Nat, i < N' → j < N' → r i = r j → i = j) → (∀ i : Nat, i < N' → r i ∉ L) → va_K D cl (tys ++ [(cA, .array ty)]) s →
      va_P D cl ((X ++ [(q, .inl (cA, N', .inr (.inr (.inr (.inr (fun i => if i < N' then some (r i) else none))))))]) ++ va_pl (L ++ (List.range N').map r) (vr_up f ((List.range N').map r) (.inl (cy, z)))) H1 → va_D A ((X ++ [(q, .inl (cA, N', .inr (.inr (.inr (.inr (fun i => if i < N' then some (r i) else none))))))]) ++ va_pl (L ++ (List.range N').map r) (vr_up f ((List.range N').map r) (.inl (cy, z)))) → va_S A H0 H1 locs →
      W p l e R s m args below meth c H1 locs (cells + 1 + N') (slots + N' + N' * K') Q (F0 m (pc + 4) ls (.ref q :: rest))) : W p l e R s m args below meth c H locs cells slots Q (F0 m pc ls (.int k :: .int n :: rest)) := by
  subst hN
  subst hM
  intro T hT Xs
  obtain ⟨vm₁, cA, comp, -, fA, fC, hO, -, X', step⟩ := Xs.multianewarray2F hexec hown hclink hover harr (g := F0 m pc ls (.int k :: .int n :: rest)) rfl (by rw [hb]; exact hdg) rfl hn hk hb1 hb2 hb3 hdf hdd hcells hslots
  have ec : some cy = some comp := hcy.symm.trans fC
  cases ec
  generalize hF : Jvm.Free.Multi.fill (T.setVm vm₁) cA cy n.toNatClampNeg k.toNatClampNeg (defaultValue ty) n.toNatClampNeg = F at X' step
  have hTh : (T.setVm vm₁).heap = H := hT
  obtain ⟨f1, f2, -, -⟩ := Jvm.Free.Multi.fill_facts (T.setVm vm₁) cA cy n.toNatClampNeg k.toNatClampNeg (defaultValue ty) n.toNatClampNeg
  rw [hF, hTh] at f1 f2
  have hold : ∀ x : Nat, x < H.size → F.heap[x]? = H[x]? := fun x hx => by
    have := Jvm.Free.Multi.fill_old (T.setVm vm₁) cA cy n.toNatClampNeg k.toNatClampNeg (defaultValue ty) (a := x) (by rw [hTh]; exact hx) n.toNatClampNeg
    rw [hF, hTh] at this
    exact this
  have hrow : ∀ j : Nat, j < n.toNatClampNeg → F.heap[H.size + 1 + j]? = some (vp_cell cy z) := fun j hj => by
    have := Jvm.Free.Multi.fill_inner (T.setVm vm₁) cA cy n.toNatClampNeg k.toNatClampNeg (defaultValue ty) n.toNatClampNeg j hj
    rw [hF, hTh, hz] at this
    exact this
  have hout : Jvm.Free.Multi.outerC cA n.toNatClampNeg H.size n.toNatClampNeg = vp_cell cA (n.toNatClampNeg, .inr (.inr (.inr (.inr (fun i => if i < n.toNatClampNeg then some (H.size + 1 + i) else none))))) := by
    rw [vp_cell_q]
    exact vr_outer cA n.toNatClampNeg H.size n.toNatClampNeg
  rw [hout] at f2
  have hlt : ∀ a, a ∈ L → a < H.size := fun a ha => by
    obtain ⟨k9, hk9⟩ := va_pl_get (X := X) (f := f) ha
    exact (hP k9 _ hk9).lt
  have hnl : ∀ i : Nat, i < n.toNatClampNeg → H.size + 1 + i ∉ L := fun i _ h => by
    have := hlt _ h
    omega
  have hnm : ∀ a, a ∈ (List.range n.toNatClampNeg).map (fun i => H.size + 1 + i) → a ∉ L := fun a ha h => by
    obtain ⟨i, -, rfl⟩ := List.mem_map.mp ha
    have := hlt _ h
    omega
  have hP0 : va_P D cl (X ++ va_pl L f) F.heap := hP.kept (fun k9 x hx => hold x.1 ((hP k9 x hx).lt))
  have hP1 : va_P D cl ((X ++ va_pl L f) ++ [(H.size, .inl (cA, n.toNatClampNeg, .inr (.inr (.inr (.inr (fun i => if i < n.toNatClampNeg then some (H.size + 1 + i) else none))))))]) F.heap := hP0.app (fun k9 x hx => by
    have h0 : k9 < 1 := (List.getElem?_eq_some_iff.mp hx).1
    rw [show k9 = 0 by omega] at hx
    cases hx
    exact f2)
  have hP2 : va_P D cl (((X ++ va_pl L f) ++ [(H.size, .inl (cA, n.toNatClampNeg, .inr (.inr (.inr (.inr (fun i => if i < n.toNatClampNeg then some (H.size + 1 + i) else none))))))]) ++ ((List.range n.toNatClampNeg).map (fun i => H.size + 1 + i)).map (fun a => (a, .inl (cy, z)))) F.heap := hP1.app (fun k9 x hx => by
    obtain ⟨a, ha, rfl⟩ := List.mem_map.mp (List.mem_of_getElem? hx)
    obtain ⟨i, hi, rfl⟩ := List.mem_map.mp ha
    exact hrow i (List.mem_range.mp hi))
  have hD2 : va_D A (((X ++ va_pl L f) ++ [(H.size, .inl (cA, n.toNatClampNeg, .inr (.inr (.inr (.inr (fun i => if i < n.toNatClampNeg then some (H.size + 1 + i) else none))))))]) ++ ((List.range n.toNatClampNeg).map (fun i => H.size + 1 + i)).map (fun a => (a, .inl (cy, z)))) := by
    have hD1 := hD.push (e := .inl (cA, n.toNatClampNeg, .inr (.inr (.inr (.inr (fun i => if i < n.toNatClampNeg then some (H.size + 1 + i) else none)))))) hP rfl (hA _ hS.1)
    generalize hW1 : (X ++ va_pl L f) ++ [(H.size, .inl (cA, n.toNatClampNeg, .inr (.inr (.inr (.inr (fun i => if i < n.toNatClampNeg then some (H.size + 1 + i) else none))))))] = W1 at hD1 hP1 ⊢
    have hle : ∀ (k9 : Nat) (x : Nat × va_E), W1[k9]? = some x → x.1 ≤ H.size := fun k9 x hx => by
      rw [← hW1] at hx
      by_cases hl : k9 < (X ++ va_pl L f).length
      · rw [List.getElem?_append_left hl] at hx
        exact Nat.le_of_lt ((hP k9 x hx).lt)
      · rw [List.getElem?_append_right (by omega)] at hx
        have h0 : k9 - (X ++ va_pl L f).length < 1 := (List.getElem?_eq_some_iff.mp hx).1
        rw [show k9 - (X ++ va_pl L f).length = 0 by omega] at hx
        cases hx
        exact Nat.le_refl _
    have hr : ∀ (k9 : Nat) (x : Nat × va_E), (((List.range n.toNatClampNeg).map (fun i => H.size + 1 + i)).map (fun a => ((a, .inl (cy, z)) : Nat × va_E)))[k9]? = some x → x.1 = H.size + 1 + k9 := fun k9 x hx => by
      rw [List.getElem?_map, List.getElem?_map] at hx
      by_cases h9 : k9 < n.toNatClampNeg
      · rw [List.getElem?_range h9] at hx
        cases hx
        rfl
      · have hn0 : (List.range n.toNatClampNeg)[k9]? = none := List.getElem?_eq_none (by rw [List.length_range]; omega)
        rw [hn0] at hx
        cases hx
    refine ⟨fun i j x y hi hj hxy => ?_, fun k9 x hx => ?_⟩
    · by_cases h1 : i < W1.length <;> by_cases h2 : j < W1.length
      · rw [List.getElem?_append_left h1] at hi
        rw [List.getElem?_append_left h2] at hj
        exact hD1.1 i j x y hi hj hxy
      · rw [List.getElem?_append_left h1] at hi
        rw [List.getElem?_append_right (by omega)] at hj
        have := hle _ _ hi
        have := hr _ _ hj
        omega
      · rw [List.getElem?_append_right (by omega)] at hi
        rw [List.getElem?_append_left h2] at hj
        have := hle _ _ hj
        have := hr _ _ hi
        omega
      · rw [List.getElem?_append_right (by omega)] at hi hj
        have := hr _ _ hi
        have := hr _ _ hj
        omega
    · by_cases h1 : k9 < W1.length
      · rw [List.getElem?_append_left h1] at hx
        exact hD1.2 k9 x hx
      · rw [List.getElem?_append_right (by omega)] at hx
        have := hr _ _ hx
        exact hA _ (by have := hS.1; omega)
  have hAr : ArrOfT s cA (.array ty) := fun N9 z9 => by
    obtain ⟨-, k9, hk9, cm9, hkk9⟩ := (hO 0 0 0).1
    exact ⟨(fun q hq => by cases hq), k9, hk9, cm9, hkk9⟩
  have hK2 : va_K D cl (tys ++ [(cA, .array ty)]) s := ⟨hK.1, fun k9 x hx => by
    by_cases hl : k9 < tys.length
    · rw [List.getElem?_append_left hl] at hx
      exact hK.2 k9 x hx
    · rw [List.getElem?_append_right (by omega)] at hx
      have h0 : k9 - tys.length < 1 := (List.getElem?_eq_some_iff.mp hx).1
      rw [show k9 - tys.length = 0 by omega] at hx
      cases hx
      exact ⟨hAr, fA⟩⟩
  obtain ⟨t, a1, b1⟩ := kk H.size (fun i => H.size + 1 + i) cA F.heap (fun i j _ _ h => by have h9 : H.size + 1 + i = H.size + 1 + j := h; omega) hnl hK2 (by rw [← vr_rows hnm]; exact vr_lay hP2) (by rw [← vr_rows hnm]; exact vr_layD hD2) ⟨by rw [f1]; have := hS.1; omega, fun x h1 h2 => (hold x (Nat.lt_of_lt_of_le h1 hS.1)).trans (hS.2.1 x h1 h2), hS.2.2⟩ F rfl X'
  refine ⟨t, step t ?_, b1⟩
  have e : T.heap.size = H.size := by rw [hT]
  rw [e]
  exact a1
end VGM
/-! ===== END ===== -/

/-! ===== BEGIN printed: names, fields, word lists, decode rows ===== -/
def RX0 : String := "ExactNumbers$Limbs"
def TX0 : u_T := fun k => match k with
  | _ => ("", "", "", false)
def tyX0 : Nat → FieldType := fun k => match k with
  | _ => .int
abbrev wsX00 : List Cond := u_ws RX0 TX0 0
theorem nmX0 : ∀ a, a < 0 → ∀ b, b < 0 → a ≠ b → (TX0 a).2.1 ≠ (TX0 b).2.1 := by decide +kernel
theorem tyX0_ok : ∀ k, k < 0 → parseFieldDescriptor (TX0 k).2.2.1 = some (tyX0 k) := by decide +kernel
abbrev cX0_limbAt : ByteArray := prog_2_method_2_code
def yX0_limbAt : MethodName := ⟨RX0, "limbAt", "([JI)J"⟩
abbrev cX0_used : ByteArray := prog_2_method_3_code
def yX0_used : MethodName := ⟨RX0, "used", "([J)I"⟩
abbrev cX0_bitLength : ByteArray := prog_2_method_4_code
def yX0_bitLength : MethodName := ⟨RX0, "bitLength", "([J)I"⟩
abbrev cX0_lowZeros : ByteArray := prog_2_method_5_code
def yX0_lowZeros : MethodName := ⟨RX0, "lowZeros", "([J)I"⟩
abbrev cX0_order : ByteArray := prog_2_method_6_code
def yX0_order : MethodName := ⟨RX0, "order", "([J[J)I"⟩
abbrev cX0_copy : ByteArray := prog_2_method_7_code
def yX0_copy : MethodName := ⟨RX0, "copy", "([J[J)V"⟩
abbrev cX0_increase : ByteArray := prog_2_method_8_code
def yX0_increase : MethodName := ⟨RX0, "increase", "([J)V"⟩
abbrev cX0_decrease : ByteArray := prog_2_method_9_code
def yX0_decrease : MethodName := ⟨RX0, "decrease", "([J)V"⟩
abbrev cX0_negate : ByteArray := prog_2_method_10_code
def yX0_negate : MethodName := ⟨RX0, "negate", "([J)V"⟩
abbrev cX0_add : ByteArray := prog_2_method_11_code
def yX0_add : MethodName := ⟨RX0, "add", "([J[J[J)V"⟩
abbrev cX0_subtract : ByteArray := prog_2_method_12_code
def yX0_subtract : MethodName := ⟨RX0, "subtract", "([J[J[J)V"⟩
abbrev cX0_multiply : ByteArray := prog_2_method_13_code
def yX0_multiply : MethodName := ⟨RX0, "multiply", "([J[J[J)V"⟩
abbrev cX0_multiplyAndAdd : ByteArray := prog_2_method_14_code
def yX0_multiplyAndAdd : MethodName := ⟨RX0, "multiplyAndAdd", "([JJJ)V"⟩
abbrev cX0_divideBySmall : ByteArray := prog_2_method_15_code
def yX0_divideBySmall : MethodName := ⟨RX0, "divideBySmall", "([JIJ)J"⟩
abbrev cX0_moveUp : ByteArray := prog_2_method_16_code
def yX0_moveUp : MethodName := ⟨RX0, "moveUp", "([JI[J)V"⟩
abbrev cX0_moveDown : ByteArray := prog_2_method_17_code
def yX0_moveDown : MethodName := ⟨RX0, "moveDown", "([JI[J)V"⟩
abbrev cX0_takeOut : ByteArray := prog_2_method_18_code
def yX0_takeOut : MethodName := ⟨RX0, "takeOut", "([J[JII)J"⟩
abbrev cX0_guess : ByteArray := prog_2_method_19_code
def yX0_guess : MethodName := ⟨RX0, "guess", "(JJJ)J"⟩
abbrev cX0_subtractProduct : ByteArray := prog_2_method_20_code
def yX0_subtractProduct : MethodName := ⟨RX0, "subtractProduct", "([J[JIIJ)Z"⟩
abbrev cX0_addBack : ByteArray := prog_2_method_21_code
def yX0_addBack : MethodName := ⟨RX0, "addBack", "([J[JII)Z"⟩
def RX1 : String := "ExactNumbers"
def TX1 : u_T := fun k => match k with
  | 0 => ("ExactNumbers", "sizes", "[[J", true)
  | 1 => ("ExactNumbers", "below", "[Z", true)
  | 2 => ("ExactNumbers", "digitValues", "[B", true)
  | 3 => ("ExactNumbers", "digitCount", "I", false)
  | 4 => ("ExactNumbers", "written", "[B", true)
  | 5 => ("ExactNumbers", "writtenFrom", "I", false)
  | 6 => ("ExactNumbers", "first", "[J", true)
  | 7 => ("ExactNumbers", "second", "[J", true)
  | _ => ("ExactNumbers", "wide", "[J", true)
def tyX1 : Nat → FieldType := fun k => match k with
  | 0 => .array (.array .long)
  | 1 => .array .boolean
  | 2 => .array .byte
  | 3 => .int
  | 4 => .array .byte
  | 5 => .int
  | 6 => .array .long
  | 7 => .array .long
  | _ => .array .long
abbrev wsX10 : List Cond := u_ws RX1 TX1 9
theorem nmX1 : ∀ a, a < 9 → ∀ b, b < 9 → a ≠ b → (TX1 a).2.1 ≠ (TX1 b).2.1 := by decide +kernel
theorem tyX1_ok : ∀ k, k < 9 → parseFieldDescriptor (TX1 k).2.2.1 = some (tyX1 k) := by decide +kernel
abbrev cX1_init : ByteArray := prog_1_method_1_code
def yX1_init : MethodName := ⟨RX1, "<init>", "()V"⟩
abbrev cX1_set : ByteArray := prog_1_method_2_code
def yX1_set : MethodName := ⟨RX1, "set", "(IJZ)I"⟩
abbrev cX1_digits : ByteArray := prog_1_method_3_code
def yX1_digits : MethodName := ⟨RX1, "digits", "(J)Z"⟩
abbrev cX1_read : ByteArray := prog_1_method_4_code
def yX1_read : MethodName := ⟨RX1, "read", "(II)I"⟩
abbrev cX1_work : ByteArray := prog_1_method_5_code
def yX1_work : MethodName := ⟨RX1, "work", "(IIII)I"⟩
abbrev cX1_shift : ByteArray := prog_1_method_6_code
def yX1_shift : MethodName := ⟨RX1, "shift", "(IIIZ)I"⟩
abbrev cX1_turn : ByteArray := prog_1_method_7_code
def yX1_turn : MethodName := ⟨RX1, "turn", "(IIZ)I"⟩
abbrev cX1_compare : ByteArray := prog_1_method_8_code
def yX1_compare : MethodName := ⟨RX1, "compare", "(II)I"⟩
abbrev cX1_bits : ByteArray := prog_1_method_9_code
def yX1_bits : MethodName := ⟨RX1, "bits", "(I)I"⟩
abbrev cX1_fits : ByteArray := prog_1_method_10_code
def yX1_fits : MethodName := ⟨RX1, "fits", "(IIZ)Z"⟩
abbrev cX1_cut : ByteArray := prog_1_method_11_code
def yX1_cut : MethodName := ⟨RX1, "cut", "(IIZ)J"⟩
abbrev cX1_write : ByteArray := prog_1_method_12_code
def yX1_write : MethodName := ⟨RX1, "write", "(II)I"⟩
abbrev cX1_byteOf : ByteArray := prog_1_method_13_code
def yX1_byteOf : MethodName := ⟨RX1, "byteOf", "(I)I"⟩
abbrev cX1_isSlot : ByteArray := prog_1_method_14_code
def yX1_isSlot : MethodName := ⟨RX1, "isSlot", "(I)Z"⟩
abbrev cX1_isBase : ByteArray := prog_1_method_15_code
def yX1_isBase : MethodName := ⟨RX1, "isBase", "(I)Z"⟩
abbrev cX1_isWordLength : ByteArray := prog_1_method_16_code
def yX1_isWordLength : MethodName := ⟨RX1, "isWordLength", "(I)Z"⟩
abbrev cX1_digitValue : ByteArray := prog_1_method_17_code
def yX1_digitValue : MethodName := ⟨RX1, "digitValue", "(I)I"⟩
abbrev cX1_areDigitsOf : ByteArray := prog_1_method_18_code
def yX1_areDigitsOf : MethodName := ⟨RX1, "areDigitsOf", "(II)Z"⟩
abbrev cX1_store : ByteArray := prog_1_method_19_code
def yX1_store : MethodName := ⟨RX1, "store", "(I[JZ)I"⟩
abbrev cX1_sum : ByteArray := prog_1_method_20_code
def yX1_sum : MethodName := ⟨RX1, "sum", "(IIIZ)I"⟩
abbrev cX1_quotientOrRest : ByteArray := prog_1_method_21_code
def yX1_quotientOrRest : MethodName := ⟨RX1, "quotientOrRest", "(IIIZ)I"⟩
abbrev cX1_bitByBit : ByteArray := prog_1_method_22_code
def yX1_bitByBit : MethodName := ⟨RX1, "bitByBit", "(IIII)I"⟩
abbrev cX1_signedCopy : ByteArray := prog_1_method_23_code
def yX1_signedCopy : MethodName := ⟨RX1, "signedCopy", "(I[J)V"⟩
abbrev cX1_joined : ByteArray := prog_1_method_24_code
def yX1_joined : MethodName := ⟨RX1, "joined", "(IJJ)J"⟩
abbrev cX1_groupLength : ByteArray := prog_1_method_25_code
def yX1_groupLength : MethodName := ⟨RX1, "groupLength", "(I)I"⟩
abbrev cX1_powerOf : ByteArray := prog_1_method_26_code
def yX1_powerOf : MethodName := ⟨RX1, "powerOf", "(II)J"⟩
abbrev cX1_putGroup : ByteArray := prog_1_method_27_code
def yX1_putGroup : MethodName := ⟨RX1, "putGroup", "(JII)V"⟩
abbrev cX1_put : ByteArray := prog_1_method_28_code
def yX1_put : MethodName := ⟨RX1, "put", "(I)V"⟩
def RJ6 : String := "java/lang/Integer"
def TJ6 : u_T := fun k => match k with
  | _ => ("", "", "", false)
def tyJ6 : Nat → FieldType := fun k => match k with
  | _ => .int
abbrev wsJ60 : List Cond := u_ws RJ6 TJ6 0
theorem nmJ6 : ∀ a, a < 0 → ∀ b, b < 0 → a ≠ b → (TJ6 a).2.1 ≠ (TJ6 b).2.1 := by decide +kernel
theorem tyJ6_ok : ∀ k, k < 0 → parseFieldDescriptor (TJ6 k).2.2.1 = some (tyJ6 k) := by decide +kernel
abbrev cJ6_numberOfLeadingZeros_0f7a4 : ByteArray := prog_5_method_47_code
def yJ6_numberOfLeadingZeros_0f7a4 : MethodName := ⟨RJ6, "numberOfLeadingZeros", "(I)I"⟩
abbrev cJ6_numberOfTrailingZeros_0f7a4 : ByteArray := prog_5_method_48_code
def yJ6_numberOfTrailingZeros_0f7a4 : MethodName := ⟨RJ6, "numberOfTrailingZeros", "(I)I"⟩
def RJ13 : String := "java/lang/Long"
def TJ13 : u_T := fun k => match k with
  | _ => ("", "", "", false)
def tyJ13 : Nat → FieldType := fun k => match k with
  | _ => .int
abbrev wsJ130 : List Cond := u_ws RJ13 TJ13 0
theorem nmJ13 : ∀ a, a < 0 → ∀ b, b < 0 → a ≠ b → (TJ13 a).2.1 ≠ (TJ13 b).2.1 := by decide +kernel
theorem tyJ13_ok : ∀ k, k < 0 → parseFieldDescriptor (TJ13 k).2.2.1 = some (tyJ13 k) := by decide +kernel
abbrev cJ13_numberOfLeadingZeros_95d88 : ByteArray := prog_6_method_48_code
def yJ13_numberOfLeadingZeros_95d88 : MethodName := ⟨RJ13, "numberOfLeadingZeros", "(J)I"⟩
abbrev cJ13_numberOfTrailingZeros_95d88 : ByteArray := prog_6_method_49_code
def yJ13_numberOfTrailingZeros_95d88 : MethodName := ⟨RJ13, "numberOfTrailingZeros", "(J)I"⟩
def RJ10 : String := "java/lang/System"
def TJ10 : u_T := fun k => match k with
  | _ => ("", "", "", false)
def tyJ10 : Nat → FieldType := fun k => match k with
  | _ => .int
abbrev wsJ100 : List Cond := u_ws RJ10 TJ10 0
theorem nmJ10 : ∀ a, a < 0 → ∀ b, b < 0 → a ≠ b → (TJ10 a).2.1 ≠ (TJ10 b).2.1 := by decide +kernel
theorem tyJ10_ok : ∀ k, k < 0 → parseFieldDescriptor (TJ10 k).2.2.1 = some (tyJ10 k) := by decide +kernel
def RJ7 : String := "java/util/Arrays"
def TJ7 : u_T := fun k => match k with
  | _ => ("", "", "", false)
def tyJ7 : Nat → FieldType := fun k => match k with
  | _ => .int
abbrev wsJ70 : List Cond := u_ws RJ7 TJ7 0
theorem nmJ7 : ∀ a, a < 0 → ∀ b, b < 0 → a ≠ b → (TJ7 a).2.1 ≠ (TJ7 b).2.1 := by decide +kernel
theorem tyJ7_ok : ∀ k, k < 0 → parseFieldDescriptor (TJ7 k).2.2.1 = some (tyJ7 k) := by decide +kernel
abbrev cJ7_fill_d0a16 : ByteArray := prog_8_method_101_code
def yJ7_fill_d0a16 : MethodName := ⟨RJ7, "fill", "([JJ)V"⟩
def RL : String := "ExactNumbersLaw"
abbrev cL_law : ByteArray := code
def yL_law : MethodName := ⟨RL, "law", "([I)Z"⟩
def wsX0_limbAt : List Cond := .code yX0_limbAt cX0_limbAt 2 (some .long) :: ([])
def wsX0_used : List Cond := .code yX0_used cX0_used 2 (some .int) :: ([])
def wsJ6_numberOfLeadingZeros_0f7a4 : List Cond := .code yJ6_numberOfLeadingZeros_0f7a4 cJ6_numberOfLeadingZeros_0f7a4 2 (some .int) :: ([.constant RJ6 264 (65536)])
def wsJ13_numberOfLeadingZeros_95d88 : List Cond := .code yJ13_numberOfLeadingZeros_95d88 cJ13_numberOfLeadingZeros_95d88 3 (some .int) :: ([.methodLink RJ13 308 yJ6_numberOfLeadingZeros_0f7a4, .static yJ6_numberOfLeadingZeros_0f7a4, .initialized RJ6, .code yJ6_numberOfLeadingZeros_0f7a4 cJ6_numberOfLeadingZeros_0f7a4 2 (some .int), .constant RJ6 264 (65536)])
def wsX0_bitLength : List Cond := .code yX0_bitLength cX0_bitLength 2 (some .int) :: ([.methodLink RX0 9 yX0_used, .static yX0_used, .initialized RX0, .code yX0_used cX0_used 2 (some .int), .methodLink RX0 15 yJ13_numberOfLeadingZeros_95d88, .static yJ13_numberOfLeadingZeros_95d88, .initialized RJ13, .code yJ13_numberOfLeadingZeros_95d88 cJ13_numberOfLeadingZeros_95d88 3 (some .int), .methodLink RJ13 308 yJ6_numberOfLeadingZeros_0f7a4, .static yJ6_numberOfLeadingZeros_0f7a4, .initialized RJ6, .code yJ6_numberOfLeadingZeros_0f7a4 cJ6_numberOfLeadingZeros_0f7a4 2 (some .int), .constant RJ6 264 (65536)])
def wsJ6_numberOfTrailingZeros_0f7a4 : List Cond := .code yJ6_numberOfTrailingZeros_0f7a4 cJ6_numberOfTrailingZeros_0f7a4 2 (some .int) :: ([.constant RJ6 264 (65536)])
def wsJ13_numberOfTrailingZeros_95d88 : List Cond := .code yJ13_numberOfTrailingZeros_95d88 cJ13_numberOfTrailingZeros_95d88 3 (some .int) :: ([.methodLink RJ13 311 yJ6_numberOfTrailingZeros_0f7a4, .static yJ6_numberOfTrailingZeros_0f7a4, .initialized RJ6, .code yJ6_numberOfTrailingZeros_0f7a4 cJ6_numberOfTrailingZeros_0f7a4 2 (some .int), .constant RJ6 264 (65536)])
def wsX0_lowZeros : List Cond := .code yX0_lowZeros cX0_lowZeros 2 (some .int) :: ([.methodLink RX0 21 yJ13_numberOfTrailingZeros_95d88, .static yJ13_numberOfTrailingZeros_95d88, .initialized RJ13, .code yJ13_numberOfTrailingZeros_95d88 cJ13_numberOfTrailingZeros_95d88 3 (some .int), .methodLink RJ13 311 yJ6_numberOfTrailingZeros_0f7a4, .static yJ6_numberOfTrailingZeros_0f7a4, .initialized RJ6, .code yJ6_numberOfTrailingZeros_0f7a4 cJ6_numberOfTrailingZeros_0f7a4 2 (some .int), .constant RJ6 264 (65536)])
def wsX0_order : List Cond := .code yX0_order cX0_order 3 (some .int) :: ([.methodLink RX0 24 yX0_limbAt, .static yX0_limbAt, .initialized RX0, .code yX0_limbAt cX0_limbAt 2 (some .long)])
def wsX0_copy : List Cond := .code yX0_copy cX0_copy 3 none :: ([.methodLink RX0 24 yX0_limbAt, .static yX0_limbAt, .initialized RX0, .code yX0_limbAt cX0_limbAt 2 (some .long)])
def wsX0_increase : List Cond := .code yX0_increase cX0_increase 2 none :: ([.constantLong RX0 28 (4294967295)])
def wsX0_decrease : List Cond := .code yX0_decrease cX0_decrease 2 none :: ([.constantLong RX0 28 (4294967295)])
def wsX0_negate : List Cond := .code yX0_negate cX0_negate 2 none :: ([.constantLong RX0 30 (-1), .constantLong RX0 28 (4294967295), .methodLink RX0 32 yX0_increase, .static yX0_increase, .initialized RX0, .code yX0_increase cX0_increase 2 none])
def wsX0_add : List Cond := .code yX0_add cX0_add 8 none :: ([.constantLong RX0 28 (4294967295), .methodLink RX0 24 yX0_limbAt, .static yX0_limbAt, .initialized RX0, .code yX0_limbAt cX0_limbAt 2 (some .long)])
def wsX0_subtract : List Cond := .code yX0_subtract cX0_subtract 8 none :: ([.constantLong RX0 28 (4294967295), .methodLink RX0 24 yX0_limbAt, .static yX0_limbAt, .initialized RX0, .code yX0_limbAt cX0_limbAt 2 (some .long)])
def wsJ7_fill_d0a16 : List Cond := .code yJ7_fill_d0a16 cJ7_fill_d0a16 5 none :: ([])
def wsX0_multiply : List Cond := .code yX0_multiply cX0_multiply 11 none :: ([.constantLong RX0 28 (4294967295), .methodLink RX0 36 yJ7_fill_d0a16, .static yJ7_fill_d0a16, .initialized RJ7, .code yJ7_fill_d0a16 cJ7_fill_d0a16 5 none, .methodLink RX0 9 yX0_used, .static yX0_used, .initialized RX0, .code yX0_used cX0_used 2 (some .int)])
def wsX0_multiplyAndAdd : List Cond := .code yX0_multiplyAndAdd cX0_multiplyAndAdd 10 none :: ([.constantLong RX0 28 (4294967295)])
def wsX0_divideBySmall : List Cond := .code yX0_divideBySmall cX0_divideBySmall 9 (some .long) :: ([.constantLong RX0 42 (2147483648)])
def wsX0_moveUp : List Cond := .code yX0_moveUp cX0_moveUp 10 none :: ([.constantLong RX0 28 (4294967295), .methodLink RX0 24 yX0_limbAt, .static yX0_limbAt, .initialized RX0, .code yX0_limbAt cX0_limbAt 2 (some .long)])
def wsX0_moveDown : List Cond := .code yX0_moveDown cX0_moveDown 10 none :: ([.constantLong RX0 28 (4294967295), .methodLink RX0 24 yX0_limbAt, .static yX0_limbAt, .initialized RX0, .code yX0_limbAt cX0_limbAt 2 (some .long)])
def wsX0_guess : List Cond := .code yX0_guess cX0_guess 10 (some .long) :: ([.constantLong RX0 28 (4294967295)])
def wsX0_subtractProduct : List Cond := .code yX0_subtractProduct cX0_subtractProduct 13 (some .boolean) :: ([.constantLong RX0 28 (4294967295)])
def wsX0_addBack : List Cond := .code yX0_addBack cX0_addBack 9 (some .boolean) :: ([.constantLong RX0 28 (4294967295)])
def wsX0_takeOut : List Cond := .code yX0_takeOut cX0_takeOut 9 (some .long) :: ([.methodLink RX0 44 yX0_guess, .static yX0_guess, .initialized RX0, .code yX0_guess cX0_guess 10 (some .long), .constantLong RX0 28 (4294967295), .methodLink RX0 48 yX0_subtractProduct, .static yX0_subtractProduct, .code yX0_subtractProduct cX0_subtractProduct 13 (some .boolean), .methodLink RX0 52 yX0_addBack, .static yX0_addBack, .code yX0_addBack cX0_addBack 9 (some .boolean)])
def wsX1_init : List Cond := .code yX1_init cX1_init 1 none :: ([.methodLink RX1 3 objectInit, .instanceMethod objectInit, .code objectInit ⟨#[0xb1]⟩ 1 none, .classLink RX1 9 "[[J", .arrayClass .long, .fieldLink RX1 11 "ExactNumbers" "sizes" "[[J", .arrayClass .boolean, .fieldLink RX1 14 "ExactNumbers" "below" "[Z", .arrayClass .byte, .fieldLink RX1 18 "ExactNumbers" "digitValues" "[B", .fieldLink RX1 22 "ExactNumbers" "digitCount" "I", .fieldLink RX1 26 "ExactNumbers" "written" "[B", .fieldLink RX1 29 "ExactNumbers" "writtenFrom" "I", .fieldLink RX1 32 "ExactNumbers" "first" "[J", .fieldLink RX1 36 "ExactNumbers" "second" "[J", .fieldLink RX1 39 "ExactNumbers" "wide" "[J"] ++ wsX10)
def wsX1_isSlot : List Cond := .code yX1_isSlot cX1_isSlot 1 (some .boolean) :: ([])
def wsX1_store : List Cond := .code yX1_store cX1_store 5 (some .int) :: ([.fieldLink RX1 11 "ExactNumbers" "sizes" "[[J", .methodLink RX1 146 arraycopyName, .native arraycopyName, .static arraycopyName, .initialized "java/lang/System", .fieldLink RX1 14 "ExactNumbers" "below" "[Z", .methodLink RX1 131 yX0_used, .static yX0_used, .initialized RX0, .code yX0_used cX0_used 2 (some .int)] ++ wsX10)
def wsX1_set : List Cond := .code yX1_set cX1_set 8 (some .int) :: ([.fieldLink RX1 32 "ExactNumbers" "first" "[J", .constantLong RX1 52 (4294967295), .methodLink RX1 42 yX1_isSlot, .static yX1_isSlot, .initialized RX1, .code yX1_isSlot cX1_isSlot 1 (some .boolean), .methodLink RX1 46 yJ7_fill_d0a16, .static yJ7_fill_d0a16, .initialized RJ7, .code yJ7_fill_d0a16 cJ7_fill_d0a16 5 none, .methodLink RX1 54 yX1_store, .instanceMethod yX1_store, .selects RX1 yX1_store yX1_store, .code yX1_store cX1_store 5 (some .int), .fieldLink RX1 11 "ExactNumbers" "sizes" "[[J", .methodLink RX1 146 arraycopyName, .native arraycopyName, .static arraycopyName, .initialized "java/lang/System", .fieldLink RX1 14 "ExactNumbers" "below" "[Z", .methodLink RX1 131 yX0_used, .static yX0_used, .initialized RX0, .code yX0_used cX0_used 2 (some .int)] ++ wsX10)
def wsX1_digitValue : List Cond := .code yX1_digitValue cX1_digitValue 1 (some .int) :: ([])
def wsX1_digits : List Cond := .code yX1_digits cX1_digits 7 (some .boolean) :: ([.fieldLink RX1 22 "ExactNumbers" "digitCount" "I", .fieldLink RX1 18 "ExactNumbers" "digitValues" "[B", .methodLink RX1 58 yX1_digitValue, .static yX1_digitValue, .initialized RX1, .code yX1_digitValue cX1_digitValue 1 (some .int)] ++ wsX10)
def wsX1_isBase : List Cond := .code yX1_isBase cX1_isBase 1 (some .boolean) :: ([])
def wsX1_areDigitsOf : List Cond := .code yX1_areDigitsOf cX1_areDigitsOf 4 (some .boolean) :: ([.fieldLink RX1 18 "ExactNumbers" "digitValues" "[B"] ++ wsX10)
def wsX1_read_r1 : List Cond := [Cond.fieldLink RX1 22 "ExactNumbers" "digitCount" "I", Cond.fieldLink RX1 32 "ExactNumbers" "first" "[J", Cond.fieldLink RX1 18 "ExactNumbers" "digitValues" "[B", Cond.constantLong RX1 69 (2147483648), Cond.methodLink RX1 42 yX1_isSlot, Cond.static yX1_isSlot, Cond.initialized RX1, Cond.code yX1_isSlot cX1_isSlot 1 (some .boolean), Cond.methodLink RX1 62 yX1_isBase, Cond.static yX1_isBase, Cond.code yX1_isBase cX1_isBase 1 (some .boolean), Cond.methodLink RX1 65 yX1_areDigitsOf, Cond.instanceMethod yX1_areDigitsOf, Cond.selects RX1 yX1_areDigitsOf yX1_areDigitsOf, Cond.code yX1_areDigitsOf cX1_areDigitsOf 4 (some .boolean), Cond.methodLink RX1 46 yJ7_fill_d0a16, Cond.static yJ7_fill_d0a16, Cond.initialized RJ7, Cond.code yJ7_fill_d0a16 cJ7_fill_d0a16 5 none, Cond.methodLink RX1 71 yX0_multiplyAndAdd, Cond.static yX0_multiplyAndAdd, Cond.initialized RX0, Cond.code yX0_multiplyAndAdd cX0_multiplyAndAdd 10 none, Cond.constantLong RX0 28 (4294967295)]
def wsX1_read_r2 : List Cond := [Cond.methodLink RX1 54 yX1_store, Cond.instanceMethod yX1_store, Cond.selects RX1 yX1_store yX1_store, Cond.code yX1_store cX1_store 5 (some .int), Cond.fieldLink RX1 11 "ExactNumbers" "sizes" "[[J", Cond.methodLink RX1 146 arraycopyName, Cond.native arraycopyName, Cond.static arraycopyName, Cond.initialized "java/lang/System", Cond.fieldLink RX1 14 "ExactNumbers" "below" "[Z", Cond.methodLink RX1 131 yX0_used, Cond.static yX0_used, Cond.code yX0_used cX0_used 2 (some .int)]
def wsX1_read : List Cond := .code yX1_read cX1_read 9 (some .int) :: ((wsX1_read_r1 ++ wsX1_read_r2) ++ wsX10)
def wsX1_sum_r1 : List Cond := [Cond.fieldLink RX1 14 "ExactNumbers" "below" "[Z", Cond.fieldLink RX1 11 "ExactNumbers" "sizes" "[[J", Cond.fieldLink RX1 32 "ExactNumbers" "first" "[J", Cond.methodLink RX1 152 yX0_add, Cond.static yX0_add, Cond.initialized RX0, Cond.code yX0_add cX0_add 8 none, Cond.constantLong RX0 28 (4294967295), Cond.methodLink RX0 24 yX0_limbAt, Cond.static yX0_limbAt, Cond.code yX0_limbAt cX0_limbAt 2 (some .long), Cond.methodLink RX1 54 yX1_store, Cond.instanceMethod yX1_store, Cond.selects RX1 yX1_store yX1_store, Cond.initialized RX1, Cond.code yX1_store cX1_store 5 (some .int), Cond.methodLink RX1 146 arraycopyName, Cond.native arraycopyName, Cond.static arraycopyName, Cond.initialized "java/lang/System", Cond.methodLink RX1 131 yX0_used, Cond.static yX0_used, Cond.code yX0_used cX0_used 2 (some .int), Cond.methodLink RX1 117 yX0_order]
def wsX1_sum_r2 : List Cond := [Cond.static yX0_order, Cond.code yX0_order cX0_order 3 (some .int), Cond.methodLink RX1 155 yX0_subtract, Cond.static yX0_subtract, Cond.code yX0_subtract cX0_subtract 8 none]
def wsX1_sum : List Cond := .code yX1_sum cX1_sum 5 (some .int) :: ((wsX1_sum_r1 ++ wsX1_sum_r2) ++ wsX10)
def wsX1_quotientOrRest_r1 : List Cond := [Cond.fieldLink RX1 11 "ExactNumbers" "sizes" "[[J", Cond.fieldLink RX1 32 "ExactNumbers" "first" "[J", Cond.fieldLink RX1 36 "ExactNumbers" "second" "[J", Cond.fieldLink RX1 39 "ExactNumbers" "wide" "[J", Cond.fieldLink RX1 14 "ExactNumbers" "below" "[Z", Cond.methodLink RX1 131 yX0_used, Cond.static yX0_used, Cond.initialized RX0, Cond.code yX0_used cX0_used 2 (some .int), Cond.methodLink RX1 92 yX0_bitLength, Cond.static yX0_bitLength, Cond.code yX0_bitLength cX0_bitLength 2 (some .int), Cond.methodLink RX0 9 yX0_used, Cond.methodLink RX0 15 yJ13_numberOfLeadingZeros_95d88, Cond.static yJ13_numberOfLeadingZeros_95d88, Cond.initialized RJ13, Cond.code yJ13_numberOfLeadingZeros_95d88 cJ13_numberOfLeadingZeros_95d88 3 (some .int), Cond.methodLink RJ13 308 yJ6_numberOfLeadingZeros_0f7a4, Cond.static yJ6_numberOfLeadingZeros_0f7a4, Cond.initialized RJ6, Cond.code yJ6_numberOfLeadingZeros_0f7a4 cJ6_numberOfLeadingZeros_0f7a4 2 (some .int), Cond.constant RJ6 264 (65536), Cond.methodLink RX1 96 yX0_moveUp, Cond.static yX0_moveUp]
def wsX1_quotientOrRest_r2 : List Cond := [Cond.code yX0_moveUp cX0_moveUp 10 none, Cond.constantLong RX0 28 (4294967295), Cond.methodLink RX0 24 yX0_limbAt, Cond.static yX0_limbAt, Cond.code yX0_limbAt cX0_limbAt 2 (some .long), Cond.methodLink RX1 46 yJ7_fill_d0a16, Cond.static yJ7_fill_d0a16, Cond.initialized RJ7, Cond.code yJ7_fill_d0a16 cJ7_fill_d0a16 5 none, Cond.methodLink RX1 158 yX0_takeOut, Cond.static yX0_takeOut, Cond.code yX0_takeOut cX0_takeOut 9 (some .long), Cond.methodLink RX0 44 yX0_guess, Cond.static yX0_guess, Cond.code yX0_guess cX0_guess 10 (some .long), Cond.methodLink RX0 48 yX0_subtractProduct, Cond.static yX0_subtractProduct, Cond.code yX0_subtractProduct cX0_subtractProduct 13 (some .boolean), Cond.methodLink RX0 52 yX0_addBack, Cond.static yX0_addBack, Cond.code yX0_addBack cX0_addBack 9 (some .boolean), Cond.methodLink RX1 100 yX0_moveDown, Cond.static yX0_moveDown, Cond.code yX0_moveDown cX0_moveDown 10 none]
def wsX1_quotientOrRest_r3 : List Cond := [Cond.methodLink RX1 54 yX1_store, Cond.instanceMethod yX1_store, Cond.selects RX1 yX1_store yX1_store, Cond.initialized RX1, Cond.code yX1_store cX1_store 5 (some .int), Cond.methodLink RX1 146 arraycopyName, Cond.native arraycopyName, Cond.static arraycopyName, Cond.initialized "java/lang/System"]
def wsX1_quotientOrRest : List Cond := .code yX1_quotientOrRest cX1_quotientOrRest 8 (some .int) :: ((wsX1_quotientOrRest_r1 ++ (wsX1_quotientOrRest_r2 ++ wsX1_quotientOrRest_r3)) ++ wsX10)
def wsX1_signedCopy : List Cond := .code yX1_signedCopy cX1_signedCopy 3 none :: ([.fieldLink RX1 11 "ExactNumbers" "sizes" "[[J", .fieldLink RX1 14 "ExactNumbers" "below" "[Z", .methodLink RX1 110 yX0_copy, .static yX0_copy, .initialized RX0, .code yX0_copy cX0_copy 3 none, .methodLink RX0 24 yX0_limbAt, .static yX0_limbAt, .code yX0_limbAt cX0_limbAt 2 (some .long), .methodLink RX1 170 yX0_negate, .static yX0_negate, .code yX0_negate cX0_negate 2 none, .constantLong RX0 30 (-1), .constantLong RX0 28 (4294967295), .methodLink RX0 32 yX0_increase, .static yX0_increase, .code yX0_increase cX0_increase 2 none] ++ wsX10)
def wsX1_joined : List Cond := .code yX1_joined cX1_joined 5 (some .long) :: ([.constantLong RX1 173 (-1)])
def wsX1_bitByBit_r1 : List Cond := [Cond.fieldLink RX1 32 "ExactNumbers" "first" "[J", Cond.fieldLink RX1 36 "ExactNumbers" "second" "[J", Cond.methodLink RX1 162 yX1_signedCopy, Cond.instanceMethod yX1_signedCopy, Cond.selects RX1 yX1_signedCopy yX1_signedCopy, Cond.initialized RX1, Cond.code yX1_signedCopy cX1_signedCopy 3 none, Cond.fieldLink RX1 11 "ExactNumbers" "sizes" "[[J", Cond.fieldLink RX1 14 "ExactNumbers" "below" "[Z", Cond.methodLink RX1 110 yX0_copy, Cond.static yX0_copy, Cond.initialized RX0, Cond.code yX0_copy cX0_copy 3 none, Cond.methodLink RX0 24 yX0_limbAt, Cond.static yX0_limbAt, Cond.code yX0_limbAt cX0_limbAt 2 (some .long), Cond.methodLink RX1 170 yX0_negate, Cond.static yX0_negate, Cond.code yX0_negate cX0_negate 2 none, Cond.constantLong RX0 30 (-1), Cond.constantLong RX0 28 (4294967295), Cond.methodLink RX0 32 yX0_increase, Cond.static yX0_increase, Cond.code yX0_increase cX0_increase 2 none]
def wsX1_bitByBit_r2 : List Cond := [Cond.methodLink RX1 166 yX1_joined, Cond.static yX1_joined, Cond.code yX1_joined cX1_joined 5 (some .long), Cond.constantLong RX1 173 (-1), Cond.methodLink RX1 54 yX1_store, Cond.instanceMethod yX1_store, Cond.selects RX1 yX1_store yX1_store, Cond.code yX1_store cX1_store 5 (some .int), Cond.methodLink RX1 146 arraycopyName, Cond.native arraycopyName, Cond.static arraycopyName, Cond.initialized "java/lang/System", Cond.methodLink RX1 131 yX0_used, Cond.static yX0_used, Cond.code yX0_used cX0_used 2 (some .int)]
def wsX1_bitByBit : List Cond := .code yX1_bitByBit cX1_bitByBit 6 (some .int) :: ((wsX1_bitByBit_r1 ++ wsX1_bitByBit_r2) ++ wsX10)
def wsX1_work_r1 : List Cond := [Cond.fieldLink RX1 14 "ExactNumbers" "below" "[Z", Cond.fieldLink RX1 11 "ExactNumbers" "sizes" "[[J", Cond.fieldLink RX1 39 "ExactNumbers" "wide" "[J", Cond.methodLink RX1 42 yX1_isSlot, Cond.static yX1_isSlot, Cond.initialized RX1, Cond.code yX1_isSlot cX1_isSlot 1 (some .boolean), Cond.methodLink RX1 77 yX1_sum, Cond.instanceMethod yX1_sum, Cond.selects RX1 yX1_sum yX1_sum, Cond.code yX1_sum cX1_sum 5 (some .int), Cond.fieldLink RX1 32 "ExactNumbers" "first" "[J", Cond.methodLink RX1 152 yX0_add, Cond.static yX0_add, Cond.initialized RX0, Cond.code yX0_add cX0_add 8 none, Cond.constantLong RX0 28 (4294967295), Cond.methodLink RX0 24 yX0_limbAt, Cond.static yX0_limbAt, Cond.code yX0_limbAt cX0_limbAt 2 (some .long), Cond.methodLink RX1 54 yX1_store, Cond.instanceMethod yX1_store, Cond.selects RX1 yX1_store yX1_store, Cond.code yX1_store cX1_store 5 (some .int)]
def wsX1_work_r2 : List Cond := [Cond.methodLink RX1 146 arraycopyName, Cond.native arraycopyName, Cond.static arraycopyName, Cond.initialized "java/lang/System", Cond.methodLink RX1 131 yX0_used, Cond.static yX0_used, Cond.code yX0_used cX0_used 2 (some .int), Cond.methodLink RX1 117 yX0_order, Cond.static yX0_order, Cond.code yX0_order cX0_order 3 (some .int), Cond.methodLink RX1 155 yX0_subtract, Cond.static yX0_subtract, Cond.code yX0_subtract cX0_subtract 8 none, Cond.methodLink RX1 81 yX0_multiply, Cond.static yX0_multiply, Cond.code yX0_multiply cX0_multiply 11 none, Cond.methodLink RX0 36 yJ7_fill_d0a16, Cond.static yJ7_fill_d0a16, Cond.initialized RJ7, Cond.code yJ7_fill_d0a16 cJ7_fill_d0a16 5 none, Cond.methodLink RX0 9 yX0_used, Cond.methodLink RX1 85 yX1_quotientOrRest, Cond.instanceMethod yX1_quotientOrRest, Cond.selects RX1 yX1_quotientOrRest yX1_quotientOrRest]
def wsX1_work_r3 : List Cond := [Cond.code yX1_quotientOrRest cX1_quotientOrRest 8 (some .int), Cond.fieldLink RX1 36 "ExactNumbers" "second" "[J", Cond.methodLink RX1 92 yX0_bitLength, Cond.static yX0_bitLength, Cond.code yX0_bitLength cX0_bitLength 2 (some .int), Cond.methodLink RX0 15 yJ13_numberOfLeadingZeros_95d88, Cond.static yJ13_numberOfLeadingZeros_95d88, Cond.initialized RJ13, Cond.code yJ13_numberOfLeadingZeros_95d88 cJ13_numberOfLeadingZeros_95d88 3 (some .int), Cond.methodLink RJ13 308 yJ6_numberOfLeadingZeros_0f7a4, Cond.static yJ6_numberOfLeadingZeros_0f7a4, Cond.initialized RJ6, Cond.code yJ6_numberOfLeadingZeros_0f7a4 cJ6_numberOfLeadingZeros_0f7a4 2 (some .int), Cond.constant RJ6 264 (65536), Cond.methodLink RX1 96 yX0_moveUp, Cond.static yX0_moveUp, Cond.code yX0_moveUp cX0_moveUp 10 none, Cond.methodLink RX1 46 yJ7_fill_d0a16, Cond.methodLink RX1 158 yX0_takeOut, Cond.static yX0_takeOut, Cond.code yX0_takeOut cX0_takeOut 9 (some .long), Cond.methodLink RX0 44 yX0_guess, Cond.static yX0_guess, Cond.code yX0_guess cX0_guess 10 (some .long)]
def wsX1_work_r4 : List Cond := [Cond.methodLink RX0 48 yX0_subtractProduct, Cond.static yX0_subtractProduct, Cond.code yX0_subtractProduct cX0_subtractProduct 13 (some .boolean), Cond.methodLink RX0 52 yX0_addBack, Cond.static yX0_addBack, Cond.code yX0_addBack cX0_addBack 9 (some .boolean), Cond.methodLink RX1 100 yX0_moveDown, Cond.static yX0_moveDown, Cond.code yX0_moveDown cX0_moveDown 10 none, Cond.methodLink RX1 88 yX1_bitByBit, Cond.instanceMethod yX1_bitByBit, Cond.selects RX1 yX1_bitByBit yX1_bitByBit, Cond.code yX1_bitByBit cX1_bitByBit 6 (some .int), Cond.methodLink RX1 162 yX1_signedCopy, Cond.instanceMethod yX1_signedCopy, Cond.selects RX1 yX1_signedCopy yX1_signedCopy, Cond.code yX1_signedCopy cX1_signedCopy 3 none, Cond.methodLink RX1 110 yX0_copy, Cond.static yX0_copy, Cond.code yX0_copy cX0_copy 3 none, Cond.methodLink RX1 170 yX0_negate, Cond.static yX0_negate, Cond.code yX0_negate cX0_negate 2 none, Cond.constantLong RX0 30 (-1)]
def wsX1_work_r5 : List Cond := [Cond.methodLink RX0 32 yX0_increase, Cond.static yX0_increase, Cond.code yX0_increase cX0_increase 2 none, Cond.methodLink RX1 166 yX1_joined, Cond.static yX1_joined, Cond.code yX1_joined cX1_joined 5 (some .long), Cond.constantLong RX1 173 (-1)]
def wsX1_work : List Cond := .code yX1_work cX1_work 5 (some .int) :: ((wsX1_work_r1 ++ (wsX1_work_r2 ++ (wsX1_work_r3 ++ (wsX1_work_r4 ++ wsX1_work_r5)))) ++ wsX10)
def wsX1_shift_r1 : List Cond := [Cond.fieldLink RX1 11 "ExactNumbers" "sizes" "[[J", Cond.fieldLink RX1 32 "ExactNumbers" "first" "[J", Cond.fieldLink RX1 14 "ExactNumbers" "below" "[Z", Cond.methodLink RX1 42 yX1_isSlot, Cond.static yX1_isSlot, Cond.initialized RX1, Cond.code yX1_isSlot cX1_isSlot 1 (some .boolean), Cond.methodLink RX1 92 yX0_bitLength, Cond.static yX0_bitLength, Cond.initialized RX0, Cond.code yX0_bitLength cX0_bitLength 2 (some .int), Cond.methodLink RX0 9 yX0_used, Cond.static yX0_used, Cond.code yX0_used cX0_used 2 (some .int), Cond.methodLink RX0 15 yJ13_numberOfLeadingZeros_95d88, Cond.static yJ13_numberOfLeadingZeros_95d88, Cond.initialized RJ13, Cond.code yJ13_numberOfLeadingZeros_95d88 cJ13_numberOfLeadingZeros_95d88 3 (some .int), Cond.methodLink RJ13 308 yJ6_numberOfLeadingZeros_0f7a4, Cond.static yJ6_numberOfLeadingZeros_0f7a4, Cond.initialized RJ6, Cond.code yJ6_numberOfLeadingZeros_0f7a4 cJ6_numberOfLeadingZeros_0f7a4 2 (some .int), Cond.constant RJ6 264 (65536), Cond.methodLink RX1 96 yX0_moveUp]
def wsX1_shift_r2 : List Cond := [Cond.static yX0_moveUp, Cond.code yX0_moveUp cX0_moveUp 10 none, Cond.constantLong RX0 28 (4294967295), Cond.methodLink RX0 24 yX0_limbAt, Cond.static yX0_limbAt, Cond.code yX0_limbAt cX0_limbAt 2 (some .long), Cond.methodLink RX1 100 yX0_moveDown, Cond.static yX0_moveDown, Cond.code yX0_moveDown cX0_moveDown 10 none, Cond.methodLink RX1 103 yX0_lowZeros, Cond.static yX0_lowZeros, Cond.code yX0_lowZeros cX0_lowZeros 2 (some .int), Cond.methodLink RX0 21 yJ13_numberOfTrailingZeros_95d88, Cond.static yJ13_numberOfTrailingZeros_95d88, Cond.code yJ13_numberOfTrailingZeros_95d88 cJ13_numberOfTrailingZeros_95d88 3 (some .int), Cond.methodLink RJ13 311 yJ6_numberOfTrailingZeros_0f7a4, Cond.static yJ6_numberOfTrailingZeros_0f7a4, Cond.code yJ6_numberOfTrailingZeros_0f7a4 cJ6_numberOfTrailingZeros_0f7a4 2 (some .int), Cond.methodLink RX1 106 yX0_increase, Cond.static yX0_increase, Cond.code yX0_increase cX0_increase 2 none, Cond.methodLink RX1 54 yX1_store, Cond.instanceMethod yX1_store, Cond.selects RX1 yX1_store yX1_store]
def wsX1_shift_r3 : List Cond := [Cond.code yX1_store cX1_store 5 (some .int), Cond.methodLink RX1 146 arraycopyName, Cond.native arraycopyName, Cond.static arraycopyName, Cond.initialized "java/lang/System", Cond.methodLink RX1 131 yX0_used]
def wsX1_shift : List Cond := .code yX1_shift cX1_shift 7 (some .int) :: ((wsX1_shift_r1 ++ (wsX1_shift_r2 ++ wsX1_shift_r3)) ++ wsX10)
def wsX1_turn_r1 : List Cond := [Cond.fieldLink RX1 11 "ExactNumbers" "sizes" "[[J", Cond.fieldLink RX1 32 "ExactNumbers" "first" "[J", Cond.fieldLink RX1 14 "ExactNumbers" "below" "[Z", Cond.methodLink RX1 42 yX1_isSlot, Cond.static yX1_isSlot, Cond.initialized RX1, Cond.code yX1_isSlot cX1_isSlot 1 (some .boolean), Cond.methodLink RX1 110 yX0_copy, Cond.static yX0_copy, Cond.initialized RX0, Cond.code yX0_copy cX0_copy 3 none, Cond.methodLink RX0 24 yX0_limbAt, Cond.static yX0_limbAt, Cond.code yX0_limbAt cX0_limbAt 2 (some .long), Cond.methodLink RX1 114 yX0_decrease, Cond.static yX0_decrease, Cond.code yX0_decrease cX0_decrease 2 none, Cond.constantLong RX0 28 (4294967295), Cond.methodLink RX1 106 yX0_increase, Cond.static yX0_increase, Cond.code yX0_increase cX0_increase 2 none, Cond.methodLink RX1 54 yX1_store, Cond.instanceMethod yX1_store, Cond.selects RX1 yX1_store yX1_store]
def wsX1_turn_r2 : List Cond := [Cond.code yX1_store cX1_store 5 (some .int), Cond.methodLink RX1 146 arraycopyName, Cond.native arraycopyName, Cond.static arraycopyName, Cond.initialized "java/lang/System", Cond.methodLink RX1 131 yX0_used, Cond.static yX0_used, Cond.code yX0_used cX0_used 2 (some .int)]
def wsX1_turn : List Cond := .code yX1_turn cX1_turn 4 (some .int) :: ((wsX1_turn_r1 ++ wsX1_turn_r2) ++ wsX10)
def wsX1_compare : List Cond := .code yX1_compare cX1_compare 4 (some .int) :: ([.fieldLink RX1 14 "ExactNumbers" "below" "[Z", .fieldLink RX1 11 "ExactNumbers" "sizes" "[[J", .methodLink RX1 42 yX1_isSlot, .static yX1_isSlot, .initialized RX1, .code yX1_isSlot cX1_isSlot 1 (some .boolean), .methodLink RX1 117 yX0_order, .static yX0_order, .initialized RX0, .code yX0_order cX0_order 3 (some .int), .methodLink RX0 24 yX0_limbAt, .static yX0_limbAt, .code yX0_limbAt cX0_limbAt 2 (some .long)] ++ wsX10)
def wsX1_bits : List Cond := .code yX1_bits cX1_bits 2 (some .int) :: ([.fieldLink RX1 11 "ExactNumbers" "sizes" "[[J", .methodLink RX1 42 yX1_isSlot, .static yX1_isSlot, .initialized RX1, .code yX1_isSlot cX1_isSlot 1 (some .boolean), .methodLink RX1 92 yX0_bitLength, .static yX0_bitLength, .initialized RX0, .code yX0_bitLength cX0_bitLength 2 (some .int), .methodLink RX0 9 yX0_used, .static yX0_used, .code yX0_used cX0_used 2 (some .int), .methodLink RX0 15 yJ13_numberOfLeadingZeros_95d88, .static yJ13_numberOfLeadingZeros_95d88, .initialized RJ13, .code yJ13_numberOfLeadingZeros_95d88 cJ13_numberOfLeadingZeros_95d88 3 (some .int), .methodLink RJ13 308 yJ6_numberOfLeadingZeros_0f7a4, .static yJ6_numberOfLeadingZeros_0f7a4, .initialized RJ6, .code yJ6_numberOfLeadingZeros_0f7a4 cJ6_numberOfLeadingZeros_0f7a4 2 (some .int), .constant RJ6 264 (65536)] ++ wsX10)
def wsX1_isWordLength : List Cond := .code yX1_isWordLength cX1_isWordLength 1 (some .boolean) :: ([])
def wsX1_fits_r1 : List Cond := [Cond.fieldLink RX1 11 "ExactNumbers" "sizes" "[[J", Cond.fieldLink RX1 14 "ExactNumbers" "below" "[Z", Cond.methodLink RX1 42 yX1_isSlot, Cond.static yX1_isSlot, Cond.initialized RX1, Cond.code yX1_isSlot cX1_isSlot 1 (some .boolean), Cond.methodLink RX1 121 yX1_isWordLength, Cond.static yX1_isWordLength, Cond.code yX1_isWordLength cX1_isWordLength 1 (some .boolean), Cond.methodLink RX1 92 yX0_bitLength, Cond.static yX0_bitLength, Cond.initialized RX0, Cond.code yX0_bitLength cX0_bitLength 2 (some .int), Cond.methodLink RX0 9 yX0_used, Cond.static yX0_used, Cond.code yX0_used cX0_used 2 (some .int), Cond.methodLink RX0 15 yJ13_numberOfLeadingZeros_95d88, Cond.static yJ13_numberOfLeadingZeros_95d88, Cond.initialized RJ13, Cond.code yJ13_numberOfLeadingZeros_95d88 cJ13_numberOfLeadingZeros_95d88 3 (some .int), Cond.methodLink RJ13 308 yJ6_numberOfLeadingZeros_0f7a4, Cond.static yJ6_numberOfLeadingZeros_0f7a4, Cond.initialized RJ6, Cond.code yJ6_numberOfLeadingZeros_0f7a4 cJ6_numberOfLeadingZeros_0f7a4 2 (some .int)]
def wsX1_fits_r2 : List Cond := [Cond.constant RJ6 264 (65536), Cond.methodLink RX1 103 yX0_lowZeros, Cond.static yX0_lowZeros, Cond.code yX0_lowZeros cX0_lowZeros 2 (some .int), Cond.methodLink RX0 21 yJ13_numberOfTrailingZeros_95d88, Cond.static yJ13_numberOfTrailingZeros_95d88, Cond.code yJ13_numberOfTrailingZeros_95d88 cJ13_numberOfTrailingZeros_95d88 3 (some .int), Cond.methodLink RJ13 311 yJ6_numberOfTrailingZeros_0f7a4, Cond.static yJ6_numberOfTrailingZeros_0f7a4, Cond.code yJ6_numberOfTrailingZeros_0f7a4 cJ6_numberOfTrailingZeros_0f7a4 2 (some .int)]
def wsX1_fits : List Cond := .code yX1_fits cX1_fits 6 (some .boolean) :: ((wsX1_fits_r1 ++ wsX1_fits_r2) ++ wsX10)
def wsX1_cut : List Cond := .code yX1_cut cX1_cut 7 (some .long) :: ([.fieldLink RX1 11 "ExactNumbers" "sizes" "[[J", .fieldLink RX1 14 "ExactNumbers" "below" "[Z", .methodLink RX1 42 yX1_isSlot, .static yX1_isSlot, .initialized RX1, .code yX1_isSlot cX1_isSlot 1 (some .boolean), .methodLink RX1 121 yX1_isWordLength, .static yX1_isWordLength, .code yX1_isWordLength cX1_isWordLength 1 (some .boolean)] ++ wsX10)
def wsX1_groupLength : List Cond := .code yX1_groupLength cX1_groupLength 4 (some .int) :: ([.constantLong RX1 69 (2147483648)])
def wsX1_powerOf : List Cond := .code yX1_powerOf cX1_powerOf 5 (some .long) :: ([])
def wsX1_put : List Cond := .code yX1_put cX1_put 2 none :: ([.fieldLink RX1 29 "ExactNumbers" "writtenFrom" "I", .fieldLink RX1 26 "ExactNumbers" "written" "[B"] ++ wsX10)
def wsX1_putGroup : List Cond := .code yX1_putGroup cX1_putGroup 9 none :: ([.methodLink RX1 142 yX1_put, .instanceMethod yX1_put, .selects RX1 yX1_put yX1_put, .initialized RX1, .code yX1_put cX1_put 2 none, .fieldLink RX1 29 "ExactNumbers" "writtenFrom" "I", .fieldLink RX1 26 "ExactNumbers" "written" "[B"] ++ wsX10)
def wsX1_write_r1 : List Cond := [Cond.fieldLink RX1 11 "ExactNumbers" "sizes" "[[J", Cond.fieldLink RX1 32 "ExactNumbers" "first" "[J", Cond.fieldLink RX1 26 "ExactNumbers" "written" "[B", Cond.fieldLink RX1 29 "ExactNumbers" "writtenFrom" "I", Cond.fieldLink RX1 14 "ExactNumbers" "below" "[Z", Cond.methodLink RX1 42 yX1_isSlot, Cond.static yX1_isSlot, Cond.initialized RX1, Cond.code yX1_isSlot cX1_isSlot 1 (some .boolean), Cond.methodLink RX1 62 yX1_isBase, Cond.static yX1_isBase, Cond.code yX1_isBase cX1_isBase 1 (some .boolean), Cond.methodLink RX1 124 yX1_groupLength, Cond.static yX1_groupLength, Cond.code yX1_groupLength cX1_groupLength 4 (some .int), Cond.constantLong RX1 69 (2147483648), Cond.methodLink RX1 127 yX1_powerOf, Cond.static yX1_powerOf, Cond.code yX1_powerOf cX1_powerOf 5 (some .long), Cond.methodLink RX1 110 yX0_copy, Cond.static yX0_copy, Cond.initialized RX0, Cond.code yX0_copy cX0_copy 3 none, Cond.methodLink RX0 24 yX0_limbAt]
def wsX1_write_r2 : List Cond := [Cond.static yX0_limbAt, Cond.code yX0_limbAt cX0_limbAt 2 (some .long), Cond.methodLink RX1 131 yX0_used, Cond.static yX0_used, Cond.code yX0_used cX0_used 2 (some .int), Cond.methodLink RX1 134 yX0_divideBySmall, Cond.static yX0_divideBySmall, Cond.code yX0_divideBySmall cX0_divideBySmall 9 (some .long), Cond.constantLong RX0 42 (2147483648), Cond.methodLink RX1 138 yX1_putGroup, Cond.instanceMethod yX1_putGroup, Cond.selects RX1 yX1_putGroup yX1_putGroup, Cond.code yX1_putGroup cX1_putGroup 9 none, Cond.methodLink RX1 142 yX1_put, Cond.instanceMethod yX1_put, Cond.selects RX1 yX1_put yX1_put, Cond.code yX1_put cX1_put 2 none]
def wsX1_write : List Cond := .code yX1_write cX1_write 10 (some .int) :: ((wsX1_write_r1 ++ wsX1_write_r2) ++ wsX10)
def wsX1_byteOf : List Cond := .code yX1_byteOf cX1_byteOf 2 (some .int) :: ([.fieldLink RX1 26 "ExactNumbers" "written" "[B", .fieldLink RX1 29 "ExactNumbers" "writtenFrom" "I"] ++ wsX10)
set_option maxRecDepth 20000 in
theorem ggX0_bitLength_X0_used : GoodIn wsX0_bitLength wsX0_used := goodIn_r _ [4] (by decide +kernel) (by decide +kernel)
set_option maxRecDepth 20000 in
theorem gX0_bitLength_X0_used : GoodIn wsX0_bitLength (va_wsS RX0 9 yX0_used wsX0_used) := goodIn_app (goodIn_of _ (by decide +kernel)) ggX0_bitLength_X0_used
set_option maxRecDepth 20000 in
theorem ggX0_bitLength_J13_numberOfLeadingZeros_95d88 : GoodIn wsX0_bitLength wsJ13_numberOfLeadingZeros_95d88 := goodIn_r _ [8, 9, 10, 11, 12, 13] (by decide +kernel) (by decide +kernel)
set_option maxRecDepth 20000 in
theorem gX0_bitLength_J13_numberOfLeadingZeros_95d88 : GoodIn wsX0_bitLength (va_wsS RX0 15 yJ13_numberOfLeadingZeros_95d88 wsJ13_numberOfLeadingZeros_95d88) := goodIn_app (goodIn_of _ (by decide +kernel)) ggX0_bitLength_J13_numberOfLeadingZeros_95d88
set_option maxRecDepth 20000 in
theorem ggX0_lowZeros_J13_numberOfTrailingZeros_95d88 : GoodIn wsX0_lowZeros wsJ13_numberOfTrailingZeros_95d88 := goodIn_r _ [4, 5, 6, 7, 8, 9] (by decide +kernel) (by decide +kernel)
set_option maxRecDepth 20000 in
theorem gX0_lowZeros_J13_numberOfTrailingZeros_95d88 : GoodIn wsX0_lowZeros (va_wsS RX0 21 yJ13_numberOfTrailingZeros_95d88 wsJ13_numberOfTrailingZeros_95d88) := goodIn_app (goodIn_of _ (by decide +kernel)) ggX0_lowZeros_J13_numberOfTrailingZeros_95d88
set_option maxRecDepth 20000 in
theorem ggX0_order_X0_limbAt : GoodIn wsX0_order wsX0_limbAt := goodIn_r _ [4] (by decide +kernel) (by decide +kernel)
set_option maxRecDepth 20000 in
theorem gX0_order_X0_limbAt : GoodIn wsX0_order (va_wsS RX0 24 yX0_limbAt wsX0_limbAt) := goodIn_app (goodIn_of _ (by decide +kernel)) ggX0_order_X0_limbAt
set_option maxRecDepth 20000 in
theorem ggX0_copy_X0_limbAt : GoodIn wsX0_copy wsX0_limbAt := goodIn_r _ [4] (by decide +kernel) (by decide +kernel)
set_option maxRecDepth 20000 in
theorem gX0_copy_X0_limbAt : GoodIn wsX0_copy (va_wsS RX0 24 yX0_limbAt wsX0_limbAt) := goodIn_app (goodIn_of _ (by decide +kernel)) ggX0_copy_X0_limbAt
set_option maxRecDepth 20000 in
theorem ggX0_negate_X0_increase : GoodIn wsX0_negate wsX0_increase := goodIn_r _ [6, 2] (by decide +kernel) (by decide +kernel)
set_option maxRecDepth 20000 in
theorem gX0_negate_X0_increase : GoodIn wsX0_negate (va_wsS RX0 32 yX0_increase wsX0_increase) := goodIn_app (goodIn_of _ (by decide +kernel)) ggX0_negate_X0_increase
set_option maxRecDepth 20000 in
theorem ggX0_add_X0_limbAt : GoodIn wsX0_add wsX0_limbAt := goodIn_r _ [5] (by decide +kernel) (by decide +kernel)
set_option maxRecDepth 20000 in
theorem gX0_add_X0_limbAt : GoodIn wsX0_add (va_wsS RX0 24 yX0_limbAt wsX0_limbAt) := goodIn_app (goodIn_of _ (by decide +kernel)) ggX0_add_X0_limbAt
set_option maxRecDepth 20000 in
theorem ggX0_subtract_X0_limbAt : GoodIn wsX0_subtract wsX0_limbAt := goodIn_r _ [5] (by decide +kernel) (by decide +kernel)
set_option maxRecDepth 20000 in
theorem gX0_subtract_X0_limbAt : GoodIn wsX0_subtract (va_wsS RX0 24 yX0_limbAt wsX0_limbAt) := goodIn_app (goodIn_of _ (by decide +kernel)) ggX0_subtract_X0_limbAt
set_option maxRecDepth 20000 in
theorem ggX0_multiply_J7_fill_d0a16 : GoodIn wsX0_multiply wsJ7_fill_d0a16 := goodIn_r _ [5] (by decide +kernel) (by decide +kernel)
set_option maxRecDepth 20000 in
theorem gX0_multiply_J7_fill_d0a16 : GoodIn wsX0_multiply (va_wsS RX0 36 yJ7_fill_d0a16 wsJ7_fill_d0a16) := goodIn_app (goodIn_of _ (by decide +kernel)) ggX0_multiply_J7_fill_d0a16
set_option maxRecDepth 20000 in
theorem ggX0_multiply_X0_used : GoodIn wsX0_multiply wsX0_used := goodIn_r _ [9] (by decide +kernel) (by decide +kernel)
set_option maxRecDepth 20000 in
theorem gX0_multiply_X0_used : GoodIn wsX0_multiply (va_wsS RX0 9 yX0_used wsX0_used) := goodIn_app (goodIn_of _ (by decide +kernel)) ggX0_multiply_X0_used
set_option maxRecDepth 20000 in
theorem ggX0_moveUp_X0_limbAt : GoodIn wsX0_moveUp wsX0_limbAt := goodIn_r _ [5] (by decide +kernel) (by decide +kernel)
set_option maxRecDepth 20000 in
theorem gX0_moveUp_X0_limbAt : GoodIn wsX0_moveUp (va_wsS RX0 24 yX0_limbAt wsX0_limbAt) := goodIn_app (goodIn_of _ (by decide +kernel)) ggX0_moveUp_X0_limbAt
set_option maxRecDepth 20000 in
theorem ggX0_moveDown_X0_limbAt : GoodIn wsX0_moveDown wsX0_limbAt := goodIn_r _ [5] (by decide +kernel) (by decide +kernel)
set_option maxRecDepth 20000 in
theorem gX0_moveDown_X0_limbAt : GoodIn wsX0_moveDown (va_wsS RX0 24 yX0_limbAt wsX0_limbAt) := goodIn_app (goodIn_of _ (by decide +kernel)) ggX0_moveDown_X0_limbAt
set_option maxRecDepth 20000 in
theorem ggX0_takeOut_X0_guess : GoodIn wsX0_takeOut wsX0_guess := goodIn_r _ [4, 5] (by decide +kernel) (by decide +kernel)
set_option maxRecDepth 20000 in
theorem gX0_takeOut_X0_guess : GoodIn wsX0_takeOut (va_wsS RX0 44 yX0_guess wsX0_guess) := goodIn_app (goodIn_of _ (by decide +kernel)) ggX0_takeOut_X0_guess
set_option maxRecDepth 20000 in
theorem ggX0_takeOut_X0_subtractProduct : GoodIn wsX0_takeOut wsX0_subtractProduct := goodIn_r _ [8, 5] (by decide +kernel) (by decide +kernel)
set_option maxRecDepth 20000 in
theorem gX0_takeOut_X0_subtractProduct : GoodIn wsX0_takeOut (va_wsS RX0 48 yX0_subtractProduct wsX0_subtractProduct) := goodIn_app (goodIn_of _ (by decide +kernel)) ggX0_takeOut_X0_subtractProduct
set_option maxRecDepth 20000 in
theorem ggX0_takeOut_X0_addBack : GoodIn wsX0_takeOut wsX0_addBack := goodIn_r _ [11, 5] (by decide +kernel) (by decide +kernel)
set_option maxRecDepth 20000 in
theorem gX0_takeOut_X0_addBack : GoodIn wsX0_takeOut (va_wsS RX0 52 yX0_addBack wsX0_addBack) := goodIn_app (goodIn_of _ (by decide +kernel)) ggX0_takeOut_X0_addBack
set_option maxRecDepth 20000 in
theorem ggX1_set_X1_isSlot : GoodIn wsX1_set wsX1_isSlot := goodIn_r _ [6] (by decide +kernel) (by decide +kernel)
set_option maxRecDepth 20000 in
theorem gX1_set_X1_isSlot : GoodIn wsX1_set (va_wsS RX1 42 yX1_isSlot wsX1_isSlot) := goodIn_app (goodIn_of _ (by decide +kernel)) ggX1_set_X1_isSlot
set_option maxRecDepth 20000 in
theorem ggX1_set_J7_fill_d0a16 : GoodIn wsX1_set wsJ7_fill_d0a16 := goodIn_r _ [10] (by decide +kernel) (by decide +kernel)
set_option maxRecDepth 20000 in
theorem gX1_set_J7_fill_d0a16 : GoodIn wsX1_set (va_wsS RX1 46 yJ7_fill_d0a16 wsJ7_fill_d0a16) := goodIn_app (goodIn_of _ (by decide +kernel)) ggX1_set_J7_fill_d0a16
set_option maxRecDepth 20000 in
theorem ggX1_set_X1_store : GoodIn wsX1_set wsX1_store := goodIn_r _ [14, 15, 16, 17, 18, 19, 20, 21, 22, 23, 24, 25, 26, 27, 28, 29, 30, 31, 32, 33] (by decide +kernel) (by decide +kernel)
set_option maxRecDepth 20000 in
theorem gX1_set_X1_store : GoodIn wsX1_set (wsV RX1 54 RX1 yX1_store wsX1_store) := goodIn_app (goodIn_of _ (by decide +kernel)) ggX1_set_X1_store
set_option maxRecDepth 20000 in
theorem ggX1_digits_X1_digitValue : GoodIn wsX1_digits wsX1_digitValue := goodIn_r _ [6] (by decide +kernel) (by decide +kernel)
set_option maxRecDepth 20000 in
theorem gX1_digits_X1_digitValue : GoodIn wsX1_digits (va_wsS RX1 58 yX1_digitValue wsX1_digitValue) := goodIn_app (goodIn_of _ (by decide +kernel)) ggX1_digits_X1_digitValue
set_option maxRecDepth 20000 in
theorem ggX1_read_X1_isSlot : GoodIn wsX1_read wsX1_isSlot := goodIn_r _ [8] (by decide +kernel) (by decide +kernel)
set_option maxRecDepth 20000 in
theorem gX1_read_X1_isSlot : GoodIn wsX1_read (va_wsS RX1 42 yX1_isSlot wsX1_isSlot) := goodIn_app (goodIn_of _ (by decide +kernel)) ggX1_read_X1_isSlot
set_option maxRecDepth 20000 in
theorem ggX1_read_X1_isBase : GoodIn wsX1_read wsX1_isBase := goodIn_r _ [11] (by decide +kernel) (by decide +kernel)
set_option maxRecDepth 20000 in
theorem gX1_read_X1_isBase : GoodIn wsX1_read (va_wsS RX1 62 yX1_isBase wsX1_isBase) := goodIn_app (goodIn_of _ (by decide +kernel)) ggX1_read_X1_isBase
set_option maxRecDepth 20000 in
theorem ggX1_read_X1_areDigitsOf : GoodIn wsX1_read wsX1_areDigitsOf := goodIn_r _ [15, 3, 38, 39, 40, 41, 42, 43, 44, 45, 46] (by decide +kernel) (by decide +kernel)
set_option maxRecDepth 20000 in
theorem gX1_read_X1_areDigitsOf : GoodIn wsX1_read (wsV RX1 65 RX1 yX1_areDigitsOf wsX1_areDigitsOf) := goodIn_app (goodIn_of _ (by decide +kernel)) ggX1_read_X1_areDigitsOf
set_option maxRecDepth 20000 in
theorem ggX1_read_J7_fill_d0a16 : GoodIn wsX1_read wsJ7_fill_d0a16 := goodIn_r _ [19] (by decide +kernel) (by decide +kernel)
set_option maxRecDepth 20000 in
theorem gX1_read_J7_fill_d0a16 : GoodIn wsX1_read (va_wsS RX1 46 yJ7_fill_d0a16 wsJ7_fill_d0a16) := goodIn_app (goodIn_of _ (by decide +kernel)) ggX1_read_J7_fill_d0a16
set_option maxRecDepth 20000 in
theorem ggX1_read_X0_multiplyAndAdd : GoodIn wsX1_read wsX0_multiplyAndAdd := goodIn_r _ [23, 24] (by decide +kernel) (by decide +kernel)
set_option maxRecDepth 20000 in
theorem gX1_read_X0_multiplyAndAdd : GoodIn wsX1_read (va_wsS RX1 71 yX0_multiplyAndAdd wsX0_multiplyAndAdd) := goodIn_app (goodIn_of _ (by decide +kernel)) ggX1_read_X0_multiplyAndAdd
set_option maxRecDepth 20000 in
theorem ggX1_read_X1_store : GoodIn wsX1_read wsX1_store := goodIn_r _ [28, 29, 30, 31, 32, 33, 34, 35, 36, 22, 37, 38, 39, 40, 41, 42, 43, 44, 45, 46] (by decide +kernel) (by decide +kernel)
set_option maxRecDepth 20000 in
theorem gX1_read_X1_store : GoodIn wsX1_read (wsV RX1 54 RX1 yX1_store wsX1_store) := goodIn_app (goodIn_of _ (by decide +kernel)) ggX1_read_X1_store
set_option maxRecDepth 20000 in
theorem ggX1_work_X1_isSlot : GoodIn wsX1_work wsX1_isSlot := goodIn_r _ [7] (by decide +kernel) (by decide +kernel)
set_option maxRecDepth 20000 in
theorem gX1_work_X1_isSlot : GoodIn wsX1_work (va_wsS RX1 42 yX1_isSlot wsX1_isSlot) := goodIn_app (goodIn_of _ (by decide +kernel)) ggX1_work_X1_isSlot
set_option maxRecDepth 20000 in
theorem ggX1_work_X1_sum : GoodIn wsX1_work wsX1_sum := goodIn_r _ [11, 1, 2, 12, 13, 14, 15, 16, 17, 18, 19, 20, 21, 22, 23, 6, 24, 25, 26, 27, 28, 29, 30, 31, 32, 33, 34, 35, 36, 37, 104, 105, 106, 107, 108, 109, 110, 111, 112] (by decide +kernel) (by decide +kernel)
set_option maxRecDepth 20000 in
theorem gX1_work_X1_sum : GoodIn wsX1_work (wsV RX1 77 RX1 yX1_sum wsX1_sum) := goodIn_app (goodIn_of _ (by decide +kernel)) ggX1_work_X1_sum
set_option maxRecDepth 20000 in
theorem ggX1_work_X0_multiply : GoodIn wsX1_work wsX0_multiply := goodIn_r _ [40, 17, 41, 42, 43, 44, 45, 30, 15, 31] (by decide +kernel) (by decide +kernel)
set_option maxRecDepth 20000 in
theorem gX1_work_X0_multiply : GoodIn wsX1_work (va_wsS RX1 81 yX0_multiply wsX0_multiply) := goodIn_app (goodIn_of _ (by decide +kernel)) ggX1_work_X0_multiply
set_option maxRecDepth 20000 in
theorem ggX1_work_X1_store : GoodIn wsX1_work wsX1_store := goodIn_r _ [24, 2, 25, 26, 27, 28, 1, 29, 30, 15, 31, 104, 105, 106, 107, 108, 109, 110, 111, 112] (by decide +kernel) (by decide +kernel)
set_option maxRecDepth 20000 in
theorem gX1_work_X1_store : GoodIn wsX1_work (wsV RX1 54 RX1 yX1_store wsX1_store) := goodIn_app (goodIn_of _ (by decide +kernel)) ggX1_work_X1_store
set_option maxRecDepth 20000 in
theorem ggX1_work_X1_quotientOrRest : GoodIn wsX1_work wsX1_quotientOrRest := goodIn_r _ [49, 2, 12, 50, 3, 1, 29, 30, 15, 31, 51, 52, 53, 45, 54, 55, 56, 57, 58, 59, 60, 61, 62, 63, 64, 65, 17, 18, 19, 20, 66, 42, 43, 44, 67, 68, 69, 70, 71, 72, 73, 74, 75, 76, 77, 78, 79, 80, 81, 21, 22, 23, 6, 24, 25, 26, 27, 28, 104, 105, 106, 107, 108, 109, 110, 111, 112] (by decide +kernel) (by decide +kernel)
set_option maxRecDepth 20000 in
theorem gX1_work_X1_quotientOrRest : GoodIn wsX1_work (wsV RX1 85 RX1 yX1_quotientOrRest wsX1_quotientOrRest) := goodIn_app (goodIn_of _ (by decide +kernel)) ggX1_work_X1_quotientOrRest
set_option maxRecDepth 20000 in
theorem ggX1_work_X1_bitByBit : GoodIn wsX1_work wsX1_bitByBit := goodIn_r _ [85, 12, 50, 86, 87, 88, 6, 89, 2, 1, 90, 91, 15, 92, 18, 19, 20, 93, 94, 95, 96, 17, 97, 98, 99, 100, 101, 102, 103, 21, 22, 23, 24, 25, 26, 27, 28, 29, 30, 31, 104, 105, 106, 107, 108, 109, 110, 111, 112] (by decide +kernel) (by decide +kernel)
set_option maxRecDepth 20000 in
theorem gX1_work_X1_bitByBit : GoodIn wsX1_work (wsV RX1 88 RX1 yX1_bitByBit wsX1_bitByBit) := goodIn_app (goodIn_of _ (by decide +kernel)) ggX1_work_X1_bitByBit
set_option maxRecDepth 20000 in
theorem ggX1_shift_X1_isSlot : GoodIn wsX1_shift wsX1_isSlot := goodIn_r _ [7] (by decide +kernel) (by decide +kernel)
set_option maxRecDepth 20000 in
theorem gX1_shift_X1_isSlot : GoodIn wsX1_shift (va_wsS RX1 42 yX1_isSlot wsX1_isSlot) := goodIn_app (goodIn_of _ (by decide +kernel)) ggX1_shift_X1_isSlot
set_option maxRecDepth 20000 in
theorem ggX1_shift_X0_bitLength : GoodIn wsX1_shift wsX0_bitLength := goodIn_r _ [11, 12, 13, 10, 14, 15, 16, 17, 18, 19, 20, 21, 22, 23] (by decide +kernel) (by decide +kernel)
set_option maxRecDepth 20000 in
theorem gX1_shift_X0_bitLength : GoodIn wsX1_shift (va_wsS RX1 92 yX0_bitLength wsX0_bitLength) := goodIn_app (goodIn_of _ (by decide +kernel)) ggX1_shift_X0_bitLength
set_option maxRecDepth 20000 in
theorem ggX1_shift_X0_moveUp : GoodIn wsX1_shift wsX0_moveUp := goodIn_r _ [26, 27, 28, 29, 10, 30] (by decide +kernel) (by decide +kernel)
set_option maxRecDepth 20000 in
theorem gX1_shift_X0_moveUp : GoodIn wsX1_shift (va_wsS RX1 96 yX0_moveUp wsX0_moveUp) := goodIn_app (goodIn_of _ (by decide +kernel)) ggX1_shift_X0_moveUp
set_option maxRecDepth 20000 in
theorem ggX1_shift_X0_moveDown : GoodIn wsX1_shift wsX0_moveDown := goodIn_r _ [33, 27, 28, 29, 10, 30] (by decide +kernel) (by decide +kernel)
set_option maxRecDepth 20000 in
theorem gX1_shift_X0_moveDown : GoodIn wsX1_shift (va_wsS RX1 100 yX0_moveDown wsX0_moveDown) := goodIn_app (goodIn_of _ (by decide +kernel)) ggX1_shift_X0_moveDown
set_option maxRecDepth 20000 in
theorem ggX1_shift_X0_lowZeros : GoodIn wsX1_shift wsX0_lowZeros := goodIn_r _ [36, 37, 38, 17, 39, 40, 41, 21, 42, 23] (by decide +kernel) (by decide +kernel)
set_option maxRecDepth 20000 in
theorem gX1_shift_X0_lowZeros : GoodIn wsX1_shift (va_wsS RX1 103 yX0_lowZeros wsX0_lowZeros) := goodIn_app (goodIn_of _ (by decide +kernel)) ggX1_shift_X0_lowZeros
set_option maxRecDepth 20000 in
theorem ggX1_shift_X0_increase : GoodIn wsX1_shift wsX0_increase := goodIn_r _ [45, 27] (by decide +kernel) (by decide +kernel)
set_option maxRecDepth 20000 in
theorem gX1_shift_X0_increase : GoodIn wsX1_shift (va_wsS RX1 106 yX0_increase wsX0_increase) := goodIn_app (goodIn_of _ (by decide +kernel)) ggX1_shift_X0_increase
set_option maxRecDepth 20000 in
theorem ggX1_shift_X1_store : GoodIn wsX1_shift wsX1_store := goodIn_r _ [49, 1, 50, 51, 52, 53, 3, 54, 13, 10, 14, 55, 56, 57, 58, 59, 60, 61, 62, 63] (by decide +kernel) (by decide +kernel)
set_option maxRecDepth 20000 in
theorem gX1_shift_X1_store : GoodIn wsX1_shift (wsV RX1 54 RX1 yX1_store wsX1_store) := goodIn_app (goodIn_of _ (by decide +kernel)) ggX1_shift_X1_store
set_option maxRecDepth 20000 in
theorem ggX1_turn_X1_isSlot : GoodIn wsX1_turn wsX1_isSlot := goodIn_r _ [7] (by decide +kernel) (by decide +kernel)
set_option maxRecDepth 20000 in
theorem gX1_turn_X1_isSlot : GoodIn wsX1_turn (va_wsS RX1 42 yX1_isSlot wsX1_isSlot) := goodIn_app (goodIn_of _ (by decide +kernel)) ggX1_turn_X1_isSlot
set_option maxRecDepth 20000 in
theorem ggX1_turn_X0_copy : GoodIn wsX1_turn wsX0_copy := goodIn_r _ [11, 12, 13, 10, 14] (by decide +kernel) (by decide +kernel)
set_option maxRecDepth 20000 in
theorem gX1_turn_X0_copy : GoodIn wsX1_turn (va_wsS RX1 110 yX0_copy wsX0_copy) := goodIn_app (goodIn_of _ (by decide +kernel)) ggX1_turn_X0_copy
set_option maxRecDepth 20000 in
theorem ggX1_turn_X0_decrease : GoodIn wsX1_turn wsX0_decrease := goodIn_r _ [17, 18] (by decide +kernel) (by decide +kernel)
set_option maxRecDepth 20000 in
theorem gX1_turn_X0_decrease : GoodIn wsX1_turn (va_wsS RX1 114 yX0_decrease wsX0_decrease) := goodIn_app (goodIn_of _ (by decide +kernel)) ggX1_turn_X0_decrease
set_option maxRecDepth 20000 in
theorem ggX1_turn_X0_increase : GoodIn wsX1_turn wsX0_increase := goodIn_r _ [21, 18] (by decide +kernel) (by decide +kernel)
set_option maxRecDepth 20000 in
theorem gX1_turn_X0_increase : GoodIn wsX1_turn (va_wsS RX1 106 yX0_increase wsX0_increase) := goodIn_app (goodIn_of _ (by decide +kernel)) ggX1_turn_X0_increase
set_option maxRecDepth 20000 in
theorem ggX1_turn_X1_store : GoodIn wsX1_turn wsX1_store := goodIn_r _ [25, 1, 26, 27, 28, 29, 3, 30, 31, 10, 32, 33, 34, 35, 36, 37, 38, 39, 40, 41] (by decide +kernel) (by decide +kernel)
set_option maxRecDepth 20000 in
theorem gX1_turn_X1_store : GoodIn wsX1_turn (wsV RX1 54 RX1 yX1_store wsX1_store) := goodIn_app (goodIn_of _ (by decide +kernel)) ggX1_turn_X1_store
set_option maxRecDepth 20000 in
theorem ggX1_compare_X1_isSlot : GoodIn wsX1_compare wsX1_isSlot := goodIn_r _ [6] (by decide +kernel) (by decide +kernel)
set_option maxRecDepth 20000 in
theorem gX1_compare_X1_isSlot : GoodIn wsX1_compare (va_wsS RX1 42 yX1_isSlot wsX1_isSlot) := goodIn_app (goodIn_of _ (by decide +kernel)) ggX1_compare_X1_isSlot
set_option maxRecDepth 20000 in
theorem ggX1_compare_X0_order : GoodIn wsX1_compare wsX0_order := goodIn_r _ [10, 11, 12, 9, 13] (by decide +kernel) (by decide +kernel)
set_option maxRecDepth 20000 in
theorem gX1_compare_X0_order : GoodIn wsX1_compare (va_wsS RX1 117 yX0_order wsX0_order) := goodIn_app (goodIn_of _ (by decide +kernel)) ggX1_compare_X0_order
set_option maxRecDepth 20000 in
theorem ggX1_bits_X1_isSlot : GoodIn wsX1_bits wsX1_isSlot := goodIn_r _ [5] (by decide +kernel) (by decide +kernel)
set_option maxRecDepth 20000 in
theorem gX1_bits_X1_isSlot : GoodIn wsX1_bits (va_wsS RX1 42 yX1_isSlot wsX1_isSlot) := goodIn_app (goodIn_of _ (by decide +kernel)) ggX1_bits_X1_isSlot
set_option maxRecDepth 20000 in
theorem ggX1_bits_X0_bitLength : GoodIn wsX1_bits wsX0_bitLength := goodIn_r _ [9, 10, 11, 8, 12, 13, 14, 15, 16, 17, 18, 19, 20, 21] (by decide +kernel) (by decide +kernel)
set_option maxRecDepth 20000 in
theorem gX1_bits_X0_bitLength : GoodIn wsX1_bits (va_wsS RX1 92 yX0_bitLength wsX0_bitLength) := goodIn_app (goodIn_of _ (by decide +kernel)) ggX1_bits_X0_bitLength
set_option maxRecDepth 20000 in
theorem ggX1_fits_X1_isSlot : GoodIn wsX1_fits wsX1_isSlot := goodIn_r _ [6] (by decide +kernel) (by decide +kernel)
set_option maxRecDepth 20000 in
theorem gX1_fits_X1_isSlot : GoodIn wsX1_fits (va_wsS RX1 42 yX1_isSlot wsX1_isSlot) := goodIn_app (goodIn_of _ (by decide +kernel)) ggX1_fits_X1_isSlot
set_option maxRecDepth 20000 in
theorem ggX1_fits_X1_isWordLength : GoodIn wsX1_fits wsX1_isWordLength := goodIn_r _ [9] (by decide +kernel) (by decide +kernel)
set_option maxRecDepth 20000 in
theorem gX1_fits_X1_isWordLength : GoodIn wsX1_fits (va_wsS RX1 121 yX1_isWordLength wsX1_isWordLength) := goodIn_app (goodIn_of _ (by decide +kernel)) ggX1_fits_X1_isWordLength
set_option maxRecDepth 20000 in
theorem ggX1_fits_X0_bitLength : GoodIn wsX1_fits wsX0_bitLength := goodIn_r _ [13, 14, 15, 12, 16, 17, 18, 19, 20, 21, 22, 23, 24, 25] (by decide +kernel) (by decide +kernel)
set_option maxRecDepth 20000 in
theorem gX1_fits_X0_bitLength : GoodIn wsX1_fits (va_wsS RX1 92 yX0_bitLength wsX0_bitLength) := goodIn_app (goodIn_of _ (by decide +kernel)) ggX1_fits_X0_bitLength
set_option maxRecDepth 20000 in
theorem ggX1_fits_X0_lowZeros : GoodIn wsX1_fits wsX0_lowZeros := goodIn_r _ [28, 29, 30, 19, 31, 32, 33, 23, 34, 25] (by decide +kernel) (by decide +kernel)
set_option maxRecDepth 20000 in
theorem gX1_fits_X0_lowZeros : GoodIn wsX1_fits (va_wsS RX1 103 yX0_lowZeros wsX0_lowZeros) := goodIn_app (goodIn_of _ (by decide +kernel)) ggX1_fits_X0_lowZeros
set_option maxRecDepth 20000 in
theorem ggX1_cut_X1_isSlot : GoodIn wsX1_cut wsX1_isSlot := goodIn_r _ [6] (by decide +kernel) (by decide +kernel)
set_option maxRecDepth 20000 in
theorem gX1_cut_X1_isSlot : GoodIn wsX1_cut (va_wsS RX1 42 yX1_isSlot wsX1_isSlot) := goodIn_app (goodIn_of _ (by decide +kernel)) ggX1_cut_X1_isSlot
set_option maxRecDepth 20000 in
theorem ggX1_cut_X1_isWordLength : GoodIn wsX1_cut wsX1_isWordLength := goodIn_r _ [9] (by decide +kernel) (by decide +kernel)
set_option maxRecDepth 20000 in
theorem gX1_cut_X1_isWordLength : GoodIn wsX1_cut (va_wsS RX1 121 yX1_isWordLength wsX1_isWordLength) := goodIn_app (goodIn_of _ (by decide +kernel)) ggX1_cut_X1_isWordLength
set_option maxRecDepth 20000 in
theorem ggX1_write_X1_isSlot : GoodIn wsX1_write wsX1_isSlot := goodIn_r _ [9] (by decide +kernel) (by decide +kernel)
set_option maxRecDepth 20000 in
theorem gX1_write_X1_isSlot : GoodIn wsX1_write (va_wsS RX1 42 yX1_isSlot wsX1_isSlot) := goodIn_app (goodIn_of _ (by decide +kernel)) ggX1_write_X1_isSlot
set_option maxRecDepth 20000 in
theorem ggX1_write_X1_isBase : GoodIn wsX1_write wsX1_isBase := goodIn_r _ [12] (by decide +kernel) (by decide +kernel)
set_option maxRecDepth 20000 in
theorem gX1_write_X1_isBase : GoodIn wsX1_write (va_wsS RX1 62 yX1_isBase wsX1_isBase) := goodIn_app (goodIn_of _ (by decide +kernel)) ggX1_write_X1_isBase
set_option maxRecDepth 20000 in
theorem ggX1_write_X1_groupLength : GoodIn wsX1_write wsX1_groupLength := goodIn_r _ [15, 16] (by decide +kernel) (by decide +kernel)
set_option maxRecDepth 20000 in
theorem gX1_write_X1_groupLength : GoodIn wsX1_write (va_wsS RX1 124 yX1_groupLength wsX1_groupLength) := goodIn_app (goodIn_of _ (by decide +kernel)) ggX1_write_X1_groupLength
set_option maxRecDepth 20000 in
theorem ggX1_write_X1_powerOf : GoodIn wsX1_write wsX1_powerOf := goodIn_r _ [19] (by decide +kernel) (by decide +kernel)
set_option maxRecDepth 20000 in
theorem gX1_write_X1_powerOf : GoodIn wsX1_write (va_wsS RX1 127 yX1_powerOf wsX1_powerOf) := goodIn_app (goodIn_of _ (by decide +kernel)) ggX1_write_X1_powerOf
set_option maxRecDepth 20000 in
theorem ggX1_write_X0_copy : GoodIn wsX1_write wsX0_copy := goodIn_r _ [23, 24, 25, 22, 26] (by decide +kernel) (by decide +kernel)
set_option maxRecDepth 20000 in
theorem gX1_write_X0_copy : GoodIn wsX1_write (va_wsS RX1 110 yX0_copy wsX0_copy) := goodIn_app (goodIn_of _ (by decide +kernel)) ggX1_write_X0_copy
set_option maxRecDepth 20000 in
theorem ggX1_write_X0_used : GoodIn wsX1_write wsX0_used := goodIn_r _ [29] (by decide +kernel) (by decide +kernel)
set_option maxRecDepth 20000 in
theorem gX1_write_X0_used : GoodIn wsX1_write (va_wsS RX1 131 yX0_used wsX0_used) := goodIn_app (goodIn_of _ (by decide +kernel)) ggX1_write_X0_used
set_option maxRecDepth 20000 in
theorem ggX1_write_X0_divideBySmall : GoodIn wsX1_write wsX0_divideBySmall := goodIn_r _ [32, 33] (by decide +kernel) (by decide +kernel)
set_option maxRecDepth 20000 in
theorem gX1_write_X0_divideBySmall : GoodIn wsX1_write (va_wsS RX1 134 yX0_divideBySmall wsX0_divideBySmall) := goodIn_app (goodIn_of _ (by decide +kernel)) ggX1_write_X0_divideBySmall
set_option maxRecDepth 20000 in
theorem ggX1_write_X1_putGroup : GoodIn wsX1_write wsX1_putGroup := goodIn_r _ [37, 38, 39, 40, 8, 41, 4, 3, 42, 43, 44, 45, 46, 47, 48, 49, 50] (by decide +kernel) (by decide +kernel)
set_option maxRecDepth 20000 in
theorem gX1_write_X1_putGroup : GoodIn wsX1_write (wsV RX1 138 RX1 yX1_putGroup wsX1_putGroup) := goodIn_app (goodIn_of _ (by decide +kernel)) ggX1_write_X1_putGroup
set_option maxRecDepth 20000 in
theorem ggX1_write_X1_put : GoodIn wsX1_write wsX1_put := goodIn_r _ [41, 4, 3, 42, 43, 44, 45, 46, 47, 48, 49, 50] (by decide +kernel) (by decide +kernel)
set_option maxRecDepth 20000 in
theorem gX1_write_X1_put : GoodIn wsX1_write (wsV RX1 142 RX1 yX1_put wsX1_put) := goodIn_app (goodIn_of _ (by decide +kernel)) ggX1_write_X1_put
set_option maxRecDepth 20000 in
theorem ggX1_store_X0_used : GoodIn wsX1_store wsX0_used := goodIn_r _ [10] (by decide +kernel) (by decide +kernel)
set_option maxRecDepth 20000 in
theorem gX1_store_X0_used : GoodIn wsX1_store (va_wsS RX1 131 yX0_used wsX0_used) := goodIn_app (goodIn_of _ (by decide +kernel)) ggX1_store_X0_used
set_option maxRecDepth 20000 in
theorem ggX1_sum_X0_add : GoodIn wsX1_sum wsX0_add := goodIn_r _ [7, 8, 9, 10, 6, 11] (by decide +kernel) (by decide +kernel)
set_option maxRecDepth 20000 in
theorem gX1_sum_X0_add : GoodIn wsX1_sum (va_wsS RX1 152 yX0_add wsX0_add) := goodIn_app (goodIn_of _ (by decide +kernel)) ggX1_sum_X0_add
set_option maxRecDepth 20000 in
theorem ggX1_sum_X1_store : GoodIn wsX1_sum wsX1_store := goodIn_r _ [16, 2, 17, 18, 19, 20, 1, 21, 22, 6, 23, 30, 31, 32, 33, 34, 35, 36, 37, 38] (by decide +kernel) (by decide +kernel)
set_option maxRecDepth 20000 in
theorem gX1_sum_X1_store : GoodIn wsX1_sum (wsV RX1 54 RX1 yX1_store wsX1_store) := goodIn_app (goodIn_of _ (by decide +kernel)) ggX1_sum_X1_store
set_option maxRecDepth 20000 in
theorem ggX1_sum_X0_order : GoodIn wsX1_sum wsX0_order := goodIn_r _ [26, 9, 10, 6, 11] (by decide +kernel) (by decide +kernel)
set_option maxRecDepth 20000 in
theorem gX1_sum_X0_order : GoodIn wsX1_sum (va_wsS RX1 117 yX0_order wsX0_order) := goodIn_app (goodIn_of _ (by decide +kernel)) ggX1_sum_X0_order
set_option maxRecDepth 20000 in
theorem ggX1_sum_X0_subtract : GoodIn wsX1_sum wsX0_subtract := goodIn_r _ [29, 8, 9, 10, 6, 11] (by decide +kernel) (by decide +kernel)
set_option maxRecDepth 20000 in
theorem gX1_sum_X0_subtract : GoodIn wsX1_sum (va_wsS RX1 155 yX0_subtract wsX0_subtract) := goodIn_app (goodIn_of _ (by decide +kernel)) ggX1_sum_X0_subtract
set_option maxRecDepth 20000 in
theorem ggX1_quotientOrRest_X0_used : GoodIn wsX1_quotientOrRest wsX0_used := goodIn_r _ [9] (by decide +kernel) (by decide +kernel)
set_option maxRecDepth 20000 in
theorem gX1_quotientOrRest_X0_used : GoodIn wsX1_quotientOrRest (va_wsS RX1 131 yX0_used wsX0_used) := goodIn_app (goodIn_of _ (by decide +kernel)) ggX1_quotientOrRest_X0_used
set_option maxRecDepth 20000 in
theorem ggX1_quotientOrRest_X0_bitLength : GoodIn wsX1_quotientOrRest wsX0_bitLength := goodIn_r _ [12, 13, 7, 8, 9, 14, 15, 16, 17, 18, 19, 20, 21, 22] (by decide +kernel) (by decide +kernel)
set_option maxRecDepth 20000 in
theorem gX1_quotientOrRest_X0_bitLength : GoodIn wsX1_quotientOrRest (va_wsS RX1 92 yX0_bitLength wsX0_bitLength) := goodIn_app (goodIn_of _ (by decide +kernel)) ggX1_quotientOrRest_X0_bitLength
set_option maxRecDepth 20000 in
theorem ggX1_quotientOrRest_X0_moveUp : GoodIn wsX1_quotientOrRest wsX0_moveUp := goodIn_r _ [25, 26, 27, 28, 8, 29] (by decide +kernel) (by decide +kernel)
set_option maxRecDepth 20000 in
theorem gX1_quotientOrRest_X0_moveUp : GoodIn wsX1_quotientOrRest (va_wsS RX1 96 yX0_moveUp wsX0_moveUp) := goodIn_app (goodIn_of _ (by decide +kernel)) ggX1_quotientOrRest_X0_moveUp
set_option maxRecDepth 20000 in
theorem ggX1_quotientOrRest_J7_fill_d0a16 : GoodIn wsX1_quotientOrRest wsJ7_fill_d0a16 := goodIn_r _ [33] (by decide +kernel) (by decide +kernel)
set_option maxRecDepth 20000 in
theorem gX1_quotientOrRest_J7_fill_d0a16 : GoodIn wsX1_quotientOrRest (va_wsS RX1 46 yJ7_fill_d0a16 wsJ7_fill_d0a16) := goodIn_app (goodIn_of _ (by decide +kernel)) ggX1_quotientOrRest_J7_fill_d0a16
set_option maxRecDepth 20000 in
theorem ggX1_quotientOrRest_X0_takeOut : GoodIn wsX1_quotientOrRest wsX0_takeOut := goodIn_r _ [36, 37, 38, 8, 39, 26, 40, 41, 42, 43, 44, 45] (by decide +kernel) (by decide +kernel)
set_option maxRecDepth 20000 in
theorem gX1_quotientOrRest_X0_takeOut : GoodIn wsX1_quotientOrRest (va_wsS RX1 158 yX0_takeOut wsX0_takeOut) := goodIn_app (goodIn_of _ (by decide +kernel)) ggX1_quotientOrRest_X0_takeOut
set_option maxRecDepth 20000 in
theorem ggX1_quotientOrRest_X0_moveDown : GoodIn wsX1_quotientOrRest wsX0_moveDown := goodIn_r _ [48, 26, 27, 28, 8, 29] (by decide +kernel) (by decide +kernel)
set_option maxRecDepth 20000 in
theorem gX1_quotientOrRest_X0_moveDown : GoodIn wsX1_quotientOrRest (va_wsS RX1 100 yX0_moveDown wsX0_moveDown) := goodIn_app (goodIn_of _ (by decide +kernel)) ggX1_quotientOrRest_X0_moveDown
set_option maxRecDepth 20000 in
theorem ggX1_quotientOrRest_X1_store : GoodIn wsX1_quotientOrRest wsX1_store := goodIn_r _ [53, 1, 54, 55, 56, 57, 5, 6, 7, 8, 9, 58, 59, 60, 61, 62, 63, 64, 65, 66] (by decide +kernel) (by decide +kernel)
set_option maxRecDepth 20000 in
theorem gX1_quotientOrRest_X1_store : GoodIn wsX1_quotientOrRest (wsV RX1 54 RX1 yX1_store wsX1_store) := goodIn_app (goodIn_of _ (by decide +kernel)) ggX1_quotientOrRest_X1_store
set_option maxRecDepth 20000 in
theorem ggX1_bitByBit_X1_signedCopy : GoodIn wsX1_bitByBit wsX1_signedCopy := goodIn_r _ [7, 8, 9, 10, 11, 12, 13, 14, 15, 16, 17, 18, 19, 20, 21, 22, 23, 24, 40, 41, 42, 43, 44, 45, 46, 47, 48] (by decide +kernel) (by decide +kernel)
set_option maxRecDepth 20000 in
theorem gX1_bitByBit_X1_signedCopy : GoodIn wsX1_bitByBit (wsV RX1 162 RX1 yX1_signedCopy wsX1_signedCopy) := goodIn_app (goodIn_of _ (by decide +kernel)) ggX1_bitByBit_X1_signedCopy
set_option maxRecDepth 20000 in
theorem ggX1_bitByBit_X1_joined : GoodIn wsX1_bitByBit wsX1_joined := goodIn_r _ [27, 28] (by decide +kernel) (by decide +kernel)
set_option maxRecDepth 20000 in
theorem gX1_bitByBit_X1_joined : GoodIn wsX1_bitByBit (va_wsS RX1 166 yX1_joined wsX1_joined) := goodIn_app (goodIn_of _ (by decide +kernel)) ggX1_bitByBit_X1_joined
set_option maxRecDepth 20000 in
theorem ggX1_bitByBit_X0_negate : GoodIn wsX1_bitByBit wsX0_negate := goodIn_r _ [19, 20, 21, 22, 23, 12, 24] (by decide +kernel) (by decide +kernel)
set_option maxRecDepth 20000 in
theorem gX1_bitByBit_X0_negate : GoodIn wsX1_bitByBit (va_wsS RX1 170 yX0_negate wsX0_negate) := goodIn_app (goodIn_of _ (by decide +kernel)) ggX1_bitByBit_X0_negate
set_option maxRecDepth 20000 in
theorem ggX1_bitByBit_X1_store : GoodIn wsX1_bitByBit wsX1_store := goodIn_r _ [32, 8, 33, 34, 35, 36, 9, 37, 38, 12, 39, 40, 41, 42, 43, 44, 45, 46, 47, 48] (by decide +kernel) (by decide +kernel)
set_option maxRecDepth 20000 in
theorem gX1_bitByBit_X1_store : GoodIn wsX1_bitByBit (wsV RX1 54 RX1 yX1_store wsX1_store) := goodIn_app (goodIn_of _ (by decide +kernel)) ggX1_bitByBit_X1_store
set_option maxRecDepth 20000 in
theorem ggX1_signedCopy_X0_copy : GoodIn wsX1_signedCopy wsX0_copy := goodIn_r _ [6, 7, 8, 5, 9] (by decide +kernel) (by decide +kernel)
set_option maxRecDepth 20000 in
theorem gX1_signedCopy_X0_copy : GoodIn wsX1_signedCopy (va_wsS RX1 110 yX0_copy wsX0_copy) := goodIn_app (goodIn_of _ (by decide +kernel)) ggX1_signedCopy_X0_copy
set_option maxRecDepth 20000 in
theorem ggX1_signedCopy_X0_negate : GoodIn wsX1_signedCopy wsX0_negate := goodIn_r _ [12, 13, 14, 15, 16, 5, 17] (by decide +kernel) (by decide +kernel)
set_option maxRecDepth 20000 in
theorem gX1_signedCopy_X0_negate : GoodIn wsX1_signedCopy (va_wsS RX1 170 yX0_negate wsX0_negate) := goodIn_app (goodIn_of _ (by decide +kernel)) ggX1_signedCopy_X0_negate
set_option maxRecDepth 20000 in
theorem ggX1_putGroup_X1_put : GoodIn wsX1_putGroup wsX1_put := goodIn_r _ [5, 6, 7, 8, 9, 10, 11, 12, 13, 14, 15, 16] (by decide +kernel) (by decide +kernel)
set_option maxRecDepth 20000 in
theorem gX1_putGroup_X1_put : GoodIn wsX1_putGroup (wsV RX1 142 RX1 yX1_put wsX1_put) := goodIn_app (goodIn_of _ (by decide +kernel)) ggX1_putGroup_X1_put
set_option maxRecDepth 20000 in
theorem ggJ13_numberOfLeadingZeros_95d88_J6_numberOfLeadingZeros_0f7a4 : GoodIn wsJ13_numberOfLeadingZeros_95d88 wsJ6_numberOfLeadingZeros_0f7a4 := goodIn_r _ [4, 5] (by decide +kernel) (by decide +kernel)
set_option maxRecDepth 20000 in
theorem gJ13_numberOfLeadingZeros_95d88_J6_numberOfLeadingZeros_0f7a4 : GoodIn wsJ13_numberOfLeadingZeros_95d88 (va_wsS RJ13 308 yJ6_numberOfLeadingZeros_0f7a4 wsJ6_numberOfLeadingZeros_0f7a4) := goodIn_app (goodIn_of _ (by decide +kernel)) ggJ13_numberOfLeadingZeros_95d88_J6_numberOfLeadingZeros_0f7a4
set_option maxRecDepth 20000 in
theorem ggJ13_numberOfTrailingZeros_95d88_J6_numberOfTrailingZeros_0f7a4 : GoodIn wsJ13_numberOfTrailingZeros_95d88 wsJ6_numberOfTrailingZeros_0f7a4 := goodIn_r _ [4, 5] (by decide +kernel) (by decide +kernel)
set_option maxRecDepth 20000 in
theorem gJ13_numberOfTrailingZeros_95d88_J6_numberOfTrailingZeros_0f7a4 : GoodIn wsJ13_numberOfTrailingZeros_95d88 (va_wsS RJ13 311 yJ6_numberOfTrailingZeros_0f7a4 wsJ6_numberOfTrailingZeros_0f7a4) := goodIn_app (goodIn_of _ (by decide +kernel)) ggJ13_numberOfTrailingZeros_95d88_J6_numberOfTrailingZeros_0f7a4
end
section
theorem dX0_limbAt_0 : decode cX0_limbAt 0 = .ok (.iload_n 1, 1) := by decide +kernel
theorem dX0_limbAt_1 : decode cX0_limbAt 1 = .ok (.ifCond .lt 15, 3) := by decide +kernel
theorem dX0_limbAt_4 : decode cX0_limbAt 4 = .ok (.iload_n 1, 1) := by decide +kernel
theorem dX0_limbAt_5 : decode cX0_limbAt 5 = .ok (.aload_n 0, 1) := by decide +kernel
theorem dX0_limbAt_6 : decode cX0_limbAt 6 = .ok (.arraylength, 1) := by decide +kernel
theorem dX0_limbAt_7 : decode cX0_limbAt 7 = .ok (.if_icmp .ge 9, 3) := by decide +kernel
theorem dX0_limbAt_10 : decode cX0_limbAt 10 = .ok (.aload_n 0, 1) := by decide +kernel
theorem dX0_limbAt_11 : decode cX0_limbAt 11 = .ok (.iload_n 1, 1) := by decide +kernel
theorem dX0_limbAt_12 : decode cX0_limbAt 12 = .ok (.laload, 1) := by decide +kernel
theorem dX0_limbAt_13 : decode cX0_limbAt 13 = .ok (.goto 4, 3) := by decide +kernel
theorem dX0_limbAt_16 : decode cX0_limbAt 16 = .ok (.lconst 0, 1) := by decide +kernel
theorem dX0_limbAt_17 : decode cX0_limbAt 17 = .ok (.lreturn, 1) := by decide +kernel
theorem dX0_used_0 : decode cX0_used 0 = .ok (.aload_n 0, 1) := by decide +kernel
theorem dX0_used_1 : decode cX0_used 1 = .ok (.arraylength, 1) := by decide +kernel
theorem dX0_used_2 : decode cX0_used 2 = .ok (.iconst 1, 1) := by decide +kernel
theorem dX0_used_3 : decode cX0_used 3 = .ok (.isub, 1) := by decide +kernel
theorem dX0_used_4 : decode cX0_used 4 = .ok (.istore_n 1, 1) := by decide +kernel
theorem dX0_used_5 : decode cX0_used 5 = .ok (.iload_n 1, 1) := by decide +kernel
theorem dX0_used_6 : decode cX0_used 6 = .ok (.ifCond .lt 21, 3) := by decide +kernel
theorem dX0_used_9 : decode cX0_used 9 = .ok (.aload_n 0, 1) := by decide +kernel
theorem dX0_used_10 : decode cX0_used 10 = .ok (.iload_n 1, 1) := by decide +kernel
theorem dX0_used_11 : decode cX0_used 11 = .ok (.laload, 1) := by decide +kernel
theorem dX0_used_12 : decode cX0_used 12 = .ok (.lconst 0, 1) := by decide +kernel
theorem dX0_used_13 : decode cX0_used 13 = .ok (.lcmp, 1) := by decide +kernel
theorem dX0_used_14 : decode cX0_used 14 = .ok (.ifCond .eq 7, 3) := by decide +kernel
theorem dX0_used_17 : decode cX0_used 17 = .ok (.iload_n 1, 1) := by decide +kernel
theorem dX0_used_18 : decode cX0_used 18 = .ok (.iconst 1, 1) := by decide +kernel
theorem dX0_used_19 : decode cX0_used 19 = .ok (.iadd, 1) := by decide +kernel
theorem dX0_used_20 : decode cX0_used 20 = .ok (.ireturn, 1) := by decide +kernel
theorem dX0_used_21 : decode cX0_used 21 = .ok (.iinc 1 (-1), 3) := by decide +kernel
theorem dX0_used_24 : decode cX0_used 24 = .ok (.goto (-19), 3) := by decide +kernel
theorem dX0_used_27 : decode cX0_used 27 = .ok (.iconst 0, 1) := by decide +kernel
theorem dX0_used_28 : decode cX0_used 28 = .ok (.ireturn, 1) := by decide +kernel
theorem dX0_bitLength_0 : decode cX0_bitLength 0 = .ok (.aload_n 0, 1) := by decide +kernel
theorem dX0_bitLength_1 : decode cX0_bitLength 1 = .ok (.invokestatic 9, 3) := by decide +kernel
theorem dX0_bitLength_4 : decode cX0_bitLength 4 = .ok (.istore_n 1, 1) := by decide +kernel
theorem dX0_bitLength_5 : decode cX0_bitLength 5 = .ok (.iload_n 1, 1) := by decide +kernel
theorem dX0_bitLength_6 : decode cX0_bitLength 6 = .ok (.ifCond .ne 7, 3) := by decide +kernel
theorem dX0_bitLength_9 : decode cX0_bitLength 9 = .ok (.iconst 0, 1) := by decide +kernel
theorem dX0_bitLength_10 : decode cX0_bitLength 10 = .ok (.goto 19, 3) := by decide +kernel
theorem dX0_bitLength_13 : decode cX0_bitLength 13 = .ok (.iload_n 1, 1) := by decide +kernel
theorem dX0_bitLength_14 : decode cX0_bitLength 14 = .ok (.bipush 32, 2) := by decide +kernel
theorem dX0_bitLength_16 : decode cX0_bitLength 16 = .ok (.imul, 1) := by decide +kernel
theorem dX0_bitLength_17 : decode cX0_bitLength 17 = .ok (.aload_n 0, 1) := by decide +kernel
theorem dX0_bitLength_18 : decode cX0_bitLength 18 = .ok (.iload_n 1, 1) := by decide +kernel
theorem dX0_bitLength_19 : decode cX0_bitLength 19 = .ok (.iconst 1, 1) := by decide +kernel
theorem dX0_bitLength_20 : decode cX0_bitLength 20 = .ok (.isub, 1) := by decide +kernel
theorem dX0_bitLength_21 : decode cX0_bitLength 21 = .ok (.laload, 1) := by decide +kernel
theorem dX0_bitLength_22 : decode cX0_bitLength 22 = .ok (.invokestatic 15, 3) := by decide +kernel
theorem dX0_bitLength_25 : decode cX0_bitLength 25 = .ok (.bipush 32, 2) := by decide +kernel
theorem dX0_bitLength_27 : decode cX0_bitLength 27 = .ok (.isub, 1) := by decide +kernel
theorem dX0_bitLength_28 : decode cX0_bitLength 28 = .ok (.isub, 1) := by decide +kernel
theorem dX0_bitLength_29 : decode cX0_bitLength 29 = .ok (.ireturn, 1) := by decide +kernel
theorem dX0_lowZeros_0 : decode cX0_lowZeros 0 = .ok (.iconst 0, 1) := by decide +kernel
theorem dX0_lowZeros_1 : decode cX0_lowZeros 1 = .ok (.istore_n 1, 1) := by decide +kernel
theorem dX0_lowZeros_2 : decode cX0_lowZeros 2 = .ok (.iload_n 1, 1) := by decide +kernel
theorem dX0_lowZeros_3 : decode cX0_lowZeros 3 = .ok (.aload_n 0, 1) := by decide +kernel
theorem dX0_lowZeros_4 : decode cX0_lowZeros 4 = .ok (.arraylength, 1) := by decide +kernel
theorem dX0_lowZeros_5 : decode cX0_lowZeros 5 = .ok (.if_icmp .ge 29, 3) := by decide +kernel
theorem dX0_lowZeros_8 : decode cX0_lowZeros 8 = .ok (.aload_n 0, 1) := by decide +kernel
theorem dX0_lowZeros_9 : decode cX0_lowZeros 9 = .ok (.iload_n 1, 1) := by decide +kernel
theorem dX0_lowZeros_10 : decode cX0_lowZeros 10 = .ok (.laload, 1) := by decide +kernel
theorem dX0_lowZeros_11 : decode cX0_lowZeros 11 = .ok (.lconst 0, 1) := by decide +kernel
theorem dX0_lowZeros_12 : decode cX0_lowZeros 12 = .ok (.lcmp, 1) := by decide +kernel
theorem dX0_lowZeros_13 : decode cX0_lowZeros 13 = .ok (.ifCond .eq 15, 3) := by decide +kernel
theorem dX0_lowZeros_16 : decode cX0_lowZeros 16 = .ok (.iload_n 1, 1) := by decide +kernel
theorem dX0_lowZeros_17 : decode cX0_lowZeros 17 = .ok (.bipush 32, 2) := by decide +kernel
theorem dX0_lowZeros_19 : decode cX0_lowZeros 19 = .ok (.imul, 1) := by decide +kernel
theorem dX0_lowZeros_20 : decode cX0_lowZeros 20 = .ok (.aload_n 0, 1) := by decide +kernel
theorem dX0_lowZeros_21 : decode cX0_lowZeros 21 = .ok (.iload_n 1, 1) := by decide +kernel
theorem dX0_lowZeros_22 : decode cX0_lowZeros 22 = .ok (.laload, 1) := by decide +kernel
theorem dX0_lowZeros_23 : decode cX0_lowZeros 23 = .ok (.invokestatic 21, 3) := by decide +kernel
theorem dX0_lowZeros_26 : decode cX0_lowZeros 26 = .ok (.iadd, 1) := by decide +kernel
theorem dX0_lowZeros_27 : decode cX0_lowZeros 27 = .ok (.ireturn, 1) := by decide +kernel
theorem dX0_lowZeros_28 : decode cX0_lowZeros 28 = .ok (.iinc 1 1, 3) := by decide +kernel
theorem dX0_lowZeros_31 : decode cX0_lowZeros 31 = .ok (.goto (-29), 3) := by decide +kernel
theorem dX0_lowZeros_34 : decode cX0_lowZeros 34 = .ok (.aload_n 0, 1) := by decide +kernel
theorem dX0_lowZeros_35 : decode cX0_lowZeros 35 = .ok (.arraylength, 1) := by decide +kernel
theorem dX0_lowZeros_36 : decode cX0_lowZeros 36 = .ok (.bipush 32, 2) := by decide +kernel
theorem dX0_lowZeros_38 : decode cX0_lowZeros 38 = .ok (.imul, 1) := by decide +kernel
theorem dX0_lowZeros_39 : decode cX0_lowZeros 39 = .ok (.ireturn, 1) := by decide +kernel
theorem dX0_order_0 : decode cX0_order 0 = .ok (.bipush 15, 2) := by decide +kernel
theorem dX0_order_2 : decode cX0_order 2 = .ok (.istore_n 2, 1) := by decide +kernel
theorem dX0_order_3 : decode cX0_order 3 = .ok (.iload_n 2, 1) := by decide +kernel
theorem dX0_order_4 : decode cX0_order 4 = .ok (.ifCond .lt 43, 3) := by decide +kernel
theorem dX0_order_7 : decode cX0_order 7 = .ok (.aload_n 0, 1) := by decide +kernel
theorem dX0_order_8 : decode cX0_order 8 = .ok (.iload_n 2, 1) := by decide +kernel
theorem dX0_order_9 : decode cX0_order 9 = .ok (.invokestatic 24, 3) := by decide +kernel
theorem dX0_order_12 : decode cX0_order 12 = .ok (.aload_n 1, 1) := by decide +kernel
theorem dX0_order_13 : decode cX0_order 13 = .ok (.iload_n 2, 1) := by decide +kernel
theorem dX0_order_14 : decode cX0_order 14 = .ok (.invokestatic 24, 3) := by decide +kernel
theorem dX0_order_17 : decode cX0_order 17 = .ok (.lcmp, 1) := by decide +kernel
theorem dX0_order_18 : decode cX0_order 18 = .ok (.ifCond .eq 23, 3) := by decide +kernel
theorem dX0_order_21 : decode cX0_order 21 = .ok (.aload_n 0, 1) := by decide +kernel
theorem dX0_order_22 : decode cX0_order 22 = .ok (.iload_n 2, 1) := by decide +kernel
theorem dX0_order_23 : decode cX0_order 23 = .ok (.invokestatic 24, 3) := by decide +kernel
theorem dX0_order_26 : decode cX0_order 26 = .ok (.aload_n 1, 1) := by decide +kernel
theorem dX0_order_27 : decode cX0_order 27 = .ok (.iload_n 2, 1) := by decide +kernel
theorem dX0_order_28 : decode cX0_order 28 = .ok (.invokestatic 24, 3) := by decide +kernel
theorem dX0_order_31 : decode cX0_order 31 = .ok (.lcmp, 1) := by decide +kernel
theorem dX0_order_32 : decode cX0_order 32 = .ok (.ifCond .ge 7, 3) := by decide +kernel
theorem dX0_order_35 : decode cX0_order 35 = .ok (.iconst (-1), 1) := by decide +kernel
theorem dX0_order_36 : decode cX0_order 36 = .ok (.goto 4, 3) := by decide +kernel
theorem dX0_order_39 : decode cX0_order 39 = .ok (.iconst 1, 1) := by decide +kernel
theorem dX0_order_40 : decode cX0_order 40 = .ok (.ireturn, 1) := by decide +kernel
theorem dX0_order_41 : decode cX0_order 41 = .ok (.iinc 2 (-1), 3) := by decide +kernel
theorem dX0_order_44 : decode cX0_order 44 = .ok (.goto (-41), 3) := by decide +kernel
theorem dX0_order_47 : decode cX0_order 47 = .ok (.iconst 0, 1) := by decide +kernel
theorem dX0_order_48 : decode cX0_order 48 = .ok (.ireturn, 1) := by decide +kernel
theorem dX0_copy_0 : decode cX0_copy 0 = .ok (.iconst 0, 1) := by decide +kernel
theorem dX0_copy_1 : decode cX0_copy 1 = .ok (.istore_n 2, 1) := by decide +kernel
theorem dX0_copy_2 : decode cX0_copy 2 = .ok (.iload_n 2, 1) := by decide +kernel
theorem dX0_copy_3 : decode cX0_copy 3 = .ok (.aload_n 1, 1) := by decide +kernel
theorem dX0_copy_4 : decode cX0_copy 4 = .ok (.arraylength, 1) := by decide +kernel
theorem dX0_copy_5 : decode cX0_copy 5 = .ok (.if_icmp .ge 17, 3) := by decide +kernel
theorem dX0_copy_8 : decode cX0_copy 8 = .ok (.aload_n 1, 1) := by decide +kernel
theorem dX0_copy_9 : decode cX0_copy 9 = .ok (.iload_n 2, 1) := by decide +kernel
theorem dX0_copy_10 : decode cX0_copy 10 = .ok (.aload_n 0, 1) := by decide +kernel
theorem dX0_copy_11 : decode cX0_copy 11 = .ok (.iload_n 2, 1) := by decide +kernel
theorem dX0_copy_12 : decode cX0_copy 12 = .ok (.invokestatic 24, 3) := by decide +kernel
theorem dX0_copy_15 : decode cX0_copy 15 = .ok (.lastore, 1) := by decide +kernel
theorem dX0_copy_16 : decode cX0_copy 16 = .ok (.iinc 2 1, 3) := by decide +kernel
theorem dX0_copy_19 : decode cX0_copy 19 = .ok (.goto (-17), 3) := by decide +kernel
theorem dX0_copy_22 : decode cX0_copy 22 = .ok (.return_, 1) := by decide +kernel
theorem dX0_increase_0 : decode cX0_increase 0 = .ok (.iconst 0, 1) := by decide +kernel
theorem dX0_increase_1 : decode cX0_increase 1 = .ok (.istore_n 1, 1) := by decide +kernel
theorem dX0_increase_2 : decode cX0_increase 2 = .ok (.iload_n 1, 1) := by decide +kernel
theorem dX0_increase_3 : decode cX0_increase 3 = .ok (.aload_n 0, 1) := by decide +kernel
theorem dX0_increase_4 : decode cX0_increase 4 = .ok (.arraylength, 1) := by decide +kernel
theorem dX0_increase_5 : decode cX0_increase 5 = .ok (.if_icmp .ge 30, 3) := by decide +kernel
theorem dX0_increase_8 : decode cX0_increase 8 = .ok (.aload_n 0, 1) := by decide +kernel
theorem dX0_increase_9 : decode cX0_increase 9 = .ok (.iload_n 1, 1) := by decide +kernel
theorem dX0_increase_10 : decode cX0_increase 10 = .ok (.aload_n 0, 1) := by decide +kernel
theorem dX0_increase_11 : decode cX0_increase 11 = .ok (.iload_n 1, 1) := by decide +kernel
theorem dX0_increase_12 : decode cX0_increase 12 = .ok (.laload, 1) := by decide +kernel
theorem dX0_increase_13 : decode cX0_increase 13 = .ok (.lconst 1, 1) := by decide +kernel
theorem dX0_increase_14 : decode cX0_increase 14 = .ok (.ladd, 1) := by decide +kernel
theorem dX0_increase_15 : decode cX0_increase 15 = .ok (.ldc2_w 28, 3) := by decide +kernel
theorem dX0_increase_18 : decode cX0_increase 18 = .ok (.land, 1) := by decide +kernel
theorem dX0_increase_19 : decode cX0_increase 19 = .ok (.lastore, 1) := by decide +kernel
theorem dX0_increase_20 : decode cX0_increase 20 = .ok (.aload_n 0, 1) := by decide +kernel
theorem dX0_increase_21 : decode cX0_increase 21 = .ok (.iload_n 1, 1) := by decide +kernel
theorem dX0_increase_22 : decode cX0_increase 22 = .ok (.laload, 1) := by decide +kernel
theorem dX0_increase_23 : decode cX0_increase 23 = .ok (.lconst 0, 1) := by decide +kernel
theorem dX0_increase_24 : decode cX0_increase 24 = .ok (.lcmp, 1) := by decide +kernel
theorem dX0_increase_25 : decode cX0_increase 25 = .ok (.ifCond .eq 4, 3) := by decide +kernel
theorem dX0_increase_28 : decode cX0_increase 28 = .ok (.return_, 1) := by decide +kernel
theorem dX0_increase_29 : decode cX0_increase 29 = .ok (.iinc 1 1, 3) := by decide +kernel
theorem dX0_increase_32 : decode cX0_increase 32 = .ok (.goto (-30), 3) := by decide +kernel
theorem dX0_increase_35 : decode cX0_increase 35 = .ok (.return_, 1) := by decide +kernel
theorem dX0_decrease_0 : decode cX0_decrease 0 = .ok (.iconst 0, 1) := by decide +kernel
theorem dX0_decrease_1 : decode cX0_decrease 1 = .ok (.istore_n 1, 1) := by decide +kernel
theorem dX0_decrease_2 : decode cX0_decrease 2 = .ok (.iload_n 1, 1) := by decide +kernel
theorem dX0_decrease_3 : decode cX0_decrease 3 = .ok (.aload_n 0, 1) := by decide +kernel
theorem dX0_decrease_4 : decode cX0_decrease 4 = .ok (.arraylength, 1) := by decide +kernel
theorem dX0_decrease_5 : decode cX0_decrease 5 = .ok (.if_icmp .ge 32, 3) := by decide +kernel
theorem dX0_decrease_8 : decode cX0_decrease 8 = .ok (.aload_n 0, 1) := by decide +kernel
theorem dX0_decrease_9 : decode cX0_decrease 9 = .ok (.iload_n 1, 1) := by decide +kernel
theorem dX0_decrease_10 : decode cX0_decrease 10 = .ok (.aload_n 0, 1) := by decide +kernel
theorem dX0_decrease_11 : decode cX0_decrease 11 = .ok (.iload_n 1, 1) := by decide +kernel
theorem dX0_decrease_12 : decode cX0_decrease 12 = .ok (.laload, 1) := by decide +kernel
theorem dX0_decrease_13 : decode cX0_decrease 13 = .ok (.lconst 1, 1) := by decide +kernel
theorem dX0_decrease_14 : decode cX0_decrease 14 = .ok (.lsub, 1) := by decide +kernel
theorem dX0_decrease_15 : decode cX0_decrease 15 = .ok (.ldc2_w 28, 3) := by decide +kernel
theorem dX0_decrease_18 : decode cX0_decrease 18 = .ok (.land, 1) := by decide +kernel
theorem dX0_decrease_19 : decode cX0_decrease 19 = .ok (.lastore, 1) := by decide +kernel
theorem dX0_decrease_20 : decode cX0_decrease 20 = .ok (.aload_n 0, 1) := by decide +kernel
theorem dX0_decrease_21 : decode cX0_decrease 21 = .ok (.iload_n 1, 1) := by decide +kernel
theorem dX0_decrease_22 : decode cX0_decrease 22 = .ok (.laload, 1) := by decide +kernel
theorem dX0_decrease_23 : decode cX0_decrease 23 = .ok (.ldc2_w 28, 3) := by decide +kernel
theorem dX0_decrease_26 : decode cX0_decrease 26 = .ok (.lcmp, 1) := by decide +kernel
theorem dX0_decrease_27 : decode cX0_decrease 27 = .ok (.ifCond .eq 4, 3) := by decide +kernel
theorem dX0_decrease_30 : decode cX0_decrease 30 = .ok (.return_, 1) := by decide +kernel
theorem dX0_decrease_31 : decode cX0_decrease 31 = .ok (.iinc 1 1, 3) := by decide +kernel
theorem dX0_decrease_34 : decode cX0_decrease 34 = .ok (.goto (-32), 3) := by decide +kernel
theorem dX0_decrease_37 : decode cX0_decrease 37 = .ok (.return_, 1) := by decide +kernel
theorem dX0_negate_0 : decode cX0_negate 0 = .ok (.iconst 0, 1) := by decide +kernel
theorem dX0_negate_1 : decode cX0_negate 1 = .ok (.istore_n 1, 1) := by decide +kernel
theorem dX0_negate_2 : decode cX0_negate 2 = .ok (.iload_n 1, 1) := by decide +kernel
theorem dX0_negate_3 : decode cX0_negate 3 = .ok (.aload_n 0, 1) := by decide +kernel
theorem dX0_negate_4 : decode cX0_negate 4 = .ok (.arraylength, 1) := by decide +kernel
theorem dX0_negate_5 : decode cX0_negate 5 = .ok (.if_icmp .ge 23, 3) := by decide +kernel
theorem dX0_negate_8 : decode cX0_negate 8 = .ok (.aload_n 0, 1) := by decide +kernel
theorem dX0_negate_9 : decode cX0_negate 9 = .ok (.iload_n 1, 1) := by decide +kernel
theorem dX0_negate_10 : decode cX0_negate 10 = .ok (.aload_n 0, 1) := by decide +kernel
theorem dX0_negate_11 : decode cX0_negate 11 = .ok (.iload_n 1, 1) := by decide +kernel
theorem dX0_negate_12 : decode cX0_negate 12 = .ok (.laload, 1) := by decide +kernel
theorem dX0_negate_13 : decode cX0_negate 13 = .ok (.ldc2_w 30, 3) := by decide +kernel
theorem dX0_negate_16 : decode cX0_negate 16 = .ok (.lxor, 1) := by decide +kernel
theorem dX0_negate_17 : decode cX0_negate 17 = .ok (.ldc2_w 28, 3) := by decide +kernel
theorem dX0_negate_20 : decode cX0_negate 20 = .ok (.land, 1) := by decide +kernel
theorem dX0_negate_21 : decode cX0_negate 21 = .ok (.lastore, 1) := by decide +kernel
theorem dX0_negate_22 : decode cX0_negate 22 = .ok (.iinc 1 1, 3) := by decide +kernel
theorem dX0_negate_25 : decode cX0_negate 25 = .ok (.goto (-23), 3) := by decide +kernel
theorem dX0_negate_28 : decode cX0_negate 28 = .ok (.aload_n 0, 1) := by decide +kernel
theorem dX0_negate_29 : decode cX0_negate 29 = .ok (.invokestatic 32, 3) := by decide +kernel
theorem dX0_negate_32 : decode cX0_negate 32 = .ok (.return_, 1) := by decide +kernel
theorem dX0_add_0 : decode cX0_add 0 = .ok (.lconst 0, 1) := by decide +kernel
theorem dX0_add_1 : decode cX0_add 1 = .ok (.lstore_n 3, 1) := by decide +kernel
theorem dX0_add_2 : decode cX0_add 2 = .ok (.iconst 0, 1) := by decide +kernel
theorem dX0_add_3 : decode cX0_add 3 = .ok (.istore 5, 2) := by decide +kernel
theorem dX0_add_5 : decode cX0_add 5 = .ok (.iload 5, 2) := by decide +kernel
theorem dX0_add_7 : decode cX0_add 7 = .ok (.aload_n 2, 1) := by decide +kernel
theorem dX0_add_8 : decode cX0_add 8 = .ok (.arraylength, 1) := by decide +kernel
theorem dX0_add_9 : decode cX0_add 9 = .ok (.if_icmp .ge 42, 3) := by decide +kernel
theorem dX0_add_12 : decode cX0_add 12 = .ok (.aload_n 0, 1) := by decide +kernel
theorem dX0_add_13 : decode cX0_add 13 = .ok (.iload 5, 2) := by decide +kernel
theorem dX0_add_15 : decode cX0_add 15 = .ok (.invokestatic 24, 3) := by decide +kernel
theorem dX0_add_18 : decode cX0_add 18 = .ok (.aload_n 1, 1) := by decide +kernel
theorem dX0_add_19 : decode cX0_add 19 = .ok (.iload 5, 2) := by decide +kernel
theorem dX0_add_21 : decode cX0_add 21 = .ok (.invokestatic 24, 3) := by decide +kernel
theorem dX0_add_24 : decode cX0_add 24 = .ok (.ladd, 1) := by decide +kernel
theorem dX0_add_25 : decode cX0_add 25 = .ok (.lload_n 3, 1) := by decide +kernel
theorem dX0_add_26 : decode cX0_add 26 = .ok (.ladd, 1) := by decide +kernel
theorem dX0_add_27 : decode cX0_add 27 = .ok (.lstore 6, 2) := by decide +kernel
theorem dX0_add_29 : decode cX0_add 29 = .ok (.aload_n 2, 1) := by decide +kernel
theorem dX0_add_30 : decode cX0_add 30 = .ok (.iload 5, 2) := by decide +kernel
theorem dX0_add_32 : decode cX0_add 32 = .ok (.lload 6, 2) := by decide +kernel
theorem dX0_add_34 : decode cX0_add 34 = .ok (.ldc2_w 28, 3) := by decide +kernel
theorem dX0_add_37 : decode cX0_add 37 = .ok (.land, 1) := by decide +kernel
theorem dX0_add_38 : decode cX0_add 38 = .ok (.lastore, 1) := by decide +kernel
theorem dX0_add_39 : decode cX0_add 39 = .ok (.lload 6, 2) := by decide +kernel
theorem dX0_add_41 : decode cX0_add 41 = .ok (.bipush 32, 2) := by decide +kernel
theorem dX0_add_43 : decode cX0_add 43 = .ok (.lushr, 1) := by decide +kernel
theorem dX0_add_44 : decode cX0_add 44 = .ok (.lstore_n 3, 1) := by decide +kernel
theorem dX0_add_45 : decode cX0_add 45 = .ok (.iinc 5 1, 3) := by decide +kernel
theorem dX0_add_48 : decode cX0_add 48 = .ok (.goto (-43), 3) := by decide +kernel
theorem dX0_add_51 : decode cX0_add 51 = .ok (.return_, 1) := by decide +kernel
theorem dX0_subtract_0 : decode cX0_subtract 0 = .ok (.lconst 0, 1) := by decide +kernel
theorem dX0_subtract_1 : decode cX0_subtract 1 = .ok (.lstore_n 3, 1) := by decide +kernel
theorem dX0_subtract_2 : decode cX0_subtract 2 = .ok (.iconst 0, 1) := by decide +kernel
theorem dX0_subtract_3 : decode cX0_subtract 3 = .ok (.istore 5, 2) := by decide +kernel
theorem dX0_subtract_5 : decode cX0_subtract 5 = .ok (.iload 5, 2) := by decide +kernel
theorem dX0_subtract_7 : decode cX0_subtract 7 = .ok (.aload_n 2, 1) := by decide +kernel
theorem dX0_subtract_8 : decode cX0_subtract 8 = .ok (.arraylength, 1) := by decide +kernel
theorem dX0_subtract_9 : decode cX0_subtract 9 = .ok (.if_icmp .ge 49, 3) := by decide +kernel
theorem dX0_subtract_12 : decode cX0_subtract 12 = .ok (.aload_n 0, 1) := by decide +kernel
theorem dX0_subtract_13 : decode cX0_subtract 13 = .ok (.iload 5, 2) := by decide +kernel
theorem dX0_subtract_15 : decode cX0_subtract 15 = .ok (.invokestatic 24, 3) := by decide +kernel
theorem dX0_subtract_18 : decode cX0_subtract 18 = .ok (.aload_n 1, 1) := by decide +kernel
theorem dX0_subtract_19 : decode cX0_subtract 19 = .ok (.iload 5, 2) := by decide +kernel
theorem dX0_subtract_21 : decode cX0_subtract 21 = .ok (.invokestatic 24, 3) := by decide +kernel
theorem dX0_subtract_24 : decode cX0_subtract 24 = .ok (.lsub, 1) := by decide +kernel
theorem dX0_subtract_25 : decode cX0_subtract 25 = .ok (.lload_n 3, 1) := by decide +kernel
theorem dX0_subtract_26 : decode cX0_subtract 26 = .ok (.lsub, 1) := by decide +kernel
theorem dX0_subtract_27 : decode cX0_subtract 27 = .ok (.lstore 6, 2) := by decide +kernel
theorem dX0_subtract_29 : decode cX0_subtract 29 = .ok (.aload_n 2, 1) := by decide +kernel
theorem dX0_subtract_30 : decode cX0_subtract 30 = .ok (.iload 5, 2) := by decide +kernel
theorem dX0_subtract_32 : decode cX0_subtract 32 = .ok (.lload 6, 2) := by decide +kernel
theorem dX0_subtract_34 : decode cX0_subtract 34 = .ok (.ldc2_w 28, 3) := by decide +kernel
theorem dX0_subtract_37 : decode cX0_subtract 37 = .ok (.land, 1) := by decide +kernel
theorem dX0_subtract_38 : decode cX0_subtract 38 = .ok (.lastore, 1) := by decide +kernel
theorem dX0_subtract_39 : decode cX0_subtract 39 = .ok (.lload 6, 2) := by decide +kernel
theorem dX0_subtract_41 : decode cX0_subtract 41 = .ok (.lconst 0, 1) := by decide +kernel
theorem dX0_subtract_42 : decode cX0_subtract 42 = .ok (.lcmp, 1) := by decide +kernel
theorem dX0_subtract_43 : decode cX0_subtract 43 = .ok (.ifCond .ge 7, 3) := by decide +kernel
theorem dX0_subtract_46 : decode cX0_subtract 46 = .ok (.lconst 1, 1) := by decide +kernel
theorem dX0_subtract_47 : decode cX0_subtract 47 = .ok (.goto 4, 3) := by decide +kernel
theorem dX0_subtract_50 : decode cX0_subtract 50 = .ok (.lconst 0, 1) := by decide +kernel
theorem dX0_subtract_51 : decode cX0_subtract 51 = .ok (.lstore_n 3, 1) := by decide +kernel
theorem dX0_subtract_52 : decode cX0_subtract 52 = .ok (.iinc 5 1, 3) := by decide +kernel
theorem dX0_subtract_55 : decode cX0_subtract 55 = .ok (.goto (-50), 3) := by decide +kernel
theorem dX0_subtract_58 : decode cX0_subtract 58 = .ok (.return_, 1) := by decide +kernel
theorem dX0_multiply_0 : decode cX0_multiply 0 = .ok (.aload_n 2, 1) := by decide +kernel
theorem dX0_multiply_1 : decode cX0_multiply 1 = .ok (.lconst 0, 1) := by decide +kernel
theorem dX0_multiply_2 : decode cX0_multiply 2 = .ok (.invokestatic 36, 3) := by decide +kernel
theorem dX0_multiply_5 : decode cX0_multiply 5 = .ok (.aload_n 0, 1) := by decide +kernel
theorem dX0_multiply_6 : decode cX0_multiply 6 = .ok (.invokestatic 9, 3) := by decide +kernel
theorem dX0_multiply_9 : decode cX0_multiply 9 = .ok (.istore_n 3, 1) := by decide +kernel
theorem dX0_multiply_10 : decode cX0_multiply 10 = .ok (.aload_n 1, 1) := by decide +kernel
theorem dX0_multiply_11 : decode cX0_multiply 11 = .ok (.invokestatic 9, 3) := by decide +kernel
theorem dX0_multiply_14 : decode cX0_multiply 14 = .ok (.istore 4, 2) := by decide +kernel
theorem dX0_multiply_16 : decode cX0_multiply 16 = .ok (.iconst 0, 1) := by decide +kernel
theorem dX0_multiply_17 : decode cX0_multiply 17 = .ok (.istore 5, 2) := by decide +kernel
theorem dX0_multiply_19 : decode cX0_multiply 19 = .ok (.iload 5, 2) := by decide +kernel
theorem dX0_multiply_21 : decode cX0_multiply 21 = .ok (.iload_n 3, 1) := by decide +kernel
theorem dX0_multiply_22 : decode cX0_multiply 22 = .ok (.if_icmp .ge 89, 3) := by decide +kernel
theorem dX0_multiply_25 : decode cX0_multiply 25 = .ok (.iload 5, 2) := by decide +kernel
theorem dX0_multiply_27 : decode cX0_multiply 27 = .ok (.iload 4, 2) := by decide +kernel
theorem dX0_multiply_29 : decode cX0_multiply 29 = .ok (.iadd, 1) := by decide +kernel
theorem dX0_multiply_30 : decode cX0_multiply 30 = .ok (.aload_n 2, 1) := by decide +kernel
theorem dX0_multiply_31 : decode cX0_multiply 31 = .ok (.arraylength, 1) := by decide +kernel
theorem dX0_multiply_32 : decode cX0_multiply 32 = .ok (.if_icmp .ge 79, 3) := by decide +kernel
theorem dX0_multiply_35 : decode cX0_multiply 35 = .ok (.lconst 0, 1) := by decide +kernel
theorem dX0_multiply_36 : decode cX0_multiply 36 = .ok (.lstore 6, 2) := by decide +kernel
theorem dX0_multiply_38 : decode cX0_multiply 38 = .ok (.iconst 0, 1) := by decide +kernel
theorem dX0_multiply_39 : decode cX0_multiply 39 = .ok (.istore 8, 2) := by decide +kernel
theorem dX0_multiply_41 : decode cX0_multiply 41 = .ok (.iload 8, 2) := by decide +kernel
theorem dX0_multiply_43 : decode cX0_multiply 43 = .ok (.iload 4, 2) := by decide +kernel
theorem dX0_multiply_45 : decode cX0_multiply 45 = .ok (.if_icmp .ge 51, 3) := by decide +kernel
theorem dX0_multiply_48 : decode cX0_multiply 48 = .ok (.aload_n 0, 1) := by decide +kernel
theorem dX0_multiply_49 : decode cX0_multiply 49 = .ok (.iload 5, 2) := by decide +kernel
theorem dX0_multiply_51 : decode cX0_multiply 51 = .ok (.laload, 1) := by decide +kernel
theorem dX0_multiply_52 : decode cX0_multiply 52 = .ok (.aload_n 1, 1) := by decide +kernel
theorem dX0_multiply_53 : decode cX0_multiply 53 = .ok (.iload 8, 2) := by decide +kernel
theorem dX0_multiply_55 : decode cX0_multiply 55 = .ok (.laload, 1) := by decide +kernel
theorem dX0_multiply_56 : decode cX0_multiply 56 = .ok (.lmul, 1) := by decide +kernel
theorem dX0_multiply_57 : decode cX0_multiply 57 = .ok (.aload_n 2, 1) := by decide +kernel
theorem dX0_multiply_58 : decode cX0_multiply 58 = .ok (.iload 5, 2) := by decide +kernel
theorem dX0_multiply_60 : decode cX0_multiply 60 = .ok (.iload 8, 2) := by decide +kernel
theorem dX0_multiply_62 : decode cX0_multiply 62 = .ok (.iadd, 1) := by decide +kernel
theorem dX0_multiply_63 : decode cX0_multiply 63 = .ok (.laload, 1) := by decide +kernel
theorem dX0_multiply_64 : decode cX0_multiply 64 = .ok (.ladd, 1) := by decide +kernel
theorem dX0_multiply_65 : decode cX0_multiply 65 = .ok (.lload 6, 2) := by decide +kernel
theorem dX0_multiply_67 : decode cX0_multiply 67 = .ok (.ladd, 1) := by decide +kernel
theorem dX0_multiply_68 : decode cX0_multiply 68 = .ok (.lstore 9, 2) := by decide +kernel
theorem dX0_multiply_70 : decode cX0_multiply 70 = .ok (.aload_n 2, 1) := by decide +kernel
theorem dX0_multiply_71 : decode cX0_multiply 71 = .ok (.iload 5, 2) := by decide +kernel
theorem dX0_multiply_73 : decode cX0_multiply 73 = .ok (.iload 8, 2) := by decide +kernel
theorem dX0_multiply_75 : decode cX0_multiply 75 = .ok (.iadd, 1) := by decide +kernel
theorem dX0_multiply_76 : decode cX0_multiply 76 = .ok (.lload 9, 2) := by decide +kernel
theorem dX0_multiply_78 : decode cX0_multiply 78 = .ok (.ldc2_w 28, 3) := by decide +kernel
theorem dX0_multiply_81 : decode cX0_multiply 81 = .ok (.land, 1) := by decide +kernel
theorem dX0_multiply_82 : decode cX0_multiply 82 = .ok (.lastore, 1) := by decide +kernel
theorem dX0_multiply_83 : decode cX0_multiply 83 = .ok (.lload 9, 2) := by decide +kernel
theorem dX0_multiply_85 : decode cX0_multiply 85 = .ok (.bipush 32, 2) := by decide +kernel
theorem dX0_multiply_87 : decode cX0_multiply 87 = .ok (.lushr, 1) := by decide +kernel
theorem dX0_multiply_88 : decode cX0_multiply 88 = .ok (.lstore 6, 2) := by decide +kernel
theorem dX0_multiply_90 : decode cX0_multiply 90 = .ok (.iinc 8 1, 3) := by decide +kernel
theorem dX0_multiply_93 : decode cX0_multiply 93 = .ok (.goto (-52), 3) := by decide +kernel
theorem dX0_multiply_96 : decode cX0_multiply 96 = .ok (.aload_n 2, 1) := by decide +kernel
theorem dX0_multiply_97 : decode cX0_multiply 97 = .ok (.iload 5, 2) := by decide +kernel
theorem dX0_multiply_99 : decode cX0_multiply 99 = .ok (.iload 4, 2) := by decide +kernel
theorem dX0_multiply_101 : decode cX0_multiply 101 = .ok (.iadd, 1) := by decide +kernel
theorem dX0_multiply_102 : decode cX0_multiply 102 = .ok (.lload 6, 2) := by decide +kernel
theorem dX0_multiply_104 : decode cX0_multiply 104 = .ok (.lastore, 1) := by decide +kernel
theorem dX0_multiply_105 : decode cX0_multiply 105 = .ok (.iinc 5 1, 3) := by decide +kernel
theorem dX0_multiply_108 : decode cX0_multiply 108 = .ok (.goto (-89), 3) := by decide +kernel
theorem dX0_multiply_111 : decode cX0_multiply 111 = .ok (.return_, 1) := by decide +kernel
theorem dX0_multiplyAndAdd_0 : decode cX0_multiplyAndAdd 0 = .ok (.lload_n 3, 1) := by decide +kernel
theorem dX0_multiplyAndAdd_1 : decode cX0_multiplyAndAdd 1 = .ok (.lstore 5, 2) := by decide +kernel
theorem dX0_multiplyAndAdd_3 : decode cX0_multiplyAndAdd 3 = .ok (.iconst 0, 1) := by decide +kernel
theorem dX0_multiplyAndAdd_4 : decode cX0_multiplyAndAdd 4 = .ok (.istore 7, 2) := by decide +kernel
theorem dX0_multiplyAndAdd_6 : decode cX0_multiplyAndAdd 6 = .ok (.iload 7, 2) := by decide +kernel
theorem dX0_multiplyAndAdd_8 : decode cX0_multiplyAndAdd 8 = .ok (.aload_n 0, 1) := by decide +kernel
theorem dX0_multiplyAndAdd_9 : decode cX0_multiplyAndAdd 9 = .ok (.arraylength, 1) := by decide +kernel
theorem dX0_multiplyAndAdd_10 : decode cX0_multiplyAndAdd 10 = .ok (.if_icmp .ge 37, 3) := by decide +kernel
theorem dX0_multiplyAndAdd_13 : decode cX0_multiplyAndAdd 13 = .ok (.aload_n 0, 1) := by decide +kernel
theorem dX0_multiplyAndAdd_14 : decode cX0_multiplyAndAdd 14 = .ok (.iload 7, 2) := by decide +kernel
theorem dX0_multiplyAndAdd_16 : decode cX0_multiplyAndAdd 16 = .ok (.laload, 1) := by decide +kernel
theorem dX0_multiplyAndAdd_17 : decode cX0_multiplyAndAdd 17 = .ok (.lload_n 1, 1) := by decide +kernel
theorem dX0_multiplyAndAdd_18 : decode cX0_multiplyAndAdd 18 = .ok (.lmul, 1) := by decide +kernel
theorem dX0_multiplyAndAdd_19 : decode cX0_multiplyAndAdd 19 = .ok (.lload 5, 2) := by decide +kernel
theorem dX0_multiplyAndAdd_21 : decode cX0_multiplyAndAdd 21 = .ok (.ladd, 1) := by decide +kernel
theorem dX0_multiplyAndAdd_22 : decode cX0_multiplyAndAdd 22 = .ok (.lstore 8, 2) := by decide +kernel
theorem dX0_multiplyAndAdd_24 : decode cX0_multiplyAndAdd 24 = .ok (.aload_n 0, 1) := by decide +kernel
theorem dX0_multiplyAndAdd_25 : decode cX0_multiplyAndAdd 25 = .ok (.iload 7, 2) := by decide +kernel
theorem dX0_multiplyAndAdd_27 : decode cX0_multiplyAndAdd 27 = .ok (.lload 8, 2) := by decide +kernel
theorem dX0_multiplyAndAdd_29 : decode cX0_multiplyAndAdd 29 = .ok (.ldc2_w 28, 3) := by decide +kernel
theorem dX0_multiplyAndAdd_32 : decode cX0_multiplyAndAdd 32 = .ok (.land, 1) := by decide +kernel
theorem dX0_multiplyAndAdd_33 : decode cX0_multiplyAndAdd 33 = .ok (.lastore, 1) := by decide +kernel
theorem dX0_multiplyAndAdd_34 : decode cX0_multiplyAndAdd 34 = .ok (.lload 8, 2) := by decide +kernel
theorem dX0_multiplyAndAdd_36 : decode cX0_multiplyAndAdd 36 = .ok (.bipush 32, 2) := by decide +kernel
theorem dX0_multiplyAndAdd_38 : decode cX0_multiplyAndAdd 38 = .ok (.lushr, 1) := by decide +kernel
theorem dX0_multiplyAndAdd_39 : decode cX0_multiplyAndAdd 39 = .ok (.lstore 5, 2) := by decide +kernel
theorem dX0_multiplyAndAdd_41 : decode cX0_multiplyAndAdd 41 = .ok (.iinc 7 1, 3) := by decide +kernel
theorem dX0_multiplyAndAdd_44 : decode cX0_multiplyAndAdd 44 = .ok (.goto (-38), 3) := by decide +kernel
theorem dX0_multiplyAndAdd_47 : decode cX0_multiplyAndAdd 47 = .ok (.return_, 1) := by decide +kernel
theorem dX0_divideBySmall_0 : decode cX0_divideBySmall 0 = .ok (.lconst 0, 1) := by decide +kernel
theorem dX0_divideBySmall_1 : decode cX0_divideBySmall 1 = .ok (.lstore 4, 2) := by decide +kernel
theorem dX0_divideBySmall_3 : decode cX0_divideBySmall 3 = .ok (.lload_n 2, 1) := by decide +kernel
theorem dX0_divideBySmall_4 : decode cX0_divideBySmall 4 = .ok (.lconst 1, 1) := by decide +kernel
theorem dX0_divideBySmall_5 : decode cX0_divideBySmall 5 = .ok (.lcmp, 1) := by decide +kernel
theorem dX0_divideBySmall_6 : decode cX0_divideBySmall 6 = .ok (.ifCond .lt 17, 3) := by decide +kernel
theorem dX0_divideBySmall_9 : decode cX0_divideBySmall 9 = .ok (.lload_n 2, 1) := by decide +kernel
theorem dX0_divideBySmall_10 : decode cX0_divideBySmall 10 = .ok (.ldc2_w 42, 3) := by decide +kernel
theorem dX0_divideBySmall_13 : decode cX0_divideBySmall 13 = .ok (.lcmp, 1) := by decide +kernel
theorem dX0_divideBySmall_14 : decode cX0_divideBySmall 14 = .ok (.ifCond .gt 9, 3) := by decide +kernel
theorem dX0_divideBySmall_17 : decode cX0_divideBySmall 17 = .ok (.iload_n 1, 1) := by decide +kernel
theorem dX0_divideBySmall_18 : decode cX0_divideBySmall 18 = .ok (.aload_n 0, 1) := by decide +kernel
theorem dX0_divideBySmall_19 : decode cX0_divideBySmall 19 = .ok (.arraylength, 1) := by decide +kernel
theorem dX0_divideBySmall_20 : decode cX0_divideBySmall 20 = .ok (.if_icmp .le 6, 3) := by decide +kernel
theorem dX0_divideBySmall_23 : decode cX0_divideBySmall 23 = .ok (.lload 4, 2) := by decide +kernel
theorem dX0_divideBySmall_25 : decode cX0_divideBySmall 25 = .ok (.lreturn, 1) := by decide +kernel
theorem dX0_divideBySmall_26 : decode cX0_divideBySmall 26 = .ok (.iload_n 1, 1) := by decide +kernel
theorem dX0_divideBySmall_27 : decode cX0_divideBySmall 27 = .ok (.iconst 1, 1) := by decide +kernel
theorem dX0_divideBySmall_28 : decode cX0_divideBySmall 28 = .ok (.isub, 1) := by decide +kernel
theorem dX0_divideBySmall_29 : decode cX0_divideBySmall 29 = .ok (.istore 6, 2) := by decide +kernel
theorem dX0_divideBySmall_31 : decode cX0_divideBySmall 31 = .ok (.iload 6, 2) := by decide +kernel
theorem dX0_divideBySmall_33 : decode cX0_divideBySmall 33 = .ok (.ifCond .lt 35, 3) := by decide +kernel
theorem dX0_divideBySmall_36 : decode cX0_divideBySmall 36 = .ok (.lload 4, 2) := by decide +kernel
theorem dX0_divideBySmall_38 : decode cX0_divideBySmall 38 = .ok (.bipush 32, 2) := by decide +kernel
theorem dX0_divideBySmall_40 : decode cX0_divideBySmall 40 = .ok (.lshl, 1) := by decide +kernel
theorem dX0_divideBySmall_41 : decode cX0_divideBySmall 41 = .ok (.aload_n 0, 1) := by decide +kernel
theorem dX0_divideBySmall_42 : decode cX0_divideBySmall 42 = .ok (.iload 6, 2) := by decide +kernel
theorem dX0_divideBySmall_44 : decode cX0_divideBySmall 44 = .ok (.laload, 1) := by decide +kernel
theorem dX0_divideBySmall_45 : decode cX0_divideBySmall 45 = .ok (.lor, 1) := by decide +kernel
theorem dX0_divideBySmall_46 : decode cX0_divideBySmall 46 = .ok (.lstore 7, 2) := by decide +kernel
theorem dX0_divideBySmall_48 : decode cX0_divideBySmall 48 = .ok (.aload_n 0, 1) := by decide +kernel
theorem dX0_divideBySmall_49 : decode cX0_divideBySmall 49 = .ok (.iload 6, 2) := by decide +kernel
theorem dX0_divideBySmall_51 : decode cX0_divideBySmall 51 = .ok (.lload 7, 2) := by decide +kernel
theorem dX0_divideBySmall_53 : decode cX0_divideBySmall 53 = .ok (.lload_n 2, 1) := by decide +kernel
theorem dX0_divideBySmall_54 : decode cX0_divideBySmall 54 = .ok (.ldiv, 1) := by decide +kernel
theorem dX0_divideBySmall_55 : decode cX0_divideBySmall 55 = .ok (.lastore, 1) := by decide +kernel
theorem dX0_divideBySmall_56 : decode cX0_divideBySmall 56 = .ok (.lload 7, 2) := by decide +kernel
theorem dX0_divideBySmall_58 : decode cX0_divideBySmall 58 = .ok (.lload_n 2, 1) := by decide +kernel
theorem dX0_divideBySmall_59 : decode cX0_divideBySmall 59 = .ok (.lrem, 1) := by decide +kernel
theorem dX0_divideBySmall_60 : decode cX0_divideBySmall 60 = .ok (.lstore 4, 2) := by decide +kernel
theorem dX0_divideBySmall_62 : decode cX0_divideBySmall 62 = .ok (.iinc 6 (-1), 3) := by decide +kernel
theorem dX0_divideBySmall_65 : decode cX0_divideBySmall 65 = .ok (.goto (-34), 3) := by decide +kernel
theorem dX0_divideBySmall_68 : decode cX0_divideBySmall 68 = .ok (.lload 4, 2) := by decide +kernel
theorem dX0_divideBySmall_70 : decode cX0_divideBySmall 70 = .ok (.lreturn, 1) := by decide +kernel
theorem dX0_moveUp_0 : decode cX0_moveUp 0 = .ok (.iload_n 1, 1) := by decide +kernel
theorem dX0_moveUp_1 : decode cX0_moveUp 1 = .ok (.bipush 32, 2) := by decide +kernel
theorem dX0_moveUp_3 : decode cX0_moveUp 3 = .ok (.idiv, 1) := by decide +kernel
theorem dX0_moveUp_4 : decode cX0_moveUp 4 = .ok (.istore_n 3, 1) := by decide +kernel
theorem dX0_moveUp_5 : decode cX0_moveUp 5 = .ok (.iload_n 1, 1) := by decide +kernel
theorem dX0_moveUp_6 : decode cX0_moveUp 6 = .ok (.bipush 32, 2) := by decide +kernel
theorem dX0_moveUp_8 : decode cX0_moveUp 8 = .ok (.irem, 1) := by decide +kernel
theorem dX0_moveUp_9 : decode cX0_moveUp 9 = .ok (.istore 4, 2) := by decide +kernel
theorem dX0_moveUp_11 : decode cX0_moveUp 11 = .ok (.iconst 0, 1) := by decide +kernel
theorem dX0_moveUp_12 : decode cX0_moveUp 12 = .ok (.istore 5, 2) := by decide +kernel
theorem dX0_moveUp_14 : decode cX0_moveUp 14 = .ok (.iload 5, 2) := by decide +kernel
theorem dX0_moveUp_16 : decode cX0_moveUp 16 = .ok (.aload_n 2, 1) := by decide +kernel
theorem dX0_moveUp_17 : decode cX0_moveUp 17 = .ok (.arraylength, 1) := by decide +kernel
theorem dX0_moveUp_18 : decode cX0_moveUp 18 = .ok (.if_icmp .ge 53, 3) := by decide +kernel
theorem dX0_moveUp_21 : decode cX0_moveUp 21 = .ok (.aload_n 0, 1) := by decide +kernel
theorem dX0_moveUp_22 : decode cX0_moveUp 22 = .ok (.iload 5, 2) := by decide +kernel
theorem dX0_moveUp_24 : decode cX0_moveUp 24 = .ok (.iload_n 3, 1) := by decide +kernel
theorem dX0_moveUp_25 : decode cX0_moveUp 25 = .ok (.isub, 1) := by decide +kernel
theorem dX0_moveUp_26 : decode cX0_moveUp 26 = .ok (.invokestatic 24, 3) := by decide +kernel
theorem dX0_moveUp_29 : decode cX0_moveUp 29 = .ok (.iload 4, 2) := by decide +kernel
theorem dX0_moveUp_31 : decode cX0_moveUp 31 = .ok (.lshl, 1) := by decide +kernel
theorem dX0_moveUp_32 : decode cX0_moveUp 32 = .ok (.lstore 6, 2) := by decide +kernel
theorem dX0_moveUp_34 : decode cX0_moveUp 34 = .ok (.aload_n 0, 1) := by decide +kernel
theorem dX0_moveUp_35 : decode cX0_moveUp 35 = .ok (.iload 5, 2) := by decide +kernel
theorem dX0_moveUp_37 : decode cX0_moveUp 37 = .ok (.iload_n 3, 1) := by decide +kernel
theorem dX0_moveUp_38 : decode cX0_moveUp 38 = .ok (.isub, 1) := by decide +kernel
theorem dX0_moveUp_39 : decode cX0_moveUp 39 = .ok (.iconst 1, 1) := by decide +kernel
theorem dX0_moveUp_40 : decode cX0_moveUp 40 = .ok (.isub, 1) := by decide +kernel
theorem dX0_moveUp_41 : decode cX0_moveUp 41 = .ok (.invokestatic 24, 3) := by decide +kernel
theorem dX0_moveUp_44 : decode cX0_moveUp 44 = .ok (.bipush 32, 2) := by decide +kernel
theorem dX0_moveUp_46 : decode cX0_moveUp 46 = .ok (.iload 4, 2) := by decide +kernel
theorem dX0_moveUp_48 : decode cX0_moveUp 48 = .ok (.isub, 1) := by decide +kernel
theorem dX0_moveUp_49 : decode cX0_moveUp 49 = .ok (.lushr, 1) := by decide +kernel
theorem dX0_moveUp_50 : decode cX0_moveUp 50 = .ok (.lstore 8, 2) := by decide +kernel
theorem dX0_moveUp_52 : decode cX0_moveUp 52 = .ok (.aload_n 2, 1) := by decide +kernel
theorem dX0_moveUp_53 : decode cX0_moveUp 53 = .ok (.iload 5, 2) := by decide +kernel
theorem dX0_moveUp_55 : decode cX0_moveUp 55 = .ok (.lload 6, 2) := by decide +kernel
theorem dX0_moveUp_57 : decode cX0_moveUp 57 = .ok (.lload 8, 2) := by decide +kernel
theorem dX0_moveUp_59 : decode cX0_moveUp 59 = .ok (.lor, 1) := by decide +kernel
theorem dX0_moveUp_60 : decode cX0_moveUp 60 = .ok (.ldc2_w 28, 3) := by decide +kernel
theorem dX0_moveUp_63 : decode cX0_moveUp 63 = .ok (.land, 1) := by decide +kernel
theorem dX0_moveUp_64 : decode cX0_moveUp 64 = .ok (.lastore, 1) := by decide +kernel
theorem dX0_moveUp_65 : decode cX0_moveUp 65 = .ok (.iinc 5 1, 3) := by decide +kernel
theorem dX0_moveUp_68 : decode cX0_moveUp 68 = .ok (.goto (-54), 3) := by decide +kernel
theorem dX0_moveUp_71 : decode cX0_moveUp 71 = .ok (.return_, 1) := by decide +kernel
theorem dX0_moveDown_0 : decode cX0_moveDown 0 = .ok (.iload_n 1, 1) := by decide +kernel
theorem dX0_moveDown_1 : decode cX0_moveDown 1 = .ok (.bipush 32, 2) := by decide +kernel
theorem dX0_moveDown_3 : decode cX0_moveDown 3 = .ok (.idiv, 1) := by decide +kernel
theorem dX0_moveDown_4 : decode cX0_moveDown 4 = .ok (.istore_n 3, 1) := by decide +kernel
theorem dX0_moveDown_5 : decode cX0_moveDown 5 = .ok (.iload_n 1, 1) := by decide +kernel
theorem dX0_moveDown_6 : decode cX0_moveDown 6 = .ok (.bipush 32, 2) := by decide +kernel
theorem dX0_moveDown_8 : decode cX0_moveDown 8 = .ok (.irem, 1) := by decide +kernel
theorem dX0_moveDown_9 : decode cX0_moveDown 9 = .ok (.istore 4, 2) := by decide +kernel
theorem dX0_moveDown_11 : decode cX0_moveDown 11 = .ok (.iconst 0, 1) := by decide +kernel
theorem dX0_moveDown_12 : decode cX0_moveDown 12 = .ok (.istore 5, 2) := by decide +kernel
theorem dX0_moveDown_14 : decode cX0_moveDown 14 = .ok (.iload 5, 2) := by decide +kernel
theorem dX0_moveDown_16 : decode cX0_moveDown 16 = .ok (.aload_n 2, 1) := by decide +kernel
theorem dX0_moveDown_17 : decode cX0_moveDown 17 = .ok (.arraylength, 1) := by decide +kernel
theorem dX0_moveDown_18 : decode cX0_moveDown 18 = .ok (.if_icmp .ge 53, 3) := by decide +kernel
theorem dX0_moveDown_21 : decode cX0_moveDown 21 = .ok (.aload_n 0, 1) := by decide +kernel
theorem dX0_moveDown_22 : decode cX0_moveDown 22 = .ok (.iload 5, 2) := by decide +kernel
theorem dX0_moveDown_24 : decode cX0_moveDown 24 = .ok (.iload_n 3, 1) := by decide +kernel
theorem dX0_moveDown_25 : decode cX0_moveDown 25 = .ok (.iadd, 1) := by decide +kernel
theorem dX0_moveDown_26 : decode cX0_moveDown 26 = .ok (.invokestatic 24, 3) := by decide +kernel
theorem dX0_moveDown_29 : decode cX0_moveDown 29 = .ok (.iload 4, 2) := by decide +kernel
theorem dX0_moveDown_31 : decode cX0_moveDown 31 = .ok (.lushr, 1) := by decide +kernel
theorem dX0_moveDown_32 : decode cX0_moveDown 32 = .ok (.lstore 6, 2) := by decide +kernel
theorem dX0_moveDown_34 : decode cX0_moveDown 34 = .ok (.aload_n 0, 1) := by decide +kernel
theorem dX0_moveDown_35 : decode cX0_moveDown 35 = .ok (.iload 5, 2) := by decide +kernel
theorem dX0_moveDown_37 : decode cX0_moveDown 37 = .ok (.iload_n 3, 1) := by decide +kernel
theorem dX0_moveDown_38 : decode cX0_moveDown 38 = .ok (.iadd, 1) := by decide +kernel
theorem dX0_moveDown_39 : decode cX0_moveDown 39 = .ok (.iconst 1, 1) := by decide +kernel
theorem dX0_moveDown_40 : decode cX0_moveDown 40 = .ok (.iadd, 1) := by decide +kernel
theorem dX0_moveDown_41 : decode cX0_moveDown 41 = .ok (.invokestatic 24, 3) := by decide +kernel
theorem dX0_moveDown_44 : decode cX0_moveDown 44 = .ok (.bipush 32, 2) := by decide +kernel
theorem dX0_moveDown_46 : decode cX0_moveDown 46 = .ok (.iload 4, 2) := by decide +kernel
theorem dX0_moveDown_48 : decode cX0_moveDown 48 = .ok (.isub, 1) := by decide +kernel
theorem dX0_moveDown_49 : decode cX0_moveDown 49 = .ok (.lshl, 1) := by decide +kernel
theorem dX0_moveDown_50 : decode cX0_moveDown 50 = .ok (.lstore 8, 2) := by decide +kernel
theorem dX0_moveDown_52 : decode cX0_moveDown 52 = .ok (.aload_n 2, 1) := by decide +kernel
theorem dX0_moveDown_53 : decode cX0_moveDown 53 = .ok (.iload 5, 2) := by decide +kernel
theorem dX0_moveDown_55 : decode cX0_moveDown 55 = .ok (.lload 8, 2) := by decide +kernel
theorem dX0_moveDown_57 : decode cX0_moveDown 57 = .ok (.lload 6, 2) := by decide +kernel
theorem dX0_moveDown_59 : decode cX0_moveDown 59 = .ok (.lor, 1) := by decide +kernel
theorem dX0_moveDown_60 : decode cX0_moveDown 60 = .ok (.ldc2_w 28, 3) := by decide +kernel
theorem dX0_moveDown_63 : decode cX0_moveDown 63 = .ok (.land, 1) := by decide +kernel
theorem dX0_moveDown_64 : decode cX0_moveDown 64 = .ok (.lastore, 1) := by decide +kernel
theorem dX0_moveDown_65 : decode cX0_moveDown 65 = .ok (.iinc 5 1, 3) := by decide +kernel
theorem dX0_moveDown_68 : decode cX0_moveDown 68 = .ok (.goto (-54), 3) := by decide +kernel
theorem dX0_moveDown_71 : decode cX0_moveDown 71 = .ok (.return_, 1) := by decide +kernel
theorem dX0_takeOut_0 : decode cX0_takeOut 0 = .ok (.iload_n 3, 1) := by decide +kernel
theorem dX0_takeOut_1 : decode cX0_takeOut 1 = .ok (.iload_n 2, 1) := by decide +kernel
theorem dX0_takeOut_2 : decode cX0_takeOut 2 = .ok (.iadd, 1) := by decide +kernel
theorem dX0_takeOut_3 : decode cX0_takeOut 3 = .ok (.istore 4, 2) := by decide +kernel
theorem dX0_takeOut_5 : decode cX0_takeOut 5 = .ok (.iload_n 2, 1) := by decide +kernel
theorem dX0_takeOut_6 : decode cX0_takeOut 6 = .ok (.iconst 1, 1) := by decide +kernel
theorem dX0_takeOut_7 : decode cX0_takeOut 7 = .ok (.if_icmp .lt 20, 3) := by decide +kernel
theorem dX0_takeOut_10 : decode cX0_takeOut 10 = .ok (.iload_n 2, 1) := by decide +kernel
theorem dX0_takeOut_11 : decode cX0_takeOut 11 = .ok (.aload_n 1, 1) := by decide +kernel
theorem dX0_takeOut_12 : decode cX0_takeOut 12 = .ok (.arraylength, 1) := by decide +kernel
theorem dX0_takeOut_13 : decode cX0_takeOut 13 = .ok (.if_icmp .gt 14, 3) := by decide +kernel
theorem dX0_takeOut_16 : decode cX0_takeOut 16 = .ok (.iload_n 3, 1) := by decide +kernel
theorem dX0_takeOut_17 : decode cX0_takeOut 17 = .ok (.ifCond .lt 10, 3) := by decide +kernel
theorem dX0_takeOut_20 : decode cX0_takeOut 20 = .ok (.iload 4, 2) := by decide +kernel
theorem dX0_takeOut_22 : decode cX0_takeOut 22 = .ok (.aload_n 0, 1) := by decide +kernel
theorem dX0_takeOut_23 : decode cX0_takeOut 23 = .ok (.arraylength, 1) := by decide +kernel
theorem dX0_takeOut_24 : decode cX0_takeOut 24 = .ok (.if_icmp .lt 5, 3) := by decide +kernel
theorem dX0_takeOut_27 : decode cX0_takeOut 27 = .ok (.lconst 0, 1) := by decide +kernel
theorem dX0_takeOut_28 : decode cX0_takeOut 28 = .ok (.lreturn, 1) := by decide +kernel
theorem dX0_takeOut_29 : decode cX0_takeOut 29 = .ok (.aload_n 0, 1) := by decide +kernel
theorem dX0_takeOut_30 : decode cX0_takeOut 30 = .ok (.iload 4, 2) := by decide +kernel
theorem dX0_takeOut_32 : decode cX0_takeOut 32 = .ok (.laload, 1) := by decide +kernel
theorem dX0_takeOut_33 : decode cX0_takeOut 33 = .ok (.aload_n 0, 1) := by decide +kernel
theorem dX0_takeOut_34 : decode cX0_takeOut 34 = .ok (.iload 4, 2) := by decide +kernel
theorem dX0_takeOut_36 : decode cX0_takeOut 36 = .ok (.iconst 1, 1) := by decide +kernel
theorem dX0_takeOut_37 : decode cX0_takeOut 37 = .ok (.isub, 1) := by decide +kernel
theorem dX0_takeOut_38 : decode cX0_takeOut 38 = .ok (.laload, 1) := by decide +kernel
theorem dX0_takeOut_39 : decode cX0_takeOut 39 = .ok (.aload_n 1, 1) := by decide +kernel
theorem dX0_takeOut_40 : decode cX0_takeOut 40 = .ok (.iload_n 2, 1) := by decide +kernel
theorem dX0_takeOut_41 : decode cX0_takeOut 41 = .ok (.iconst 1, 1) := by decide +kernel
theorem dX0_takeOut_42 : decode cX0_takeOut 42 = .ok (.isub, 1) := by decide +kernel
theorem dX0_takeOut_43 : decode cX0_takeOut 43 = .ok (.laload, 1) := by decide +kernel
theorem dX0_takeOut_44 : decode cX0_takeOut 44 = .ok (.invokestatic 44, 3) := by decide +kernel
theorem dX0_takeOut_47 : decode cX0_takeOut 47 = .ok (.lstore 5, 2) := by decide +kernel
theorem dX0_takeOut_49 : decode cX0_takeOut 49 = .ok (.aload_n 0, 1) := by decide +kernel
theorem dX0_takeOut_50 : decode cX0_takeOut 50 = .ok (.aload_n 1, 1) := by decide +kernel
theorem dX0_takeOut_51 : decode cX0_takeOut 51 = .ok (.iload_n 2, 1) := by decide +kernel
theorem dX0_takeOut_52 : decode cX0_takeOut 52 = .ok (.iload_n 3, 1) := by decide +kernel
theorem dX0_takeOut_53 : decode cX0_takeOut 53 = .ok (.lload 5, 2) := by decide +kernel
theorem dX0_takeOut_55 : decode cX0_takeOut 55 = .ok (.invokestatic 48, 3) := by decide +kernel
theorem dX0_takeOut_58 : decode cX0_takeOut 58 = .ok (.istore 7, 2) := by decide +kernel
theorem dX0_takeOut_60 : decode cX0_takeOut 60 = .ok (.iconst 0, 1) := by decide +kernel
theorem dX0_takeOut_61 : decode cX0_takeOut 61 = .ok (.istore 8, 2) := by decide +kernel
theorem dX0_takeOut_63 : decode cX0_takeOut 63 = .ok (.iload 8, 2) := by decide +kernel
theorem dX0_takeOut_65 : decode cX0_takeOut 65 = .ok (.iconst 2, 1) := by decide +kernel
theorem dX0_takeOut_66 : decode cX0_takeOut 66 = .ok (.if_icmp .ge 37, 3) := by decide +kernel
theorem dX0_takeOut_69 : decode cX0_takeOut 69 = .ok (.iload 7, 2) := by decide +kernel
theorem dX0_takeOut_71 : decode cX0_takeOut 71 = .ok (.ifCond .eq 32, 3) := by decide +kernel
theorem dX0_takeOut_74 : decode cX0_takeOut 74 = .ok (.lload 5, 2) := by decide +kernel
theorem dX0_takeOut_76 : decode cX0_takeOut 76 = .ok (.lconst 1, 1) := by decide +kernel
theorem dX0_takeOut_77 : decode cX0_takeOut 77 = .ok (.lsub, 1) := by decide +kernel
theorem dX0_takeOut_78 : decode cX0_takeOut 78 = .ok (.lstore 5, 2) := by decide +kernel
theorem dX0_takeOut_80 : decode cX0_takeOut 80 = .ok (.aload_n 0, 1) := by decide +kernel
theorem dX0_takeOut_81 : decode cX0_takeOut 81 = .ok (.aload_n 1, 1) := by decide +kernel
theorem dX0_takeOut_82 : decode cX0_takeOut 82 = .ok (.iload_n 2, 1) := by decide +kernel
theorem dX0_takeOut_83 : decode cX0_takeOut 83 = .ok (.iload_n 3, 1) := by decide +kernel
theorem dX0_takeOut_84 : decode cX0_takeOut 84 = .ok (.invokestatic 52, 3) := by decide +kernel
theorem dX0_takeOut_87 : decode cX0_takeOut 87 = .ok (.ifCond .ne 7, 3) := by decide +kernel
theorem dX0_takeOut_90 : decode cX0_takeOut 90 = .ok (.iconst 1, 1) := by decide +kernel
theorem dX0_takeOut_91 : decode cX0_takeOut 91 = .ok (.goto 4, 3) := by decide +kernel
theorem dX0_takeOut_94 : decode cX0_takeOut 94 = .ok (.iconst 0, 1) := by decide +kernel
theorem dX0_takeOut_95 : decode cX0_takeOut 95 = .ok (.istore 7, 2) := by decide +kernel
theorem dX0_takeOut_97 : decode cX0_takeOut 97 = .ok (.iinc 8 1, 3) := by decide +kernel
theorem dX0_takeOut_100 : decode cX0_takeOut 100 = .ok (.goto (-37), 3) := by decide +kernel
theorem dX0_takeOut_103 : decode cX0_takeOut 103 = .ok (.lload 5, 2) := by decide +kernel
theorem dX0_takeOut_105 : decode cX0_takeOut 105 = .ok (.lreturn, 1) := by decide +kernel
theorem dX0_guess_0 : decode cX0_guess 0 = .ok (.lload_n 0, 1) := by decide +kernel
theorem dX0_guess_1 : decode cX0_guess 1 = .ok (.lload 4, 2) := by decide +kernel
theorem dX0_guess_3 : decode cX0_guess 3 = .ok (.lcmp, 1) := by decide +kernel
theorem dX0_guess_4 : decode cX0_guess 4 = .ok (.ifCond .lt 7, 3) := by decide +kernel
theorem dX0_guess_7 : decode cX0_guess 7 = .ok (.ldc2_w 28, 3) := by decide +kernel
theorem dX0_guess_10 : decode cX0_guess 10 = .ok (.lreturn, 1) := by decide +kernel
theorem dX0_guess_11 : decode cX0_guess 11 = .ok (.lload_n 0, 1) := by decide +kernel
theorem dX0_guess_12 : decode cX0_guess 12 = .ok (.bipush 32, 2) := by decide +kernel
theorem dX0_guess_14 : decode cX0_guess 14 = .ok (.lshl, 1) := by decide +kernel
theorem dX0_guess_15 : decode cX0_guess 15 = .ok (.lload_n 2, 1) := by decide +kernel
theorem dX0_guess_16 : decode cX0_guess 16 = .ok (.lor, 1) := by decide +kernel
theorem dX0_guess_17 : decode cX0_guess 17 = .ok (.lstore 6, 2) := by decide +kernel
theorem dX0_guess_19 : decode cX0_guess 19 = .ok (.lload 6, 2) := by decide +kernel
theorem dX0_guess_21 : decode cX0_guess 21 = .ok (.iconst 1, 1) := by decide +kernel
theorem dX0_guess_22 : decode cX0_guess 22 = .ok (.lushr, 1) := by decide +kernel
theorem dX0_guess_23 : decode cX0_guess 23 = .ok (.lload 4, 2) := by decide +kernel
theorem dX0_guess_25 : decode cX0_guess 25 = .ok (.ldiv, 1) := by decide +kernel
theorem dX0_guess_26 : decode cX0_guess 26 = .ok (.iconst 1, 1) := by decide +kernel
theorem dX0_guess_27 : decode cX0_guess 27 = .ok (.lshl, 1) := by decide +kernel
theorem dX0_guess_28 : decode cX0_guess 28 = .ok (.lstore 8, 2) := by decide +kernel
theorem dX0_guess_30 : decode cX0_guess 30 = .ok (.lload 6, 2) := by decide +kernel
theorem dX0_guess_32 : decode cX0_guess 32 = .ok (.lload 8, 2) := by decide +kernel
theorem dX0_guess_34 : decode cX0_guess 34 = .ok (.lload 4, 2) := by decide +kernel
theorem dX0_guess_36 : decode cX0_guess 36 = .ok (.lmul, 1) := by decide +kernel
theorem dX0_guess_37 : decode cX0_guess 37 = .ok (.lsub, 1) := by decide +kernel
theorem dX0_guess_38 : decode cX0_guess 38 = .ok (.lload 4, 2) := by decide +kernel
theorem dX0_guess_40 : decode cX0_guess 40 = .ok (.lcmp, 1) := by decide +kernel
theorem dX0_guess_41 : decode cX0_guess 41 = .ok (.ifCond .lt 10, 3) := by decide +kernel
theorem dX0_guess_44 : decode cX0_guess 44 = .ok (.lload 8, 2) := by decide +kernel
theorem dX0_guess_46 : decode cX0_guess 46 = .ok (.lconst 1, 1) := by decide +kernel
theorem dX0_guess_47 : decode cX0_guess 47 = .ok (.ladd, 1) := by decide +kernel
theorem dX0_guess_48 : decode cX0_guess 48 = .ok (.goto 5, 3) := by decide +kernel
theorem dX0_guess_51 : decode cX0_guess 51 = .ok (.lload 8, 2) := by decide +kernel
theorem dX0_guess_53 : decode cX0_guess 53 = .ok (.lreturn, 1) := by decide +kernel
theorem dX0_subtractProduct_0 : decode cX0_subtractProduct 0 = .ok (.lconst 0, 1) := by decide +kernel
theorem dX0_subtractProduct_1 : decode cX0_subtractProduct 1 = .ok (.lstore 6, 2) := by decide +kernel
theorem dX0_subtractProduct_3 : decode cX0_subtractProduct 3 = .ok (.iconst 0, 1) := by decide +kernel
theorem dX0_subtractProduct_4 : decode cX0_subtractProduct 4 = .ok (.istore 8, 2) := by decide +kernel
theorem dX0_subtractProduct_6 : decode cX0_subtractProduct 6 = .ok (.iload 8, 2) := by decide +kernel
theorem dX0_subtractProduct_8 : decode cX0_subtractProduct 8 = .ok (.iload_n 2, 1) := by decide +kernel
theorem dX0_subtractProduct_9 : decode cX0_subtractProduct 9 = .ok (.if_icmp .ge 69, 3) := by decide +kernel
theorem dX0_subtractProduct_12 : decode cX0_subtractProduct 12 = .ok (.aload_n 1, 1) := by decide +kernel
theorem dX0_subtractProduct_13 : decode cX0_subtractProduct 13 = .ok (.iload 8, 2) := by decide +kernel
theorem dX0_subtractProduct_15 : decode cX0_subtractProduct 15 = .ok (.laload, 1) := by decide +kernel
theorem dX0_subtractProduct_16 : decode cX0_subtractProduct 16 = .ok (.lload 4, 2) := by decide +kernel
theorem dX0_subtractProduct_18 : decode cX0_subtractProduct 18 = .ok (.lmul, 1) := by decide +kernel
theorem dX0_subtractProduct_19 : decode cX0_subtractProduct 19 = .ok (.lload 6, 2) := by decide +kernel
theorem dX0_subtractProduct_21 : decode cX0_subtractProduct 21 = .ok (.ladd, 1) := by decide +kernel
theorem dX0_subtractProduct_22 : decode cX0_subtractProduct 22 = .ok (.lstore 9, 2) := by decide +kernel
theorem dX0_subtractProduct_24 : decode cX0_subtractProduct 24 = .ok (.aload_n 0, 1) := by decide +kernel
theorem dX0_subtractProduct_25 : decode cX0_subtractProduct 25 = .ok (.iload_n 3, 1) := by decide +kernel
theorem dX0_subtractProduct_26 : decode cX0_subtractProduct 26 = .ok (.iload 8, 2) := by decide +kernel
theorem dX0_subtractProduct_28 : decode cX0_subtractProduct 28 = .ok (.iadd, 1) := by decide +kernel
theorem dX0_subtractProduct_29 : decode cX0_subtractProduct 29 = .ok (.laload, 1) := by decide +kernel
theorem dX0_subtractProduct_30 : decode cX0_subtractProduct 30 = .ok (.lload 9, 2) := by decide +kernel
theorem dX0_subtractProduct_32 : decode cX0_subtractProduct 32 = .ok (.ldc2_w 28, 3) := by decide +kernel
theorem dX0_subtractProduct_35 : decode cX0_subtractProduct 35 = .ok (.land, 1) := by decide +kernel
theorem dX0_subtractProduct_36 : decode cX0_subtractProduct 36 = .ok (.lsub, 1) := by decide +kernel
theorem dX0_subtractProduct_37 : decode cX0_subtractProduct 37 = .ok (.lstore 11, 2) := by decide +kernel
theorem dX0_subtractProduct_39 : decode cX0_subtractProduct 39 = .ok (.aload_n 0, 1) := by decide +kernel
theorem dX0_subtractProduct_40 : decode cX0_subtractProduct 40 = .ok (.iload_n 3, 1) := by decide +kernel
theorem dX0_subtractProduct_41 : decode cX0_subtractProduct 41 = .ok (.iload 8, 2) := by decide +kernel
theorem dX0_subtractProduct_43 : decode cX0_subtractProduct 43 = .ok (.iadd, 1) := by decide +kernel
theorem dX0_subtractProduct_44 : decode cX0_subtractProduct 44 = .ok (.lload 11, 2) := by decide +kernel
theorem dX0_subtractProduct_46 : decode cX0_subtractProduct 46 = .ok (.ldc2_w 28, 3) := by decide +kernel
theorem dX0_subtractProduct_49 : decode cX0_subtractProduct 49 = .ok (.land, 1) := by decide +kernel
theorem dX0_subtractProduct_50 : decode cX0_subtractProduct 50 = .ok (.lastore, 1) := by decide +kernel
theorem dX0_subtractProduct_51 : decode cX0_subtractProduct 51 = .ok (.lload 9, 2) := by decide +kernel
theorem dX0_subtractProduct_53 : decode cX0_subtractProduct 53 = .ok (.bipush 32, 2) := by decide +kernel
theorem dX0_subtractProduct_55 : decode cX0_subtractProduct 55 = .ok (.lushr, 1) := by decide +kernel
theorem dX0_subtractProduct_56 : decode cX0_subtractProduct 56 = .ok (.lload 11, 2) := by decide +kernel
theorem dX0_subtractProduct_58 : decode cX0_subtractProduct 58 = .ok (.lconst 0, 1) := by decide +kernel
theorem dX0_subtractProduct_59 : decode cX0_subtractProduct 59 = .ok (.lcmp, 1) := by decide +kernel
theorem dX0_subtractProduct_60 : decode cX0_subtractProduct 60 = .ok (.ifCond .ge 7, 3) := by decide +kernel
theorem dX0_subtractProduct_63 : decode cX0_subtractProduct 63 = .ok (.iconst 1, 1) := by decide +kernel
theorem dX0_subtractProduct_64 : decode cX0_subtractProduct 64 = .ok (.goto 4, 3) := by decide +kernel
theorem dX0_subtractProduct_67 : decode cX0_subtractProduct 67 = .ok (.iconst 0, 1) := by decide +kernel
theorem dX0_subtractProduct_68 : decode cX0_subtractProduct 68 = .ok (.i2l, 1) := by decide +kernel
theorem dX0_subtractProduct_69 : decode cX0_subtractProduct 69 = .ok (.ladd, 1) := by decide +kernel
theorem dX0_subtractProduct_70 : decode cX0_subtractProduct 70 = .ok (.lstore 6, 2) := by decide +kernel
theorem dX0_subtractProduct_72 : decode cX0_subtractProduct 72 = .ok (.iinc 8 1, 3) := by decide +kernel
theorem dX0_subtractProduct_75 : decode cX0_subtractProduct 75 = .ok (.goto (-69), 3) := by decide +kernel
theorem dX0_subtractProduct_78 : decode cX0_subtractProduct 78 = .ok (.aload_n 0, 1) := by decide +kernel
theorem dX0_subtractProduct_79 : decode cX0_subtractProduct 79 = .ok (.iload_n 3, 1) := by decide +kernel
theorem dX0_subtractProduct_80 : decode cX0_subtractProduct 80 = .ok (.iload_n 2, 1) := by decide +kernel
theorem dX0_subtractProduct_81 : decode cX0_subtractProduct 81 = .ok (.iadd, 1) := by decide +kernel
theorem dX0_subtractProduct_82 : decode cX0_subtractProduct 82 = .ok (.laload, 1) := by decide +kernel
theorem dX0_subtractProduct_83 : decode cX0_subtractProduct 83 = .ok (.lload 6, 2) := by decide +kernel
theorem dX0_subtractProduct_85 : decode cX0_subtractProduct 85 = .ok (.lsub, 1) := by decide +kernel
theorem dX0_subtractProduct_86 : decode cX0_subtractProduct 86 = .ok (.lstore 8, 2) := by decide +kernel
theorem dX0_subtractProduct_88 : decode cX0_subtractProduct 88 = .ok (.aload_n 0, 1) := by decide +kernel
theorem dX0_subtractProduct_89 : decode cX0_subtractProduct 89 = .ok (.iload_n 3, 1) := by decide +kernel
theorem dX0_subtractProduct_90 : decode cX0_subtractProduct 90 = .ok (.iload_n 2, 1) := by decide +kernel
theorem dX0_subtractProduct_91 : decode cX0_subtractProduct 91 = .ok (.iadd, 1) := by decide +kernel
theorem dX0_subtractProduct_92 : decode cX0_subtractProduct 92 = .ok (.lload 8, 2) := by decide +kernel
theorem dX0_subtractProduct_94 : decode cX0_subtractProduct 94 = .ok (.ldc2_w 28, 3) := by decide +kernel
theorem dX0_subtractProduct_97 : decode cX0_subtractProduct 97 = .ok (.land, 1) := by decide +kernel
theorem dX0_subtractProduct_98 : decode cX0_subtractProduct 98 = .ok (.lastore, 1) := by decide +kernel
theorem dX0_subtractProduct_99 : decode cX0_subtractProduct 99 = .ok (.lload 8, 2) := by decide +kernel
theorem dX0_subtractProduct_101 : decode cX0_subtractProduct 101 = .ok (.lconst 0, 1) := by decide +kernel
theorem dX0_subtractProduct_102 : decode cX0_subtractProduct 102 = .ok (.lcmp, 1) := by decide +kernel
theorem dX0_subtractProduct_103 : decode cX0_subtractProduct 103 = .ok (.ifCond .ge 7, 3) := by decide +kernel
theorem dX0_subtractProduct_106 : decode cX0_subtractProduct 106 = .ok (.iconst 1, 1) := by decide +kernel
theorem dX0_subtractProduct_107 : decode cX0_subtractProduct 107 = .ok (.goto 4, 3) := by decide +kernel
theorem dX0_subtractProduct_110 : decode cX0_subtractProduct 110 = .ok (.iconst 0, 1) := by decide +kernel
theorem dX0_subtractProduct_111 : decode cX0_subtractProduct 111 = .ok (.ireturn, 1) := by decide +kernel
theorem dX0_addBack_0 : decode cX0_addBack 0 = .ok (.lconst 0, 1) := by decide +kernel
theorem dX0_addBack_1 : decode cX0_addBack 1 = .ok (.lstore 4, 2) := by decide +kernel
theorem dX0_addBack_3 : decode cX0_addBack 3 = .ok (.iconst 0, 1) := by decide +kernel
theorem dX0_addBack_4 : decode cX0_addBack 4 = .ok (.istore 6, 2) := by decide +kernel
theorem dX0_addBack_6 : decode cX0_addBack 6 = .ok (.iload 6, 2) := by decide +kernel
theorem dX0_addBack_8 : decode cX0_addBack 8 = .ok (.iload_n 2, 1) := by decide +kernel
theorem dX0_addBack_9 : decode cX0_addBack 9 = .ok (.if_icmp .ge 44, 3) := by decide +kernel
theorem dX0_addBack_12 : decode cX0_addBack 12 = .ok (.aload_n 0, 1) := by decide +kernel
theorem dX0_addBack_13 : decode cX0_addBack 13 = .ok (.iload_n 3, 1) := by decide +kernel
theorem dX0_addBack_14 : decode cX0_addBack 14 = .ok (.iload 6, 2) := by decide +kernel
theorem dX0_addBack_16 : decode cX0_addBack 16 = .ok (.iadd, 1) := by decide +kernel
theorem dX0_addBack_17 : decode cX0_addBack 17 = .ok (.laload, 1) := by decide +kernel
theorem dX0_addBack_18 : decode cX0_addBack 18 = .ok (.aload_n 1, 1) := by decide +kernel
theorem dX0_addBack_19 : decode cX0_addBack 19 = .ok (.iload 6, 2) := by decide +kernel
theorem dX0_addBack_21 : decode cX0_addBack 21 = .ok (.laload, 1) := by decide +kernel
theorem dX0_addBack_22 : decode cX0_addBack 22 = .ok (.ladd, 1) := by decide +kernel
theorem dX0_addBack_23 : decode cX0_addBack 23 = .ok (.lload 4, 2) := by decide +kernel
theorem dX0_addBack_25 : decode cX0_addBack 25 = .ok (.ladd, 1) := by decide +kernel
theorem dX0_addBack_26 : decode cX0_addBack 26 = .ok (.lstore 7, 2) := by decide +kernel
theorem dX0_addBack_28 : decode cX0_addBack 28 = .ok (.aload_n 0, 1) := by decide +kernel
theorem dX0_addBack_29 : decode cX0_addBack 29 = .ok (.iload_n 3, 1) := by decide +kernel
theorem dX0_addBack_30 : decode cX0_addBack 30 = .ok (.iload 6, 2) := by decide +kernel
theorem dX0_addBack_32 : decode cX0_addBack 32 = .ok (.iadd, 1) := by decide +kernel
theorem dX0_addBack_33 : decode cX0_addBack 33 = .ok (.lload 7, 2) := by decide +kernel
theorem dX0_addBack_35 : decode cX0_addBack 35 = .ok (.ldc2_w 28, 3) := by decide +kernel
theorem dX0_addBack_38 : decode cX0_addBack 38 = .ok (.land, 1) := by decide +kernel
theorem dX0_addBack_39 : decode cX0_addBack 39 = .ok (.lastore, 1) := by decide +kernel
theorem dX0_addBack_40 : decode cX0_addBack 40 = .ok (.lload 7, 2) := by decide +kernel
theorem dX0_addBack_42 : decode cX0_addBack 42 = .ok (.bipush 32, 2) := by decide +kernel
theorem dX0_addBack_44 : decode cX0_addBack 44 = .ok (.lushr, 1) := by decide +kernel
theorem dX0_addBack_45 : decode cX0_addBack 45 = .ok (.lstore 4, 2) := by decide +kernel
theorem dX0_addBack_47 : decode cX0_addBack 47 = .ok (.iinc 6 1, 3) := by decide +kernel
theorem dX0_addBack_50 : decode cX0_addBack 50 = .ok (.goto (-44), 3) := by decide +kernel
theorem dX0_addBack_53 : decode cX0_addBack 53 = .ok (.aload_n 0, 1) := by decide +kernel
theorem dX0_addBack_54 : decode cX0_addBack 54 = .ok (.iload_n 3, 1) := by decide +kernel
theorem dX0_addBack_55 : decode cX0_addBack 55 = .ok (.iload_n 2, 1) := by decide +kernel
theorem dX0_addBack_56 : decode cX0_addBack 56 = .ok (.iadd, 1) := by decide +kernel
theorem dX0_addBack_57 : decode cX0_addBack 57 = .ok (.laload, 1) := by decide +kernel
theorem dX0_addBack_58 : decode cX0_addBack 58 = .ok (.lload 4, 2) := by decide +kernel
theorem dX0_addBack_60 : decode cX0_addBack 60 = .ok (.ladd, 1) := by decide +kernel
theorem dX0_addBack_61 : decode cX0_addBack 61 = .ok (.lstore 6, 2) := by decide +kernel
theorem dX0_addBack_63 : decode cX0_addBack 63 = .ok (.aload_n 0, 1) := by decide +kernel
theorem dX0_addBack_64 : decode cX0_addBack 64 = .ok (.iload_n 3, 1) := by decide +kernel
theorem dX0_addBack_65 : decode cX0_addBack 65 = .ok (.iload_n 2, 1) := by decide +kernel
theorem dX0_addBack_66 : decode cX0_addBack 66 = .ok (.iadd, 1) := by decide +kernel
theorem dX0_addBack_67 : decode cX0_addBack 67 = .ok (.lload 6, 2) := by decide +kernel
theorem dX0_addBack_69 : decode cX0_addBack 69 = .ok (.ldc2_w 28, 3) := by decide +kernel
theorem dX0_addBack_72 : decode cX0_addBack 72 = .ok (.land, 1) := by decide +kernel
theorem dX0_addBack_73 : decode cX0_addBack 73 = .ok (.lastore, 1) := by decide +kernel
theorem dX0_addBack_74 : decode cX0_addBack 74 = .ok (.lload 6, 2) := by decide +kernel
theorem dX0_addBack_76 : decode cX0_addBack 76 = .ok (.ldc2_w 28, 3) := by decide +kernel
theorem dX0_addBack_79 : decode cX0_addBack 79 = .ok (.lcmp, 1) := by decide +kernel
theorem dX0_addBack_80 : decode cX0_addBack 80 = .ok (.ifCond .le 7, 3) := by decide +kernel
theorem dX0_addBack_83 : decode cX0_addBack 83 = .ok (.iconst 1, 1) := by decide +kernel
theorem dX0_addBack_84 : decode cX0_addBack 84 = .ok (.goto 4, 3) := by decide +kernel
theorem dX0_addBack_87 : decode cX0_addBack 87 = .ok (.iconst 0, 1) := by decide +kernel
theorem dX0_addBack_88 : decode cX0_addBack 88 = .ok (.ireturn, 1) := by decide +kernel
theorem dX1_init_0 : decode cX1_init 0 = .ok (.aload_n 0, 1) := by decide +kernel
theorem dX1_init_1 : decode cX1_init 1 = .ok (.invokespecial 3, 3) := by decide +kernel
theorem dX1_init_4 : decode cX1_init 4 = .ok (.aload_n 0, 1) := by decide +kernel
theorem dX1_init_5 : decode cX1_init 5 = .ok (.bipush 64, 2) := by decide +kernel
theorem dX1_init_7 : decode cX1_init 7 = .ok (.bipush 16, 2) := by decide +kernel
theorem dX1_init_9 : decode cX1_init 9 = .ok (.multianewarray 9 2, 4) := by decide +kernel
theorem dX1_init_13 : decode cX1_init 13 = .ok (.putfield 11, 3) := by decide +kernel
theorem dX1_init_16 : decode cX1_init 16 = .ok (.aload_n 0, 1) := by decide +kernel
theorem dX1_init_17 : decode cX1_init 17 = .ok (.bipush 64, 2) := by decide +kernel
theorem dX1_init_19 : decode cX1_init 19 = .ok (.newarray .boolean, 2) := by decide +kernel
theorem dX1_init_21 : decode cX1_init 21 = .ok (.putfield 14, 3) := by decide +kernel
theorem dX1_init_24 : decode cX1_init 24 = .ok (.aload_n 0, 1) := by decide +kernel
theorem dX1_init_25 : decode cX1_init 25 = .ok (.sipush 1008, 3) := by decide +kernel
theorem dX1_init_28 : decode cX1_init 28 = .ok (.newarray .byte, 2) := by decide +kernel
theorem dX1_init_30 : decode cX1_init 30 = .ok (.putfield 18, 3) := by decide +kernel
theorem dX1_init_33 : decode cX1_init 33 = .ok (.aload_n 0, 1) := by decide +kernel
theorem dX1_init_34 : decode cX1_init 34 = .ok (.iconst 0, 1) := by decide +kernel
theorem dX1_init_35 : decode cX1_init 35 = .ok (.putfield 22, 3) := by decide +kernel
theorem dX1_init_38 : decode cX1_init 38 = .ok (.aload_n 0, 1) := by decide +kernel
theorem dX1_init_39 : decode cX1_init 39 = .ok (.sipush 513, 3) := by decide +kernel
theorem dX1_init_42 : decode cX1_init 42 = .ok (.newarray .byte, 2) := by decide +kernel
theorem dX1_init_44 : decode cX1_init 44 = .ok (.putfield 26, 3) := by decide +kernel
theorem dX1_init_47 : decode cX1_init 47 = .ok (.aload_n 0, 1) := by decide +kernel
theorem dX1_init_48 : decode cX1_init 48 = .ok (.aload_n 0, 1) := by decide +kernel
theorem dX1_init_49 : decode cX1_init 49 = .ok (.getfield 26, 3) := by decide +kernel
theorem dX1_init_52 : decode cX1_init 52 = .ok (.arraylength, 1) := by decide +kernel
theorem dX1_init_53 : decode cX1_init 53 = .ok (.putfield 29, 3) := by decide +kernel
theorem dX1_init_56 : decode cX1_init 56 = .ok (.aload_n 0, 1) := by decide +kernel
theorem dX1_init_57 : decode cX1_init 57 = .ok (.bipush 17, 2) := by decide +kernel
theorem dX1_init_59 : decode cX1_init 59 = .ok (.newarray .long, 2) := by decide +kernel
theorem dX1_init_61 : decode cX1_init 61 = .ok (.putfield 32, 3) := by decide +kernel
theorem dX1_init_64 : decode cX1_init 64 = .ok (.aload_n 0, 1) := by decide +kernel
theorem dX1_init_65 : decode cX1_init 65 = .ok (.bipush 17, 2) := by decide +kernel
theorem dX1_init_67 : decode cX1_init 67 = .ok (.newarray .long, 2) := by decide +kernel
theorem dX1_init_69 : decode cX1_init 69 = .ok (.putfield 36, 3) := by decide +kernel
theorem dX1_init_72 : decode cX1_init 72 = .ok (.aload_n 0, 1) := by decide +kernel
theorem dX1_init_73 : decode cX1_init 73 = .ok (.bipush 32, 2) := by decide +kernel
theorem dX1_init_75 : decode cX1_init 75 = .ok (.newarray .long, 2) := by decide +kernel
theorem dX1_init_77 : decode cX1_init 77 = .ok (.putfield 39, 3) := by decide +kernel
theorem dX1_init_80 : decode cX1_init 80 = .ok (.return_, 1) := by decide +kernel
theorem dX1_set_0 : decode cX1_set 0 = .ok (.iload_n 1, 1) := by decide +kernel
theorem dX1_set_1 : decode cX1_set 1 = .ok (.invokestatic 42, 3) := by decide +kernel
theorem dX1_set_4 : decode cX1_set 4 = .ok (.ifCond .ne 5, 3) := by decide +kernel
theorem dX1_set_7 : decode cX1_set 7 = .ok (.iconst 3, 1) := by decide +kernel
theorem dX1_set_8 : decode cX1_set 8 = .ok (.ireturn, 1) := by decide +kernel
theorem dX1_set_9 : decode cX1_set 9 = .ok (.iload 4, 2) := by decide +kernel
theorem dX1_set_11 : decode cX1_set 11 = .ok (.ifCond .eq 13, 3) := by decide +kernel
theorem dX1_set_14 : decode cX1_set 14 = .ok (.lload_n 2, 1) := by decide +kernel
theorem dX1_set_15 : decode cX1_set 15 = .ok (.lconst 0, 1) := by decide +kernel
theorem dX1_set_16 : decode cX1_set 16 = .ok (.lcmp, 1) := by decide +kernel
theorem dX1_set_17 : decode cX1_set 17 = .ok (.ifCond .ge 7, 3) := by decide +kernel
theorem dX1_set_20 : decode cX1_set 20 = .ok (.iconst 1, 1) := by decide +kernel
theorem dX1_set_21 : decode cX1_set 21 = .ok (.goto 4, 3) := by decide +kernel
theorem dX1_set_24 : decode cX1_set 24 = .ok (.iconst 0, 1) := by decide +kernel
theorem dX1_set_25 : decode cX1_set 25 = .ok (.istore 5, 2) := by decide +kernel
theorem dX1_set_27 : decode cX1_set 27 = .ok (.iload 5, 2) := by decide +kernel
theorem dX1_set_29 : decode cX1_set 29 = .ok (.ifCond .eq 8, 3) := by decide +kernel
theorem dX1_set_32 : decode cX1_set 32 = .ok (.lload_n 2, 1) := by decide +kernel
theorem dX1_set_33 : decode cX1_set 33 = .ok (.lneg, 1) := by decide +kernel
theorem dX1_set_34 : decode cX1_set 34 = .ok (.goto 4, 3) := by decide +kernel
theorem dX1_set_37 : decode cX1_set 37 = .ok (.lload_n 2, 1) := by decide +kernel
theorem dX1_set_38 : decode cX1_set 38 = .ok (.lstore 6, 2) := by decide +kernel
theorem dX1_set_40 : decode cX1_set 40 = .ok (.aload_n 0, 1) := by decide +kernel
theorem dX1_set_41 : decode cX1_set 41 = .ok (.getfield 32, 3) := by decide +kernel
theorem dX1_set_44 : decode cX1_set 44 = .ok (.lconst 0, 1) := by decide +kernel
theorem dX1_set_45 : decode cX1_set 45 = .ok (.invokestatic 46, 3) := by decide +kernel
theorem dX1_set_48 : decode cX1_set 48 = .ok (.aload_n 0, 1) := by decide +kernel
theorem dX1_set_49 : decode cX1_set 49 = .ok (.getfield 32, 3) := by decide +kernel
theorem dX1_set_52 : decode cX1_set 52 = .ok (.iconst 0, 1) := by decide +kernel
theorem dX1_set_53 : decode cX1_set 53 = .ok (.lload 6, 2) := by decide +kernel
theorem dX1_set_55 : decode cX1_set 55 = .ok (.ldc2_w 52, 3) := by decide +kernel
theorem dX1_set_58 : decode cX1_set 58 = .ok (.land, 1) := by decide +kernel
theorem dX1_set_59 : decode cX1_set 59 = .ok (.lastore, 1) := by decide +kernel
theorem dX1_set_60 : decode cX1_set 60 = .ok (.aload_n 0, 1) := by decide +kernel
theorem dX1_set_61 : decode cX1_set 61 = .ok (.getfield 32, 3) := by decide +kernel
theorem dX1_set_64 : decode cX1_set 64 = .ok (.iconst 1, 1) := by decide +kernel
theorem dX1_set_65 : decode cX1_set 65 = .ok (.lload 6, 2) := by decide +kernel
theorem dX1_set_67 : decode cX1_set 67 = .ok (.bipush 32, 2) := by decide +kernel
theorem dX1_set_69 : decode cX1_set 69 = .ok (.lushr, 1) := by decide +kernel
theorem dX1_set_70 : decode cX1_set 70 = .ok (.lastore, 1) := by decide +kernel
theorem dX1_set_71 : decode cX1_set 71 = .ok (.aload_n 0, 1) := by decide +kernel
theorem dX1_set_72 : decode cX1_set 72 = .ok (.iload_n 1, 1) := by decide +kernel
theorem dX1_set_73 : decode cX1_set 73 = .ok (.aload_n 0, 1) := by decide +kernel
theorem dX1_set_74 : decode cX1_set 74 = .ok (.getfield 32, 3) := by decide +kernel
theorem dX1_set_77 : decode cX1_set 77 = .ok (.iload 5, 2) := by decide +kernel
theorem dX1_set_79 : decode cX1_set 79 = .ok (.invokevirtual 54, 3) := by decide +kernel
theorem dX1_set_82 : decode cX1_set 82 = .ok (.ireturn, 1) := by decide +kernel
theorem dX1_digits_0 : decode cX1_digits 0 = .ok (.aload_n 0, 1) := by decide +kernel
theorem dX1_digits_1 : decode cX1_digits 1 = .ok (.getfield 22, 3) := by decide +kernel
theorem dX1_digits_4 : decode cX1_digits 4 = .ok (.istore_n 3, 1) := by decide +kernel
theorem dX1_digits_5 : decode cX1_digits 5 = .ok (.bipush 56, 2) := by decide +kernel
theorem dX1_digits_7 : decode cX1_digits 7 = .ok (.istore 4, 2) := by decide +kernel
theorem dX1_digits_9 : decode cX1_digits 9 = .ok (.iload 4, 2) := by decide +kernel
theorem dX1_digits_11 : decode cX1_digits 11 = .ok (.ifCond .lt 52, 3) := by decide +kernel
theorem dX1_digits_14 : decode cX1_digits 14 = .ok (.lload_n 1, 1) := by decide +kernel
theorem dX1_digits_15 : decode cX1_digits 15 = .ok (.iload 4, 2) := by decide +kernel
theorem dX1_digits_17 : decode cX1_digits 17 = .ok (.lushr, 1) := by decide +kernel
theorem dX1_digits_18 : decode cX1_digits 18 = .ok (.l2i, 1) := by decide +kernel
theorem dX1_digits_19 : decode cX1_digits 19 = .ok (.sipush 255, 3) := by decide +kernel
theorem dX1_digits_22 : decode cX1_digits 22 = .ok (.iand, 1) := by decide +kernel
theorem dX1_digits_23 : decode cX1_digits 23 = .ok (.istore 5, 2) := by decide +kernel
theorem dX1_digits_25 : decode cX1_digits 25 = .ok (.iload 5, 2) := by decide +kernel
theorem dX1_digits_27 : decode cX1_digits 27 = .ok (.ifCond .eq 30, 3) := by decide +kernel
theorem dX1_digits_30 : decode cX1_digits 30 = .ok (.iload 5, 2) := by decide +kernel
theorem dX1_digits_32 : decode cX1_digits 32 = .ok (.invokestatic 58, 3) := by decide +kernel
theorem dX1_digits_35 : decode cX1_digits 35 = .ok (.istore 6, 2) := by decide +kernel
theorem dX1_digits_37 : decode cX1_digits 37 = .ok (.iload 6, 2) := by decide +kernel
theorem dX1_digits_39 : decode cX1_digits 39 = .ok (.iconst (-1), 1) := by decide +kernel
theorem dX1_digits_40 : decode cX1_digits 40 = .ok (.if_icmp .ne 5, 3) := by decide +kernel
theorem dX1_digits_43 : decode cX1_digits 43 = .ok (.iconst 0, 1) := by decide +kernel
theorem dX1_digits_44 : decode cX1_digits 44 = .ok (.ireturn, 1) := by decide +kernel
theorem dX1_digits_45 : decode cX1_digits 45 = .ok (.aload_n 0, 1) := by decide +kernel
theorem dX1_digits_46 : decode cX1_digits 46 = .ok (.getfield 18, 3) := by decide +kernel
theorem dX1_digits_49 : decode cX1_digits 49 = .ok (.iload_n 3, 1) := by decide +kernel
theorem dX1_digits_50 : decode cX1_digits 50 = .ok (.iload 6, 2) := by decide +kernel
theorem dX1_digits_52 : decode cX1_digits 52 = .ok (.i2b, 1) := by decide +kernel
theorem dX1_digits_53 : decode cX1_digits 53 = .ok (.bastore, 1) := by decide +kernel
theorem dX1_digits_54 : decode cX1_digits 54 = .ok (.iinc 3 1, 3) := by decide +kernel
theorem dX1_digits_57 : decode cX1_digits 57 = .ok (.iinc 4 (-8), 3) := by decide +kernel
theorem dX1_digits_60 : decode cX1_digits 60 = .ok (.goto (-51), 3) := by decide +kernel
theorem dX1_digits_63 : decode cX1_digits 63 = .ok (.iload_n 3, 1) := by decide +kernel
theorem dX1_digits_64 : decode cX1_digits 64 = .ok (.sipush 1000, 3) := by decide +kernel
theorem dX1_digits_67 : decode cX1_digits 67 = .ok (.if_icmp .le 5, 3) := by decide +kernel
theorem dX1_digits_70 : decode cX1_digits 70 = .ok (.iconst 0, 1) := by decide +kernel
theorem dX1_digits_71 : decode cX1_digits 71 = .ok (.ireturn, 1) := by decide +kernel
theorem dX1_digits_72 : decode cX1_digits 72 = .ok (.aload_n 0, 1) := by decide +kernel
theorem dX1_digits_73 : decode cX1_digits 73 = .ok (.iload_n 3, 1) := by decide +kernel
theorem dX1_digits_74 : decode cX1_digits 74 = .ok (.putfield 22, 3) := by decide +kernel
theorem dX1_digits_77 : decode cX1_digits 77 = .ok (.iconst 1, 1) := by decide +kernel
theorem dX1_digits_78 : decode cX1_digits 78 = .ok (.ireturn, 1) := by decide +kernel
theorem dX1_read_0 : decode cX1_read 0 = .ok (.aload_n 0, 1) := by decide +kernel
theorem dX1_read_1 : decode cX1_read 1 = .ok (.getfield 22, 3) := by decide +kernel
theorem dX1_read_4 : decode cX1_read 4 = .ok (.istore_n 3, 1) := by decide +kernel
theorem dX1_read_5 : decode cX1_read 5 = .ok (.aload_n 0, 1) := by decide +kernel
theorem dX1_read_6 : decode cX1_read 6 = .ok (.iconst 0, 1) := by decide +kernel
theorem dX1_read_7 : decode cX1_read 7 = .ok (.putfield 22, 3) := by decide +kernel
theorem dX1_read_10 : decode cX1_read 10 = .ok (.iload_n 1, 1) := by decide +kernel
theorem dX1_read_11 : decode cX1_read 11 = .ok (.invokestatic 42, 3) := by decide +kernel
theorem dX1_read_14 : decode cX1_read 14 = .ok (.ifCond .eq 23, 3) := by decide +kernel
theorem dX1_read_17 : decode cX1_read 17 = .ok (.iload_n 2, 1) := by decide +kernel
theorem dX1_read_18 : decode cX1_read 18 = .ok (.invokestatic 62, 3) := by decide +kernel
theorem dX1_read_21 : decode cX1_read 21 = .ok (.ifCond .eq 16, 3) := by decide +kernel
theorem dX1_read_24 : decode cX1_read 24 = .ok (.iload_n 3, 1) := by decide +kernel
theorem dX1_read_25 : decode cX1_read 25 = .ok (.ifCond .eq 12, 3) := by decide +kernel
theorem dX1_read_28 : decode cX1_read 28 = .ok (.aload_n 0, 1) := by decide +kernel
theorem dX1_read_29 : decode cX1_read 29 = .ok (.iload_n 2, 1) := by decide +kernel
theorem dX1_read_30 : decode cX1_read 30 = .ok (.iload_n 3, 1) := by decide +kernel
theorem dX1_read_31 : decode cX1_read 31 = .ok (.invokevirtual 65, 3) := by decide +kernel
theorem dX1_read_34 : decode cX1_read 34 = .ok (.ifCond .ne 5, 3) := by decide +kernel
theorem dX1_read_37 : decode cX1_read 37 = .ok (.iconst 3, 1) := by decide +kernel
theorem dX1_read_38 : decode cX1_read 38 = .ok (.ireturn, 1) := by decide +kernel
theorem dX1_read_39 : decode cX1_read 39 = .ok (.aload_n 0, 1) := by decide +kernel
theorem dX1_read_40 : decode cX1_read 40 = .ok (.getfield 32, 3) := by decide +kernel
theorem dX1_read_43 : decode cX1_read 43 = .ok (.lconst 0, 1) := by decide +kernel
theorem dX1_read_44 : decode cX1_read 44 = .ok (.invokestatic 46, 3) := by decide +kernel
theorem dX1_read_47 : decode cX1_read 47 = .ok (.lconst 1, 1) := by decide +kernel
theorem dX1_read_48 : decode cX1_read 48 = .ok (.lstore 4, 2) := by decide +kernel
theorem dX1_read_50 : decode cX1_read 50 = .ok (.lconst 0, 1) := by decide +kernel
theorem dX1_read_51 : decode cX1_read 51 = .ok (.lstore 6, 2) := by decide +kernel
theorem dX1_read_53 : decode cX1_read 53 = .ok (.iconst 0, 1) := by decide +kernel
theorem dX1_read_54 : decode cX1_read 54 = .ok (.istore 8, 2) := by decide +kernel
theorem dX1_read_56 : decode cX1_read 56 = .ok (.iload 8, 2) := by decide +kernel
theorem dX1_read_58 : decode cX1_read 58 = .ok (.iload_n 3, 1) := by decide +kernel
theorem dX1_read_59 : decode cX1_read 59 = .ok (.if_icmp .ge 83, 3) := by decide +kernel
theorem dX1_read_62 : decode cX1_read 62 = .ok (.lload 4, 2) := by decide +kernel
theorem dX1_read_64 : decode cX1_read 64 = .ok (.iload_n 2, 1) := by decide +kernel
theorem dX1_read_65 : decode cX1_read 65 = .ok (.i2l, 1) := by decide +kernel
theorem dX1_read_66 : decode cX1_read 66 = .ok (.lmul, 1) := by decide +kernel
theorem dX1_read_67 : decode cX1_read 67 = .ok (.lstore 4, 2) := by decide +kernel
theorem dX1_read_69 : decode cX1_read 69 = .ok (.lload 6, 2) := by decide +kernel
theorem dX1_read_71 : decode cX1_read 71 = .ok (.iload_n 2, 1) := by decide +kernel
theorem dX1_read_72 : decode cX1_read 72 = .ok (.i2l, 1) := by decide +kernel
theorem dX1_read_73 : decode cX1_read 73 = .ok (.lmul, 1) := by decide +kernel
theorem dX1_read_74 : decode cX1_read 74 = .ok (.aload_n 0, 1) := by decide +kernel
theorem dX1_read_75 : decode cX1_read 75 = .ok (.getfield 18, 3) := by decide +kernel
theorem dX1_read_78 : decode cX1_read 78 = .ok (.iload 8, 2) := by decide +kernel
theorem dX1_read_80 : decode cX1_read 80 = .ok (.baload, 1) := by decide +kernel
theorem dX1_read_81 : decode cX1_read 81 = .ok (.i2l, 1) := by decide +kernel
theorem dX1_read_82 : decode cX1_read 82 = .ok (.ladd, 1) := by decide +kernel
theorem dX1_read_83 : decode cX1_read 83 = .ok (.lstore 6, 2) := by decide +kernel
theorem dX1_read_85 : decode cX1_read 85 = .ok (.lload 4, 2) := by decide +kernel
theorem dX1_read_87 : decode cX1_read 87 = .ok (.iload_n 2, 1) := by decide +kernel
theorem dX1_read_88 : decode cX1_read 88 = .ok (.i2l, 1) := by decide +kernel
theorem dX1_read_89 : decode cX1_read 89 = .ok (.lmul, 1) := by decide +kernel
theorem dX1_read_90 : decode cX1_read 90 = .ok (.ldc2_w 69, 3) := by decide +kernel
theorem dX1_read_93 : decode cX1_read 93 = .ok (.lcmp, 1) := by decide +kernel
theorem dX1_read_94 : decode cX1_read 94 = .ok (.ifCond .gt 11, 3) := by decide +kernel
theorem dX1_read_97 : decode cX1_read 97 = .ok (.iload 8, 2) := by decide +kernel
theorem dX1_read_99 : decode cX1_read 99 = .ok (.iload_n 3, 1) := by decide +kernel
theorem dX1_read_100 : decode cX1_read 100 = .ok (.iconst 1, 1) := by decide +kernel
theorem dX1_read_101 : decode cX1_read 101 = .ok (.isub, 1) := by decide +kernel
theorem dX1_read_102 : decode cX1_read 102 = .ok (.if_icmp .ne 34, 3) := by decide +kernel
theorem dX1_read_105 : decode cX1_read 105 = .ok (.aload_n 0, 1) := by decide +kernel
theorem dX1_read_106 : decode cX1_read 106 = .ok (.getfield 32, 3) := by decide +kernel
theorem dX1_read_109 : decode cX1_read 109 = .ok (.lload 4, 2) := by decide +kernel
theorem dX1_read_111 : decode cX1_read 111 = .ok (.lload 6, 2) := by decide +kernel
theorem dX1_read_113 : decode cX1_read 113 = .ok (.invokestatic 71, 3) := by decide +kernel
theorem dX1_read_116 : decode cX1_read 116 = .ok (.aload_n 0, 1) := by decide +kernel
theorem dX1_read_117 : decode cX1_read 117 = .ok (.getfield 32, 3) := by decide +kernel
theorem dX1_read_120 : decode cX1_read 120 = .ok (.bipush 16, 2) := by decide +kernel
theorem dX1_read_122 : decode cX1_read 122 = .ok (.laload, 1) := by decide +kernel
theorem dX1_read_123 : decode cX1_read 123 = .ok (.lconst 0, 1) := by decide +kernel
theorem dX1_read_124 : decode cX1_read 124 = .ok (.lcmp, 1) := by decide +kernel
theorem dX1_read_125 : decode cX1_read 125 = .ok (.ifCond .eq 5, 3) := by decide +kernel
theorem dX1_read_128 : decode cX1_read 128 = .ok (.iconst 1, 1) := by decide +kernel
theorem dX1_read_129 : decode cX1_read 129 = .ok (.ireturn, 1) := by decide +kernel
theorem dX1_read_130 : decode cX1_read 130 = .ok (.lconst 1, 1) := by decide +kernel
theorem dX1_read_131 : decode cX1_read 131 = .ok (.lstore 4, 2) := by decide +kernel
theorem dX1_read_133 : decode cX1_read 133 = .ok (.lconst 0, 1) := by decide +kernel
theorem dX1_read_134 : decode cX1_read 134 = .ok (.lstore 6, 2) := by decide +kernel
theorem dX1_read_136 : decode cX1_read 136 = .ok (.iinc 8 1, 3) := by decide +kernel
theorem dX1_read_139 : decode cX1_read 139 = .ok (.goto (-83), 3) := by decide +kernel
theorem dX1_read_142 : decode cX1_read 142 = .ok (.aload_n 0, 1) := by decide +kernel
theorem dX1_read_143 : decode cX1_read 143 = .ok (.iload_n 1, 1) := by decide +kernel
theorem dX1_read_144 : decode cX1_read 144 = .ok (.aload_n 0, 1) := by decide +kernel
theorem dX1_read_145 : decode cX1_read 145 = .ok (.getfield 32, 3) := by decide +kernel
theorem dX1_read_148 : decode cX1_read 148 = .ok (.iconst 0, 1) := by decide +kernel
theorem dX1_read_149 : decode cX1_read 149 = .ok (.invokevirtual 54, 3) := by decide +kernel
theorem dX1_read_152 : decode cX1_read 152 = .ok (.ireturn, 1) := by decide +kernel
theorem dX1_work_0 : decode cX1_work 0 = .ok (.iload_n 2, 1) := by decide +kernel
theorem dX1_work_1 : decode cX1_work 1 = .ok (.invokestatic 42, 3) := by decide +kernel
theorem dX1_work_4 : decode cX1_work 4 = .ok (.ifCond .eq 18, 3) := by decide +kernel
theorem dX1_work_7 : decode cX1_work 7 = .ok (.iload_n 3, 1) := by decide +kernel
theorem dX1_work_8 : decode cX1_work 8 = .ok (.invokestatic 42, 3) := by decide +kernel
theorem dX1_work_11 : decode cX1_work 11 = .ok (.ifCond .eq 11, 3) := by decide +kernel
theorem dX1_work_14 : decode cX1_work 14 = .ok (.iload 4, 2) := by decide +kernel
theorem dX1_work_16 : decode cX1_work 16 = .ok (.invokestatic 42, 3) := by decide +kernel
theorem dX1_work_19 : decode cX1_work 19 = .ok (.ifCond .ne 5, 3) := by decide +kernel
theorem dX1_work_22 : decode cX1_work 22 = .ok (.iconst 3, 1) := by decide +kernel
theorem dX1_work_23 : decode cX1_work 23 = .ok (.ireturn, 1) := by decide +kernel
theorem dX1_work_24 : decode cX1_work 24 = .ok (.iload_n 1, 1) := by decide +kernel
theorem dX1_work_25 : decode cX1_work 25 = .ok (.tableswitch 172 0 8 #[51, 67, 91, 142, 152, 162, 162, 162, 162], 51) := by decide +kernel
theorem dX1_work_76 : decode cX1_work 76 = .ok (.aload_n 0, 1) := by decide +kernel
theorem dX1_work_77 : decode cX1_work 77 = .ok (.iload_n 2, 1) := by decide +kernel
theorem dX1_work_78 : decode cX1_work 78 = .ok (.iload_n 3, 1) := by decide +kernel
theorem dX1_work_79 : decode cX1_work 79 = .ok (.iload 4, 2) := by decide +kernel
theorem dX1_work_81 : decode cX1_work 81 = .ok (.aload_n 0, 1) := by decide +kernel
theorem dX1_work_82 : decode cX1_work 82 = .ok (.getfield 14, 3) := by decide +kernel
theorem dX1_work_85 : decode cX1_work 85 = .ok (.iload 4, 2) := by decide +kernel
theorem dX1_work_87 : decode cX1_work 87 = .ok (.baload, 1) := by decide +kernel
theorem dX1_work_88 : decode cX1_work 88 = .ok (.invokevirtual 77, 3) := by decide +kernel
theorem dX1_work_91 : decode cX1_work 91 = .ok (.ireturn, 1) := by decide +kernel
theorem dX1_work_92 : decode cX1_work 92 = .ok (.aload_n 0, 1) := by decide +kernel
theorem dX1_work_93 : decode cX1_work 93 = .ok (.iload_n 2, 1) := by decide +kernel
theorem dX1_work_94 : decode cX1_work 94 = .ok (.iload_n 3, 1) := by decide +kernel
theorem dX1_work_95 : decode cX1_work 95 = .ok (.iload 4, 2) := by decide +kernel
theorem dX1_work_97 : decode cX1_work 97 = .ok (.aload_n 0, 1) := by decide +kernel
theorem dX1_work_98 : decode cX1_work 98 = .ok (.getfield 14, 3) := by decide +kernel
theorem dX1_work_101 : decode cX1_work 101 = .ok (.iload 4, 2) := by decide +kernel
theorem dX1_work_103 : decode cX1_work 103 = .ok (.baload, 1) := by decide +kernel
theorem dX1_work_104 : decode cX1_work 104 = .ok (.ifCond .ne 7, 3) := by decide +kernel
theorem dX1_work_107 : decode cX1_work 107 = .ok (.iconst 1, 1) := by decide +kernel
theorem dX1_work_108 : decode cX1_work 108 = .ok (.goto 4, 3) := by decide +kernel
theorem dX1_work_111 : decode cX1_work 111 = .ok (.iconst 0, 1) := by decide +kernel
theorem dX1_work_112 : decode cX1_work 112 = .ok (.invokevirtual 77, 3) := by decide +kernel
theorem dX1_work_115 : decode cX1_work 115 = .ok (.ireturn, 1) := by decide +kernel
theorem dX1_work_116 : decode cX1_work 116 = .ok (.aload_n 0, 1) := by decide +kernel
theorem dX1_work_117 : decode cX1_work 117 = .ok (.getfield 11, 3) := by decide +kernel
theorem dX1_work_120 : decode cX1_work 120 = .ok (.iload_n 3, 1) := by decide +kernel
theorem dX1_work_121 : decode cX1_work 121 = .ok (.aaload, 1) := by decide +kernel
theorem dX1_work_122 : decode cX1_work 122 = .ok (.aload_n 0, 1) := by decide +kernel
theorem dX1_work_123 : decode cX1_work 123 = .ok (.getfield 11, 3) := by decide +kernel
theorem dX1_work_126 : decode cX1_work 126 = .ok (.iload 4, 2) := by decide +kernel
theorem dX1_work_128 : decode cX1_work 128 = .ok (.aaload, 1) := by decide +kernel
theorem dX1_work_129 : decode cX1_work 129 = .ok (.aload_n 0, 1) := by decide +kernel
theorem dX1_work_130 : decode cX1_work 130 = .ok (.getfield 39, 3) := by decide +kernel
theorem dX1_work_133 : decode cX1_work 133 = .ok (.invokestatic 81, 3) := by decide +kernel
theorem dX1_work_136 : decode cX1_work 136 = .ok (.aload_n 0, 1) := by decide +kernel
theorem dX1_work_137 : decode cX1_work 137 = .ok (.iload_n 2, 1) := by decide +kernel
theorem dX1_work_138 : decode cX1_work 138 = .ok (.aload_n 0, 1) := by decide +kernel
theorem dX1_work_139 : decode cX1_work 139 = .ok (.getfield 39, 3) := by decide +kernel
theorem dX1_work_142 : decode cX1_work 142 = .ok (.aload_n 0, 1) := by decide +kernel
theorem dX1_work_143 : decode cX1_work 143 = .ok (.getfield 14, 3) := by decide +kernel
theorem dX1_work_146 : decode cX1_work 146 = .ok (.iload_n 3, 1) := by decide +kernel
theorem dX1_work_147 : decode cX1_work 147 = .ok (.baload, 1) := by decide +kernel
theorem dX1_work_148 : decode cX1_work 148 = .ok (.aload_n 0, 1) := by decide +kernel
theorem dX1_work_149 : decode cX1_work 149 = .ok (.getfield 14, 3) := by decide +kernel
theorem dX1_work_152 : decode cX1_work 152 = .ok (.iload 4, 2) := by decide +kernel
theorem dX1_work_154 : decode cX1_work 154 = .ok (.baload, 1) := by decide +kernel
theorem dX1_work_155 : decode cX1_work 155 = .ok (.if_icmp .eq 7, 3) := by decide +kernel
theorem dX1_work_158 : decode cX1_work 158 = .ok (.iconst 1, 1) := by decide +kernel
theorem dX1_work_159 : decode cX1_work 159 = .ok (.goto 4, 3) := by decide +kernel
theorem dX1_work_162 : decode cX1_work 162 = .ok (.iconst 0, 1) := by decide +kernel
theorem dX1_work_163 : decode cX1_work 163 = .ok (.invokevirtual 54, 3) := by decide +kernel
theorem dX1_work_166 : decode cX1_work 166 = .ok (.ireturn, 1) := by decide +kernel
theorem dX1_work_167 : decode cX1_work 167 = .ok (.aload_n 0, 1) := by decide +kernel
theorem dX1_work_168 : decode cX1_work 168 = .ok (.iload_n 2, 1) := by decide +kernel
theorem dX1_work_169 : decode cX1_work 169 = .ok (.iload_n 3, 1) := by decide +kernel
theorem dX1_work_170 : decode cX1_work 170 = .ok (.iload 4, 2) := by decide +kernel
theorem dX1_work_172 : decode cX1_work 172 = .ok (.iconst 0, 1) := by decide +kernel
theorem dX1_work_173 : decode cX1_work 173 = .ok (.invokevirtual 85, 3) := by decide +kernel
theorem dX1_work_176 : decode cX1_work 176 = .ok (.ireturn, 1) := by decide +kernel
theorem dX1_work_177 : decode cX1_work 177 = .ok (.aload_n 0, 1) := by decide +kernel
theorem dX1_work_178 : decode cX1_work 178 = .ok (.iload_n 2, 1) := by decide +kernel
theorem dX1_work_179 : decode cX1_work 179 = .ok (.iload_n 3, 1) := by decide +kernel
theorem dX1_work_180 : decode cX1_work 180 = .ok (.iload 4, 2) := by decide +kernel
theorem dX1_work_182 : decode cX1_work 182 = .ok (.iconst 1, 1) := by decide +kernel
theorem dX1_work_183 : decode cX1_work 183 = .ok (.invokevirtual 85, 3) := by decide +kernel
theorem dX1_work_186 : decode cX1_work 186 = .ok (.ireturn, 1) := by decide +kernel
theorem dX1_work_187 : decode cX1_work 187 = .ok (.aload_n 0, 1) := by decide +kernel
theorem dX1_work_188 : decode cX1_work 188 = .ok (.iload_n 1, 1) := by decide +kernel
theorem dX1_work_189 : decode cX1_work 189 = .ok (.iload_n 2, 1) := by decide +kernel
theorem dX1_work_190 : decode cX1_work 190 = .ok (.iload_n 3, 1) := by decide +kernel
theorem dX1_work_191 : decode cX1_work 191 = .ok (.iload 4, 2) := by decide +kernel
theorem dX1_work_193 : decode cX1_work 193 = .ok (.invokevirtual 88, 3) := by decide +kernel
theorem dX1_work_196 : decode cX1_work 196 = .ok (.ireturn, 1) := by decide +kernel
theorem dX1_work_197 : decode cX1_work 197 = .ok (.iconst 3, 1) := by decide +kernel
theorem dX1_work_198 : decode cX1_work 198 = .ok (.ireturn, 1) := by decide +kernel
theorem dX1_shift_0 : decode cX1_shift 0 = .ok (.iload_n 1, 1) := by decide +kernel
theorem dX1_shift_1 : decode cX1_shift 1 = .ok (.invokestatic 42, 3) := by decide +kernel
theorem dX1_shift_4 : decode cX1_shift 4 = .ok (.ifCond .eq 21, 3) := by decide +kernel
theorem dX1_shift_7 : decode cX1_shift 7 = .ok (.iload_n 2, 1) := by decide +kernel
theorem dX1_shift_8 : decode cX1_shift 8 = .ok (.invokestatic 42, 3) := by decide +kernel
theorem dX1_shift_11 : decode cX1_shift 11 = .ok (.ifCond .eq 14, 3) := by decide +kernel
theorem dX1_shift_14 : decode cX1_shift 14 = .ok (.iload_n 3, 1) := by decide +kernel
theorem dX1_shift_15 : decode cX1_shift 15 = .ok (.ifCond .lt 10, 3) := by decide +kernel
theorem dX1_shift_18 : decode cX1_shift 18 = .ok (.iload_n 3, 1) := by decide +kernel
theorem dX1_shift_19 : decode cX1_shift 19 = .ok (.sipush 1000, 3) := by decide +kernel
theorem dX1_shift_22 : decode cX1_shift 22 = .ok (.if_icmp .le 5, 3) := by decide +kernel
theorem dX1_shift_25 : decode cX1_shift 25 = .ok (.iconst 3, 1) := by decide +kernel
theorem dX1_shift_26 : decode cX1_shift 26 = .ok (.ireturn, 1) := by decide +kernel
theorem dX1_shift_27 : decode cX1_shift 27 = .ok (.aload_n 0, 1) := by decide +kernel
theorem dX1_shift_28 : decode cX1_shift 28 = .ok (.getfield 11, 3) := by decide +kernel
theorem dX1_shift_31 : decode cX1_shift 31 = .ok (.iload_n 2, 1) := by decide +kernel
theorem dX1_shift_32 : decode cX1_shift 32 = .ok (.aaload, 1) := by decide +kernel
theorem dX1_shift_33 : decode cX1_shift 33 = .ok (.astore 5, 2) := by decide +kernel
theorem dX1_shift_35 : decode cX1_shift 35 = .ok (.iload 4, 2) := by decide +kernel
theorem dX1_shift_37 : decode cX1_shift 37 = .ok (.ifCond .eq 40, 3) := by decide +kernel
theorem dX1_shift_40 : decode cX1_shift 40 = .ok (.aload 5, 2) := by decide +kernel
theorem dX1_shift_42 : decode cX1_shift 42 = .ok (.invokestatic 92, 3) := by decide +kernel
theorem dX1_shift_45 : decode cX1_shift 45 = .ok (.istore 6, 2) := by decide +kernel
theorem dX1_shift_47 : decode cX1_shift 47 = .ok (.iload 6, 2) := by decide +kernel
theorem dX1_shift_49 : decode cX1_shift 49 = .ok (.ifCond .le 15, 3) := by decide +kernel
theorem dX1_shift_52 : decode cX1_shift 52 = .ok (.iload 6, 2) := by decide +kernel
theorem dX1_shift_54 : decode cX1_shift 54 = .ok (.iload_n 3, 1) := by decide +kernel
theorem dX1_shift_55 : decode cX1_shift 55 = .ok (.iadd, 1) := by decide +kernel
theorem dX1_shift_56 : decode cX1_shift 56 = .ok (.sipush 512, 3) := by decide +kernel
theorem dX1_shift_59 : decode cX1_shift 59 = .ok (.if_icmp .le 5, 3) := by decide +kernel
theorem dX1_shift_62 : decode cX1_shift 62 = .ok (.iconst 1, 1) := by decide +kernel
theorem dX1_shift_63 : decode cX1_shift 63 = .ok (.ireturn, 1) := by decide +kernel
theorem dX1_shift_64 : decode cX1_shift 64 = .ok (.aload 5, 2) := by decide +kernel
theorem dX1_shift_66 : decode cX1_shift 66 = .ok (.iload_n 3, 1) := by decide +kernel
theorem dX1_shift_67 : decode cX1_shift 67 = .ok (.aload_n 0, 1) := by decide +kernel
theorem dX1_shift_68 : decode cX1_shift 68 = .ok (.getfield 32, 3) := by decide +kernel
theorem dX1_shift_71 : decode cX1_shift 71 = .ok (.invokestatic 96, 3) := by decide +kernel
theorem dX1_shift_74 : decode cX1_shift 74 = .ok (.goto 38, 3) := by decide +kernel
theorem dX1_shift_77 : decode cX1_shift 77 = .ok (.aload 5, 2) := by decide +kernel
theorem dX1_shift_79 : decode cX1_shift 79 = .ok (.iload_n 3, 1) := by decide +kernel
theorem dX1_shift_80 : decode cX1_shift 80 = .ok (.aload_n 0, 1) := by decide +kernel
theorem dX1_shift_81 : decode cX1_shift 81 = .ok (.getfield 32, 3) := by decide +kernel
theorem dX1_shift_84 : decode cX1_shift 84 = .ok (.invokestatic 100, 3) := by decide +kernel
theorem dX1_shift_87 : decode cX1_shift 87 = .ok (.aload_n 0, 1) := by decide +kernel
theorem dX1_shift_88 : decode cX1_shift 88 = .ok (.getfield 14, 3) := by decide +kernel
theorem dX1_shift_91 : decode cX1_shift 91 = .ok (.iload_n 2, 1) := by decide +kernel
theorem dX1_shift_92 : decode cX1_shift 92 = .ok (.baload, 1) := by decide +kernel
theorem dX1_shift_93 : decode cX1_shift 93 = .ok (.ifCond .eq 19, 3) := by decide +kernel
theorem dX1_shift_96 : decode cX1_shift 96 = .ok (.aload 5, 2) := by decide +kernel
theorem dX1_shift_98 : decode cX1_shift 98 = .ok (.invokestatic 103, 3) := by decide +kernel
theorem dX1_shift_101 : decode cX1_shift 101 = .ok (.iload_n 3, 1) := by decide +kernel
theorem dX1_shift_102 : decode cX1_shift 102 = .ok (.if_icmp .ge 10, 3) := by decide +kernel
theorem dX1_shift_105 : decode cX1_shift 105 = .ok (.aload_n 0, 1) := by decide +kernel
theorem dX1_shift_106 : decode cX1_shift 106 = .ok (.getfield 32, 3) := by decide +kernel
theorem dX1_shift_109 : decode cX1_shift 109 = .ok (.invokestatic 106, 3) := by decide +kernel
theorem dX1_shift_112 : decode cX1_shift 112 = .ok (.aload_n 0, 1) := by decide +kernel
theorem dX1_shift_113 : decode cX1_shift 113 = .ok (.iload_n 1, 1) := by decide +kernel
theorem dX1_shift_114 : decode cX1_shift 114 = .ok (.aload_n 0, 1) := by decide +kernel
theorem dX1_shift_115 : decode cX1_shift 115 = .ok (.getfield 32, 3) := by decide +kernel
theorem dX1_shift_118 : decode cX1_shift 118 = .ok (.aload_n 0, 1) := by decide +kernel
theorem dX1_shift_119 : decode cX1_shift 119 = .ok (.getfield 14, 3) := by decide +kernel
theorem dX1_shift_122 : decode cX1_shift 122 = .ok (.iload_n 2, 1) := by decide +kernel
theorem dX1_shift_123 : decode cX1_shift 123 = .ok (.baload, 1) := by decide +kernel
theorem dX1_shift_124 : decode cX1_shift 124 = .ok (.invokevirtual 54, 3) := by decide +kernel
theorem dX1_shift_127 : decode cX1_shift 127 = .ok (.ireturn, 1) := by decide +kernel
theorem dX1_turn_0 : decode cX1_turn 0 = .ok (.iload_n 1, 1) := by decide +kernel
theorem dX1_turn_1 : decode cX1_turn 1 = .ok (.invokestatic 42, 3) := by decide +kernel
theorem dX1_turn_4 : decode cX1_turn 4 = .ok (.ifCond .eq 10, 3) := by decide +kernel
theorem dX1_turn_7 : decode cX1_turn 7 = .ok (.iload_n 2, 1) := by decide +kernel
theorem dX1_turn_8 : decode cX1_turn 8 = .ok (.invokestatic 42, 3) := by decide +kernel
theorem dX1_turn_11 : decode cX1_turn 11 = .ok (.ifCond .ne 5, 3) := by decide +kernel
theorem dX1_turn_14 : decode cX1_turn 14 = .ok (.iconst 3, 1) := by decide +kernel
theorem dX1_turn_15 : decode cX1_turn 15 = .ok (.ireturn, 1) := by decide +kernel
theorem dX1_turn_16 : decode cX1_turn 16 = .ok (.aload_n 0, 1) := by decide +kernel
theorem dX1_turn_17 : decode cX1_turn 17 = .ok (.getfield 11, 3) := by decide +kernel
theorem dX1_turn_20 : decode cX1_turn 20 = .ok (.iload_n 2, 1) := by decide +kernel
theorem dX1_turn_21 : decode cX1_turn 21 = .ok (.aaload, 1) := by decide +kernel
theorem dX1_turn_22 : decode cX1_turn 22 = .ok (.aload_n 0, 1) := by decide +kernel
theorem dX1_turn_23 : decode cX1_turn 23 = .ok (.getfield 32, 3) := by decide +kernel
theorem dX1_turn_26 : decode cX1_turn 26 = .ok (.invokestatic 110, 3) := by decide +kernel
theorem dX1_turn_29 : decode cX1_turn 29 = .ok (.iload_n 3, 1) := by decide +kernel
theorem dX1_turn_30 : decode cX1_turn 30 = .ok (.ifCond .eq 29, 3) := by decide +kernel
theorem dX1_turn_33 : decode cX1_turn 33 = .ok (.aload_n 0, 1) := by decide +kernel
theorem dX1_turn_34 : decode cX1_turn 34 = .ok (.getfield 14, 3) := by decide +kernel
theorem dX1_turn_37 : decode cX1_turn 37 = .ok (.iload_n 2, 1) := by decide +kernel
theorem dX1_turn_38 : decode cX1_turn 38 = .ok (.baload, 1) := by decide +kernel
theorem dX1_turn_39 : decode cX1_turn 39 = .ok (.ifCond .eq 13, 3) := by decide +kernel
theorem dX1_turn_42 : decode cX1_turn 42 = .ok (.aload_n 0, 1) := by decide +kernel
theorem dX1_turn_43 : decode cX1_turn 43 = .ok (.getfield 32, 3) := by decide +kernel
theorem dX1_turn_46 : decode cX1_turn 46 = .ok (.invokestatic 114, 3) := by decide +kernel
theorem dX1_turn_49 : decode cX1_turn 49 = .ok (.goto 10, 3) := by decide +kernel
theorem dX1_turn_52 : decode cX1_turn 52 = .ok (.aload_n 0, 1) := by decide +kernel
theorem dX1_turn_53 : decode cX1_turn 53 = .ok (.getfield 32, 3) := by decide +kernel
theorem dX1_turn_56 : decode cX1_turn 56 = .ok (.invokestatic 106, 3) := by decide +kernel
theorem dX1_turn_59 : decode cX1_turn 59 = .ok (.aload_n 0, 1) := by decide +kernel
theorem dX1_turn_60 : decode cX1_turn 60 = .ok (.iload_n 1, 1) := by decide +kernel
theorem dX1_turn_61 : decode cX1_turn 61 = .ok (.aload_n 0, 1) := by decide +kernel
theorem dX1_turn_62 : decode cX1_turn 62 = .ok (.getfield 32, 3) := by decide +kernel
theorem dX1_turn_65 : decode cX1_turn 65 = .ok (.aload_n 0, 1) := by decide +kernel
theorem dX1_turn_66 : decode cX1_turn 66 = .ok (.getfield 14, 3) := by decide +kernel
theorem dX1_turn_69 : decode cX1_turn 69 = .ok (.iload_n 2, 1) := by decide +kernel
theorem dX1_turn_70 : decode cX1_turn 70 = .ok (.baload, 1) := by decide +kernel
theorem dX1_turn_71 : decode cX1_turn 71 = .ok (.ifCond .ne 7, 3) := by decide +kernel
theorem dX1_turn_74 : decode cX1_turn 74 = .ok (.iconst 1, 1) := by decide +kernel
theorem dX1_turn_75 : decode cX1_turn 75 = .ok (.goto 4, 3) := by decide +kernel
theorem dX1_turn_78 : decode cX1_turn 78 = .ok (.iconst 0, 1) := by decide +kernel
theorem dX1_turn_79 : decode cX1_turn 79 = .ok (.invokevirtual 54, 3) := by decide +kernel
theorem dX1_turn_82 : decode cX1_turn 82 = .ok (.ireturn, 1) := by decide +kernel
theorem dX1_compare_0 : decode cX1_compare 0 = .ok (.iload_n 1, 1) := by decide +kernel
theorem dX1_compare_1 : decode cX1_compare 1 = .ok (.invokestatic 42, 3) := by decide +kernel
theorem dX1_compare_4 : decode cX1_compare 4 = .ok (.ifCond .eq 10, 3) := by decide +kernel
theorem dX1_compare_7 : decode cX1_compare 7 = .ok (.iload_n 2, 1) := by decide +kernel
theorem dX1_compare_8 : decode cX1_compare 8 = .ok (.invokestatic 42, 3) := by decide +kernel
theorem dX1_compare_11 : decode cX1_compare 11 = .ok (.ifCond .ne 6, 3) := by decide +kernel
theorem dX1_compare_14 : decode cX1_compare 14 = .ok (.bipush (-2), 2) := by decide +kernel
theorem dX1_compare_16 : decode cX1_compare 16 = .ok (.ireturn, 1) := by decide +kernel
theorem dX1_compare_17 : decode cX1_compare 17 = .ok (.aload_n 0, 1) := by decide +kernel
theorem dX1_compare_18 : decode cX1_compare 18 = .ok (.getfield 14, 3) := by decide +kernel
theorem dX1_compare_21 : decode cX1_compare 21 = .ok (.iload_n 1, 1) := by decide +kernel
theorem dX1_compare_22 : decode cX1_compare 22 = .ok (.baload, 1) := by decide +kernel
theorem dX1_compare_23 : decode cX1_compare 23 = .ok (.aload_n 0, 1) := by decide +kernel
theorem dX1_compare_24 : decode cX1_compare 24 = .ok (.getfield 14, 3) := by decide +kernel
theorem dX1_compare_27 : decode cX1_compare 27 = .ok (.iload_n 2, 1) := by decide +kernel
theorem dX1_compare_28 : decode cX1_compare 28 = .ok (.baload, 1) := by decide +kernel
theorem dX1_compare_29 : decode cX1_compare 29 = .ok (.if_icmp .eq 18, 3) := by decide +kernel
theorem dX1_compare_32 : decode cX1_compare 32 = .ok (.aload_n 0, 1) := by decide +kernel
theorem dX1_compare_33 : decode cX1_compare 33 = .ok (.getfield 14, 3) := by decide +kernel
theorem dX1_compare_36 : decode cX1_compare 36 = .ok (.iload_n 1, 1) := by decide +kernel
theorem dX1_compare_37 : decode cX1_compare 37 = .ok (.baload, 1) := by decide +kernel
theorem dX1_compare_38 : decode cX1_compare 38 = .ok (.ifCond .eq 7, 3) := by decide +kernel
theorem dX1_compare_41 : decode cX1_compare 41 = .ok (.iconst (-1), 1) := by decide +kernel
theorem dX1_compare_42 : decode cX1_compare 42 = .ok (.goto 4, 3) := by decide +kernel
theorem dX1_compare_45 : decode cX1_compare 45 = .ok (.iconst 1, 1) := by decide +kernel
theorem dX1_compare_46 : decode cX1_compare 46 = .ok (.ireturn, 1) := by decide +kernel
theorem dX1_compare_47 : decode cX1_compare 47 = .ok (.aload_n 0, 1) := by decide +kernel
theorem dX1_compare_48 : decode cX1_compare 48 = .ok (.getfield 11, 3) := by decide +kernel
theorem dX1_compare_51 : decode cX1_compare 51 = .ok (.iload_n 1, 1) := by decide +kernel
theorem dX1_compare_52 : decode cX1_compare 52 = .ok (.aaload, 1) := by decide +kernel
theorem dX1_compare_53 : decode cX1_compare 53 = .ok (.aload_n 0, 1) := by decide +kernel
theorem dX1_compare_54 : decode cX1_compare 54 = .ok (.getfield 11, 3) := by decide +kernel
theorem dX1_compare_57 : decode cX1_compare 57 = .ok (.iload_n 2, 1) := by decide +kernel
theorem dX1_compare_58 : decode cX1_compare 58 = .ok (.aaload, 1) := by decide +kernel
theorem dX1_compare_59 : decode cX1_compare 59 = .ok (.invokestatic 117, 3) := by decide +kernel
theorem dX1_compare_62 : decode cX1_compare 62 = .ok (.istore_n 3, 1) := by decide +kernel
theorem dX1_compare_63 : decode cX1_compare 63 = .ok (.aload_n 0, 1) := by decide +kernel
theorem dX1_compare_64 : decode cX1_compare 64 = .ok (.getfield 14, 3) := by decide +kernel
theorem dX1_compare_67 : decode cX1_compare 67 = .ok (.iload_n 1, 1) := by decide +kernel
theorem dX1_compare_68 : decode cX1_compare 68 = .ok (.baload, 1) := by decide +kernel
theorem dX1_compare_69 : decode cX1_compare 69 = .ok (.ifCond .eq 8, 3) := by decide +kernel
theorem dX1_compare_72 : decode cX1_compare 72 = .ok (.iload_n 3, 1) := by decide +kernel
theorem dX1_compare_73 : decode cX1_compare 73 = .ok (.ineg, 1) := by decide +kernel
theorem dX1_compare_74 : decode cX1_compare 74 = .ok (.goto 4, 3) := by decide +kernel
theorem dX1_compare_77 : decode cX1_compare 77 = .ok (.iload_n 3, 1) := by decide +kernel
theorem dX1_compare_78 : decode cX1_compare 78 = .ok (.ireturn, 1) := by decide +kernel
theorem dX1_bits_0 : decode cX1_bits 0 = .ok (.iload_n 1, 1) := by decide +kernel
theorem dX1_bits_1 : decode cX1_bits 1 = .ok (.invokestatic 42, 3) := by decide +kernel
theorem dX1_bits_4 : decode cX1_bits 4 = .ok (.ifCond .eq 15, 3) := by decide +kernel
theorem dX1_bits_7 : decode cX1_bits 7 = .ok (.aload_n 0, 1) := by decide +kernel
theorem dX1_bits_8 : decode cX1_bits 8 = .ok (.getfield 11, 3) := by decide +kernel
theorem dX1_bits_11 : decode cX1_bits 11 = .ok (.iload_n 1, 1) := by decide +kernel
theorem dX1_bits_12 : decode cX1_bits 12 = .ok (.aaload, 1) := by decide +kernel
theorem dX1_bits_13 : decode cX1_bits 13 = .ok (.invokestatic 92, 3) := by decide +kernel
theorem dX1_bits_16 : decode cX1_bits 16 = .ok (.goto 4, 3) := by decide +kernel
theorem dX1_bits_19 : decode cX1_bits 19 = .ok (.iconst (-1), 1) := by decide +kernel
theorem dX1_bits_20 : decode cX1_bits 20 = .ok (.ireturn, 1) := by decide +kernel
theorem dX1_fits_0 : decode cX1_fits 0 = .ok (.iload_n 1, 1) := by decide +kernel
theorem dX1_fits_1 : decode cX1_fits 1 = .ok (.invokestatic 42, 3) := by decide +kernel
theorem dX1_fits_4 : decode cX1_fits 4 = .ok (.ifCond .eq 10, 3) := by decide +kernel
theorem dX1_fits_7 : decode cX1_fits 7 = .ok (.iload_n 2, 1) := by decide +kernel
theorem dX1_fits_8 : decode cX1_fits 8 = .ok (.invokestatic 121, 3) := by decide +kernel
theorem dX1_fits_11 : decode cX1_fits 11 = .ok (.ifCond .ne 5, 3) := by decide +kernel
theorem dX1_fits_14 : decode cX1_fits 14 = .ok (.iconst 0, 1) := by decide +kernel
theorem dX1_fits_15 : decode cX1_fits 15 = .ok (.ireturn, 1) := by decide +kernel
theorem dX1_fits_16 : decode cX1_fits 16 = .ok (.aload_n 0, 1) := by decide +kernel
theorem dX1_fits_17 : decode cX1_fits 17 = .ok (.getfield 11, 3) := by decide +kernel
theorem dX1_fits_20 : decode cX1_fits 20 = .ok (.iload_n 1, 1) := by decide +kernel
theorem dX1_fits_21 : decode cX1_fits 21 = .ok (.aaload, 1) := by decide +kernel
theorem dX1_fits_22 : decode cX1_fits 22 = .ok (.invokestatic 92, 3) := by decide +kernel
theorem dX1_fits_25 : decode cX1_fits 25 = .ok (.istore 4, 2) := by decide +kernel
theorem dX1_fits_27 : decode cX1_fits 27 = .ok (.iload_n 3, 1) := by decide +kernel
theorem dX1_fits_28 : decode cX1_fits 28 = .ok (.ifCond .ne 24, 3) := by decide +kernel
theorem dX1_fits_31 : decode cX1_fits 31 = .ok (.aload_n 0, 1) := by decide +kernel
theorem dX1_fits_32 : decode cX1_fits 32 = .ok (.getfield 14, 3) := by decide +kernel
theorem dX1_fits_35 : decode cX1_fits 35 = .ok (.iload_n 1, 1) := by decide +kernel
theorem dX1_fits_36 : decode cX1_fits 36 = .ok (.baload, 1) := by decide +kernel
theorem dX1_fits_37 : decode cX1_fits 37 = .ok (.ifCond .ne 13, 3) := by decide +kernel
theorem dX1_fits_40 : decode cX1_fits 40 = .ok (.iload 4, 2) := by decide +kernel
theorem dX1_fits_42 : decode cX1_fits 42 = .ok (.iload_n 2, 1) := by decide +kernel
theorem dX1_fits_43 : decode cX1_fits 43 = .ok (.if_icmp .gt 7, 3) := by decide +kernel
theorem dX1_fits_46 : decode cX1_fits 46 = .ok (.iconst 1, 1) := by decide +kernel
theorem dX1_fits_47 : decode cX1_fits 47 = .ok (.goto 4, 3) := by decide +kernel
theorem dX1_fits_50 : decode cX1_fits 50 = .ok (.iconst 0, 1) := by decide +kernel
theorem dX1_fits_51 : decode cX1_fits 51 = .ok (.ireturn, 1) := by decide +kernel
theorem dX1_fits_52 : decode cX1_fits 52 = .ok (.aload_n 0, 1) := by decide +kernel
theorem dX1_fits_53 : decode cX1_fits 53 = .ok (.getfield 14, 3) := by decide +kernel
theorem dX1_fits_56 : decode cX1_fits 56 = .ok (.iload_n 1, 1) := by decide +kernel
theorem dX1_fits_57 : decode cX1_fits 57 = .ok (.baload, 1) := by decide +kernel
theorem dX1_fits_58 : decode cX1_fits 58 = .ok (.ifCond .eq 28, 3) := by decide +kernel
theorem dX1_fits_61 : decode cX1_fits 61 = .ok (.iload 4, 2) := by decide +kernel
theorem dX1_fits_63 : decode cX1_fits 63 = .ok (.iload_n 2, 1) := by decide +kernel
theorem dX1_fits_64 : decode cX1_fits 64 = .ok (.if_icmp .ne 22, 3) := by decide +kernel
theorem dX1_fits_67 : decode cX1_fits 67 = .ok (.aload_n 0, 1) := by decide +kernel
theorem dX1_fits_68 : decode cX1_fits 68 = .ok (.getfield 11, 3) := by decide +kernel
theorem dX1_fits_71 : decode cX1_fits 71 = .ok (.iload_n 1, 1) := by decide +kernel
theorem dX1_fits_72 : decode cX1_fits 72 = .ok (.aaload, 1) := by decide +kernel
theorem dX1_fits_73 : decode cX1_fits 73 = .ok (.invokestatic 103, 3) := by decide +kernel
theorem dX1_fits_76 : decode cX1_fits 76 = .ok (.iload_n 2, 1) := by decide +kernel
theorem dX1_fits_77 : decode cX1_fits 77 = .ok (.iconst 1, 1) := by decide +kernel
theorem dX1_fits_78 : decode cX1_fits 78 = .ok (.isub, 1) := by decide +kernel
theorem dX1_fits_79 : decode cX1_fits 79 = .ok (.if_icmp .ne 7, 3) := by decide +kernel
theorem dX1_fits_82 : decode cX1_fits 82 = .ok (.iconst 1, 1) := by decide +kernel
theorem dX1_fits_83 : decode cX1_fits 83 = .ok (.goto 4, 3) := by decide +kernel
theorem dX1_fits_86 : decode cX1_fits 86 = .ok (.iconst 0, 1) := by decide +kernel
theorem dX1_fits_87 : decode cX1_fits 87 = .ok (.istore 5, 2) := by decide +kernel
theorem dX1_fits_89 : decode cX1_fits 89 = .ok (.iload 4, 2) := by decide +kernel
theorem dX1_fits_91 : decode cX1_fits 91 = .ok (.iload_n 2, 1) := by decide +kernel
theorem dX1_fits_92 : decode cX1_fits 92 = .ok (.if_icmp .lt 8, 3) := by decide +kernel
theorem dX1_fits_95 : decode cX1_fits 95 = .ok (.iload 5, 2) := by decide +kernel
theorem dX1_fits_97 : decode cX1_fits 97 = .ok (.ifCond .eq 7, 3) := by decide +kernel
theorem dX1_fits_100 : decode cX1_fits 100 = .ok (.iconst 1, 1) := by decide +kernel
theorem dX1_fits_101 : decode cX1_fits 101 = .ok (.goto 4, 3) := by decide +kernel
theorem dX1_fits_104 : decode cX1_fits 104 = .ok (.iconst 0, 1) := by decide +kernel
theorem dX1_fits_105 : decode cX1_fits 105 = .ok (.ireturn, 1) := by decide +kernel
theorem dX1_cut_0 : decode cX1_cut 0 = .ok (.iload_n 1, 1) := by decide +kernel
theorem dX1_cut_1 : decode cX1_cut 1 = .ok (.invokestatic 42, 3) := by decide +kernel
theorem dX1_cut_4 : decode cX1_cut 4 = .ok (.ifCond .eq 10, 3) := by decide +kernel
theorem dX1_cut_7 : decode cX1_cut 7 = .ok (.iload_n 2, 1) := by decide +kernel
theorem dX1_cut_8 : decode cX1_cut 8 = .ok (.invokestatic 121, 3) := by decide +kernel
theorem dX1_cut_11 : decode cX1_cut 11 = .ok (.ifCond .ne 5, 3) := by decide +kernel
theorem dX1_cut_14 : decode cX1_cut 14 = .ok (.lconst 0, 1) := by decide +kernel
theorem dX1_cut_15 : decode cX1_cut 15 = .ok (.lreturn, 1) := by decide +kernel
theorem dX1_cut_16 : decode cX1_cut 16 = .ok (.aload_n 0, 1) := by decide +kernel
theorem dX1_cut_17 : decode cX1_cut 17 = .ok (.getfield 11, 3) := by decide +kernel
theorem dX1_cut_20 : decode cX1_cut 20 = .ok (.iload_n 1, 1) := by decide +kernel
theorem dX1_cut_21 : decode cX1_cut 21 = .ok (.aaload, 1) := by decide +kernel
theorem dX1_cut_22 : decode cX1_cut 22 = .ok (.iconst 0, 1) := by decide +kernel
theorem dX1_cut_23 : decode cX1_cut 23 = .ok (.laload, 1) := by decide +kernel
theorem dX1_cut_24 : decode cX1_cut 24 = .ok (.aload_n 0, 1) := by decide +kernel
theorem dX1_cut_25 : decode cX1_cut 25 = .ok (.getfield 11, 3) := by decide +kernel
theorem dX1_cut_28 : decode cX1_cut 28 = .ok (.iload_n 1, 1) := by decide +kernel
theorem dX1_cut_29 : decode cX1_cut 29 = .ok (.aaload, 1) := by decide +kernel
theorem dX1_cut_30 : decode cX1_cut 30 = .ok (.iconst 1, 1) := by decide +kernel
theorem dX1_cut_31 : decode cX1_cut 31 = .ok (.laload, 1) := by decide +kernel
theorem dX1_cut_32 : decode cX1_cut 32 = .ok (.bipush 32, 2) := by decide +kernel
theorem dX1_cut_34 : decode cX1_cut 34 = .ok (.lshl, 1) := by decide +kernel
theorem dX1_cut_35 : decode cX1_cut 35 = .ok (.lor, 1) := by decide +kernel
theorem dX1_cut_36 : decode cX1_cut 36 = .ok (.lstore 4, 2) := by decide +kernel
theorem dX1_cut_38 : decode cX1_cut 38 = .ok (.aload_n 0, 1) := by decide +kernel
theorem dX1_cut_39 : decode cX1_cut 39 = .ok (.getfield 14, 3) := by decide +kernel
theorem dX1_cut_42 : decode cX1_cut 42 = .ok (.iload_n 1, 1) := by decide +kernel
theorem dX1_cut_43 : decode cX1_cut 43 = .ok (.baload, 1) := by decide +kernel
theorem dX1_cut_44 : decode cX1_cut 44 = .ok (.ifCond .eq 8, 3) := by decide +kernel
theorem dX1_cut_47 : decode cX1_cut 47 = .ok (.lload 4, 2) := by decide +kernel
theorem dX1_cut_49 : decode cX1_cut 49 = .ok (.lneg, 1) := by decide +kernel
theorem dX1_cut_50 : decode cX1_cut 50 = .ok (.lstore 4, 2) := by decide +kernel
theorem dX1_cut_52 : decode cX1_cut 52 = .ok (.bipush 64, 2) := by decide +kernel
theorem dX1_cut_54 : decode cX1_cut 54 = .ok (.iload_n 2, 1) := by decide +kernel
theorem dX1_cut_55 : decode cX1_cut 55 = .ok (.isub, 1) := by decide +kernel
theorem dX1_cut_56 : decode cX1_cut 56 = .ok (.istore 6, 2) := by decide +kernel
theorem dX1_cut_58 : decode cX1_cut 58 = .ok (.iload_n 3, 1) := by decide +kernel
theorem dX1_cut_59 : decode cX1_cut 59 = .ok (.ifCond .eq 14, 3) := by decide +kernel
theorem dX1_cut_62 : decode cX1_cut 62 = .ok (.lload 4, 2) := by decide +kernel
theorem dX1_cut_64 : decode cX1_cut 64 = .ok (.iload 6, 2) := by decide +kernel
theorem dX1_cut_66 : decode cX1_cut 66 = .ok (.lshl, 1) := by decide +kernel
theorem dX1_cut_67 : decode cX1_cut 67 = .ok (.iload 6, 2) := by decide +kernel
theorem dX1_cut_69 : decode cX1_cut 69 = .ok (.lshr, 1) := by decide +kernel
theorem dX1_cut_70 : decode cX1_cut 70 = .ok (.goto 11, 3) := by decide +kernel
theorem dX1_cut_73 : decode cX1_cut 73 = .ok (.lload 4, 2) := by decide +kernel
theorem dX1_cut_75 : decode cX1_cut 75 = .ok (.iload 6, 2) := by decide +kernel
theorem dX1_cut_77 : decode cX1_cut 77 = .ok (.lshl, 1) := by decide +kernel
theorem dX1_cut_78 : decode cX1_cut 78 = .ok (.iload 6, 2) := by decide +kernel
theorem dX1_cut_80 : decode cX1_cut 80 = .ok (.lushr, 1) := by decide +kernel
theorem dX1_cut_81 : decode cX1_cut 81 = .ok (.lreturn, 1) := by decide +kernel
theorem dX1_write_0 : decode cX1_write 0 = .ok (.iload_n 1, 1) := by decide +kernel
theorem dX1_write_1 : decode cX1_write 1 = .ok (.invokestatic 42, 3) := by decide +kernel
theorem dX1_write_4 : decode cX1_write 4 = .ok (.ifCond .eq 10, 3) := by decide +kernel
theorem dX1_write_7 : decode cX1_write 7 = .ok (.iload_n 2, 1) := by decide +kernel
theorem dX1_write_8 : decode cX1_write 8 = .ok (.invokestatic 62, 3) := by decide +kernel
theorem dX1_write_11 : decode cX1_write 11 = .ok (.ifCond .ne 6, 3) := by decide +kernel
theorem dX1_write_14 : decode cX1_write 14 = .ok (.bipush (-3), 2) := by decide +kernel
theorem dX1_write_16 : decode cX1_write 16 = .ok (.ireturn, 1) := by decide +kernel
theorem dX1_write_17 : decode cX1_write 17 = .ok (.iload_n 2, 1) := by decide +kernel
theorem dX1_write_18 : decode cX1_write 18 = .ok (.invokestatic 124, 3) := by decide +kernel
theorem dX1_write_21 : decode cX1_write 21 = .ok (.istore_n 3, 1) := by decide +kernel
theorem dX1_write_22 : decode cX1_write 22 = .ok (.iload_n 2, 1) := by decide +kernel
theorem dX1_write_23 : decode cX1_write 23 = .ok (.iload_n 3, 1) := by decide +kernel
theorem dX1_write_24 : decode cX1_write 24 = .ok (.invokestatic 127, 3) := by decide +kernel
theorem dX1_write_27 : decode cX1_write 27 = .ok (.lstore 4, 2) := by decide +kernel
theorem dX1_write_29 : decode cX1_write 29 = .ok (.aload_n 0, 1) := by decide +kernel
theorem dX1_write_30 : decode cX1_write 30 = .ok (.getfield 11, 3) := by decide +kernel
theorem dX1_write_33 : decode cX1_write 33 = .ok (.iload_n 1, 1) := by decide +kernel
theorem dX1_write_34 : decode cX1_write 34 = .ok (.aaload, 1) := by decide +kernel
theorem dX1_write_35 : decode cX1_write 35 = .ok (.aload_n 0, 1) := by decide +kernel
theorem dX1_write_36 : decode cX1_write 36 = .ok (.getfield 32, 3) := by decide +kernel
theorem dX1_write_39 : decode cX1_write 39 = .ok (.invokestatic 110, 3) := by decide +kernel
theorem dX1_write_42 : decode cX1_write 42 = .ok (.aload_n 0, 1) := by decide +kernel
theorem dX1_write_43 : decode cX1_write 43 = .ok (.aload_n 0, 1) := by decide +kernel
theorem dX1_write_44 : decode cX1_write 44 = .ok (.getfield 26, 3) := by decide +kernel
theorem dX1_write_47 : decode cX1_write 47 = .ok (.arraylength, 1) := by decide +kernel
theorem dX1_write_48 : decode cX1_write 48 = .ok (.putfield 29, 3) := by decide +kernel
theorem dX1_write_51 : decode cX1_write 51 = .ok (.aload_n 0, 1) := by decide +kernel
theorem dX1_write_52 : decode cX1_write 52 = .ok (.getfield 32, 3) := by decide +kernel
theorem dX1_write_55 : decode cX1_write 55 = .ok (.invokestatic 131, 3) := by decide +kernel
theorem dX1_write_58 : decode cX1_write 58 = .ok (.istore 6, 2) := by decide +kernel
theorem dX1_write_60 : decode cX1_write 60 = .ok (.iconst 0, 1) := by decide +kernel
theorem dX1_write_61 : decode cX1_write 61 = .ok (.istore 7, 2) := by decide +kernel
theorem dX1_write_63 : decode cX1_write 63 = .ok (.iload 7, 2) := by decide +kernel
theorem dX1_write_65 : decode cX1_write 65 = .ok (.sipush 512, 3) := by decide +kernel
theorem dX1_write_68 : decode cX1_write 68 = .ok (.if_icmp .ge 53, 3) := by decide +kernel
theorem dX1_write_71 : decode cX1_write 71 = .ok (.iload 6, 2) := by decide +kernel
theorem dX1_write_73 : decode cX1_write 73 = .ok (.ifCond .le 48, 3) := by decide +kernel
theorem dX1_write_76 : decode cX1_write 76 = .ok (.aload_n 0, 1) := by decide +kernel
theorem dX1_write_77 : decode cX1_write 77 = .ok (.getfield 32, 3) := by decide +kernel
theorem dX1_write_80 : decode cX1_write 80 = .ok (.iload 6, 2) := by decide +kernel
theorem dX1_write_82 : decode cX1_write 82 = .ok (.lload 4, 2) := by decide +kernel
theorem dX1_write_84 : decode cX1_write 84 = .ok (.invokestatic 134, 3) := by decide +kernel
theorem dX1_write_87 : decode cX1_write 87 = .ok (.lstore 8, 2) := by decide +kernel
theorem dX1_write_89 : decode cX1_write 89 = .ok (.aload_n 0, 1) := by decide +kernel
theorem dX1_write_90 : decode cX1_write 90 = .ok (.getfield 32, 3) := by decide +kernel
theorem dX1_write_93 : decode cX1_write 93 = .ok (.invokestatic 131, 3) := by decide +kernel
theorem dX1_write_96 : decode cX1_write 96 = .ok (.istore 6, 2) := by decide +kernel
theorem dX1_write_98 : decode cX1_write 98 = .ok (.aload_n 0, 1) := by decide +kernel
theorem dX1_write_99 : decode cX1_write 99 = .ok (.lload 8, 2) := by decide +kernel
theorem dX1_write_101 : decode cX1_write 101 = .ok (.iload_n 2, 1) := by decide +kernel
theorem dX1_write_102 : decode cX1_write 102 = .ok (.iload 6, 2) := by decide +kernel
theorem dX1_write_104 : decode cX1_write 104 = .ok (.ifCond .le 7, 3) := by decide +kernel
theorem dX1_write_107 : decode cX1_write 107 = .ok (.iload_n 3, 1) := by decide +kernel
theorem dX1_write_108 : decode cX1_write 108 = .ok (.goto 4, 3) := by decide +kernel
theorem dX1_write_111 : decode cX1_write 111 = .ok (.iconst 0, 1) := by decide +kernel
theorem dX1_write_112 : decode cX1_write 112 = .ok (.invokevirtual 138, 3) := by decide +kernel
theorem dX1_write_115 : decode cX1_write 115 = .ok (.iinc 7 1, 3) := by decide +kernel
theorem dX1_write_118 : decode cX1_write 118 = .ok (.goto (-55), 3) := by decide +kernel
theorem dX1_write_121 : decode cX1_write 121 = .ok (.aload_n 0, 1) := by decide +kernel
theorem dX1_write_122 : decode cX1_write 122 = .ok (.getfield 29, 3) := by decide +kernel
theorem dX1_write_125 : decode cX1_write 125 = .ok (.aload_n 0, 1) := by decide +kernel
theorem dX1_write_126 : decode cX1_write 126 = .ok (.getfield 26, 3) := by decide +kernel
theorem dX1_write_129 : decode cX1_write 129 = .ok (.arraylength, 1) := by decide +kernel
theorem dX1_write_130 : decode cX1_write 130 = .ok (.if_icmp .ne 9, 3) := by decide +kernel
theorem dX1_write_133 : decode cX1_write 133 = .ok (.aload_n 0, 1) := by decide +kernel
theorem dX1_write_134 : decode cX1_write 134 = .ok (.bipush 48, 2) := by decide +kernel
theorem dX1_write_136 : decode cX1_write 136 = .ok (.invokevirtual 142, 3) := by decide +kernel
theorem dX1_write_139 : decode cX1_write 139 = .ok (.aload_n 0, 1) := by decide +kernel
theorem dX1_write_140 : decode cX1_write 140 = .ok (.getfield 14, 3) := by decide +kernel
theorem dX1_write_143 : decode cX1_write 143 = .ok (.iload_n 1, 1) := by decide +kernel
theorem dX1_write_144 : decode cX1_write 144 = .ok (.baload, 1) := by decide +kernel
theorem dX1_write_145 : decode cX1_write 145 = .ok (.ifCond .eq 9, 3) := by decide +kernel
theorem dX1_write_148 : decode cX1_write 148 = .ok (.aload_n 0, 1) := by decide +kernel
theorem dX1_write_149 : decode cX1_write 149 = .ok (.bipush 45, 2) := by decide +kernel
theorem dX1_write_151 : decode cX1_write 151 = .ok (.invokevirtual 142, 3) := by decide +kernel
theorem dX1_write_154 : decode cX1_write 154 = .ok (.aload_n 0, 1) := by decide +kernel
theorem dX1_write_155 : decode cX1_write 155 = .ok (.getfield 26, 3) := by decide +kernel
theorem dX1_write_158 : decode cX1_write 158 = .ok (.arraylength, 1) := by decide +kernel
theorem dX1_write_159 : decode cX1_write 159 = .ok (.aload_n 0, 1) := by decide +kernel
theorem dX1_write_160 : decode cX1_write 160 = .ok (.getfield 29, 3) := by decide +kernel
theorem dX1_write_163 : decode cX1_write 163 = .ok (.isub, 1) := by decide +kernel
theorem dX1_write_164 : decode cX1_write 164 = .ok (.ireturn, 1) := by decide +kernel
theorem dX1_byteOf_0 : decode cX1_byteOf 0 = .ok (.iload_n 1, 1) := by decide +kernel
theorem dX1_byteOf_1 : decode cX1_byteOf 1 = .ok (.ifCond .lt 31, 3) := by decide +kernel
theorem dX1_byteOf_4 : decode cX1_byteOf 4 = .ok (.iload_n 1, 1) := by decide +kernel
theorem dX1_byteOf_5 : decode cX1_byteOf 5 = .ok (.aload_n 0, 1) := by decide +kernel
theorem dX1_byteOf_6 : decode cX1_byteOf 6 = .ok (.getfield 26, 3) := by decide +kernel
theorem dX1_byteOf_9 : decode cX1_byteOf 9 = .ok (.arraylength, 1) := by decide +kernel
theorem dX1_byteOf_10 : decode cX1_byteOf 10 = .ok (.aload_n 0, 1) := by decide +kernel
theorem dX1_byteOf_11 : decode cX1_byteOf 11 = .ok (.getfield 29, 3) := by decide +kernel
theorem dX1_byteOf_14 : decode cX1_byteOf 14 = .ok (.isub, 1) := by decide +kernel
theorem dX1_byteOf_15 : decode cX1_byteOf 15 = .ok (.if_icmp .ge 17, 3) := by decide +kernel
theorem dX1_byteOf_18 : decode cX1_byteOf 18 = .ok (.aload_n 0, 1) := by decide +kernel
theorem dX1_byteOf_19 : decode cX1_byteOf 19 = .ok (.getfield 26, 3) := by decide +kernel
theorem dX1_byteOf_22 : decode cX1_byteOf 22 = .ok (.aload_n 0, 1) := by decide +kernel
theorem dX1_byteOf_23 : decode cX1_byteOf 23 = .ok (.getfield 29, 3) := by decide +kernel
theorem dX1_byteOf_26 : decode cX1_byteOf 26 = .ok (.iload_n 1, 1) := by decide +kernel
theorem dX1_byteOf_27 : decode cX1_byteOf 27 = .ok (.iadd, 1) := by decide +kernel
theorem dX1_byteOf_28 : decode cX1_byteOf 28 = .ok (.baload, 1) := by decide +kernel
theorem dX1_byteOf_29 : decode cX1_byteOf 29 = .ok (.goto 4, 3) := by decide +kernel
theorem dX1_byteOf_32 : decode cX1_byteOf 32 = .ok (.iconst (-1), 1) := by decide +kernel
theorem dX1_byteOf_33 : decode cX1_byteOf 33 = .ok (.ireturn, 1) := by decide +kernel
theorem dX1_isSlot_0 : decode cX1_isSlot 0 = .ok (.iload_n 0, 1) := by decide +kernel
theorem dX1_isSlot_1 : decode cX1_isSlot 1 = .ok (.ifCond .lt 13, 3) := by decide +kernel
theorem dX1_isSlot_4 : decode cX1_isSlot 4 = .ok (.iload_n 0, 1) := by decide +kernel
theorem dX1_isSlot_5 : decode cX1_isSlot 5 = .ok (.bipush 64, 2) := by decide +kernel
theorem dX1_isSlot_7 : decode cX1_isSlot 7 = .ok (.if_icmp .ge 7, 3) := by decide +kernel
theorem dX1_isSlot_10 : decode cX1_isSlot 10 = .ok (.iconst 1, 1) := by decide +kernel
theorem dX1_isSlot_11 : decode cX1_isSlot 11 = .ok (.goto 4, 3) := by decide +kernel
theorem dX1_isSlot_14 : decode cX1_isSlot 14 = .ok (.iconst 0, 1) := by decide +kernel
theorem dX1_isSlot_15 : decode cX1_isSlot 15 = .ok (.ireturn, 1) := by decide +kernel
theorem dX1_isBase_0 : decode cX1_isBase 0 = .ok (.iload_n 0, 1) := by decide +kernel
theorem dX1_isBase_1 : decode cX1_isBase 1 = .ok (.iconst 2, 1) := by decide +kernel
theorem dX1_isBase_2 : decode cX1_isBase 2 = .ok (.if_icmp .lt 13, 3) := by decide +kernel
theorem dX1_isBase_5 : decode cX1_isBase 5 = .ok (.iload_n 0, 1) := by decide +kernel
theorem dX1_isBase_6 : decode cX1_isBase 6 = .ok (.bipush 36, 2) := by decide +kernel
theorem dX1_isBase_8 : decode cX1_isBase 8 = .ok (.if_icmp .gt 7, 3) := by decide +kernel
theorem dX1_isBase_11 : decode cX1_isBase 11 = .ok (.iconst 1, 1) := by decide +kernel
theorem dX1_isBase_12 : decode cX1_isBase 12 = .ok (.goto 4, 3) := by decide +kernel
theorem dX1_isBase_15 : decode cX1_isBase 15 = .ok (.iconst 0, 1) := by decide +kernel
theorem dX1_isBase_16 : decode cX1_isBase 16 = .ok (.ireturn, 1) := by decide +kernel
theorem dX1_isWordLength_0 : decode cX1_isWordLength 0 = .ok (.iload_n 0, 1) := by decide +kernel
theorem dX1_isWordLength_1 : decode cX1_isWordLength 1 = .ok (.iconst 1, 1) := by decide +kernel
theorem dX1_isWordLength_2 : decode cX1_isWordLength 2 = .ok (.if_icmp .lt 13, 3) := by decide +kernel
theorem dX1_isWordLength_5 : decode cX1_isWordLength 5 = .ok (.iload_n 0, 1) := by decide +kernel
theorem dX1_isWordLength_6 : decode cX1_isWordLength 6 = .ok (.bipush 64, 2) := by decide +kernel
theorem dX1_isWordLength_8 : decode cX1_isWordLength 8 = .ok (.if_icmp .gt 7, 3) := by decide +kernel
theorem dX1_isWordLength_11 : decode cX1_isWordLength 11 = .ok (.iconst 1, 1) := by decide +kernel
theorem dX1_isWordLength_12 : decode cX1_isWordLength 12 = .ok (.goto 4, 3) := by decide +kernel
theorem dX1_isWordLength_15 : decode cX1_isWordLength 15 = .ok (.iconst 0, 1) := by decide +kernel
theorem dX1_isWordLength_16 : decode cX1_isWordLength 16 = .ok (.ireturn, 1) := by decide +kernel
theorem dX1_digitValue_0 : decode cX1_digitValue 0 = .ok (.iload_n 0, 1) := by decide +kernel
theorem dX1_digitValue_1 : decode cX1_digitValue 1 = .ok (.bipush 48, 2) := by decide +kernel
theorem dX1_digitValue_3 : decode cX1_digitValue 3 = .ok (.if_icmp .lt 14, 3) := by decide +kernel
theorem dX1_digitValue_6 : decode cX1_digitValue 6 = .ok (.iload_n 0, 1) := by decide +kernel
theorem dX1_digitValue_7 : decode cX1_digitValue 7 = .ok (.bipush 57, 2) := by decide +kernel
theorem dX1_digitValue_9 : decode cX1_digitValue 9 = .ok (.if_icmp .gt 8, 3) := by decide +kernel
theorem dX1_digitValue_12 : decode cX1_digitValue 12 = .ok (.iload_n 0, 1) := by decide +kernel
theorem dX1_digitValue_13 : decode cX1_digitValue 13 = .ok (.bipush 48, 2) := by decide +kernel
theorem dX1_digitValue_15 : decode cX1_digitValue 15 = .ok (.isub, 1) := by decide +kernel
theorem dX1_digitValue_16 : decode cX1_digitValue 16 = .ok (.ireturn, 1) := by decide +kernel
theorem dX1_digitValue_17 : decode cX1_digitValue 17 = .ok (.iload_n 0, 1) := by decide +kernel
theorem dX1_digitValue_18 : decode cX1_digitValue 18 = .ok (.bipush 97, 2) := by decide +kernel
theorem dX1_digitValue_20 : decode cX1_digitValue 20 = .ok (.if_icmp .lt 17, 3) := by decide +kernel
theorem dX1_digitValue_23 : decode cX1_digitValue 23 = .ok (.iload_n 0, 1) := by decide +kernel
theorem dX1_digitValue_24 : decode cX1_digitValue 24 = .ok (.bipush 122, 2) := by decide +kernel
theorem dX1_digitValue_26 : decode cX1_digitValue 26 = .ok (.if_icmp .gt 11, 3) := by decide +kernel
theorem dX1_digitValue_29 : decode cX1_digitValue 29 = .ok (.iload_n 0, 1) := by decide +kernel
theorem dX1_digitValue_30 : decode cX1_digitValue 30 = .ok (.bipush 97, 2) := by decide +kernel
theorem dX1_digitValue_32 : decode cX1_digitValue 32 = .ok (.isub, 1) := by decide +kernel
theorem dX1_digitValue_33 : decode cX1_digitValue 33 = .ok (.bipush 10, 2) := by decide +kernel
theorem dX1_digitValue_35 : decode cX1_digitValue 35 = .ok (.iadd, 1) := by decide +kernel
theorem dX1_digitValue_36 : decode cX1_digitValue 36 = .ok (.ireturn, 1) := by decide +kernel
theorem dX1_digitValue_37 : decode cX1_digitValue 37 = .ok (.iload_n 0, 1) := by decide +kernel
theorem dX1_digitValue_38 : decode cX1_digitValue 38 = .ok (.bipush 65, 2) := by decide +kernel
theorem dX1_digitValue_40 : decode cX1_digitValue 40 = .ok (.if_icmp .lt 17, 3) := by decide +kernel
theorem dX1_digitValue_43 : decode cX1_digitValue 43 = .ok (.iload_n 0, 1) := by decide +kernel
theorem dX1_digitValue_44 : decode cX1_digitValue 44 = .ok (.bipush 90, 2) := by decide +kernel
theorem dX1_digitValue_46 : decode cX1_digitValue 46 = .ok (.if_icmp .gt 11, 3) := by decide +kernel
theorem dX1_digitValue_49 : decode cX1_digitValue 49 = .ok (.iload_n 0, 1) := by decide +kernel
theorem dX1_digitValue_50 : decode cX1_digitValue 50 = .ok (.bipush 65, 2) := by decide +kernel
theorem dX1_digitValue_52 : decode cX1_digitValue 52 = .ok (.isub, 1) := by decide +kernel
theorem dX1_digitValue_53 : decode cX1_digitValue 53 = .ok (.bipush 10, 2) := by decide +kernel
theorem dX1_digitValue_55 : decode cX1_digitValue 55 = .ok (.iadd, 1) := by decide +kernel
theorem dX1_digitValue_56 : decode cX1_digitValue 56 = .ok (.ireturn, 1) := by decide +kernel
theorem dX1_digitValue_57 : decode cX1_digitValue 57 = .ok (.iconst (-1), 1) := by decide +kernel
theorem dX1_digitValue_58 : decode cX1_digitValue 58 = .ok (.ireturn, 1) := by decide +kernel
theorem dX1_areDigitsOf_0 : decode cX1_areDigitsOf 0 = .ok (.iconst 0, 1) := by decide +kernel
theorem dX1_areDigitsOf_1 : decode cX1_areDigitsOf 1 = .ok (.istore_n 3, 1) := by decide +kernel
theorem dX1_areDigitsOf_2 : decode cX1_areDigitsOf 2 = .ok (.iload_n 3, 1) := by decide +kernel
theorem dX1_areDigitsOf_3 : decode cX1_areDigitsOf 3 = .ok (.iload_n 2, 1) := by decide +kernel
theorem dX1_areDigitsOf_4 : decode cX1_areDigitsOf 4 = .ok (.if_icmp .ge 21, 3) := by decide +kernel
theorem dX1_areDigitsOf_7 : decode cX1_areDigitsOf 7 = .ok (.aload_n 0, 1) := by decide +kernel
theorem dX1_areDigitsOf_8 : decode cX1_areDigitsOf 8 = .ok (.getfield 18, 3) := by decide +kernel
theorem dX1_areDigitsOf_11 : decode cX1_areDigitsOf 11 = .ok (.iload_n 3, 1) := by decide +kernel
theorem dX1_areDigitsOf_12 : decode cX1_areDigitsOf 12 = .ok (.baload, 1) := by decide +kernel
theorem dX1_areDigitsOf_13 : decode cX1_areDigitsOf 13 = .ok (.iload_n 1, 1) := by decide +kernel
theorem dX1_areDigitsOf_14 : decode cX1_areDigitsOf 14 = .ok (.if_icmp .lt 5, 3) := by decide +kernel
theorem dX1_areDigitsOf_17 : decode cX1_areDigitsOf 17 = .ok (.iconst 0, 1) := by decide +kernel
theorem dX1_areDigitsOf_18 : decode cX1_areDigitsOf 18 = .ok (.ireturn, 1) := by decide +kernel
theorem dX1_areDigitsOf_19 : decode cX1_areDigitsOf 19 = .ok (.iinc 3 1, 3) := by decide +kernel
theorem dX1_areDigitsOf_22 : decode cX1_areDigitsOf 22 = .ok (.goto (-20), 3) := by decide +kernel
theorem dX1_areDigitsOf_25 : decode cX1_areDigitsOf 25 = .ok (.iconst 1, 1) := by decide +kernel
theorem dX1_areDigitsOf_26 : decode cX1_areDigitsOf 26 = .ok (.ireturn, 1) := by decide +kernel
theorem dX1_store_0 : decode cX1_store 0 = .ok (.aload_n 2, 1) := by decide +kernel
theorem dX1_store_1 : decode cX1_store 1 = .ok (.invokestatic 131, 3) := by decide +kernel
theorem dX1_store_4 : decode cX1_store 4 = .ok (.istore 4, 2) := by decide +kernel
theorem dX1_store_6 : decode cX1_store 6 = .ok (.iload 4, 2) := by decide +kernel
theorem dX1_store_8 : decode cX1_store 8 = .ok (.bipush 16, 2) := by decide +kernel
theorem dX1_store_10 : decode cX1_store 10 = .ok (.if_icmp .le 5, 3) := by decide +kernel
theorem dX1_store_13 : decode cX1_store 13 = .ok (.iconst 1, 1) := by decide +kernel
theorem dX1_store_14 : decode cX1_store 14 = .ok (.ireturn, 1) := by decide +kernel
theorem dX1_store_15 : decode cX1_store 15 = .ok (.aload_n 2, 1) := by decide +kernel
theorem dX1_store_16 : decode cX1_store 16 = .ok (.iconst 0, 1) := by decide +kernel
theorem dX1_store_17 : decode cX1_store 17 = .ok (.aload_n 0, 1) := by decide +kernel
theorem dX1_store_18 : decode cX1_store 18 = .ok (.getfield 11, 3) := by decide +kernel
theorem dX1_store_21 : decode cX1_store 21 = .ok (.iload_n 1, 1) := by decide +kernel
theorem dX1_store_22 : decode cX1_store 22 = .ok (.aaload, 1) := by decide +kernel
theorem dX1_store_23 : decode cX1_store 23 = .ok (.iconst 0, 1) := by decide +kernel
theorem dX1_store_24 : decode cX1_store 24 = .ok (.bipush 16, 2) := by decide +kernel
theorem dX1_store_26 : decode cX1_store 26 = .ok (.invokestatic 146, 3) := by decide +kernel
theorem dX1_store_29 : decode cX1_store 29 = .ok (.aload_n 0, 1) := by decide +kernel
theorem dX1_store_30 : decode cX1_store 30 = .ok (.getfield 14, 3) := by decide +kernel
theorem dX1_store_33 : decode cX1_store 33 = .ok (.iload_n 1, 1) := by decide +kernel
theorem dX1_store_34 : decode cX1_store 34 = .ok (.iload_n 3, 1) := by decide +kernel
theorem dX1_store_35 : decode cX1_store 35 = .ok (.ifCond .eq 12, 3) := by decide +kernel
theorem dX1_store_38 : decode cX1_store 38 = .ok (.iload 4, 2) := by decide +kernel
theorem dX1_store_40 : decode cX1_store 40 = .ok (.ifCond .le 7, 3) := by decide +kernel
theorem dX1_store_43 : decode cX1_store 43 = .ok (.iconst 1, 1) := by decide +kernel
theorem dX1_store_44 : decode cX1_store 44 = .ok (.goto 4, 3) := by decide +kernel
theorem dX1_store_47 : decode cX1_store 47 = .ok (.iconst 0, 1) := by decide +kernel
theorem dX1_store_48 : decode cX1_store 48 = .ok (.bastore, 1) := by decide +kernel
theorem dX1_store_49 : decode cX1_store 49 = .ok (.iconst 0, 1) := by decide +kernel
theorem dX1_store_50 : decode cX1_store 50 = .ok (.ireturn, 1) := by decide +kernel
theorem dX1_sum_0 : decode cX1_sum 0 = .ok (.aload_n 0, 1) := by decide +kernel
theorem dX1_sum_1 : decode cX1_sum 1 = .ok (.getfield 14, 3) := by decide +kernel
theorem dX1_sum_4 : decode cX1_sum 4 = .ok (.iload_n 2, 1) := by decide +kernel
theorem dX1_sum_5 : decode cX1_sum 5 = .ok (.baload, 1) := by decide +kernel
theorem dX1_sum_6 : decode cX1_sum 6 = .ok (.iload 4, 2) := by decide +kernel
theorem dX1_sum_8 : decode cX1_sum 8 = .ok (.if_icmp .ne 34, 3) := by decide +kernel
theorem dX1_sum_11 : decode cX1_sum 11 = .ok (.aload_n 0, 1) := by decide +kernel
theorem dX1_sum_12 : decode cX1_sum 12 = .ok (.getfield 11, 3) := by decide +kernel
theorem dX1_sum_15 : decode cX1_sum 15 = .ok (.iload_n 2, 1) := by decide +kernel
theorem dX1_sum_16 : decode cX1_sum 16 = .ok (.aaload, 1) := by decide +kernel
theorem dX1_sum_17 : decode cX1_sum 17 = .ok (.aload_n 0, 1) := by decide +kernel
theorem dX1_sum_18 : decode cX1_sum 18 = .ok (.getfield 11, 3) := by decide +kernel
theorem dX1_sum_21 : decode cX1_sum 21 = .ok (.iload_n 3, 1) := by decide +kernel
theorem dX1_sum_22 : decode cX1_sum 22 = .ok (.aaload, 1) := by decide +kernel
theorem dX1_sum_23 : decode cX1_sum 23 = .ok (.aload_n 0, 1) := by decide +kernel
theorem dX1_sum_24 : decode cX1_sum 24 = .ok (.getfield 32, 3) := by decide +kernel
theorem dX1_sum_27 : decode cX1_sum 27 = .ok (.invokestatic 152, 3) := by decide +kernel
theorem dX1_sum_30 : decode cX1_sum 30 = .ok (.aload_n 0, 1) := by decide +kernel
theorem dX1_sum_31 : decode cX1_sum 31 = .ok (.iload_n 1, 1) := by decide +kernel
theorem dX1_sum_32 : decode cX1_sum 32 = .ok (.aload_n 0, 1) := by decide +kernel
theorem dX1_sum_33 : decode cX1_sum 33 = .ok (.getfield 32, 3) := by decide +kernel
theorem dX1_sum_36 : decode cX1_sum 36 = .ok (.iload 4, 2) := by decide +kernel
theorem dX1_sum_38 : decode cX1_sum 38 = .ok (.invokevirtual 54, 3) := by decide +kernel
theorem dX1_sum_41 : decode cX1_sum 41 = .ok (.ireturn, 1) := by decide +kernel
theorem dX1_sum_42 : decode cX1_sum 42 = .ok (.aload_n 0, 1) := by decide +kernel
theorem dX1_sum_43 : decode cX1_sum 43 = .ok (.getfield 11, 3) := by decide +kernel
theorem dX1_sum_46 : decode cX1_sum 46 = .ok (.iload_n 2, 1) := by decide +kernel
theorem dX1_sum_47 : decode cX1_sum 47 = .ok (.aaload, 1) := by decide +kernel
theorem dX1_sum_48 : decode cX1_sum 48 = .ok (.aload_n 0, 1) := by decide +kernel
theorem dX1_sum_49 : decode cX1_sum 49 = .ok (.getfield 11, 3) := by decide +kernel
theorem dX1_sum_52 : decode cX1_sum 52 = .ok (.iload_n 3, 1) := by decide +kernel
theorem dX1_sum_53 : decode cX1_sum 53 = .ok (.aaload, 1) := by decide +kernel
theorem dX1_sum_54 : decode cX1_sum 54 = .ok (.invokestatic 117, 3) := by decide +kernel
theorem dX1_sum_57 : decode cX1_sum 57 = .ok (.ifCond .lt 38, 3) := by decide +kernel
theorem dX1_sum_60 : decode cX1_sum 60 = .ok (.aload_n 0, 1) := by decide +kernel
theorem dX1_sum_61 : decode cX1_sum 61 = .ok (.getfield 11, 3) := by decide +kernel
theorem dX1_sum_64 : decode cX1_sum 64 = .ok (.iload_n 2, 1) := by decide +kernel
theorem dX1_sum_65 : decode cX1_sum 65 = .ok (.aaload, 1) := by decide +kernel
theorem dX1_sum_66 : decode cX1_sum 66 = .ok (.aload_n 0, 1) := by decide +kernel
theorem dX1_sum_67 : decode cX1_sum 67 = .ok (.getfield 11, 3) := by decide +kernel
theorem dX1_sum_70 : decode cX1_sum 70 = .ok (.iload_n 3, 1) := by decide +kernel
theorem dX1_sum_71 : decode cX1_sum 71 = .ok (.aaload, 1) := by decide +kernel
theorem dX1_sum_72 : decode cX1_sum 72 = .ok (.aload_n 0, 1) := by decide +kernel
theorem dX1_sum_73 : decode cX1_sum 73 = .ok (.getfield 32, 3) := by decide +kernel
theorem dX1_sum_76 : decode cX1_sum 76 = .ok (.invokestatic 155, 3) := by decide +kernel
theorem dX1_sum_79 : decode cX1_sum 79 = .ok (.aload_n 0, 1) := by decide +kernel
theorem dX1_sum_80 : decode cX1_sum 80 = .ok (.iload_n 1, 1) := by decide +kernel
theorem dX1_sum_81 : decode cX1_sum 81 = .ok (.aload_n 0, 1) := by decide +kernel
theorem dX1_sum_82 : decode cX1_sum 82 = .ok (.getfield 32, 3) := by decide +kernel
theorem dX1_sum_85 : decode cX1_sum 85 = .ok (.aload_n 0, 1) := by decide +kernel
theorem dX1_sum_86 : decode cX1_sum 86 = .ok (.getfield 14, 3) := by decide +kernel
theorem dX1_sum_89 : decode cX1_sum 89 = .ok (.iload_n 2, 1) := by decide +kernel
theorem dX1_sum_90 : decode cX1_sum 90 = .ok (.baload, 1) := by decide +kernel
theorem dX1_sum_91 : decode cX1_sum 91 = .ok (.invokevirtual 54, 3) := by decide +kernel
theorem dX1_sum_94 : decode cX1_sum 94 = .ok (.ireturn, 1) := by decide +kernel
theorem dX1_sum_95 : decode cX1_sum 95 = .ok (.aload_n 0, 1) := by decide +kernel
theorem dX1_sum_96 : decode cX1_sum 96 = .ok (.getfield 11, 3) := by decide +kernel
theorem dX1_sum_99 : decode cX1_sum 99 = .ok (.iload_n 3, 1) := by decide +kernel
theorem dX1_sum_100 : decode cX1_sum 100 = .ok (.aaload, 1) := by decide +kernel
theorem dX1_sum_101 : decode cX1_sum 101 = .ok (.aload_n 0, 1) := by decide +kernel
theorem dX1_sum_102 : decode cX1_sum 102 = .ok (.getfield 11, 3) := by decide +kernel
theorem dX1_sum_105 : decode cX1_sum 105 = .ok (.iload_n 2, 1) := by decide +kernel
theorem dX1_sum_106 : decode cX1_sum 106 = .ok (.aaload, 1) := by decide +kernel
theorem dX1_sum_107 : decode cX1_sum 107 = .ok (.aload_n 0, 1) := by decide +kernel
theorem dX1_sum_108 : decode cX1_sum 108 = .ok (.getfield 32, 3) := by decide +kernel
theorem dX1_sum_111 : decode cX1_sum 111 = .ok (.invokestatic 155, 3) := by decide +kernel
theorem dX1_sum_114 : decode cX1_sum 114 = .ok (.aload_n 0, 1) := by decide +kernel
theorem dX1_sum_115 : decode cX1_sum 115 = .ok (.iload_n 1, 1) := by decide +kernel
theorem dX1_sum_116 : decode cX1_sum 116 = .ok (.aload_n 0, 1) := by decide +kernel
theorem dX1_sum_117 : decode cX1_sum 117 = .ok (.getfield 32, 3) := by decide +kernel
theorem dX1_sum_120 : decode cX1_sum 120 = .ok (.iload 4, 2) := by decide +kernel
theorem dX1_sum_122 : decode cX1_sum 122 = .ok (.invokevirtual 54, 3) := by decide +kernel
theorem dX1_sum_125 : decode cX1_sum 125 = .ok (.ireturn, 1) := by decide +kernel
theorem dX1_quotientOrRest_0 : decode cX1_quotientOrRest 0 = .ok (.aload_n 0, 1) := by decide +kernel
theorem dX1_quotientOrRest_1 : decode cX1_quotientOrRest 1 = .ok (.getfield 11, 3) := by decide +kernel
theorem dX1_quotientOrRest_4 : decode cX1_quotientOrRest 4 = .ok (.iload_n 3, 1) := by decide +kernel
theorem dX1_quotientOrRest_5 : decode cX1_quotientOrRest 5 = .ok (.aaload, 1) := by decide +kernel
theorem dX1_quotientOrRest_6 : decode cX1_quotientOrRest 6 = .ok (.invokestatic 131, 3) := by decide +kernel
theorem dX1_quotientOrRest_9 : decode cX1_quotientOrRest 9 = .ok (.istore 5, 2) := by decide +kernel
theorem dX1_quotientOrRest_11 : decode cX1_quotientOrRest 11 = .ok (.iload 5, 2) := by decide +kernel
theorem dX1_quotientOrRest_13 : decode cX1_quotientOrRest 13 = .ok (.ifCond .ne 5, 3) := by decide +kernel
theorem dX1_quotientOrRest_16 : decode cX1_quotientOrRest 16 = .ok (.iconst 2, 1) := by decide +kernel
theorem dX1_quotientOrRest_17 : decode cX1_quotientOrRest 17 = .ok (.ireturn, 1) := by decide +kernel
theorem dX1_quotientOrRest_18 : decode cX1_quotientOrRest 18 = .ok (.iload 5, 2) := by decide +kernel
theorem dX1_quotientOrRest_20 : decode cX1_quotientOrRest 20 = .ok (.bipush 32, 2) := by decide +kernel
theorem dX1_quotientOrRest_22 : decode cX1_quotientOrRest 22 = .ok (.imul, 1) := by decide +kernel
theorem dX1_quotientOrRest_23 : decode cX1_quotientOrRest 23 = .ok (.aload_n 0, 1) := by decide +kernel
theorem dX1_quotientOrRest_24 : decode cX1_quotientOrRest 24 = .ok (.getfield 11, 3) := by decide +kernel
theorem dX1_quotientOrRest_27 : decode cX1_quotientOrRest 27 = .ok (.iload_n 3, 1) := by decide +kernel
theorem dX1_quotientOrRest_28 : decode cX1_quotientOrRest 28 = .ok (.aaload, 1) := by decide +kernel
theorem dX1_quotientOrRest_29 : decode cX1_quotientOrRest 29 = .ok (.invokestatic 92, 3) := by decide +kernel
theorem dX1_quotientOrRest_32 : decode cX1_quotientOrRest 32 = .ok (.isub, 1) := by decide +kernel
theorem dX1_quotientOrRest_33 : decode cX1_quotientOrRest 33 = .ok (.istore 6, 2) := by decide +kernel
theorem dX1_quotientOrRest_35 : decode cX1_quotientOrRest 35 = .ok (.aload_n 0, 1) := by decide +kernel
theorem dX1_quotientOrRest_36 : decode cX1_quotientOrRest 36 = .ok (.getfield 11, 3) := by decide +kernel
theorem dX1_quotientOrRest_39 : decode cX1_quotientOrRest 39 = .ok (.iload_n 2, 1) := by decide +kernel
theorem dX1_quotientOrRest_40 : decode cX1_quotientOrRest 40 = .ok (.aaload, 1) := by decide +kernel
theorem dX1_quotientOrRest_41 : decode cX1_quotientOrRest 41 = .ok (.iload 6, 2) := by decide +kernel
theorem dX1_quotientOrRest_43 : decode cX1_quotientOrRest 43 = .ok (.aload_n 0, 1) := by decide +kernel
theorem dX1_quotientOrRest_44 : decode cX1_quotientOrRest 44 = .ok (.getfield 32, 3) := by decide +kernel
theorem dX1_quotientOrRest_47 : decode cX1_quotientOrRest 47 = .ok (.invokestatic 96, 3) := by decide +kernel
theorem dX1_quotientOrRest_50 : decode cX1_quotientOrRest 50 = .ok (.aload_n 0, 1) := by decide +kernel
theorem dX1_quotientOrRest_51 : decode cX1_quotientOrRest 51 = .ok (.getfield 11, 3) := by decide +kernel
theorem dX1_quotientOrRest_54 : decode cX1_quotientOrRest 54 = .ok (.iload_n 3, 1) := by decide +kernel
theorem dX1_quotientOrRest_55 : decode cX1_quotientOrRest 55 = .ok (.aaload, 1) := by decide +kernel
theorem dX1_quotientOrRest_56 : decode cX1_quotientOrRest 56 = .ok (.iload 6, 2) := by decide +kernel
theorem dX1_quotientOrRest_58 : decode cX1_quotientOrRest 58 = .ok (.aload_n 0, 1) := by decide +kernel
theorem dX1_quotientOrRest_59 : decode cX1_quotientOrRest 59 = .ok (.getfield 36, 3) := by decide +kernel
theorem dX1_quotientOrRest_62 : decode cX1_quotientOrRest 62 = .ok (.invokestatic 96, 3) := by decide +kernel
theorem dX1_quotientOrRest_65 : decode cX1_quotientOrRest 65 = .ok (.aload_n 0, 1) := by decide +kernel
theorem dX1_quotientOrRest_66 : decode cX1_quotientOrRest 66 = .ok (.getfield 39, 3) := by decide +kernel
theorem dX1_quotientOrRest_69 : decode cX1_quotientOrRest 69 = .ok (.lconst 0, 1) := by decide +kernel
theorem dX1_quotientOrRest_70 : decode cX1_quotientOrRest 70 = .ok (.invokestatic 46, 3) := by decide +kernel
theorem dX1_quotientOrRest_73 : decode cX1_quotientOrRest 73 = .ok (.bipush 16, 2) := by decide +kernel
theorem dX1_quotientOrRest_75 : decode cX1_quotientOrRest 75 = .ok (.iload 5, 2) := by decide +kernel
theorem dX1_quotientOrRest_77 : decode cX1_quotientOrRest 77 = .ok (.isub, 1) := by decide +kernel
theorem dX1_quotientOrRest_78 : decode cX1_quotientOrRest 78 = .ok (.istore 7, 2) := by decide +kernel
theorem dX1_quotientOrRest_80 : decode cX1_quotientOrRest 80 = .ok (.iload 7, 2) := by decide +kernel
theorem dX1_quotientOrRest_82 : decode cX1_quotientOrRest 82 = .ok (.ifCond .lt 31, 3) := by decide +kernel
theorem dX1_quotientOrRest_85 : decode cX1_quotientOrRest 85 = .ok (.aload_n 0, 1) := by decide +kernel
theorem dX1_quotientOrRest_86 : decode cX1_quotientOrRest 86 = .ok (.getfield 39, 3) := by decide +kernel
theorem dX1_quotientOrRest_89 : decode cX1_quotientOrRest 89 = .ok (.iload 7, 2) := by decide +kernel
theorem dX1_quotientOrRest_91 : decode cX1_quotientOrRest 91 = .ok (.aload_n 0, 1) := by decide +kernel
theorem dX1_quotientOrRest_92 : decode cX1_quotientOrRest 92 = .ok (.getfield 32, 3) := by decide +kernel
theorem dX1_quotientOrRest_95 : decode cX1_quotientOrRest 95 = .ok (.aload_n 0, 1) := by decide +kernel
theorem dX1_quotientOrRest_96 : decode cX1_quotientOrRest 96 = .ok (.getfield 36, 3) := by decide +kernel
theorem dX1_quotientOrRest_99 : decode cX1_quotientOrRest 99 = .ok (.iload 5, 2) := by decide +kernel
theorem dX1_quotientOrRest_101 : decode cX1_quotientOrRest 101 = .ok (.iload 7, 2) := by decide +kernel
theorem dX1_quotientOrRest_103 : decode cX1_quotientOrRest 103 = .ok (.invokestatic 158, 3) := by decide +kernel
theorem dX1_quotientOrRest_106 : decode cX1_quotientOrRest 106 = .ok (.lastore, 1) := by decide +kernel
theorem dX1_quotientOrRest_107 : decode cX1_quotientOrRest 107 = .ok (.iinc 7 (-1), 3) := by decide +kernel
theorem dX1_quotientOrRest_110 : decode cX1_quotientOrRest 110 = .ok (.goto (-30), 3) := by decide +kernel
theorem dX1_quotientOrRest_113 : decode cX1_quotientOrRest 113 = .ok (.iload 4, 2) := by decide +kernel
theorem dX1_quotientOrRest_115 : decode cX1_quotientOrRest 115 = .ok (.ifCond .eq 32, 3) := by decide +kernel
theorem dX1_quotientOrRest_118 : decode cX1_quotientOrRest 118 = .ok (.aload_n 0, 1) := by decide +kernel
theorem dX1_quotientOrRest_119 : decode cX1_quotientOrRest 119 = .ok (.getfield 32, 3) := by decide +kernel
theorem dX1_quotientOrRest_122 : decode cX1_quotientOrRest 122 = .ok (.iload 6, 2) := by decide +kernel
theorem dX1_quotientOrRest_124 : decode cX1_quotientOrRest 124 = .ok (.aload_n 0, 1) := by decide +kernel
theorem dX1_quotientOrRest_125 : decode cX1_quotientOrRest 125 = .ok (.getfield 39, 3) := by decide +kernel
theorem dX1_quotientOrRest_128 : decode cX1_quotientOrRest 128 = .ok (.invokestatic 100, 3) := by decide +kernel
theorem dX1_quotientOrRest_131 : decode cX1_quotientOrRest 131 = .ok (.aload_n 0, 1) := by decide +kernel
theorem dX1_quotientOrRest_132 : decode cX1_quotientOrRest 132 = .ok (.iload_n 1, 1) := by decide +kernel
theorem dX1_quotientOrRest_133 : decode cX1_quotientOrRest 133 = .ok (.aload_n 0, 1) := by decide +kernel
theorem dX1_quotientOrRest_134 : decode cX1_quotientOrRest 134 = .ok (.getfield 39, 3) := by decide +kernel
theorem dX1_quotientOrRest_137 : decode cX1_quotientOrRest 137 = .ok (.aload_n 0, 1) := by decide +kernel
theorem dX1_quotientOrRest_138 : decode cX1_quotientOrRest 138 = .ok (.getfield 14, 3) := by decide +kernel
theorem dX1_quotientOrRest_141 : decode cX1_quotientOrRest 141 = .ok (.iload_n 2, 1) := by decide +kernel
theorem dX1_quotientOrRest_142 : decode cX1_quotientOrRest 142 = .ok (.baload, 1) := by decide +kernel
theorem dX1_quotientOrRest_143 : decode cX1_quotientOrRest 143 = .ok (.invokevirtual 54, 3) := by decide +kernel
theorem dX1_quotientOrRest_146 : decode cX1_quotientOrRest 146 = .ok (.ireturn, 1) := by decide +kernel
theorem dX1_quotientOrRest_147 : decode cX1_quotientOrRest 147 = .ok (.aload_n 0, 1) := by decide +kernel
theorem dX1_quotientOrRest_148 : decode cX1_quotientOrRest 148 = .ok (.iload_n 1, 1) := by decide +kernel
theorem dX1_quotientOrRest_149 : decode cX1_quotientOrRest 149 = .ok (.aload_n 0, 1) := by decide +kernel
theorem dX1_quotientOrRest_150 : decode cX1_quotientOrRest 150 = .ok (.getfield 39, 3) := by decide +kernel
theorem dX1_quotientOrRest_153 : decode cX1_quotientOrRest 153 = .ok (.aload_n 0, 1) := by decide +kernel
theorem dX1_quotientOrRest_154 : decode cX1_quotientOrRest 154 = .ok (.getfield 14, 3) := by decide +kernel
theorem dX1_quotientOrRest_157 : decode cX1_quotientOrRest 157 = .ok (.iload_n 2, 1) := by decide +kernel
theorem dX1_quotientOrRest_158 : decode cX1_quotientOrRest 158 = .ok (.baload, 1) := by decide +kernel
theorem dX1_quotientOrRest_159 : decode cX1_quotientOrRest 159 = .ok (.aload_n 0, 1) := by decide +kernel
theorem dX1_quotientOrRest_160 : decode cX1_quotientOrRest 160 = .ok (.getfield 14, 3) := by decide +kernel
theorem dX1_quotientOrRest_163 : decode cX1_quotientOrRest 163 = .ok (.iload_n 3, 1) := by decide +kernel
theorem dX1_quotientOrRest_164 : decode cX1_quotientOrRest 164 = .ok (.baload, 1) := by decide +kernel
theorem dX1_quotientOrRest_165 : decode cX1_quotientOrRest 165 = .ok (.if_icmp .eq 7, 3) := by decide +kernel
theorem dX1_quotientOrRest_168 : decode cX1_quotientOrRest 168 = .ok (.iconst 1, 1) := by decide +kernel
theorem dX1_quotientOrRest_169 : decode cX1_quotientOrRest 169 = .ok (.goto 4, 3) := by decide +kernel
theorem dX1_quotientOrRest_172 : decode cX1_quotientOrRest 172 = .ok (.iconst 0, 1) := by decide +kernel
theorem dX1_quotientOrRest_173 : decode cX1_quotientOrRest 173 = .ok (.invokevirtual 54, 3) := by decide +kernel
theorem dX1_quotientOrRest_176 : decode cX1_quotientOrRest 176 = .ok (.ireturn, 1) := by decide +kernel
theorem dX1_bitByBit_0 : decode cX1_bitByBit 0 = .ok (.aload_n 0, 1) := by decide +kernel
theorem dX1_bitByBit_1 : decode cX1_bitByBit 1 = .ok (.iload_n 3, 1) := by decide +kernel
theorem dX1_bitByBit_2 : decode cX1_bitByBit 2 = .ok (.aload_n 0, 1) := by decide +kernel
theorem dX1_bitByBit_3 : decode cX1_bitByBit 3 = .ok (.getfield 32, 3) := by decide +kernel
theorem dX1_bitByBit_6 : decode cX1_bitByBit 6 = .ok (.invokevirtual 162, 3) := by decide +kernel
theorem dX1_bitByBit_9 : decode cX1_bitByBit 9 = .ok (.aload_n 0, 1) := by decide +kernel
theorem dX1_bitByBit_10 : decode cX1_bitByBit 10 = .ok (.iload 4, 2) := by decide +kernel
theorem dX1_bitByBit_12 : decode cX1_bitByBit 12 = .ok (.aload_n 0, 1) := by decide +kernel
theorem dX1_bitByBit_13 : decode cX1_bitByBit 13 = .ok (.getfield 36, 3) := by decide +kernel
theorem dX1_bitByBit_16 : decode cX1_bitByBit 16 = .ok (.invokevirtual 162, 3) := by decide +kernel
theorem dX1_bitByBit_19 : decode cX1_bitByBit 19 = .ok (.iconst 0, 1) := by decide +kernel
theorem dX1_bitByBit_20 : decode cX1_bitByBit 20 = .ok (.istore 5, 2) := by decide +kernel
theorem dX1_bitByBit_22 : decode cX1_bitByBit 22 = .ok (.iload 5, 2) := by decide +kernel
theorem dX1_bitByBit_24 : decode cX1_bitByBit 24 = .ok (.aload_n 0, 1) := by decide +kernel
theorem dX1_bitByBit_25 : decode cX1_bitByBit 25 = .ok (.getfield 32, 3) := by decide +kernel
theorem dX1_bitByBit_28 : decode cX1_bitByBit 28 = .ok (.arraylength, 1) := by decide +kernel
theorem dX1_bitByBit_29 : decode cX1_bitByBit 29 = .ok (.if_icmp .ge 34, 3) := by decide +kernel
theorem dX1_bitByBit_32 : decode cX1_bitByBit 32 = .ok (.aload_n 0, 1) := by decide +kernel
theorem dX1_bitByBit_33 : decode cX1_bitByBit 33 = .ok (.getfield 32, 3) := by decide +kernel
theorem dX1_bitByBit_36 : decode cX1_bitByBit 36 = .ok (.iload 5, 2) := by decide +kernel
theorem dX1_bitByBit_38 : decode cX1_bitByBit 38 = .ok (.iload_n 1, 1) := by decide +kernel
theorem dX1_bitByBit_39 : decode cX1_bitByBit 39 = .ok (.aload_n 0, 1) := by decide +kernel
theorem dX1_bitByBit_40 : decode cX1_bitByBit 40 = .ok (.getfield 32, 3) := by decide +kernel
theorem dX1_bitByBit_43 : decode cX1_bitByBit 43 = .ok (.iload 5, 2) := by decide +kernel
theorem dX1_bitByBit_45 : decode cX1_bitByBit 45 = .ok (.laload, 1) := by decide +kernel
theorem dX1_bitByBit_46 : decode cX1_bitByBit 46 = .ok (.aload_n 0, 1) := by decide +kernel
theorem dX1_bitByBit_47 : decode cX1_bitByBit 47 = .ok (.getfield 36, 3) := by decide +kernel
theorem dX1_bitByBit_50 : decode cX1_bitByBit 50 = .ok (.iload 5, 2) := by decide +kernel
theorem dX1_bitByBit_52 : decode cX1_bitByBit 52 = .ok (.laload, 1) := by decide +kernel
theorem dX1_bitByBit_53 : decode cX1_bitByBit 53 = .ok (.invokestatic 166, 3) := by decide +kernel
theorem dX1_bitByBit_56 : decode cX1_bitByBit 56 = .ok (.lastore, 1) := by decide +kernel
theorem dX1_bitByBit_57 : decode cX1_bitByBit 57 = .ok (.iinc 5 1, 3) := by decide +kernel
theorem dX1_bitByBit_60 : decode cX1_bitByBit 60 = .ok (.goto (-38), 3) := by decide +kernel
theorem dX1_bitByBit_63 : decode cX1_bitByBit 63 = .ok (.aload_n 0, 1) := by decide +kernel
theorem dX1_bitByBit_64 : decode cX1_bitByBit 64 = .ok (.getfield 32, 3) := by decide +kernel
theorem dX1_bitByBit_67 : decode cX1_bitByBit 67 = .ok (.bipush 16, 2) := by decide +kernel
theorem dX1_bitByBit_69 : decode cX1_bitByBit 69 = .ok (.laload, 1) := by decide +kernel
theorem dX1_bitByBit_70 : decode cX1_bitByBit 70 = .ok (.lconst 0, 1) := by decide +kernel
theorem dX1_bitByBit_71 : decode cX1_bitByBit 71 = .ok (.lcmp, 1) := by decide +kernel
theorem dX1_bitByBit_72 : decode cX1_bitByBit 72 = .ok (.ifCond .eq 7, 3) := by decide +kernel
theorem dX1_bitByBit_75 : decode cX1_bitByBit 75 = .ok (.iconst 1, 1) := by decide +kernel
theorem dX1_bitByBit_76 : decode cX1_bitByBit 76 = .ok (.goto 4, 3) := by decide +kernel
theorem dX1_bitByBit_79 : decode cX1_bitByBit 79 = .ok (.iconst 0, 1) := by decide +kernel
theorem dX1_bitByBit_80 : decode cX1_bitByBit 80 = .ok (.istore 5, 2) := by decide +kernel
theorem dX1_bitByBit_82 : decode cX1_bitByBit 82 = .ok (.iload 5, 2) := by decide +kernel
theorem dX1_bitByBit_84 : decode cX1_bitByBit 84 = .ok (.ifCond .eq 10, 3) := by decide +kernel
theorem dX1_bitByBit_87 : decode cX1_bitByBit 87 = .ok (.aload_n 0, 1) := by decide +kernel
theorem dX1_bitByBit_88 : decode cX1_bitByBit 88 = .ok (.getfield 32, 3) := by decide +kernel
theorem dX1_bitByBit_91 : decode cX1_bitByBit 91 = .ok (.invokestatic 170, 3) := by decide +kernel
theorem dX1_bitByBit_94 : decode cX1_bitByBit 94 = .ok (.aload_n 0, 1) := by decide +kernel
theorem dX1_bitByBit_95 : decode cX1_bitByBit 95 = .ok (.iload_n 2, 1) := by decide +kernel
theorem dX1_bitByBit_96 : decode cX1_bitByBit 96 = .ok (.aload_n 0, 1) := by decide +kernel
theorem dX1_bitByBit_97 : decode cX1_bitByBit 97 = .ok (.getfield 32, 3) := by decide +kernel
theorem dX1_bitByBit_100 : decode cX1_bitByBit 100 = .ok (.iload 5, 2) := by decide +kernel
theorem dX1_bitByBit_102 : decode cX1_bitByBit 102 = .ok (.invokevirtual 54, 3) := by decide +kernel
theorem dX1_bitByBit_105 : decode cX1_bitByBit 105 = .ok (.ireturn, 1) := by decide +kernel
theorem dX1_signedCopy_0 : decode cX1_signedCopy 0 = .ok (.aload_n 0, 1) := by decide +kernel
theorem dX1_signedCopy_1 : decode cX1_signedCopy 1 = .ok (.getfield 11, 3) := by decide +kernel
theorem dX1_signedCopy_4 : decode cX1_signedCopy 4 = .ok (.iload_n 1, 1) := by decide +kernel
theorem dX1_signedCopy_5 : decode cX1_signedCopy 5 = .ok (.aaload, 1) := by decide +kernel
theorem dX1_signedCopy_6 : decode cX1_signedCopy 6 = .ok (.aload_n 2, 1) := by decide +kernel
theorem dX1_signedCopy_7 : decode cX1_signedCopy 7 = .ok (.invokestatic 110, 3) := by decide +kernel
theorem dX1_signedCopy_10 : decode cX1_signedCopy 10 = .ok (.aload_n 0, 1) := by decide +kernel
theorem dX1_signedCopy_11 : decode cX1_signedCopy 11 = .ok (.getfield 14, 3) := by decide +kernel
theorem dX1_signedCopy_14 : decode cX1_signedCopy 14 = .ok (.iload_n 1, 1) := by decide +kernel
theorem dX1_signedCopy_15 : decode cX1_signedCopy 15 = .ok (.baload, 1) := by decide +kernel
theorem dX1_signedCopy_16 : decode cX1_signedCopy 16 = .ok (.ifCond .eq 7, 3) := by decide +kernel
theorem dX1_signedCopy_19 : decode cX1_signedCopy 19 = .ok (.aload_n 2, 1) := by decide +kernel
theorem dX1_signedCopy_20 : decode cX1_signedCopy 20 = .ok (.invokestatic 170, 3) := by decide +kernel
theorem dX1_signedCopy_23 : decode cX1_signedCopy 23 = .ok (.return_, 1) := by decide +kernel
theorem dX1_joined_0 : decode cX1_joined 0 = .ok (.iload_n 0, 1) := by decide +kernel
theorem dX1_joined_1 : decode cX1_joined 1 = .ok (.tableswitch 39 5 7 #[27, 31, 35], 27) := by decide +kernel
theorem dX1_joined_28 : decode cX1_joined 28 = .ok (.lload_n 1, 1) := by decide +kernel
theorem dX1_joined_29 : decode cX1_joined 29 = .ok (.lload_n 3, 1) := by decide +kernel
theorem dX1_joined_30 : decode cX1_joined 30 = .ok (.land, 1) := by decide +kernel
theorem dX1_joined_31 : decode cX1_joined 31 = .ok (.lreturn, 1) := by decide +kernel
theorem dX1_joined_32 : decode cX1_joined 32 = .ok (.lload_n 1, 1) := by decide +kernel
theorem dX1_joined_33 : decode cX1_joined 33 = .ok (.lload_n 3, 1) := by decide +kernel
theorem dX1_joined_34 : decode cX1_joined 34 = .ok (.lor, 1) := by decide +kernel
theorem dX1_joined_35 : decode cX1_joined 35 = .ok (.lreturn, 1) := by decide +kernel
theorem dX1_joined_36 : decode cX1_joined 36 = .ok (.lload_n 1, 1) := by decide +kernel
theorem dX1_joined_37 : decode cX1_joined 37 = .ok (.lload_n 3, 1) := by decide +kernel
theorem dX1_joined_38 : decode cX1_joined 38 = .ok (.lxor, 1) := by decide +kernel
theorem dX1_joined_39 : decode cX1_joined 39 = .ok (.lreturn, 1) := by decide +kernel
theorem dX1_joined_40 : decode cX1_joined 40 = .ok (.lload_n 1, 1) := by decide +kernel
theorem dX1_joined_41 : decode cX1_joined 41 = .ok (.lload_n 3, 1) := by decide +kernel
theorem dX1_joined_42 : decode cX1_joined 42 = .ok (.ldc2_w 173, 3) := by decide +kernel
theorem dX1_joined_45 : decode cX1_joined 45 = .ok (.lxor, 1) := by decide +kernel
theorem dX1_joined_46 : decode cX1_joined 46 = .ok (.land, 1) := by decide +kernel
theorem dX1_joined_47 : decode cX1_joined 47 = .ok (.lreturn, 1) := by decide +kernel
theorem dX1_groupLength_0 : decode cX1_groupLength 0 = .ok (.iconst 1, 1) := by decide +kernel
theorem dX1_groupLength_1 : decode cX1_groupLength 1 = .ok (.istore_n 1, 1) := by decide +kernel
theorem dX1_groupLength_2 : decode cX1_groupLength 2 = .ok (.iload_n 0, 1) := by decide +kernel
theorem dX1_groupLength_3 : decode cX1_groupLength 3 = .ok (.i2l, 1) := by decide +kernel
theorem dX1_groupLength_4 : decode cX1_groupLength 4 = .ok (.lstore_n 2, 1) := by decide +kernel
theorem dX1_groupLength_5 : decode cX1_groupLength 5 = .ok (.iload_n 1, 1) := by decide +kernel
theorem dX1_groupLength_6 : decode cX1_groupLength 6 = .ok (.bipush 32, 2) := by decide +kernel
theorem dX1_groupLength_8 : decode cX1_groupLength 8 = .ok (.if_icmp .ge 25, 3) := by decide +kernel
theorem dX1_groupLength_11 : decode cX1_groupLength 11 = .ok (.lload_n 2, 1) := by decide +kernel
theorem dX1_groupLength_12 : decode cX1_groupLength 12 = .ok (.iload_n 0, 1) := by decide +kernel
theorem dX1_groupLength_13 : decode cX1_groupLength 13 = .ok (.i2l, 1) := by decide +kernel
theorem dX1_groupLength_14 : decode cX1_groupLength 14 = .ok (.lmul, 1) := by decide +kernel
theorem dX1_groupLength_15 : decode cX1_groupLength 15 = .ok (.ldc2_w 69, 3) := by decide +kernel
theorem dX1_groupLength_18 : decode cX1_groupLength 18 = .ok (.lcmp, 1) := by decide +kernel
theorem dX1_groupLength_19 : decode cX1_groupLength 19 = .ok (.ifCond .gt 14, 3) := by decide +kernel
theorem dX1_groupLength_22 : decode cX1_groupLength 22 = .ok (.lload_n 2, 1) := by decide +kernel
theorem dX1_groupLength_23 : decode cX1_groupLength 23 = .ok (.iload_n 0, 1) := by decide +kernel
theorem dX1_groupLength_24 : decode cX1_groupLength 24 = .ok (.i2l, 1) := by decide +kernel
theorem dX1_groupLength_25 : decode cX1_groupLength 25 = .ok (.lmul, 1) := by decide +kernel
theorem dX1_groupLength_26 : decode cX1_groupLength 26 = .ok (.lstore_n 2, 1) := by decide +kernel
theorem dX1_groupLength_27 : decode cX1_groupLength 27 = .ok (.iinc 1 1, 3) := by decide +kernel
theorem dX1_groupLength_30 : decode cX1_groupLength 30 = .ok (.goto (-25), 3) := by decide +kernel
theorem dX1_groupLength_33 : decode cX1_groupLength 33 = .ok (.iload_n 1, 1) := by decide +kernel
theorem dX1_groupLength_34 : decode cX1_groupLength 34 = .ok (.ireturn, 1) := by decide +kernel
theorem dX1_powerOf_0 : decode cX1_powerOf 0 = .ok (.lconst 1, 1) := by decide +kernel
theorem dX1_powerOf_1 : decode cX1_powerOf 1 = .ok (.lstore_n 2, 1) := by decide +kernel
theorem dX1_powerOf_2 : decode cX1_powerOf 2 = .ok (.iconst 0, 1) := by decide +kernel
theorem dX1_powerOf_3 : decode cX1_powerOf 3 = .ok (.istore 4, 2) := by decide +kernel
theorem dX1_powerOf_5 : decode cX1_powerOf 5 = .ok (.iload 4, 2) := by decide +kernel
theorem dX1_powerOf_7 : decode cX1_powerOf 7 = .ok (.iload_n 1, 1) := by decide +kernel
theorem dX1_powerOf_8 : decode cX1_powerOf 8 = .ok (.if_icmp .ge 14, 3) := by decide +kernel
theorem dX1_powerOf_11 : decode cX1_powerOf 11 = .ok (.lload_n 2, 1) := by decide +kernel
theorem dX1_powerOf_12 : decode cX1_powerOf 12 = .ok (.iload_n 0, 1) := by decide +kernel
theorem dX1_powerOf_13 : decode cX1_powerOf 13 = .ok (.i2l, 1) := by decide +kernel
theorem dX1_powerOf_14 : decode cX1_powerOf 14 = .ok (.lmul, 1) := by decide +kernel
theorem dX1_powerOf_15 : decode cX1_powerOf 15 = .ok (.lstore_n 2, 1) := by decide +kernel
theorem dX1_powerOf_16 : decode cX1_powerOf 16 = .ok (.iinc 4 1, 3) := by decide +kernel
theorem dX1_powerOf_19 : decode cX1_powerOf 19 = .ok (.goto (-14), 3) := by decide +kernel
theorem dX1_powerOf_22 : decode cX1_powerOf 22 = .ok (.lload_n 2, 1) := by decide +kernel
theorem dX1_powerOf_23 : decode cX1_powerOf 23 = .ok (.lreturn, 1) := by decide +kernel
theorem dX1_putGroup_0 : decode cX1_putGroup 0 = .ok (.lload_n 1, 1) := by decide +kernel
theorem dX1_putGroup_1 : decode cX1_putGroup 1 = .ok (.lstore 5, 2) := by decide +kernel
theorem dX1_putGroup_3 : decode cX1_putGroup 3 = .ok (.iconst 0, 1) := by decide +kernel
theorem dX1_putGroup_4 : decode cX1_putGroup 4 = .ok (.istore 7, 2) := by decide +kernel
theorem dX1_putGroup_6 : decode cX1_putGroup 6 = .ok (.iload 7, 2) := by decide +kernel
theorem dX1_putGroup_8 : decode cX1_putGroup 8 = .ok (.bipush 32, 2) := by decide +kernel
theorem dX1_putGroup_10 : decode cX1_putGroup 10 = .ok (.if_icmp .ge 65, 3) := by decide +kernel
theorem dX1_putGroup_13 : decode cX1_putGroup 13 = .ok (.lload 5, 2) := by decide +kernel
theorem dX1_putGroup_15 : decode cX1_putGroup 15 = .ok (.lconst 0, 1) := by decide +kernel
theorem dX1_putGroup_16 : decode cX1_putGroup 16 = .ok (.lcmp, 1) := by decide +kernel
theorem dX1_putGroup_17 : decode cX1_putGroup 17 = .ok (.ifCond .gt 10, 3) := by decide +kernel
theorem dX1_putGroup_20 : decode cX1_putGroup 20 = .ok (.iload 7, 2) := by decide +kernel
theorem dX1_putGroup_22 : decode cX1_putGroup 22 = .ok (.iload 4, 2) := by decide +kernel
theorem dX1_putGroup_24 : decode cX1_putGroup 24 = .ok (.if_icmp .ge 51, 3) := by decide +kernel
theorem dX1_putGroup_27 : decode cX1_putGroup 27 = .ok (.lload 5, 2) := by decide +kernel
theorem dX1_putGroup_29 : decode cX1_putGroup 29 = .ok (.iload_n 3, 1) := by decide +kernel
theorem dX1_putGroup_30 : decode cX1_putGroup 30 = .ok (.i2l, 1) := by decide +kernel
theorem dX1_putGroup_31 : decode cX1_putGroup 31 = .ok (.lrem, 1) := by decide +kernel
theorem dX1_putGroup_32 : decode cX1_putGroup 32 = .ok (.l2i, 1) := by decide +kernel
theorem dX1_putGroup_33 : decode cX1_putGroup 33 = .ok (.istore 8, 2) := by decide +kernel
theorem dX1_putGroup_35 : decode cX1_putGroup 35 = .ok (.aload_n 0, 1) := by decide +kernel
theorem dX1_putGroup_36 : decode cX1_putGroup 36 = .ok (.iload 8, 2) := by decide +kernel
theorem dX1_putGroup_38 : decode cX1_putGroup 38 = .ok (.bipush 10, 2) := by decide +kernel
theorem dX1_putGroup_40 : decode cX1_putGroup 40 = .ok (.if_icmp .ge 11, 3) := by decide +kernel
theorem dX1_putGroup_43 : decode cX1_putGroup 43 = .ok (.bipush 48, 2) := by decide +kernel
theorem dX1_putGroup_45 : decode cX1_putGroup 45 = .ok (.iload 8, 2) := by decide +kernel
theorem dX1_putGroup_47 : decode cX1_putGroup 47 = .ok (.iadd, 1) := by decide +kernel
theorem dX1_putGroup_48 : decode cX1_putGroup 48 = .ok (.goto 11, 3) := by decide +kernel
theorem dX1_putGroup_51 : decode cX1_putGroup 51 = .ok (.bipush 97, 2) := by decide +kernel
theorem dX1_putGroup_53 : decode cX1_putGroup 53 = .ok (.iload 8, 2) := by decide +kernel
theorem dX1_putGroup_55 : decode cX1_putGroup 55 = .ok (.iadd, 1) := by decide +kernel
theorem dX1_putGroup_56 : decode cX1_putGroup 56 = .ok (.bipush 10, 2) := by decide +kernel
theorem dX1_putGroup_58 : decode cX1_putGroup 58 = .ok (.isub, 1) := by decide +kernel
theorem dX1_putGroup_59 : decode cX1_putGroup 59 = .ok (.invokevirtual 142, 3) := by decide +kernel
theorem dX1_putGroup_62 : decode cX1_putGroup 62 = .ok (.lload 5, 2) := by decide +kernel
theorem dX1_putGroup_64 : decode cX1_putGroup 64 = .ok (.iload_n 3, 1) := by decide +kernel
theorem dX1_putGroup_65 : decode cX1_putGroup 65 = .ok (.i2l, 1) := by decide +kernel
theorem dX1_putGroup_66 : decode cX1_putGroup 66 = .ok (.ldiv, 1) := by decide +kernel
theorem dX1_putGroup_67 : decode cX1_putGroup 67 = .ok (.lstore 5, 2) := by decide +kernel
theorem dX1_putGroup_69 : decode cX1_putGroup 69 = .ok (.iinc 7 1, 3) := by decide +kernel
theorem dX1_putGroup_72 : decode cX1_putGroup 72 = .ok (.goto (-66), 3) := by decide +kernel
theorem dX1_putGroup_75 : decode cX1_putGroup 75 = .ok (.return_, 1) := by decide +kernel
theorem dX1_put_0 : decode cX1_put 0 = .ok (.aload_n 0, 1) := by decide +kernel
theorem dX1_put_1 : decode cX1_put 1 = .ok (.getfield 29, 3) := by decide +kernel
theorem dX1_put_4 : decode cX1_put 4 = .ok (.ifCond .le 24, 3) := by decide +kernel
theorem dX1_put_7 : decode cX1_put 7 = .ok (.aload_n 0, 1) := by decide +kernel
theorem dX1_put_8 : decode cX1_put 8 = .ok (.dup, 1) := by decide +kernel
theorem dX1_put_9 : decode cX1_put 9 = .ok (.getfield 29, 3) := by decide +kernel
theorem dX1_put_12 : decode cX1_put 12 = .ok (.iconst 1, 1) := by decide +kernel
theorem dX1_put_13 : decode cX1_put 13 = .ok (.isub, 1) := by decide +kernel
theorem dX1_put_14 : decode cX1_put 14 = .ok (.putfield 29, 3) := by decide +kernel
theorem dX1_put_17 : decode cX1_put 17 = .ok (.aload_n 0, 1) := by decide +kernel
theorem dX1_put_18 : decode cX1_put 18 = .ok (.getfield 26, 3) := by decide +kernel
theorem dX1_put_21 : decode cX1_put 21 = .ok (.aload_n 0, 1) := by decide +kernel
theorem dX1_put_22 : decode cX1_put 22 = .ok (.getfield 29, 3) := by decide +kernel
theorem dX1_put_25 : decode cX1_put 25 = .ok (.iload_n 1, 1) := by decide +kernel
theorem dX1_put_26 : decode cX1_put 26 = .ok (.i2b, 1) := by decide +kernel
theorem dX1_put_27 : decode cX1_put 27 = .ok (.bastore, 1) := by decide +kernel
theorem dX1_put_28 : decode cX1_put 28 = .ok (.return_, 1) := by decide +kernel
theorem dJ6_numberOfLeadingZeros_0f7a4_0 : decode cJ6_numberOfLeadingZeros_0f7a4 0 = .ok (.iload_n 0, 1) := by decide +kernel
theorem dJ6_numberOfLeadingZeros_0f7a4_1 : decode cJ6_numberOfLeadingZeros_0f7a4 1 = .ok (.ifCond .gt 14, 3) := by decide +kernel
theorem dJ6_numberOfLeadingZeros_0f7a4_4 : decode cJ6_numberOfLeadingZeros_0f7a4 4 = .ok (.iload_n 0, 1) := by decide +kernel
theorem dJ6_numberOfLeadingZeros_0f7a4_5 : decode cJ6_numberOfLeadingZeros_0f7a4 5 = .ok (.ifCond .ne 8, 3) := by decide +kernel
theorem dJ6_numberOfLeadingZeros_0f7a4_8 : decode cJ6_numberOfLeadingZeros_0f7a4 8 = .ok (.bipush 32, 2) := by decide +kernel
theorem dJ6_numberOfLeadingZeros_0f7a4_10 : decode cJ6_numberOfLeadingZeros_0f7a4 10 = .ok (.goto 4, 3) := by decide +kernel
theorem dJ6_numberOfLeadingZeros_0f7a4_13 : decode cJ6_numberOfLeadingZeros_0f7a4 13 = .ok (.iconst 0, 1) := by decide +kernel
theorem dJ6_numberOfLeadingZeros_0f7a4_14 : decode cJ6_numberOfLeadingZeros_0f7a4 14 = .ok (.ireturn, 1) := by decide +kernel
theorem dJ6_numberOfLeadingZeros_0f7a4_15 : decode cJ6_numberOfLeadingZeros_0f7a4 15 = .ok (.bipush 31, 2) := by decide +kernel
theorem dJ6_numberOfLeadingZeros_0f7a4_17 : decode cJ6_numberOfLeadingZeros_0f7a4 17 = .ok (.istore_n 1, 1) := by decide +kernel
theorem dJ6_numberOfLeadingZeros_0f7a4_18 : decode cJ6_numberOfLeadingZeros_0f7a4 18 = .ok (.iload_n 0, 1) := by decide +kernel
theorem dJ6_numberOfLeadingZeros_0f7a4_19 : decode cJ6_numberOfLeadingZeros_0f7a4 19 = .ok (.ldc_w 264, 3) := by decide +kernel
theorem dJ6_numberOfLeadingZeros_0f7a4_22 : decode cJ6_numberOfLeadingZeros_0f7a4 22 = .ok (.if_icmp .lt 11, 3) := by decide +kernel
theorem dJ6_numberOfLeadingZeros_0f7a4_25 : decode cJ6_numberOfLeadingZeros_0f7a4 25 = .ok (.iinc 1 (-16), 3) := by decide +kernel
theorem dJ6_numberOfLeadingZeros_0f7a4_28 : decode cJ6_numberOfLeadingZeros_0f7a4 28 = .ok (.iload_n 0, 1) := by decide +kernel
theorem dJ6_numberOfLeadingZeros_0f7a4_29 : decode cJ6_numberOfLeadingZeros_0f7a4 29 = .ok (.bipush 16, 2) := by decide +kernel
theorem dJ6_numberOfLeadingZeros_0f7a4_31 : decode cJ6_numberOfLeadingZeros_0f7a4 31 = .ok (.iushr, 1) := by decide +kernel
theorem dJ6_numberOfLeadingZeros_0f7a4_32 : decode cJ6_numberOfLeadingZeros_0f7a4 32 = .ok (.istore_n 0, 1) := by decide +kernel
theorem dJ6_numberOfLeadingZeros_0f7a4_33 : decode cJ6_numberOfLeadingZeros_0f7a4 33 = .ok (.iload_n 0, 1) := by decide +kernel
theorem dJ6_numberOfLeadingZeros_0f7a4_34 : decode cJ6_numberOfLeadingZeros_0f7a4 34 = .ok (.sipush 256, 3) := by decide +kernel
theorem dJ6_numberOfLeadingZeros_0f7a4_37 : decode cJ6_numberOfLeadingZeros_0f7a4 37 = .ok (.if_icmp .lt 11, 3) := by decide +kernel
theorem dJ6_numberOfLeadingZeros_0f7a4_40 : decode cJ6_numberOfLeadingZeros_0f7a4 40 = .ok (.iinc 1 (-8), 3) := by decide +kernel
theorem dJ6_numberOfLeadingZeros_0f7a4_43 : decode cJ6_numberOfLeadingZeros_0f7a4 43 = .ok (.iload_n 0, 1) := by decide +kernel
theorem dJ6_numberOfLeadingZeros_0f7a4_44 : decode cJ6_numberOfLeadingZeros_0f7a4 44 = .ok (.bipush 8, 2) := by decide +kernel
theorem dJ6_numberOfLeadingZeros_0f7a4_46 : decode cJ6_numberOfLeadingZeros_0f7a4 46 = .ok (.iushr, 1) := by decide +kernel
theorem dJ6_numberOfLeadingZeros_0f7a4_47 : decode cJ6_numberOfLeadingZeros_0f7a4 47 = .ok (.istore_n 0, 1) := by decide +kernel
theorem dJ6_numberOfLeadingZeros_0f7a4_48 : decode cJ6_numberOfLeadingZeros_0f7a4 48 = .ok (.iload_n 0, 1) := by decide +kernel
theorem dJ6_numberOfLeadingZeros_0f7a4_49 : decode cJ6_numberOfLeadingZeros_0f7a4 49 = .ok (.bipush 16, 2) := by decide +kernel
theorem dJ6_numberOfLeadingZeros_0f7a4_51 : decode cJ6_numberOfLeadingZeros_0f7a4 51 = .ok (.if_icmp .lt 10, 3) := by decide +kernel
theorem dJ6_numberOfLeadingZeros_0f7a4_54 : decode cJ6_numberOfLeadingZeros_0f7a4 54 = .ok (.iinc 1 (-4), 3) := by decide +kernel
theorem dJ6_numberOfLeadingZeros_0f7a4_57 : decode cJ6_numberOfLeadingZeros_0f7a4 57 = .ok (.iload_n 0, 1) := by decide +kernel
theorem dJ6_numberOfLeadingZeros_0f7a4_58 : decode cJ6_numberOfLeadingZeros_0f7a4 58 = .ok (.iconst 4, 1) := by decide +kernel
theorem dJ6_numberOfLeadingZeros_0f7a4_59 : decode cJ6_numberOfLeadingZeros_0f7a4 59 = .ok (.iushr, 1) := by decide +kernel
theorem dJ6_numberOfLeadingZeros_0f7a4_60 : decode cJ6_numberOfLeadingZeros_0f7a4 60 = .ok (.istore_n 0, 1) := by decide +kernel
theorem dJ6_numberOfLeadingZeros_0f7a4_61 : decode cJ6_numberOfLeadingZeros_0f7a4 61 = .ok (.iload_n 0, 1) := by decide +kernel
theorem dJ6_numberOfLeadingZeros_0f7a4_62 : decode cJ6_numberOfLeadingZeros_0f7a4 62 = .ok (.iconst 4, 1) := by decide +kernel
theorem dJ6_numberOfLeadingZeros_0f7a4_63 : decode cJ6_numberOfLeadingZeros_0f7a4 63 = .ok (.if_icmp .lt 10, 3) := by decide +kernel
theorem dJ6_numberOfLeadingZeros_0f7a4_66 : decode cJ6_numberOfLeadingZeros_0f7a4 66 = .ok (.iinc 1 (-2), 3) := by decide +kernel
theorem dJ6_numberOfLeadingZeros_0f7a4_69 : decode cJ6_numberOfLeadingZeros_0f7a4 69 = .ok (.iload_n 0, 1) := by decide +kernel
theorem dJ6_numberOfLeadingZeros_0f7a4_70 : decode cJ6_numberOfLeadingZeros_0f7a4 70 = .ok (.iconst 2, 1) := by decide +kernel
theorem dJ6_numberOfLeadingZeros_0f7a4_71 : decode cJ6_numberOfLeadingZeros_0f7a4 71 = .ok (.iushr, 1) := by decide +kernel
theorem dJ6_numberOfLeadingZeros_0f7a4_72 : decode cJ6_numberOfLeadingZeros_0f7a4 72 = .ok (.istore_n 0, 1) := by decide +kernel
theorem dJ6_numberOfLeadingZeros_0f7a4_73 : decode cJ6_numberOfLeadingZeros_0f7a4 73 = .ok (.iload_n 1, 1) := by decide +kernel
theorem dJ6_numberOfLeadingZeros_0f7a4_74 : decode cJ6_numberOfLeadingZeros_0f7a4 74 = .ok (.iload_n 0, 1) := by decide +kernel
theorem dJ6_numberOfLeadingZeros_0f7a4_75 : decode cJ6_numberOfLeadingZeros_0f7a4 75 = .ok (.iconst 1, 1) := by decide +kernel
theorem dJ6_numberOfLeadingZeros_0f7a4_76 : decode cJ6_numberOfLeadingZeros_0f7a4 76 = .ok (.iushr, 1) := by decide +kernel
theorem dJ6_numberOfLeadingZeros_0f7a4_77 : decode cJ6_numberOfLeadingZeros_0f7a4 77 = .ok (.isub, 1) := by decide +kernel
theorem dJ6_numberOfLeadingZeros_0f7a4_78 : decode cJ6_numberOfLeadingZeros_0f7a4 78 = .ok (.ireturn, 1) := by decide +kernel
theorem dJ6_numberOfTrailingZeros_0f7a4_0 : decode cJ6_numberOfTrailingZeros_0f7a4 0 = .ok (.iload_n 0, 1) := by decide +kernel
theorem dJ6_numberOfTrailingZeros_0f7a4_1 : decode cJ6_numberOfTrailingZeros_0f7a4 1 = .ok (.iconst (-1), 1) := by decide +kernel
theorem dJ6_numberOfTrailingZeros_0f7a4_2 : decode cJ6_numberOfTrailingZeros_0f7a4 2 = .ok (.ixor, 1) := by decide +kernel
theorem dJ6_numberOfTrailingZeros_0f7a4_3 : decode cJ6_numberOfTrailingZeros_0f7a4 3 = .ok (.iload_n 0, 1) := by decide +kernel
theorem dJ6_numberOfTrailingZeros_0f7a4_4 : decode cJ6_numberOfTrailingZeros_0f7a4 4 = .ok (.iconst 1, 1) := by decide +kernel
theorem dJ6_numberOfTrailingZeros_0f7a4_5 : decode cJ6_numberOfTrailingZeros_0f7a4 5 = .ok (.isub, 1) := by decide +kernel
theorem dJ6_numberOfTrailingZeros_0f7a4_6 : decode cJ6_numberOfTrailingZeros_0f7a4 6 = .ok (.iand, 1) := by decide +kernel
theorem dJ6_numberOfTrailingZeros_0f7a4_7 : decode cJ6_numberOfTrailingZeros_0f7a4 7 = .ok (.istore_n 0, 1) := by decide +kernel
theorem dJ6_numberOfTrailingZeros_0f7a4_8 : decode cJ6_numberOfTrailingZeros_0f7a4 8 = .ok (.iload_n 0, 1) := by decide +kernel
theorem dJ6_numberOfTrailingZeros_0f7a4_9 : decode cJ6_numberOfTrailingZeros_0f7a4 9 = .ok (.ifCond .gt 8, 3) := by decide +kernel
theorem dJ6_numberOfTrailingZeros_0f7a4_12 : decode cJ6_numberOfTrailingZeros_0f7a4 12 = .ok (.iload_n 0, 1) := by decide +kernel
theorem dJ6_numberOfTrailingZeros_0f7a4_13 : decode cJ6_numberOfTrailingZeros_0f7a4 13 = .ok (.bipush 32, 2) := by decide +kernel
theorem dJ6_numberOfTrailingZeros_0f7a4_15 : decode cJ6_numberOfTrailingZeros_0f7a4 15 = .ok (.iand, 1) := by decide +kernel
theorem dJ6_numberOfTrailingZeros_0f7a4_16 : decode cJ6_numberOfTrailingZeros_0f7a4 16 = .ok (.ireturn, 1) := by decide +kernel
theorem dJ6_numberOfTrailingZeros_0f7a4_17 : decode cJ6_numberOfTrailingZeros_0f7a4 17 = .ok (.iconst 1, 1) := by decide +kernel
theorem dJ6_numberOfTrailingZeros_0f7a4_18 : decode cJ6_numberOfTrailingZeros_0f7a4 18 = .ok (.istore_n 1, 1) := by decide +kernel
theorem dJ6_numberOfTrailingZeros_0f7a4_19 : decode cJ6_numberOfTrailingZeros_0f7a4 19 = .ok (.iload_n 0, 1) := by decide +kernel
theorem dJ6_numberOfTrailingZeros_0f7a4_20 : decode cJ6_numberOfTrailingZeros_0f7a4 20 = .ok (.ldc_w 264, 3) := by decide +kernel
theorem dJ6_numberOfTrailingZeros_0f7a4_23 : decode cJ6_numberOfTrailingZeros_0f7a4 23 = .ok (.if_icmp .le 11, 3) := by decide +kernel
theorem dJ6_numberOfTrailingZeros_0f7a4_26 : decode cJ6_numberOfTrailingZeros_0f7a4 26 = .ok (.iinc 1 16, 3) := by decide +kernel
theorem dJ6_numberOfTrailingZeros_0f7a4_29 : decode cJ6_numberOfTrailingZeros_0f7a4 29 = .ok (.iload_n 0, 1) := by decide +kernel
theorem dJ6_numberOfTrailingZeros_0f7a4_30 : decode cJ6_numberOfTrailingZeros_0f7a4 30 = .ok (.bipush 16, 2) := by decide +kernel
theorem dJ6_numberOfTrailingZeros_0f7a4_32 : decode cJ6_numberOfTrailingZeros_0f7a4 32 = .ok (.iushr, 1) := by decide +kernel
theorem dJ6_numberOfTrailingZeros_0f7a4_33 : decode cJ6_numberOfTrailingZeros_0f7a4 33 = .ok (.istore_n 0, 1) := by decide +kernel
theorem dJ6_numberOfTrailingZeros_0f7a4_34 : decode cJ6_numberOfTrailingZeros_0f7a4 34 = .ok (.iload_n 0, 1) := by decide +kernel
theorem dJ6_numberOfTrailingZeros_0f7a4_35 : decode cJ6_numberOfTrailingZeros_0f7a4 35 = .ok (.sipush 256, 3) := by decide +kernel
theorem dJ6_numberOfTrailingZeros_0f7a4_38 : decode cJ6_numberOfTrailingZeros_0f7a4 38 = .ok (.if_icmp .le 11, 3) := by decide +kernel
theorem dJ6_numberOfTrailingZeros_0f7a4_41 : decode cJ6_numberOfTrailingZeros_0f7a4 41 = .ok (.iinc 1 8, 3) := by decide +kernel
theorem dJ6_numberOfTrailingZeros_0f7a4_44 : decode cJ6_numberOfTrailingZeros_0f7a4 44 = .ok (.iload_n 0, 1) := by decide +kernel
theorem dJ6_numberOfTrailingZeros_0f7a4_45 : decode cJ6_numberOfTrailingZeros_0f7a4 45 = .ok (.bipush 8, 2) := by decide +kernel
theorem dJ6_numberOfTrailingZeros_0f7a4_47 : decode cJ6_numberOfTrailingZeros_0f7a4 47 = .ok (.iushr, 1) := by decide +kernel
theorem dJ6_numberOfTrailingZeros_0f7a4_48 : decode cJ6_numberOfTrailingZeros_0f7a4 48 = .ok (.istore_n 0, 1) := by decide +kernel
theorem dJ6_numberOfTrailingZeros_0f7a4_49 : decode cJ6_numberOfTrailingZeros_0f7a4 49 = .ok (.iload_n 0, 1) := by decide +kernel
theorem dJ6_numberOfTrailingZeros_0f7a4_50 : decode cJ6_numberOfTrailingZeros_0f7a4 50 = .ok (.bipush 16, 2) := by decide +kernel
theorem dJ6_numberOfTrailingZeros_0f7a4_52 : decode cJ6_numberOfTrailingZeros_0f7a4 52 = .ok (.if_icmp .le 10, 3) := by decide +kernel
theorem dJ6_numberOfTrailingZeros_0f7a4_55 : decode cJ6_numberOfTrailingZeros_0f7a4 55 = .ok (.iinc 1 4, 3) := by decide +kernel
theorem dJ6_numberOfTrailingZeros_0f7a4_58 : decode cJ6_numberOfTrailingZeros_0f7a4 58 = .ok (.iload_n 0, 1) := by decide +kernel
theorem dJ6_numberOfTrailingZeros_0f7a4_59 : decode cJ6_numberOfTrailingZeros_0f7a4 59 = .ok (.iconst 4, 1) := by decide +kernel
theorem dJ6_numberOfTrailingZeros_0f7a4_60 : decode cJ6_numberOfTrailingZeros_0f7a4 60 = .ok (.iushr, 1) := by decide +kernel
theorem dJ6_numberOfTrailingZeros_0f7a4_61 : decode cJ6_numberOfTrailingZeros_0f7a4 61 = .ok (.istore_n 0, 1) := by decide +kernel
theorem dJ6_numberOfTrailingZeros_0f7a4_62 : decode cJ6_numberOfTrailingZeros_0f7a4 62 = .ok (.iload_n 0, 1) := by decide +kernel
theorem dJ6_numberOfTrailingZeros_0f7a4_63 : decode cJ6_numberOfTrailingZeros_0f7a4 63 = .ok (.iconst 4, 1) := by decide +kernel
theorem dJ6_numberOfTrailingZeros_0f7a4_64 : decode cJ6_numberOfTrailingZeros_0f7a4 64 = .ok (.if_icmp .le 10, 3) := by decide +kernel
theorem dJ6_numberOfTrailingZeros_0f7a4_67 : decode cJ6_numberOfTrailingZeros_0f7a4 67 = .ok (.iinc 1 2, 3) := by decide +kernel
theorem dJ6_numberOfTrailingZeros_0f7a4_70 : decode cJ6_numberOfTrailingZeros_0f7a4 70 = .ok (.iload_n 0, 1) := by decide +kernel
theorem dJ6_numberOfTrailingZeros_0f7a4_71 : decode cJ6_numberOfTrailingZeros_0f7a4 71 = .ok (.iconst 2, 1) := by decide +kernel
theorem dJ6_numberOfTrailingZeros_0f7a4_72 : decode cJ6_numberOfTrailingZeros_0f7a4 72 = .ok (.iushr, 1) := by decide +kernel
theorem dJ6_numberOfTrailingZeros_0f7a4_73 : decode cJ6_numberOfTrailingZeros_0f7a4 73 = .ok (.istore_n 0, 1) := by decide +kernel
theorem dJ6_numberOfTrailingZeros_0f7a4_74 : decode cJ6_numberOfTrailingZeros_0f7a4 74 = .ok (.iload_n 1, 1) := by decide +kernel
theorem dJ6_numberOfTrailingZeros_0f7a4_75 : decode cJ6_numberOfTrailingZeros_0f7a4 75 = .ok (.iload_n 0, 1) := by decide +kernel
theorem dJ6_numberOfTrailingZeros_0f7a4_76 : decode cJ6_numberOfTrailingZeros_0f7a4 76 = .ok (.iconst 1, 1) := by decide +kernel
theorem dJ6_numberOfTrailingZeros_0f7a4_77 : decode cJ6_numberOfTrailingZeros_0f7a4 77 = .ok (.iushr, 1) := by decide +kernel
theorem dJ6_numberOfTrailingZeros_0f7a4_78 : decode cJ6_numberOfTrailingZeros_0f7a4 78 = .ok (.iadd, 1) := by decide +kernel
theorem dJ6_numberOfTrailingZeros_0f7a4_79 : decode cJ6_numberOfTrailingZeros_0f7a4 79 = .ok (.ireturn, 1) := by decide +kernel
theorem dJ13_numberOfLeadingZeros_95d88_0 : decode cJ13_numberOfLeadingZeros_95d88 0 = .ok (.lload_n 0, 1) := by decide +kernel
theorem dJ13_numberOfLeadingZeros_95d88_1 : decode cJ13_numberOfLeadingZeros_95d88 1 = .ok (.bipush 32, 2) := by decide +kernel
theorem dJ13_numberOfLeadingZeros_95d88_3 : decode cJ13_numberOfLeadingZeros_95d88 3 = .ok (.lushr, 1) := by decide +kernel
theorem dJ13_numberOfLeadingZeros_95d88_4 : decode cJ13_numberOfLeadingZeros_95d88 4 = .ok (.l2i, 1) := by decide +kernel
theorem dJ13_numberOfLeadingZeros_95d88_5 : decode cJ13_numberOfLeadingZeros_95d88 5 = .ok (.istore_n 2, 1) := by decide +kernel
theorem dJ13_numberOfLeadingZeros_95d88_6 : decode cJ13_numberOfLeadingZeros_95d88 6 = .ok (.iload_n 2, 1) := by decide +kernel
theorem dJ13_numberOfLeadingZeros_95d88_7 : decode cJ13_numberOfLeadingZeros_95d88 7 = .ok (.ifCond .ne 14, 3) := by decide +kernel
theorem dJ13_numberOfLeadingZeros_95d88_10 : decode cJ13_numberOfLeadingZeros_95d88 10 = .ok (.bipush 32, 2) := by decide +kernel
theorem dJ13_numberOfLeadingZeros_95d88_12 : decode cJ13_numberOfLeadingZeros_95d88 12 = .ok (.lload_n 0, 1) := by decide +kernel
theorem dJ13_numberOfLeadingZeros_95d88_13 : decode cJ13_numberOfLeadingZeros_95d88 13 = .ok (.l2i, 1) := by decide +kernel
theorem dJ13_numberOfLeadingZeros_95d88_14 : decode cJ13_numberOfLeadingZeros_95d88 14 = .ok (.invokestatic 308, 3) := by decide +kernel
theorem dJ13_numberOfLeadingZeros_95d88_17 : decode cJ13_numberOfLeadingZeros_95d88 17 = .ok (.iadd, 1) := by decide +kernel
theorem dJ13_numberOfLeadingZeros_95d88_18 : decode cJ13_numberOfLeadingZeros_95d88 18 = .ok (.goto 7, 3) := by decide +kernel
theorem dJ13_numberOfLeadingZeros_95d88_21 : decode cJ13_numberOfLeadingZeros_95d88 21 = .ok (.iload_n 2, 1) := by decide +kernel
theorem dJ13_numberOfLeadingZeros_95d88_22 : decode cJ13_numberOfLeadingZeros_95d88 22 = .ok (.invokestatic 308, 3) := by decide +kernel
theorem dJ13_numberOfLeadingZeros_95d88_25 : decode cJ13_numberOfLeadingZeros_95d88 25 = .ok (.ireturn, 1) := by decide +kernel
theorem dJ13_numberOfTrailingZeros_95d88_0 : decode cJ13_numberOfTrailingZeros_95d88 0 = .ok (.lload_n 0, 1) := by decide +kernel
theorem dJ13_numberOfTrailingZeros_95d88_1 : decode cJ13_numberOfTrailingZeros_95d88 1 = .ok (.l2i, 1) := by decide +kernel
theorem dJ13_numberOfTrailingZeros_95d88_2 : decode cJ13_numberOfTrailingZeros_95d88 2 = .ok (.istore_n 2, 1) := by decide +kernel
theorem dJ13_numberOfTrailingZeros_95d88_3 : decode cJ13_numberOfTrailingZeros_95d88 3 = .ok (.iload_n 2, 1) := by decide +kernel
theorem dJ13_numberOfTrailingZeros_95d88_4 : decode cJ13_numberOfTrailingZeros_95d88 4 = .ok (.ifCond .ne 17, 3) := by decide +kernel
theorem dJ13_numberOfTrailingZeros_95d88_7 : decode cJ13_numberOfTrailingZeros_95d88 7 = .ok (.bipush 32, 2) := by decide +kernel
theorem dJ13_numberOfTrailingZeros_95d88_9 : decode cJ13_numberOfTrailingZeros_95d88 9 = .ok (.lload_n 0, 1) := by decide +kernel
theorem dJ13_numberOfTrailingZeros_95d88_10 : decode cJ13_numberOfTrailingZeros_95d88 10 = .ok (.bipush 32, 2) := by decide +kernel
theorem dJ13_numberOfTrailingZeros_95d88_12 : decode cJ13_numberOfTrailingZeros_95d88 12 = .ok (.lushr, 1) := by decide +kernel
theorem dJ13_numberOfTrailingZeros_95d88_13 : decode cJ13_numberOfTrailingZeros_95d88 13 = .ok (.l2i, 1) := by decide +kernel
theorem dJ13_numberOfTrailingZeros_95d88_14 : decode cJ13_numberOfTrailingZeros_95d88 14 = .ok (.invokestatic 311, 3) := by decide +kernel
theorem dJ13_numberOfTrailingZeros_95d88_17 : decode cJ13_numberOfTrailingZeros_95d88 17 = .ok (.iadd, 1) := by decide +kernel
theorem dJ13_numberOfTrailingZeros_95d88_18 : decode cJ13_numberOfTrailingZeros_95d88 18 = .ok (.goto 7, 3) := by decide +kernel
theorem dJ13_numberOfTrailingZeros_95d88_21 : decode cJ13_numberOfTrailingZeros_95d88 21 = .ok (.iload_n 2, 1) := by decide +kernel
theorem dJ13_numberOfTrailingZeros_95d88_22 : decode cJ13_numberOfTrailingZeros_95d88 22 = .ok (.invokestatic 311, 3) := by decide +kernel
theorem dJ13_numberOfTrailingZeros_95d88_25 : decode cJ13_numberOfTrailingZeros_95d88 25 = .ok (.ireturn, 1) := by decide +kernel
theorem dJ7_fill_d0a16_0 : decode cJ7_fill_d0a16 0 = .ok (.iconst 0, 1) := by decide +kernel
theorem dJ7_fill_d0a16_1 : decode cJ7_fill_d0a16 1 = .ok (.istore_n 3, 1) := by decide +kernel
theorem dJ7_fill_d0a16_2 : decode cJ7_fill_d0a16 2 = .ok (.aload_n 0, 1) := by decide +kernel
theorem dJ7_fill_d0a16_3 : decode cJ7_fill_d0a16 3 = .ok (.arraylength, 1) := by decide +kernel
theorem dJ7_fill_d0a16_4 : decode cJ7_fill_d0a16 4 = .ok (.istore 4, 2) := by decide +kernel
theorem dJ7_fill_d0a16_6 : decode cJ7_fill_d0a16 6 = .ok (.iload_n 3, 1) := by decide +kernel
theorem dJ7_fill_d0a16_7 : decode cJ7_fill_d0a16 7 = .ok (.iload 4, 2) := by decide +kernel
theorem dJ7_fill_d0a16_9 : decode cJ7_fill_d0a16 9 = .ok (.if_icmp .ge 13, 3) := by decide +kernel
theorem dJ7_fill_d0a16_12 : decode cJ7_fill_d0a16 12 = .ok (.aload_n 0, 1) := by decide +kernel
theorem dJ7_fill_d0a16_13 : decode cJ7_fill_d0a16 13 = .ok (.iload_n 3, 1) := by decide +kernel
theorem dJ7_fill_d0a16_14 : decode cJ7_fill_d0a16 14 = .ok (.lload_n 1, 1) := by decide +kernel
theorem dJ7_fill_d0a16_15 : decode cJ7_fill_d0a16 15 = .ok (.lastore, 1) := by decide +kernel
theorem dJ7_fill_d0a16_16 : decode cJ7_fill_d0a16 16 = .ok (.iinc 3 1, 3) := by decide +kernel
theorem dJ7_fill_d0a16_19 : decode cJ7_fill_d0a16 19 = .ok (.goto (-13), 3) := by decide +kernel
theorem dJ7_fill_d0a16_22 : decode cJ7_fill_d0a16 22 = .ok (.return_, 1) := by decide +kernel
end
section
/-! printed by wip/whole/gen/refnames.py: names of the reference -/
def RM0 : String := "ExactNumbersModel"
def TM0 : u_T := fun k => match k with
  | 0 => ("ExactNumbersModel", "thrown", "I", false)
  | 1 => ("ExactNumbersModel", "digit", "[I", true)
  | 2 => ("ExactNumbersModel", "below", "[Z", true)
  | 3 => ("ExactNumbersModel", "limit", "[I", true)
  | 4 => ("ExactNumbersModel", "left", "[I", true)
  | 5 => ("ExactNumbersModel", "right", "[I", true)
  | 6 => ("ExactNumbersModel", "out", "[I", true)
  | 7 => ("ExactNumbersModel", "rest", "[I", true)
  | 8 => ("ExactNumbersModel", "leftBelow", "Z", false)
  | 9 => ("ExactNumbersModel", "rightBelow", "Z", false)
  | 10 => ("ExactNumbersModel", "outBelow", "Z", false)
  | 11 => ("ExactNumbersModel", "bitsLeft", "[I", true)
  | 12 => ("ExactNumbersModel", "bitsRight", "[I", true)
  | 13 => ("ExactNumbersModel", "typed", "I", false)
  | 14 => ("ExactNumbersModel", "type", "[I", true)
  | 15 => ("ExactNumbersModel", "written", "I", false)
  | _ => ("ExactNumbersModel", "text", "[I", true)
def tyM0 : Nat → FieldType := fun k => match k with
  | 0 => .int
  | 1 => .array .int
  | 2 => .array .boolean
  | 3 => .array .int
  | 4 => .array .int
  | 5 => .array .int
  | 6 => .array .int
  | 7 => .array .int
  | 8 => .boolean
  | 9 => .boolean
  | 10 => .boolean
  | 11 => .array .int
  | 12 => .array .int
  | 13 => .int
  | 14 => .array .int
  | 15 => .int
  | _ => .array .int
abbrev wsM00 : List Cond := u_ws RM0 TM0 17
theorem nmM0 : ∀ a, a < 17 → ∀ b, b < 17 → a ≠ b → (TM0 a).2.1 ≠ (TM0 b).2.1 := by decide +kernel
theorem tyM0_ok : ∀ k, k < 17 → parseFieldDescriptor (TM0 k).2.2.1 = some (tyM0 k) := by decide +kernel
abbrev cM0_init : ByteArray := prog_4_method_1_code
def yM0_init : MethodName := ⟨RM0, "<init>", "()V"⟩
abbrev cM0_power : ByteArray := prog_4_method_12_code
def yM0_power : MethodName := ⟨RM0, "power", "([II)V"⟩
abbrev cM0_clear : ByteArray := prog_4_method_4_code
def yM0_clear : MethodName := ⟨RM0, "clear", "([I)V"⟩
abbrev cM0_grow : ByteArray := prog_4_method_8_code
def yM0_grow : MethodName := ⟨RM0, "grow", "([III)V"⟩
abbrev cM0_set : ByteArray := prog_4_method_16_code
def yM0_set : MethodName := ⟨RM0, "set", "(IJZ)I"⟩
abbrev cM0_isSlot : ByteArray := prog_4_method_3_code
def yM0_isSlot : MethodName := ⟨RM0, "isSlot", "(I)Z"⟩
abbrev cM0_keep : ByteArray := prog_4_method_15_code
def yM0_keep : MethodName := ⟨RM0, "keep", "(I)I"⟩
abbrev cM0_order : ByteArray := prog_4_method_7_code
def yM0_order : MethodName := ⟨RM0, "order", "([I[I)I"⟩
abbrev cM0_isZero : ByteArray := prog_4_method_6_code
def yM0_isZero : MethodName := ⟨RM0, "isZero", "([I)Z"⟩
abbrev cM0_digits : ByteArray := prog_4_method_18_code
def yM0_digits : MethodName := ⟨RM0, "digits", "(J)Z"⟩
abbrev cM0_worth : ByteArray := prog_4_method_17_code
def yM0_worth : MethodName := ⟨RM0, "worth", "(I)I"⟩
abbrev cM0_read : ByteArray := prog_4_method_19_code
def yM0_read : MethodName := ⟨RM0, "read", "(II)I"⟩
abbrev cM0_work : ByteArray := prog_4_method_26_code
def yM0_work : MethodName := ⟨RM0, "work", "(IIII)I"⟩
abbrev cM0_loadBoth : ByteArray := prog_4_method_14_code
def yM0_loadBoth : MethodName := ⟨RM0, "loadBoth", "(II)V"⟩
abbrev cM0_load : ByteArray := prog_4_method_13_code
def yM0_load : MethodName := ⟨RM0, "load", "(I[I)V"⟩
abbrev cM0_sum : ByteArray := prog_4_method_20_code
def yM0_sum : MethodName := ⟨RM0, "sum", "(Z)V"⟩
abbrev cM0_copy : ByteArray := prog_4_method_5_code
def yM0_copy : MethodName := ⟨RM0, "copy", "([I[I)V"⟩
abbrev cM0_add : ByteArray := prog_4_method_10_code
def yM0_add : MethodName := ⟨RM0, "add", "([I[I)V"⟩
abbrev cM0_subtract : ByteArray := prog_4_method_11_code
def yM0_subtract : MethodName := ⟨RM0, "subtract", "([I[I)V"⟩
abbrev cM0_times : ByteArray := prog_4_method_21_code
def yM0_times : MethodName := ⟨RM0, "times", "()V"⟩
abbrev cM0_divide : ByteArray := prog_4_method_22_code
def yM0_divide : MethodName := ⟨RM0, "divide", "()V"⟩
abbrev cM0_bitwise : ByteArray := prog_4_method_25_code
def yM0_bitwise : MethodName := ⟨RM0, "bitwise", "(I)V"⟩
abbrev cM0_toBits : ByteArray := prog_4_method_23_code
def yM0_toBits : MethodName := ⟨RM0, "toBits", "([IZ[I)V"⟩
abbrev cM0_shrink : ByteArray := prog_4_method_9_code
def yM0_shrink : MethodName := ⟨RM0, "shrink", "([II)I"⟩
abbrev cM0_fromBits : ByteArray := prog_4_method_24_code
def yM0_fromBits : MethodName := ⟨RM0, "fromBits", "([I)V"⟩
abbrev cM0_shift : ByteArray := prog_4_method_27_code
def yM0_shift : MethodName := ⟨RM0, "shift", "(IIIZ)I"⟩
abbrev cM0_turn : ByteArray := prog_4_method_28_code
def yM0_turn : MethodName := ⟨RM0, "turn", "(IIZ)I"⟩
abbrev cM0_compare : ByteArray := prog_4_method_29_code
def yM0_compare : MethodName := ⟨RM0, "compare", "(II)I"⟩
abbrev cM0_bits : ByteArray := prog_4_method_30_code
def yM0_bits : MethodName := ⟨RM0, "bits", "(I)I"⟩
abbrev cM0_fits : ByteArray := prog_4_method_31_code
def yM0_fits : MethodName := ⟨RM0, "fits", "(IIZ)Z"⟩
abbrev cM0_cut : ByteArray := prog_4_method_32_code
def yM0_cut : MethodName := ⟨RM0, "cut", "(IIZ)J"⟩
abbrev cM0_write : ByteArray := prog_4_method_33_code
def yM0_write : MethodName := ⟨RM0, "write", "(II)I"⟩
abbrev cM0_byteOf : ByteArray := prog_4_method_34_code
def yM0_byteOf : MethodName := ⟨RM0, "byteOf", "(I)I"⟩
def wsM0_clear : List Cond := .code yM0_clear cM0_clear 2 none :: ([])
def wsM0_grow : List Cond := .code yM0_grow cM0_grow 6 none :: ([])
def wsM0_power : List Cond := .code yM0_power cM0_power 3 none :: ([.methodLink RM0 52 yM0_clear, .static yM0_clear, .initialized RM0, .code yM0_clear cM0_clear 2 none, .methodLink RM0 56 yM0_grow, .static yM0_grow, .code yM0_grow cM0_grow 6 none])
def wsM0_init : List Cond := .code yM0_init cM0_init 1 none :: ([.methodLink RM0 1 objectInit, .instanceMethod objectInit, .code objectInit ⟨#[0xb1]⟩ 1 none, .arrayClass .int, .fieldLink RM0 7 "ExactNumbersModel" "digit" "[I", .arrayClass .boolean, .fieldLink RM0 13 "ExactNumbersModel" "below" "[Z", .fieldLink RM0 17 "ExactNumbersModel" "limit" "[I", .fieldLink RM0 20 "ExactNumbersModel" "left" "[I", .fieldLink RM0 23 "ExactNumbersModel" "right" "[I", .fieldLink RM0 26 "ExactNumbersModel" "out" "[I", .fieldLink RM0 29 "ExactNumbersModel" "rest" "[I", .fieldLink RM0 32 "ExactNumbersModel" "bitsLeft" "[I", .fieldLink RM0 35 "ExactNumbersModel" "bitsRight" "[I", .fieldLink RM0 38 "ExactNumbersModel" "type" "[I", .fieldLink RM0 41 "ExactNumbersModel" "text" "[I", .methodLink RM0 44 yM0_power, .static yM0_power, .initialized RM0, .code yM0_power cM0_power 3 none, .methodLink RM0 52 yM0_clear, .static yM0_clear, .code yM0_clear cM0_clear 2 none, .methodLink RM0 56 yM0_grow, .static yM0_grow, .code yM0_grow cM0_grow 6 none] ++ wsM00)
def wsM0_isSlot : List Cond := .code yM0_isSlot cM0_isSlot 1 (some .boolean) :: ([])
def wsM0_order : List Cond := .code yM0_order cM0_order 3 (some .int) :: ([])
def wsM0_isZero : List Cond := .code yM0_isZero cM0_isZero 3 (some .boolean) :: ([])
def wsM0_keep : List Cond := .code yM0_keep cM0_keep 3 (some .int) :: ([.fieldLink RM0 26 "ExactNumbersModel" "out" "[I", .fieldLink RM0 17 "ExactNumbersModel" "limit" "[I", .fieldLink RM0 7 "ExactNumbersModel" "digit" "[I", .fieldLink RM0 13 "ExactNumbersModel" "below" "[Z", .fieldLink RM0 75 "ExactNumbersModel" "outBelow" "Z", .methodLink RM0 71 yM0_order, .static yM0_order, .initialized RM0, .code yM0_order cM0_order 3 (some .int), .methodLink RM0 78 yM0_isZero, .static yM0_isZero, .code yM0_isZero cM0_isZero 3 (some .boolean)] ++ wsM00)
def wsM0_set : List Cond := .code yM0_set cM0_set 8 (some .int) :: ([.fieldLink RM0 48 "ExactNumbersModel" "thrown" "I", .fieldLink RM0 75 "ExactNumbersModel" "outBelow" "Z", .fieldLink RM0 26 "ExactNumbersModel" "out" "[I", .methodLink RM0 82 yM0_isSlot, .static yM0_isSlot, .initialized RM0, .code yM0_isSlot cM0_isSlot 1 (some .boolean), .methodLink RM0 52 yM0_clear, .static yM0_clear, .code yM0_clear cM0_clear 2 none, .methodLink RM0 56 yM0_grow, .static yM0_grow, .code yM0_grow cM0_grow 6 none, .methodLink RM0 86 yM0_keep, .instanceMethod yM0_keep, .selects RM0 yM0_keep yM0_keep, .code yM0_keep cM0_keep 3 (some .int), .fieldLink RM0 17 "ExactNumbersModel" "limit" "[I", .fieldLink RM0 7 "ExactNumbersModel" "digit" "[I", .fieldLink RM0 13 "ExactNumbersModel" "below" "[Z", .methodLink RM0 71 yM0_order, .static yM0_order, .code yM0_order cM0_order 3 (some .int), .methodLink RM0 78 yM0_isZero, .static yM0_isZero, .code yM0_isZero cM0_isZero 3 (some .boolean)] ++ wsM00)
def wsM0_worth : List Cond := .code yM0_worth cM0_worth 1 (some .int) :: ([])
def wsM0_digits : List Cond := .code yM0_digits cM0_digits 6 (some .boolean) :: ([.fieldLink RM0 48 "ExactNumbersModel" "thrown" "I", .constantLong RM0 90 (255), .fieldLink RM0 95 "ExactNumbersModel" "typed" "I", .fieldLink RM0 38 "ExactNumbersModel" "type" "[I", .methodLink RM0 92 yM0_worth, .static yM0_worth, .initialized RM0, .code yM0_worth cM0_worth 1 (some .int)] ++ wsM00)
def wsM0_read : List Cond := .code yM0_read cM0_read 6 (some .int) :: ([.fieldLink RM0 48 "ExactNumbersModel" "thrown" "I", .fieldLink RM0 95 "ExactNumbersModel" "typed" "I", .fieldLink RM0 26 "ExactNumbersModel" "out" "[I", .fieldLink RM0 38 "ExactNumbersModel" "type" "[I", .fieldLink RM0 17 "ExactNumbersModel" "limit" "[I", .fieldLink RM0 75 "ExactNumbersModel" "outBelow" "Z", .methodLink RM0 82 yM0_isSlot, .static yM0_isSlot, .initialized RM0, .code yM0_isSlot cM0_isSlot 1 (some .boolean), .methodLink RM0 52 yM0_clear, .static yM0_clear, .code yM0_clear cM0_clear 2 none, .methodLink RM0 56 yM0_grow, .static yM0_grow, .code yM0_grow cM0_grow 6 none, .methodLink RM0 71 yM0_order, .static yM0_order, .code yM0_order cM0_order 3 (some .int), .methodLink RM0 86 yM0_keep, .instanceMethod yM0_keep, .selects RM0 yM0_keep yM0_keep, .code yM0_keep cM0_keep 3 (some .int), .fieldLink RM0 7 "ExactNumbersModel" "digit" "[I", .fieldLink RM0 13 "ExactNumbersModel" "below" "[Z", .methodLink RM0 78 yM0_isZero, .static yM0_isZero, .code yM0_isZero cM0_isZero 3 (some .boolean)] ++ wsM00)
def wsM0_load : List Cond := .code yM0_load cM0_load 4 none :: ([.fieldLink RM0 7 "ExactNumbersModel" "digit" "[I", .methodLink RM0 52 yM0_clear, .static yM0_clear, .initialized RM0, .code yM0_clear cM0_clear 2 none] ++ wsM00)
def wsM0_loadBoth : List Cond := .code yM0_loadBoth cM0_loadBoth 3 none :: ([.fieldLink RM0 20 "ExactNumbersModel" "left" "[I", .fieldLink RM0 23 "ExactNumbersModel" "right" "[I", .fieldLink RM0 13 "ExactNumbersModel" "below" "[Z", .fieldLink RM0 64 "ExactNumbersModel" "leftBelow" "Z", .fieldLink RM0 68 "ExactNumbersModel" "rightBelow" "Z", .methodLink RM0 60 yM0_load, .instanceMethod yM0_load, .selects RM0 yM0_load yM0_load, .initialized RM0, .code yM0_load cM0_load 4 none, .fieldLink RM0 7 "ExactNumbersModel" "digit" "[I", .methodLink RM0 52 yM0_clear, .static yM0_clear, .code yM0_clear cM0_clear 2 none] ++ wsM00)
def wsM0_copy : List Cond := .code yM0_copy cM0_copy 3 none :: ([])
def wsM0_add : List Cond := .code yM0_add cM0_add 5 none :: ([])
def wsM0_subtract : List Cond := .code yM0_subtract cM0_subtract 5 none :: ([])
def wsM0_sum : List Cond := .code yM0_sum cM0_sum 3 none :: ([.fieldLink RM0 68 "ExactNumbersModel" "rightBelow" "Z", .fieldLink RM0 20 "ExactNumbersModel" "left" "[I", .fieldLink RM0 26 "ExactNumbersModel" "out" "[I", .fieldLink RM0 64 "ExactNumbersModel" "leftBelow" "Z", .fieldLink RM0 75 "ExactNumbersModel" "outBelow" "Z", .fieldLink RM0 23 "ExactNumbersModel" "right" "[I", .methodLink RM0 98 yM0_copy, .static yM0_copy, .initialized RM0, .code yM0_copy cM0_copy 3 none, .methodLink RM0 102 yM0_add, .static yM0_add, .code yM0_add cM0_add 5 none, .methodLink RM0 71 yM0_order, .static yM0_order, .code yM0_order cM0_order 3 (some .int), .methodLink RM0 105 yM0_subtract, .static yM0_subtract, .code yM0_subtract cM0_subtract 5 none] ++ wsM00)
def wsM0_times : List Cond := .code yM0_times cM0_times 3 none :: ([.fieldLink RM0 26 "ExactNumbersModel" "out" "[I", .fieldLink RM0 23 "ExactNumbersModel" "right" "[I", .fieldLink RM0 20 "ExactNumbersModel" "left" "[I", .fieldLink RM0 64 "ExactNumbersModel" "leftBelow" "Z", .fieldLink RM0 68 "ExactNumbersModel" "rightBelow" "Z", .fieldLink RM0 75 "ExactNumbersModel" "outBelow" "Z", .methodLink RM0 52 yM0_clear, .static yM0_clear, .initialized RM0, .code yM0_clear cM0_clear 2 none, .methodLink RM0 56 yM0_grow, .static yM0_grow, .code yM0_grow cM0_grow 6 none, .methodLink RM0 102 yM0_add, .static yM0_add, .code yM0_add cM0_add 5 none] ++ wsM00)
def wsM0_divide : List Cond := .code yM0_divide cM0_divide 2 none :: ([.fieldLink RM0 26 "ExactNumbersModel" "out" "[I", .fieldLink RM0 29 "ExactNumbersModel" "rest" "[I", .fieldLink RM0 20 "ExactNumbersModel" "left" "[I", .fieldLink RM0 23 "ExactNumbersModel" "right" "[I", .fieldLink RM0 64 "ExactNumbersModel" "leftBelow" "Z", .fieldLink RM0 68 "ExactNumbersModel" "rightBelow" "Z", .fieldLink RM0 75 "ExactNumbersModel" "outBelow" "Z", .methodLink RM0 52 yM0_clear, .static yM0_clear, .initialized RM0, .code yM0_clear cM0_clear 2 none, .methodLink RM0 56 yM0_grow, .static yM0_grow, .code yM0_grow cM0_grow 6 none, .methodLink RM0 71 yM0_order, .static yM0_order, .code yM0_order cM0_order 3 (some .int), .methodLink RM0 105 yM0_subtract, .static yM0_subtract, .code yM0_subtract cM0_subtract 5 none] ++ wsM00)
def wsM0_shrink : List Cond := .code yM0_shrink cM0_shrink 5 (some .int) :: ([])
def wsM0_toBits : List Cond := .code yM0_toBits cM0_toBits 7 none :: ([.fieldLink RM0 29 "ExactNumbersModel" "rest" "[I", .methodLink RM0 98 yM0_copy, .static yM0_copy, .initialized RM0, .code yM0_copy cM0_copy 3 none, .methodLink RM0 108 yM0_shrink, .static yM0_shrink, .code yM0_shrink cM0_shrink 5 (some .int)] ++ wsM00)
def wsM0_fromBits : List Cond := .code yM0_fromBits cM0_fromBits 3 none :: ([.fieldLink RM0 75 "ExactNumbersModel" "outBelow" "Z", .fieldLink RM0 26 "ExactNumbersModel" "out" "[I", .fieldLink RM0 29 "ExactNumbersModel" "rest" "[I", .methodLink RM0 52 yM0_clear, .static yM0_clear, .initialized RM0, .code yM0_clear cM0_clear 2 none, .methodLink RM0 56 yM0_grow, .static yM0_grow, .code yM0_grow cM0_grow 6 none, .methodLink RM0 102 yM0_add, .static yM0_add, .code yM0_add cM0_add 5 none] ++ wsM00)
def wsM0_bitwise : List Cond := .code yM0_bitwise cM0_bitwise 5 none :: ([.fieldLink RM0 20 "ExactNumbersModel" "left" "[I", .fieldLink RM0 64 "ExactNumbersModel" "leftBelow" "Z", .fieldLink RM0 32 "ExactNumbersModel" "bitsLeft" "[I", .fieldLink RM0 23 "ExactNumbersModel" "right" "[I", .fieldLink RM0 68 "ExactNumbersModel" "rightBelow" "Z", .fieldLink RM0 35 "ExactNumbersModel" "bitsRight" "[I", .methodLink RM0 112 yM0_toBits, .instanceMethod yM0_toBits, .selects RM0 yM0_toBits yM0_toBits, .initialized RM0, .code yM0_toBits cM0_toBits 7 none, .fieldLink RM0 29 "ExactNumbersModel" "rest" "[I", .methodLink RM0 98 yM0_copy, .static yM0_copy, .code yM0_copy cM0_copy 3 none, .methodLink RM0 108 yM0_shrink, .static yM0_shrink, .code yM0_shrink cM0_shrink 5 (some .int), .methodLink RM0 116 yM0_fromBits, .instanceMethod yM0_fromBits, .selects RM0 yM0_fromBits yM0_fromBits, .code yM0_fromBits cM0_fromBits 3 none, .fieldLink RM0 75 "ExactNumbersModel" "outBelow" "Z", .fieldLink RM0 26 "ExactNumbersModel" "out" "[I", .methodLink RM0 52 yM0_clear, .static yM0_clear, .code yM0_clear cM0_clear 2 none, .methodLink RM0 56 yM0_grow, .static yM0_grow, .code yM0_grow cM0_grow 6 none, .methodLink RM0 102 yM0_add, .static yM0_add, .code yM0_add cM0_add 5 none] ++ wsM00)
def wsM0_work : List Cond := .code yM0_work cM0_work 5 (some .int) :: ([.fieldLink RM0 48 "ExactNumbersModel" "thrown" "I", .fieldLink RM0 23 "ExactNumbersModel" "right" "[I", .fieldLink RM0 29 "ExactNumbersModel" "rest" "[I", .fieldLink RM0 26 "ExactNumbersModel" "out" "[I", .fieldLink RM0 64 "ExactNumbersModel" "leftBelow" "Z", .fieldLink RM0 75 "ExactNumbersModel" "outBelow" "Z", .methodLink RM0 82 yM0_isSlot, .static yM0_isSlot, .initialized RM0, .code yM0_isSlot cM0_isSlot 1 (some .boolean), .methodLink RM0 119 yM0_loadBoth, .instanceMethod yM0_loadBoth, .selects RM0 yM0_loadBoth yM0_loadBoth, .code yM0_loadBoth cM0_loadBoth 3 none, .fieldLink RM0 20 "ExactNumbersModel" "left" "[I", .fieldLink RM0 13 "ExactNumbersModel" "below" "[Z", .fieldLink RM0 68 "ExactNumbersModel" "rightBelow" "Z", .methodLink RM0 60 yM0_load, .instanceMethod yM0_load, .selects RM0 yM0_load yM0_load, .code yM0_load cM0_load 4 none, .fieldLink RM0 7 "ExactNumbersModel" "digit" "[I", .methodLink RM0 52 yM0_clear, .static yM0_clear, .code yM0_clear cM0_clear 2 none, .methodLink RM0 78 yM0_isZero, .static yM0_isZero, .code yM0_isZero cM0_isZero 3 (some .boolean), .methodLink RM0 123 yM0_sum, .instanceMethod yM0_sum, .selects RM0 yM0_sum yM0_sum, .code yM0_sum cM0_sum 3 none, .methodLink RM0 98 yM0_copy, .static yM0_copy, .code yM0_copy cM0_copy 3 none, .methodLink RM0 102 yM0_add, .static yM0_add, .code yM0_add cM0_add 5 none, .methodLink RM0 71 yM0_order, .static yM0_order, .code yM0_order cM0_order 3 (some .int), .methodLink RM0 105 yM0_subtract, .static yM0_subtract, .code yM0_subtract cM0_subtract 5 none, .methodLink RM0 127 yM0_times, .instanceMethod yM0_times, .selects RM0 yM0_times yM0_times, .code yM0_times cM0_times 3 none, .methodLink RM0 56 yM0_grow, .static yM0_grow, .code yM0_grow cM0_grow 6 none, .methodLink RM0 130 yM0_divide, .instanceMethod yM0_divide, .selects RM0 yM0_divide yM0_divide, .code yM0_divide cM0_divide 2 none, .methodLink RM0 133 yM0_bitwise, .instanceMethod yM0_bitwise, .selects RM0 yM0_bitwise yM0_bitwise, .code yM0_bitwise cM0_bitwise 5 none, .fieldLink RM0 32 "ExactNumbersModel" "bitsLeft" "[I", .fieldLink RM0 35 "ExactNumbersModel" "bitsRight" "[I", .methodLink RM0 112 yM0_toBits, .instanceMethod yM0_toBits, .selects RM0 yM0_toBits yM0_toBits, .code yM0_toBits cM0_toBits 7 none, .methodLink RM0 108 yM0_shrink, .static yM0_shrink, .code yM0_shrink cM0_shrink 5 (some .int), .methodLink RM0 116 yM0_fromBits, .instanceMethod yM0_fromBits, .selects RM0 yM0_fromBits yM0_fromBits, .code yM0_fromBits cM0_fromBits 3 none, .methodLink RM0 86 yM0_keep, .instanceMethod yM0_keep, .selects RM0 yM0_keep yM0_keep, .code yM0_keep cM0_keep 3 (some .int), .fieldLink RM0 17 "ExactNumbersModel" "limit" "[I"] ++ wsM00)
def wsM0_shift : List Cond := .code yM0_shift cM0_shift 7 (some .int) :: ([.fieldLink RM0 48 "ExactNumbersModel" "thrown" "I", .fieldLink RM0 26 "ExactNumbersModel" "out" "[I", .fieldLink RM0 13 "ExactNumbersModel" "below" "[Z", .fieldLink RM0 75 "ExactNumbersModel" "outBelow" "Z", .fieldLink RM0 17 "ExactNumbersModel" "limit" "[I", .methodLink RM0 82 yM0_isSlot, .static yM0_isSlot, .initialized RM0, .code yM0_isSlot cM0_isSlot 1 (some .boolean), .methodLink RM0 60 yM0_load, .instanceMethod yM0_load, .selects RM0 yM0_load yM0_load, .code yM0_load cM0_load 4 none, .fieldLink RM0 7 "ExactNumbersModel" "digit" "[I", .methodLink RM0 52 yM0_clear, .static yM0_clear, .code yM0_clear cM0_clear 2 none, .methodLink RM0 56 yM0_grow, .static yM0_grow, .code yM0_grow cM0_grow 6 none, .methodLink RM0 71 yM0_order, .static yM0_order, .code yM0_order cM0_order 3 (some .int), .methodLink RM0 108 yM0_shrink, .static yM0_shrink, .code yM0_shrink cM0_shrink 5 (some .int), .methodLink RM0 86 yM0_keep, .instanceMethod yM0_keep, .selects RM0 yM0_keep yM0_keep, .code yM0_keep cM0_keep 3 (some .int), .methodLink RM0 78 yM0_isZero, .static yM0_isZero, .code yM0_isZero cM0_isZero 3 (some .boolean)] ++ wsM00)
def wsM0_turn : List Cond := .code yM0_turn cM0_turn 4 (some .int) :: ([.fieldLink RM0 48 "ExactNumbersModel" "thrown" "I", .fieldLink RM0 26 "ExactNumbersModel" "out" "[I", .fieldLink RM0 13 "ExactNumbersModel" "below" "[Z", .fieldLink RM0 75 "ExactNumbersModel" "outBelow" "Z", .fieldLink RM0 20 "ExactNumbersModel" "left" "[I", .fieldLink RM0 23 "ExactNumbersModel" "right" "[I", .fieldLink RM0 64 "ExactNumbersModel" "leftBelow" "Z", .fieldLink RM0 68 "ExactNumbersModel" "rightBelow" "Z", .methodLink RM0 82 yM0_isSlot, .static yM0_isSlot, .initialized RM0, .code yM0_isSlot cM0_isSlot 1 (some .boolean), .methodLink RM0 60 yM0_load, .instanceMethod yM0_load, .selects RM0 yM0_load yM0_load, .code yM0_load cM0_load 4 none, .fieldLink RM0 7 "ExactNumbersModel" "digit" "[I", .methodLink RM0 52 yM0_clear, .static yM0_clear, .code yM0_clear cM0_clear 2 none, .methodLink RM0 86 yM0_keep, .instanceMethod yM0_keep, .selects RM0 yM0_keep yM0_keep, .code yM0_keep cM0_keep 3 (some .int), .fieldLink RM0 17 "ExactNumbersModel" "limit" "[I", .methodLink RM0 71 yM0_order, .static yM0_order, .code yM0_order cM0_order 3 (some .int), .methodLink RM0 78 yM0_isZero, .static yM0_isZero, .code yM0_isZero cM0_isZero 3 (some .boolean), .methodLink RM0 119 yM0_loadBoth, .instanceMethod yM0_loadBoth, .selects RM0 yM0_loadBoth yM0_loadBoth, .code yM0_loadBoth cM0_loadBoth 3 none, .methodLink RM0 98 yM0_copy, .static yM0_copy, .code yM0_copy cM0_copy 3 none, .methodLink RM0 123 yM0_sum, .instanceMethod yM0_sum, .selects RM0 yM0_sum yM0_sum, .code yM0_sum cM0_sum 3 none, .methodLink RM0 102 yM0_add, .static yM0_add, .code yM0_add cM0_add 5 none, .methodLink RM0 105 yM0_subtract, .static yM0_subtract, .code yM0_subtract cM0_subtract 5 none] ++ wsM00)
def wsM0_compare : List Cond := .code yM0_compare cM0_compare 4 (some .int) :: ([.fieldLink RM0 48 "ExactNumbersModel" "thrown" "I", .fieldLink RM0 64 "ExactNumbersModel" "leftBelow" "Z", .fieldLink RM0 68 "ExactNumbersModel" "rightBelow" "Z", .fieldLink RM0 20 "ExactNumbersModel" "left" "[I", .fieldLink RM0 23 "ExactNumbersModel" "right" "[I", .methodLink RM0 82 yM0_isSlot, .static yM0_isSlot, .initialized RM0, .code yM0_isSlot cM0_isSlot 1 (some .boolean), .methodLink RM0 119 yM0_loadBoth, .instanceMethod yM0_loadBoth, .selects RM0 yM0_loadBoth yM0_loadBoth, .code yM0_loadBoth cM0_loadBoth 3 none, .fieldLink RM0 13 "ExactNumbersModel" "below" "[Z", .methodLink RM0 60 yM0_load, .instanceMethod yM0_load, .selects RM0 yM0_load yM0_load, .code yM0_load cM0_load 4 none, .fieldLink RM0 7 "ExactNumbersModel" "digit" "[I", .methodLink RM0 52 yM0_clear, .static yM0_clear, .code yM0_clear cM0_clear 2 none, .methodLink RM0 71 yM0_order, .static yM0_order, .code yM0_order cM0_order 3 (some .int)] ++ wsM00)
def wsM0_bits : List Cond := .code yM0_bits cM0_bits 4 (some .int) :: ([.fieldLink RM0 48 "ExactNumbersModel" "thrown" "I", .fieldLink RM0 20 "ExactNumbersModel" "left" "[I", .methodLink RM0 82 yM0_isSlot, .static yM0_isSlot, .initialized RM0, .code yM0_isSlot cM0_isSlot 1 (some .boolean), .methodLink RM0 60 yM0_load, .instanceMethod yM0_load, .selects RM0 yM0_load yM0_load, .code yM0_load cM0_load 4 none, .fieldLink RM0 7 "ExactNumbersModel" "digit" "[I", .methodLink RM0 52 yM0_clear, .static yM0_clear, .code yM0_clear cM0_clear 2 none, .methodLink RM0 78 yM0_isZero, .static yM0_isZero, .code yM0_isZero cM0_isZero 3 (some .boolean), .methodLink RM0 108 yM0_shrink, .static yM0_shrink, .code yM0_shrink cM0_shrink 5 (some .int)] ++ wsM00)
def wsM0_fits : List Cond := .code yM0_fits cM0_fits 5 (some .boolean) :: ([.fieldLink RM0 48 "ExactNumbersModel" "thrown" "I", .fieldLink RM0 20 "ExactNumbersModel" "left" "[I", .fieldLink RM0 23 "ExactNumbersModel" "right" "[I", .fieldLink RM0 13 "ExactNumbersModel" "below" "[Z", .methodLink RM0 82 yM0_isSlot, .static yM0_isSlot, .initialized RM0, .code yM0_isSlot cM0_isSlot 1 (some .boolean), .methodLink RM0 60 yM0_load, .instanceMethod yM0_load, .selects RM0 yM0_load yM0_load, .code yM0_load cM0_load 4 none, .fieldLink RM0 7 "ExactNumbersModel" "digit" "[I", .methodLink RM0 52 yM0_clear, .static yM0_clear, .code yM0_clear cM0_clear 2 none, .methodLink RM0 44 yM0_power, .static yM0_power, .code yM0_power cM0_power 3 none, .methodLink RM0 56 yM0_grow, .static yM0_grow, .code yM0_grow cM0_grow 6 none, .methodLink RM0 71 yM0_order, .static yM0_order, .code yM0_order cM0_order 3 (some .int)] ++ wsM00)
def wsM0_cut : List Cond := .code yM0_cut cM0_cut 7 (some .long) :: ([.fieldLink RM0 48 "ExactNumbersModel" "thrown" "I", .constantLong RM0 137 (10), .fieldLink RM0 7 "ExactNumbersModel" "digit" "[I", .fieldLink RM0 13 "ExactNumbersModel" "below" "[Z", .methodLink RM0 82 yM0_isSlot, .static yM0_isSlot, .initialized RM0, .code yM0_isSlot cM0_isSlot 1 (some .boolean)] ++ wsM00)
def wsM0_write : List Cond := .code yM0_write cM0_write 5 (some .int) :: ([.fieldLink RM0 48 "ExactNumbersModel" "thrown" "I", .fieldLink RM0 20 "ExactNumbersModel" "left" "[I", .fieldLink RM0 41 "ExactNumbersModel" "text" "[I", .fieldLink RM0 13 "ExactNumbersModel" "below" "[Z", .fieldLink RM0 139 "ExactNumbersModel" "written" "I", .methodLink RM0 82 yM0_isSlot, .static yM0_isSlot, .initialized RM0, .code yM0_isSlot cM0_isSlot 1 (some .boolean), .methodLink RM0 60 yM0_load, .instanceMethod yM0_load, .selects RM0 yM0_load yM0_load, .code yM0_load cM0_load 4 none, .fieldLink RM0 7 "ExactNumbersModel" "digit" "[I", .methodLink RM0 52 yM0_clear, .static yM0_clear, .code yM0_clear cM0_clear 2 none, .methodLink RM0 78 yM0_isZero, .static yM0_isZero, .code yM0_isZero cM0_isZero 3 (some .boolean), .methodLink RM0 108 yM0_shrink, .static yM0_shrink, .code yM0_shrink cM0_shrink 5 (some .int)] ++ wsM00)
def wsM0_byteOf : List Cond := .code yM0_byteOf cM0_byteOf 2 (some .int) :: ([.fieldLink RM0 48 "ExactNumbersModel" "thrown" "I", .fieldLink RM0 139 "ExactNumbersModel" "written" "I", .fieldLink RM0 41 "ExactNumbersModel" "text" "[I"] ++ wsM00)
set_option maxRecDepth 20000 in
theorem ggM0_power_M0_clear : GoodIn wsM0_power wsM0_clear := goodIn_r _ [4] (by decide +kernel) (by decide +kernel)
set_option maxRecDepth 20000 in
theorem gM0_power_M0_clear : GoodIn wsM0_power (va_wsS RM0 52 yM0_clear wsM0_clear) := goodIn_app (goodIn_of _ (by decide +kernel)) ggM0_power_M0_clear
set_option maxRecDepth 20000 in
theorem ggM0_power_M0_grow : GoodIn wsM0_power wsM0_grow := goodIn_r _ [7] (by decide +kernel) (by decide +kernel)
set_option maxRecDepth 20000 in
theorem gM0_power_M0_grow : GoodIn wsM0_power (va_wsS RM0 56 yM0_grow wsM0_grow) := goodIn_app (goodIn_of _ (by decide +kernel)) ggM0_power_M0_grow
set_option maxRecDepth 20000 in
theorem ggM0_init_M0_power : GoodIn wsM0_init wsM0_power := goodIn_r _ [20, 21, 22, 19, 23, 24, 25, 26] (by decide +kernel) (by decide +kernel)
set_option maxRecDepth 20000 in
theorem gM0_init_M0_power : GoodIn wsM0_init (va_wsS RM0 44 yM0_power wsM0_power) := goodIn_app (goodIn_of _ (by decide +kernel)) ggM0_init_M0_power
set_option maxRecDepth 20000 in
theorem ggM0_keep_M0_order : GoodIn wsM0_keep wsM0_order := goodIn_r _ [9] (by decide +kernel) (by decide +kernel)
set_option maxRecDepth 20000 in
theorem gM0_keep_M0_order : GoodIn wsM0_keep (va_wsS RM0 71 yM0_order wsM0_order) := goodIn_app (goodIn_of _ (by decide +kernel)) ggM0_keep_M0_order
set_option maxRecDepth 20000 in
theorem ggM0_keep_M0_isZero : GoodIn wsM0_keep wsM0_isZero := goodIn_r _ [12] (by decide +kernel) (by decide +kernel)
set_option maxRecDepth 20000 in
theorem gM0_keep_M0_isZero : GoodIn wsM0_keep (va_wsS RM0 78 yM0_isZero wsM0_isZero) := goodIn_app (goodIn_of _ (by decide +kernel)) ggM0_keep_M0_isZero
set_option maxRecDepth 20000 in
theorem ggM0_set_M0_isSlot : GoodIn wsM0_set wsM0_isSlot := goodIn_r _ [7] (by decide +kernel) (by decide +kernel)
set_option maxRecDepth 20000 in
theorem gM0_set_M0_isSlot : GoodIn wsM0_set (va_wsS RM0 82 yM0_isSlot wsM0_isSlot) := goodIn_app (goodIn_of _ (by decide +kernel)) ggM0_set_M0_isSlot
set_option maxRecDepth 20000 in
theorem ggM0_set_M0_clear : GoodIn wsM0_set wsM0_clear := goodIn_r _ [10] (by decide +kernel) (by decide +kernel)
set_option maxRecDepth 20000 in
theorem gM0_set_M0_clear : GoodIn wsM0_set (va_wsS RM0 52 yM0_clear wsM0_clear) := goodIn_app (goodIn_of _ (by decide +kernel)) ggM0_set_M0_clear
set_option maxRecDepth 20000 in
theorem ggM0_set_M0_grow : GoodIn wsM0_set wsM0_grow := goodIn_r _ [13] (by decide +kernel) (by decide +kernel)
set_option maxRecDepth 20000 in
theorem gM0_set_M0_grow : GoodIn wsM0_set (va_wsS RM0 56 yM0_grow wsM0_grow) := goodIn_app (goodIn_of _ (by decide +kernel)) ggM0_set_M0_grow
set_option maxRecDepth 20000 in
theorem ggM0_set_M0_keep : GoodIn wsM0_set wsM0_keep := goodIn_r _ [17, 3, 18, 19, 20, 2, 21, 22, 6, 23, 24, 25, 26, 27, 28, 29, 30, 31, 32, 33, 34, 35, 36, 37, 38, 39, 40, 41, 42, 43] (by decide +kernel) (by decide +kernel)
set_option maxRecDepth 20000 in
theorem gM0_set_M0_keep : GoodIn wsM0_set (wsV RM0 86 RM0 yM0_keep wsM0_keep) := goodIn_app (goodIn_of _ (by decide +kernel)) ggM0_set_M0_keep
set_option maxRecDepth 20000 in
theorem ggM0_digits_M0_worth : GoodIn wsM0_digits wsM0_worth := goodIn_r _ [8] (by decide +kernel) (by decide +kernel)
set_option maxRecDepth 20000 in
theorem gM0_digits_M0_worth : GoodIn wsM0_digits (va_wsS RM0 92 yM0_worth wsM0_worth) := goodIn_app (goodIn_of _ (by decide +kernel)) ggM0_digits_M0_worth
set_option maxRecDepth 20000 in
theorem ggM0_read_M0_isSlot : GoodIn wsM0_read wsM0_isSlot := goodIn_r _ [10] (by decide +kernel) (by decide +kernel)
set_option maxRecDepth 20000 in
theorem gM0_read_M0_isSlot : GoodIn wsM0_read (va_wsS RM0 82 yM0_isSlot wsM0_isSlot) := goodIn_app (goodIn_of _ (by decide +kernel)) ggM0_read_M0_isSlot
set_option maxRecDepth 20000 in
theorem ggM0_read_M0_clear : GoodIn wsM0_read wsM0_clear := goodIn_r _ [13] (by decide +kernel) (by decide +kernel)
set_option maxRecDepth 20000 in
theorem gM0_read_M0_clear : GoodIn wsM0_read (va_wsS RM0 52 yM0_clear wsM0_clear) := goodIn_app (goodIn_of _ (by decide +kernel)) ggM0_read_M0_clear
set_option maxRecDepth 20000 in
theorem ggM0_read_M0_grow : GoodIn wsM0_read wsM0_grow := goodIn_r _ [16] (by decide +kernel) (by decide +kernel)
set_option maxRecDepth 20000 in
theorem gM0_read_M0_grow : GoodIn wsM0_read (va_wsS RM0 56 yM0_grow wsM0_grow) := goodIn_app (goodIn_of _ (by decide +kernel)) ggM0_read_M0_grow
set_option maxRecDepth 20000 in
theorem ggM0_read_M0_order : GoodIn wsM0_read wsM0_order := goodIn_r _ [19] (by decide +kernel) (by decide +kernel)
set_option maxRecDepth 20000 in
theorem gM0_read_M0_order : GoodIn wsM0_read (va_wsS RM0 71 yM0_order wsM0_order) := goodIn_app (goodIn_of _ (by decide +kernel)) ggM0_read_M0_order
set_option maxRecDepth 20000 in
theorem ggM0_read_M0_keep : GoodIn wsM0_read wsM0_keep := goodIn_r _ [23, 3, 5, 24, 25, 6, 17, 18, 9, 19, 26, 27, 28, 29, 30, 31, 32, 33, 34, 35, 36, 37, 38, 39, 40, 41, 42, 43, 44, 45] (by decide +kernel) (by decide +kernel)
set_option maxRecDepth 20000 in
theorem gM0_read_M0_keep : GoodIn wsM0_read (wsV RM0 86 RM0 yM0_keep wsM0_keep) := goodIn_app (goodIn_of _ (by decide +kernel)) ggM0_read_M0_keep
set_option maxRecDepth 20000 in
theorem ggM0_load_M0_clear : GoodIn wsM0_load wsM0_clear := goodIn_r _ [5] (by decide +kernel) (by decide +kernel)
set_option maxRecDepth 20000 in
theorem gM0_load_M0_clear : GoodIn wsM0_load (va_wsS RM0 52 yM0_clear wsM0_clear) := goodIn_app (goodIn_of _ (by decide +kernel)) ggM0_load_M0_clear
set_option maxRecDepth 20000 in
theorem ggM0_loadBoth_M0_load : GoodIn wsM0_loadBoth wsM0_load := goodIn_r _ [10, 11, 12, 13, 9, 14, 15, 16, 17, 18, 19, 20, 21, 22, 23, 24, 25, 26, 27, 28, 29, 30, 31] (by decide +kernel) (by decide +kernel)
set_option maxRecDepth 20000 in
theorem gM0_loadBoth_M0_load : GoodIn wsM0_loadBoth (wsV RM0 60 RM0 yM0_load wsM0_load) := goodIn_app (goodIn_of _ (by decide +kernel)) ggM0_loadBoth_M0_load
set_option maxRecDepth 20000 in
theorem ggM0_sum_M0_copy : GoodIn wsM0_sum wsM0_copy := goodIn_r _ [10] (by decide +kernel) (by decide +kernel)
set_option maxRecDepth 20000 in
theorem gM0_sum_M0_copy : GoodIn wsM0_sum (va_wsS RM0 98 yM0_copy wsM0_copy) := goodIn_app (goodIn_of _ (by decide +kernel)) ggM0_sum_M0_copy
set_option maxRecDepth 20000 in
theorem ggM0_sum_M0_add : GoodIn wsM0_sum wsM0_add := goodIn_r _ [13] (by decide +kernel) (by decide +kernel)
set_option maxRecDepth 20000 in
theorem gM0_sum_M0_add : GoodIn wsM0_sum (va_wsS RM0 102 yM0_add wsM0_add) := goodIn_app (goodIn_of _ (by decide +kernel)) ggM0_sum_M0_add
set_option maxRecDepth 20000 in
theorem ggM0_sum_M0_order : GoodIn wsM0_sum wsM0_order := goodIn_r _ [16] (by decide +kernel) (by decide +kernel)
set_option maxRecDepth 20000 in
theorem gM0_sum_M0_order : GoodIn wsM0_sum (va_wsS RM0 71 yM0_order wsM0_order) := goodIn_app (goodIn_of _ (by decide +kernel)) ggM0_sum_M0_order
set_option maxRecDepth 20000 in
theorem ggM0_sum_M0_subtract : GoodIn wsM0_sum wsM0_subtract := goodIn_r _ [19] (by decide +kernel) (by decide +kernel)
set_option maxRecDepth 20000 in
theorem gM0_sum_M0_subtract : GoodIn wsM0_sum (va_wsS RM0 105 yM0_subtract wsM0_subtract) := goodIn_app (goodIn_of _ (by decide +kernel)) ggM0_sum_M0_subtract
set_option maxRecDepth 20000 in
theorem ggM0_times_M0_clear : GoodIn wsM0_times wsM0_clear := goodIn_r _ [10] (by decide +kernel) (by decide +kernel)
set_option maxRecDepth 20000 in
theorem gM0_times_M0_clear : GoodIn wsM0_times (va_wsS RM0 52 yM0_clear wsM0_clear) := goodIn_app (goodIn_of _ (by decide +kernel)) ggM0_times_M0_clear
set_option maxRecDepth 20000 in
theorem ggM0_times_M0_grow : GoodIn wsM0_times wsM0_grow := goodIn_r _ [13] (by decide +kernel) (by decide +kernel)
set_option maxRecDepth 20000 in
theorem gM0_times_M0_grow : GoodIn wsM0_times (va_wsS RM0 56 yM0_grow wsM0_grow) := goodIn_app (goodIn_of _ (by decide +kernel)) ggM0_times_M0_grow
set_option maxRecDepth 20000 in
theorem ggM0_times_M0_add : GoodIn wsM0_times wsM0_add := goodIn_r _ [16] (by decide +kernel) (by decide +kernel)
set_option maxRecDepth 20000 in
theorem gM0_times_M0_add : GoodIn wsM0_times (va_wsS RM0 102 yM0_add wsM0_add) := goodIn_app (goodIn_of _ (by decide +kernel)) ggM0_times_M0_add
set_option maxRecDepth 20000 in
theorem ggM0_divide_M0_clear : GoodIn wsM0_divide wsM0_clear := goodIn_r _ [11] (by decide +kernel) (by decide +kernel)
set_option maxRecDepth 20000 in
theorem gM0_divide_M0_clear : GoodIn wsM0_divide (va_wsS RM0 52 yM0_clear wsM0_clear) := goodIn_app (goodIn_of _ (by decide +kernel)) ggM0_divide_M0_clear
set_option maxRecDepth 20000 in
theorem ggM0_divide_M0_grow : GoodIn wsM0_divide wsM0_grow := goodIn_r _ [14] (by decide +kernel) (by decide +kernel)
set_option maxRecDepth 20000 in
theorem gM0_divide_M0_grow : GoodIn wsM0_divide (va_wsS RM0 56 yM0_grow wsM0_grow) := goodIn_app (goodIn_of _ (by decide +kernel)) ggM0_divide_M0_grow
set_option maxRecDepth 20000 in
theorem ggM0_divide_M0_order : GoodIn wsM0_divide wsM0_order := goodIn_r _ [17] (by decide +kernel) (by decide +kernel)
set_option maxRecDepth 20000 in
theorem gM0_divide_M0_order : GoodIn wsM0_divide (va_wsS RM0 71 yM0_order wsM0_order) := goodIn_app (goodIn_of _ (by decide +kernel)) ggM0_divide_M0_order
set_option maxRecDepth 20000 in
theorem ggM0_divide_M0_subtract : GoodIn wsM0_divide wsM0_subtract := goodIn_r _ [20] (by decide +kernel) (by decide +kernel)
set_option maxRecDepth 20000 in
theorem gM0_divide_M0_subtract : GoodIn wsM0_divide (va_wsS RM0 105 yM0_subtract wsM0_subtract) := goodIn_app (goodIn_of _ (by decide +kernel)) ggM0_divide_M0_subtract
set_option maxRecDepth 20000 in
theorem ggM0_toBits_M0_copy : GoodIn wsM0_toBits wsM0_copy := goodIn_r _ [5] (by decide +kernel) (by decide +kernel)
set_option maxRecDepth 20000 in
theorem gM0_toBits_M0_copy : GoodIn wsM0_toBits (va_wsS RM0 98 yM0_copy wsM0_copy) := goodIn_app (goodIn_of _ (by decide +kernel)) ggM0_toBits_M0_copy
set_option maxRecDepth 20000 in
theorem ggM0_toBits_M0_shrink : GoodIn wsM0_toBits wsM0_shrink := goodIn_r _ [8] (by decide +kernel) (by decide +kernel)
set_option maxRecDepth 20000 in
theorem gM0_toBits_M0_shrink : GoodIn wsM0_toBits (va_wsS RM0 108 yM0_shrink wsM0_shrink) := goodIn_app (goodIn_of _ (by decide +kernel)) ggM0_toBits_M0_shrink
set_option maxRecDepth 20000 in
theorem ggM0_fromBits_M0_clear : GoodIn wsM0_fromBits wsM0_clear := goodIn_r _ [7] (by decide +kernel) (by decide +kernel)
set_option maxRecDepth 20000 in
theorem gM0_fromBits_M0_clear : GoodIn wsM0_fromBits (va_wsS RM0 52 yM0_clear wsM0_clear) := goodIn_app (goodIn_of _ (by decide +kernel)) ggM0_fromBits_M0_clear
set_option maxRecDepth 20000 in
theorem ggM0_fromBits_M0_grow : GoodIn wsM0_fromBits wsM0_grow := goodIn_r _ [10] (by decide +kernel) (by decide +kernel)
set_option maxRecDepth 20000 in
theorem gM0_fromBits_M0_grow : GoodIn wsM0_fromBits (va_wsS RM0 56 yM0_grow wsM0_grow) := goodIn_app (goodIn_of _ (by decide +kernel)) ggM0_fromBits_M0_grow
set_option maxRecDepth 20000 in
theorem ggM0_fromBits_M0_add : GoodIn wsM0_fromBits wsM0_add := goodIn_r _ [13] (by decide +kernel) (by decide +kernel)
set_option maxRecDepth 20000 in
theorem gM0_fromBits_M0_add : GoodIn wsM0_fromBits (va_wsS RM0 102 yM0_add wsM0_add) := goodIn_app (goodIn_of _ (by decide +kernel)) ggM0_fromBits_M0_add
set_option maxRecDepth 20000 in
theorem ggM0_bitwise_M0_toBits : GoodIn wsM0_bitwise wsM0_toBits := goodIn_r _ [11, 12, 13, 14, 10, 15, 16, 17, 18, 34, 35, 36, 37, 38, 39, 40, 41, 42, 43, 44, 45, 46, 47, 48, 49, 50] (by decide +kernel) (by decide +kernel)
set_option maxRecDepth 20000 in
theorem gM0_bitwise_M0_toBits : GoodIn wsM0_bitwise (wsV RM0 112 RM0 yM0_toBits wsM0_toBits) := goodIn_app (goodIn_of _ (by decide +kernel)) ggM0_bitwise_M0_toBits
set_option maxRecDepth 20000 in
theorem ggM0_bitwise_M0_fromBits : GoodIn wsM0_bitwise wsM0_fromBits := goodIn_r _ [22, 23, 24, 12, 25, 26, 10, 27, 28, 29, 30, 31, 32, 33, 34, 35, 36, 37, 38, 39, 40, 41, 42, 43, 44, 45, 46, 47, 48, 49, 50] (by decide +kernel) (by decide +kernel)
set_option maxRecDepth 20000 in
theorem gM0_bitwise_M0_fromBits : GoodIn wsM0_bitwise (wsV RM0 116 RM0 yM0_fromBits wsM0_fromBits) := goodIn_app (goodIn_of _ (by decide +kernel)) ggM0_bitwise_M0_fromBits
set_option maxRecDepth 20000 in
theorem ggM0_work_M0_isSlot : GoodIn wsM0_work wsM0_isSlot := goodIn_r _ [10] (by decide +kernel) (by decide +kernel)
set_option maxRecDepth 20000 in
theorem gM0_work_M0_isSlot : GoodIn wsM0_work (va_wsS RM0 82 yM0_isSlot wsM0_isSlot) := goodIn_app (goodIn_of _ (by decide +kernel)) ggM0_work_M0_isSlot
set_option maxRecDepth 20000 in
theorem ggM0_work_M0_loadBoth : GoodIn wsM0_work wsM0_loadBoth := goodIn_r _ [14, 15, 2, 16, 5, 17, 18, 19, 20, 9, 21, 22, 23, 24, 25, 78, 79, 80, 81, 82, 83, 84, 85, 86, 87, 88, 89, 90, 91, 92, 93, 94] (by decide +kernel) (by decide +kernel)
set_option maxRecDepth 20000 in
theorem gM0_work_M0_loadBoth : GoodIn wsM0_work (wsV RM0 119 RM0 yM0_loadBoth wsM0_loadBoth) := goodIn_app (goodIn_of _ (by decide +kernel)) ggM0_work_M0_loadBoth
set_option maxRecDepth 20000 in
theorem ggM0_work_M0_isZero : GoodIn wsM0_work wsM0_isZero := goodIn_r _ [28] (by decide +kernel) (by decide +kernel)
set_option maxRecDepth 20000 in
theorem gM0_work_M0_isZero : GoodIn wsM0_work (va_wsS RM0 78 yM0_isZero wsM0_isZero) := goodIn_app (goodIn_of _ (by decide +kernel)) ggM0_work_M0_isZero
set_option maxRecDepth 20000 in
theorem ggM0_work_M0_sum : GoodIn wsM0_work wsM0_sum := goodIn_r _ [32, 17, 15, 4, 5, 6, 2, 33, 34, 9, 35, 36, 37, 38, 39, 40, 41, 42, 43, 44, 78, 79, 80, 81, 82, 83, 84, 85, 86, 87, 88, 89, 90, 91, 92, 93, 94] (by decide +kernel) (by decide +kernel)
set_option maxRecDepth 20000 in
theorem gM0_work_M0_sum : GoodIn wsM0_work (wsV RM0 123 RM0 yM0_sum wsM0_sum) := goodIn_app (goodIn_of _ (by decide +kernel)) ggM0_work_M0_sum
set_option maxRecDepth 20000 in
theorem ggM0_work_M0_times : GoodIn wsM0_work wsM0_times := goodIn_r _ [48, 4, 2, 15, 5, 17, 6, 23, 24, 9, 25, 49, 50, 51, 36, 37, 38, 78, 79, 80, 81, 82, 83, 84, 85, 86, 87, 88, 89, 90, 91, 92, 93, 94] (by decide +kernel) (by decide +kernel)
set_option maxRecDepth 20000 in
theorem gM0_work_M0_times : GoodIn wsM0_work (wsV RM0 127 RM0 yM0_times wsM0_times) := goodIn_app (goodIn_of _ (by decide +kernel)) ggM0_work_M0_times
set_option maxRecDepth 20000 in
theorem ggM0_work_M0_divide : GoodIn wsM0_work wsM0_divide := goodIn_r _ [55, 4, 3, 15, 2, 5, 17, 6, 23, 24, 9, 25, 49, 50, 51, 39, 40, 41, 42, 43, 44, 78, 79, 80, 81, 82, 83, 84, 85, 86, 87, 88, 89, 90, 91, 92, 93, 94] (by decide +kernel) (by decide +kernel)
set_option maxRecDepth 20000 in
theorem gM0_work_M0_divide : GoodIn wsM0_work (wsV RM0 130 RM0 yM0_divide wsM0_divide) := goodIn_app (goodIn_of _ (by decide +kernel)) ggM0_work_M0_divide
set_option maxRecDepth 20000 in
theorem ggM0_work_M0_copy : GoodIn wsM0_work wsM0_copy := goodIn_r _ [35] (by decide +kernel) (by decide +kernel)
set_option maxRecDepth 20000 in
theorem gM0_work_M0_copy : GoodIn wsM0_work (va_wsS RM0 98 yM0_copy wsM0_copy) := goodIn_app (goodIn_of _ (by decide +kernel)) ggM0_work_M0_copy
set_option maxRecDepth 20000 in
theorem ggM0_work_M0_bitwise : GoodIn wsM0_work wsM0_bitwise := goodIn_r _ [59, 15, 5, 60, 2, 17, 61, 62, 63, 64, 9, 65, 3, 33, 34, 35, 66, 67, 68, 69, 70, 71, 72, 6, 4, 23, 24, 25, 49, 50, 51, 36, 37, 38, 78, 79, 80, 81, 82, 83, 84, 85, 86, 87, 88, 89, 90, 91, 92, 93, 94] (by decide +kernel) (by decide +kernel)
set_option maxRecDepth 20000 in
theorem gM0_work_M0_bitwise : GoodIn wsM0_work (wsV RM0 133 RM0 yM0_bitwise wsM0_bitwise) := goodIn_app (goodIn_of _ (by decide +kernel)) ggM0_work_M0_bitwise
set_option maxRecDepth 20000 in
theorem ggM0_work_M0_keep : GoodIn wsM0_work wsM0_keep := goodIn_r _ [76, 4, 77, 22, 16, 6, 39, 40, 9, 41, 26, 27, 28, 78, 79, 80, 81, 82, 83, 84, 85, 86, 87, 88, 89, 90, 91, 92, 93, 94] (by decide +kernel) (by decide +kernel)
set_option maxRecDepth 20000 in
theorem gM0_work_M0_keep : GoodIn wsM0_work (wsV RM0 86 RM0 yM0_keep wsM0_keep) := goodIn_app (goodIn_of _ (by decide +kernel)) ggM0_work_M0_keep
set_option maxRecDepth 20000 in
theorem ggM0_shift_M0_isSlot : GoodIn wsM0_shift wsM0_isSlot := goodIn_r _ [9] (by decide +kernel) (by decide +kernel)
set_option maxRecDepth 20000 in
theorem gM0_shift_M0_isSlot : GoodIn wsM0_shift (va_wsS RM0 82 yM0_isSlot wsM0_isSlot) := goodIn_app (goodIn_of _ (by decide +kernel)) ggM0_shift_M0_isSlot
set_option maxRecDepth 20000 in
theorem ggM0_shift_M0_load : GoodIn wsM0_shift wsM0_load := goodIn_r _ [13, 14, 15, 16, 8, 17, 34, 35, 36, 37, 38, 39, 40, 41, 42, 43, 44, 45, 46, 47, 48, 49, 50] (by decide +kernel) (by decide +kernel)
set_option maxRecDepth 20000 in
theorem gM0_shift_M0_load : GoodIn wsM0_shift (wsV RM0 60 RM0 yM0_load wsM0_load) := goodIn_app (goodIn_of _ (by decide +kernel)) ggM0_shift_M0_load
set_option maxRecDepth 20000 in
theorem ggM0_shift_M0_grow : GoodIn wsM0_shift wsM0_grow := goodIn_r _ [20] (by decide +kernel) (by decide +kernel)
set_option maxRecDepth 20000 in
theorem gM0_shift_M0_grow : GoodIn wsM0_shift (va_wsS RM0 56 yM0_grow wsM0_grow) := goodIn_app (goodIn_of _ (by decide +kernel)) ggM0_shift_M0_grow
set_option maxRecDepth 20000 in
theorem ggM0_shift_M0_order : GoodIn wsM0_shift wsM0_order := goodIn_r _ [23] (by decide +kernel) (by decide +kernel)
set_option maxRecDepth 20000 in
theorem gM0_shift_M0_order : GoodIn wsM0_shift (va_wsS RM0 71 yM0_order wsM0_order) := goodIn_app (goodIn_of _ (by decide +kernel)) ggM0_shift_M0_order
set_option maxRecDepth 20000 in
theorem ggM0_shift_M0_shrink : GoodIn wsM0_shift wsM0_shrink := goodIn_r _ [26] (by decide +kernel) (by decide +kernel)
set_option maxRecDepth 20000 in
theorem gM0_shift_M0_shrink : GoodIn wsM0_shift (va_wsS RM0 108 yM0_shrink wsM0_shrink) := goodIn_app (goodIn_of _ (by decide +kernel)) ggM0_shift_M0_shrink
set_option maxRecDepth 20000 in
theorem ggM0_shift_M0_keep : GoodIn wsM0_shift wsM0_keep := goodIn_r _ [30, 2, 5, 14, 3, 4, 21, 22, 8, 23, 31, 32, 33, 34, 35, 36, 37, 38, 39, 40, 41, 42, 43, 44, 45, 46, 47, 48, 49, 50] (by decide +kernel) (by decide +kernel)
set_option maxRecDepth 20000 in
theorem gM0_shift_M0_keep : GoodIn wsM0_shift (wsV RM0 86 RM0 yM0_keep wsM0_keep) := goodIn_app (goodIn_of _ (by decide +kernel)) ggM0_shift_M0_keep
set_option maxRecDepth 20000 in
theorem ggM0_turn_M0_isSlot : GoodIn wsM0_turn wsM0_isSlot := goodIn_r _ [12] (by decide +kernel) (by decide +kernel)
set_option maxRecDepth 20000 in
theorem gM0_turn_M0_isSlot : GoodIn wsM0_turn (va_wsS RM0 82 yM0_isSlot wsM0_isSlot) := goodIn_app (goodIn_of _ (by decide +kernel)) ggM0_turn_M0_isSlot
set_option maxRecDepth 20000 in
theorem ggM0_turn_M0_load : GoodIn wsM0_turn wsM0_load := goodIn_r _ [16, 17, 18, 19, 11, 20, 49, 50, 51, 52, 53, 54, 55, 56, 57, 58, 59, 60, 61, 62, 63, 64, 65] (by decide +kernel) (by decide +kernel)
set_option maxRecDepth 20000 in
theorem gM0_turn_M0_load : GoodIn wsM0_turn (wsV RM0 60 RM0 yM0_load wsM0_load) := goodIn_app (goodIn_of _ (by decide +kernel)) ggM0_turn_M0_load
set_option maxRecDepth 20000 in
theorem ggM0_turn_M0_keep : GoodIn wsM0_turn wsM0_keep := goodIn_r _ [24, 2, 25, 17, 3, 4, 26, 27, 11, 28, 29, 30, 31, 49, 50, 51, 52, 53, 54, 55, 56, 57, 58, 59, 60, 61, 62, 63, 64, 65] (by decide +kernel) (by decide +kernel)
set_option maxRecDepth 20000 in
theorem gM0_turn_M0_keep : GoodIn wsM0_turn (wsV RM0 86 RM0 yM0_keep wsM0_keep) := goodIn_app (goodIn_of _ (by decide +kernel)) ggM0_turn_M0_keep
set_option maxRecDepth 20000 in
theorem ggM0_turn_M0_loadBoth : GoodIn wsM0_turn wsM0_loadBoth := goodIn_r _ [35, 5, 6, 3, 7, 8, 13, 14, 15, 11, 16, 17, 18, 19, 20, 49, 50, 51, 52, 53, 54, 55, 56, 57, 58, 59, 60, 61, 62, 63, 64, 65] (by decide +kernel) (by decide +kernel)
set_option maxRecDepth 20000 in
theorem gM0_turn_M0_loadBoth : GoodIn wsM0_turn (wsV RM0 119 RM0 yM0_loadBoth wsM0_loadBoth) := goodIn_app (goodIn_of _ (by decide +kernel)) ggM0_turn_M0_loadBoth
set_option maxRecDepth 20000 in
theorem ggM0_turn_M0_copy : GoodIn wsM0_turn wsM0_copy := goodIn_r _ [38] (by decide +kernel) (by decide +kernel)
set_option maxRecDepth 20000 in
theorem gM0_turn_M0_copy : GoodIn wsM0_turn (va_wsS RM0 98 yM0_copy wsM0_copy) := goodIn_app (goodIn_of _ (by decide +kernel)) ggM0_turn_M0_copy
set_option maxRecDepth 20000 in
theorem ggM0_turn_M0_clear : GoodIn wsM0_turn wsM0_clear := goodIn_r _ [20] (by decide +kernel) (by decide +kernel)
set_option maxRecDepth 20000 in
theorem gM0_turn_M0_clear : GoodIn wsM0_turn (va_wsS RM0 52 yM0_clear wsM0_clear) := goodIn_app (goodIn_of _ (by decide +kernel)) ggM0_turn_M0_clear
set_option maxRecDepth 20000 in
theorem ggM0_turn_M0_sum : GoodIn wsM0_turn wsM0_sum := goodIn_r _ [42, 8, 5, 2, 7, 4, 6, 36, 37, 11, 38, 43, 44, 45, 26, 27, 28, 46, 47, 48, 49, 50, 51, 52, 53, 54, 55, 56, 57, 58, 59, 60, 61, 62, 63, 64, 65] (by decide +kernel) (by decide +kernel)
set_option maxRecDepth 20000 in
theorem gM0_turn_M0_sum : GoodIn wsM0_turn (wsV RM0 123 RM0 yM0_sum wsM0_sum) := goodIn_app (goodIn_of _ (by decide +kernel)) ggM0_turn_M0_sum
set_option maxRecDepth 20000 in
theorem ggM0_compare_M0_isSlot : GoodIn wsM0_compare wsM0_isSlot := goodIn_r _ [9] (by decide +kernel) (by decide +kernel)
set_option maxRecDepth 20000 in
theorem gM0_compare_M0_isSlot : GoodIn wsM0_compare (va_wsS RM0 82 yM0_isSlot wsM0_isSlot) := goodIn_app (goodIn_of _ (by decide +kernel)) ggM0_compare_M0_isSlot
set_option maxRecDepth 20000 in
theorem ggM0_compare_M0_loadBoth : GoodIn wsM0_compare wsM0_loadBoth := goodIn_r _ [13, 4, 5, 14, 2, 3, 15, 16, 17, 8, 18, 19, 20, 21, 22, 26, 27, 28, 29, 30, 31, 32, 33, 34, 35, 36, 37, 38, 39, 40, 41, 42] (by decide +kernel) (by decide +kernel)
set_option maxRecDepth 20000 in
theorem gM0_compare_M0_loadBoth : GoodIn wsM0_compare (wsV RM0 119 RM0 yM0_loadBoth wsM0_loadBoth) := goodIn_app (goodIn_of _ (by decide +kernel)) ggM0_compare_M0_loadBoth
set_option maxRecDepth 20000 in
theorem ggM0_compare_M0_order : GoodIn wsM0_compare wsM0_order := goodIn_r _ [25] (by decide +kernel) (by decide +kernel)
set_option maxRecDepth 20000 in
theorem gM0_compare_M0_order : GoodIn wsM0_compare (va_wsS RM0 71 yM0_order wsM0_order) := goodIn_app (goodIn_of _ (by decide +kernel)) ggM0_compare_M0_order
set_option maxRecDepth 20000 in
theorem ggM0_bits_M0_isSlot : GoodIn wsM0_bits wsM0_isSlot := goodIn_r _ [6] (by decide +kernel) (by decide +kernel)
set_option maxRecDepth 20000 in
theorem gM0_bits_M0_isSlot : GoodIn wsM0_bits (va_wsS RM0 82 yM0_isSlot wsM0_isSlot) := goodIn_app (goodIn_of _ (by decide +kernel)) ggM0_bits_M0_isSlot
set_option maxRecDepth 20000 in
theorem ggM0_bits_M0_load : GoodIn wsM0_bits wsM0_load := goodIn_r _ [10, 11, 12, 13, 5, 14, 21, 22, 23, 24, 25, 26, 27, 28, 29, 30, 31, 32, 33, 34, 35, 36, 37] (by decide +kernel) (by decide +kernel)
set_option maxRecDepth 20000 in
theorem gM0_bits_M0_load : GoodIn wsM0_bits (wsV RM0 60 RM0 yM0_load wsM0_load) := goodIn_app (goodIn_of _ (by decide +kernel)) ggM0_bits_M0_load
set_option maxRecDepth 20000 in
theorem ggM0_bits_M0_isZero : GoodIn wsM0_bits wsM0_isZero := goodIn_r _ [17] (by decide +kernel) (by decide +kernel)
set_option maxRecDepth 20000 in
theorem gM0_bits_M0_isZero : GoodIn wsM0_bits (va_wsS RM0 78 yM0_isZero wsM0_isZero) := goodIn_app (goodIn_of _ (by decide +kernel)) ggM0_bits_M0_isZero
set_option maxRecDepth 20000 in
theorem ggM0_bits_M0_shrink : GoodIn wsM0_bits wsM0_shrink := goodIn_r _ [20] (by decide +kernel) (by decide +kernel)
set_option maxRecDepth 20000 in
theorem gM0_bits_M0_shrink : GoodIn wsM0_bits (va_wsS RM0 108 yM0_shrink wsM0_shrink) := goodIn_app (goodIn_of _ (by decide +kernel)) ggM0_bits_M0_shrink
set_option maxRecDepth 20000 in
theorem ggM0_fits_M0_isSlot : GoodIn wsM0_fits wsM0_isSlot := goodIn_r _ [8] (by decide +kernel) (by decide +kernel)
set_option maxRecDepth 20000 in
theorem gM0_fits_M0_isSlot : GoodIn wsM0_fits (va_wsS RM0 82 yM0_isSlot wsM0_isSlot) := goodIn_app (goodIn_of _ (by decide +kernel)) ggM0_fits_M0_isSlot
set_option maxRecDepth 20000 in
theorem ggM0_fits_M0_load : GoodIn wsM0_fits wsM0_load := goodIn_r _ [12, 13, 14, 15, 7, 16, 26, 27, 28, 29, 30, 31, 32, 33, 34, 35, 36, 37, 38, 39, 40, 41, 42] (by decide +kernel) (by decide +kernel)
set_option maxRecDepth 20000 in
theorem gM0_fits_M0_load : GoodIn wsM0_fits (wsV RM0 60 RM0 yM0_load wsM0_load) := goodIn_app (goodIn_of _ (by decide +kernel)) ggM0_fits_M0_load
set_option maxRecDepth 20000 in
theorem ggM0_fits_M0_power : GoodIn wsM0_fits wsM0_power := goodIn_r _ [19, 14, 15, 7, 16, 20, 21, 22] (by decide +kernel) (by decide +kernel)
set_option maxRecDepth 20000 in
theorem gM0_fits_M0_power : GoodIn wsM0_fits (va_wsS RM0 44 yM0_power wsM0_power) := goodIn_app (goodIn_of _ (by decide +kernel)) ggM0_fits_M0_power
set_option maxRecDepth 20000 in
theorem ggM0_fits_M0_order : GoodIn wsM0_fits wsM0_order := goodIn_r _ [25] (by decide +kernel) (by decide +kernel)
set_option maxRecDepth 20000 in
theorem gM0_fits_M0_order : GoodIn wsM0_fits (va_wsS RM0 71 yM0_order wsM0_order) := goodIn_app (goodIn_of _ (by decide +kernel)) ggM0_fits_M0_order
set_option maxRecDepth 20000 in
theorem ggM0_cut_M0_isSlot : GoodIn wsM0_cut wsM0_isSlot := goodIn_r _ [8] (by decide +kernel) (by decide +kernel)
set_option maxRecDepth 20000 in
theorem gM0_cut_M0_isSlot : GoodIn wsM0_cut (va_wsS RM0 82 yM0_isSlot wsM0_isSlot) := goodIn_app (goodIn_of _ (by decide +kernel)) ggM0_cut_M0_isSlot
set_option maxRecDepth 20000 in
theorem ggM0_write_M0_isSlot : GoodIn wsM0_write wsM0_isSlot := goodIn_r _ [9] (by decide +kernel) (by decide +kernel)
set_option maxRecDepth 20000 in
theorem gM0_write_M0_isSlot : GoodIn wsM0_write (va_wsS RM0 82 yM0_isSlot wsM0_isSlot) := goodIn_app (goodIn_of _ (by decide +kernel)) ggM0_write_M0_isSlot
set_option maxRecDepth 20000 in
theorem ggM0_write_M0_load : GoodIn wsM0_write wsM0_load := goodIn_r _ [13, 14, 15, 16, 8, 17, 24, 25, 26, 27, 28, 29, 30, 31, 32, 33, 34, 35, 36, 37, 38, 39, 40] (by decide +kernel) (by decide +kernel)
set_option maxRecDepth 20000 in
theorem gM0_write_M0_load : GoodIn wsM0_write (wsV RM0 60 RM0 yM0_load wsM0_load) := goodIn_app (goodIn_of _ (by decide +kernel)) ggM0_write_M0_load
set_option maxRecDepth 20000 in
theorem ggM0_write_M0_isZero : GoodIn wsM0_write wsM0_isZero := goodIn_r _ [20] (by decide +kernel) (by decide +kernel)
set_option maxRecDepth 20000 in
theorem gM0_write_M0_isZero : GoodIn wsM0_write (va_wsS RM0 78 yM0_isZero wsM0_isZero) := goodIn_app (goodIn_of _ (by decide +kernel)) ggM0_write_M0_isZero
set_option maxRecDepth 20000 in
theorem ggM0_write_M0_shrink : GoodIn wsM0_write wsM0_shrink := goodIn_r _ [23] (by decide +kernel) (by decide +kernel)
set_option maxRecDepth 20000 in
theorem gM0_write_M0_shrink : GoodIn wsM0_write (va_wsS RM0 108 yM0_shrink wsM0_shrink) := goodIn_app (goodIn_of _ (by decide +kernel)) ggM0_write_M0_shrink
theorem inX1 : ∀ w ∈ wsX10, w ∈ lw_tbl := by decide +kernel
theorem inM0 : ∀ w ∈ wsM00, w ∈ lw_tbl := by decide +kernel
abbrev vwCl : List vw_C := [(RX1, TX1, 9), (RM0, TM0, 17)]
end
section
theorem dM0_init_0 : decode cM0_init 0 = .ok (.aload_n 0, 1) := by decide +kernel
theorem dM0_init_1 : decode cM0_init 1 = .ok (.invokespecial 1, 3) := by decide +kernel
theorem dM0_init_4 : decode cM0_init 4 = .ok (.aload_n 0, 1) := by decide +kernel
theorem dM0_init_5 : decode cM0_init 5 = .ok (.sipush 10240, 3) := by decide +kernel
theorem dM0_init_8 : decode cM0_init 8 = .ok (.newarray .int, 2) := by decide +kernel
theorem dM0_init_10 : decode cM0_init 10 = .ok (.putfield 7, 3) := by decide +kernel
theorem dM0_init_13 : decode cM0_init 13 = .ok (.aload_n 0, 1) := by decide +kernel
theorem dM0_init_14 : decode cM0_init 14 = .ok (.bipush 64, 2) := by decide +kernel
theorem dM0_init_16 : decode cM0_init 16 = .ok (.newarray .boolean, 2) := by decide +kernel
theorem dM0_init_18 : decode cM0_init 18 = .ok (.putfield 13, 3) := by decide +kernel
theorem dM0_init_21 : decode cM0_init 21 = .ok (.aload_n 0, 1) := by decide +kernel
theorem dM0_init_22 : decode cM0_init 22 = .ok (.sipush 330, 3) := by decide +kernel
theorem dM0_init_25 : decode cM0_init 25 = .ok (.newarray .int, 2) := by decide +kernel
theorem dM0_init_27 : decode cM0_init 27 = .ok (.putfield 17, 3) := by decide +kernel
theorem dM0_init_30 : decode cM0_init 30 = .ok (.aload_n 0, 1) := by decide +kernel
theorem dM0_init_31 : decode cM0_init 31 = .ok (.sipush 330, 3) := by decide +kernel
theorem dM0_init_34 : decode cM0_init 34 = .ok (.newarray .int, 2) := by decide +kernel
theorem dM0_init_36 : decode cM0_init 36 = .ok (.putfield 20, 3) := by decide +kernel
theorem dM0_init_39 : decode cM0_init 39 = .ok (.aload_n 0, 1) := by decide +kernel
theorem dM0_init_40 : decode cM0_init 40 = .ok (.sipush 330, 3) := by decide +kernel
theorem dM0_init_43 : decode cM0_init 43 = .ok (.newarray .int, 2) := by decide +kernel
theorem dM0_init_45 : decode cM0_init 45 = .ok (.putfield 23, 3) := by decide +kernel
theorem dM0_init_48 : decode cM0_init 48 = .ok (.aload_n 0, 1) := by decide +kernel
theorem dM0_init_49 : decode cM0_init 49 = .ok (.sipush 330, 3) := by decide +kernel
theorem dM0_init_52 : decode cM0_init 52 = .ok (.newarray .int, 2) := by decide +kernel
theorem dM0_init_54 : decode cM0_init 54 = .ok (.putfield 26, 3) := by decide +kernel
theorem dM0_init_57 : decode cM0_init 57 = .ok (.aload_n 0, 1) := by decide +kernel
theorem dM0_init_58 : decode cM0_init 58 = .ok (.sipush 330, 3) := by decide +kernel
theorem dM0_init_61 : decode cM0_init 61 = .ok (.newarray .int, 2) := by decide +kernel
theorem dM0_init_63 : decode cM0_init 63 = .ok (.putfield 29, 3) := by decide +kernel
theorem dM0_init_66 : decode cM0_init 66 = .ok (.aload_n 0, 1) := by decide +kernel
theorem dM0_init_67 : decode cM0_init 67 = .ok (.sipush 514, 3) := by decide +kernel
theorem dM0_init_70 : decode cM0_init 70 = .ok (.newarray .int, 2) := by decide +kernel
theorem dM0_init_72 : decode cM0_init 72 = .ok (.putfield 32, 3) := by decide +kernel
theorem dM0_init_75 : decode cM0_init 75 = .ok (.aload_n 0, 1) := by decide +kernel
theorem dM0_init_76 : decode cM0_init 76 = .ok (.sipush 514, 3) := by decide +kernel
theorem dM0_init_79 : decode cM0_init 79 = .ok (.newarray .int, 2) := by decide +kernel
theorem dM0_init_81 : decode cM0_init 81 = .ok (.putfield 35, 3) := by decide +kernel
theorem dM0_init_84 : decode cM0_init 84 = .ok (.aload_n 0, 1) := by decide +kernel
theorem dM0_init_85 : decode cM0_init 85 = .ok (.sipush 1000, 3) := by decide +kernel
theorem dM0_init_88 : decode cM0_init 88 = .ok (.newarray .int, 2) := by decide +kernel
theorem dM0_init_90 : decode cM0_init 90 = .ok (.putfield 38, 3) := by decide +kernel
theorem dM0_init_93 : decode cM0_init 93 = .ok (.aload_n 0, 1) := by decide +kernel
theorem dM0_init_94 : decode cM0_init 94 = .ok (.sipush 520, 3) := by decide +kernel
theorem dM0_init_97 : decode cM0_init 97 = .ok (.newarray .int, 2) := by decide +kernel
theorem dM0_init_99 : decode cM0_init 99 = .ok (.putfield 41, 3) := by decide +kernel
theorem dM0_init_102 : decode cM0_init 102 = .ok (.aload_n 0, 1) := by decide +kernel
theorem dM0_init_103 : decode cM0_init 103 = .ok (.getfield 17, 3) := by decide +kernel
theorem dM0_init_106 : decode cM0_init 106 = .ok (.sipush 512, 3) := by decide +kernel
theorem dM0_init_109 : decode cM0_init 109 = .ok (.invokestatic 44, 3) := by decide +kernel
theorem dM0_init_112 : decode cM0_init 112 = .ok (.return_, 1) := by decide +kernel
theorem dM0_power_0 : decode cM0_power 0 = .ok (.aload_n 0, 1) := by decide +kernel
theorem dM0_power_1 : decode cM0_power 1 = .ok (.invokestatic 52, 3) := by decide +kernel
theorem dM0_power_4 : decode cM0_power 4 = .ok (.aload_n 0, 1) := by decide +kernel
theorem dM0_power_5 : decode cM0_power 5 = .ok (.iconst 0, 1) := by decide +kernel
theorem dM0_power_6 : decode cM0_power 6 = .ok (.iconst 1, 1) := by decide +kernel
theorem dM0_power_7 : decode cM0_power 7 = .ok (.iastore, 1) := by decide +kernel
theorem dM0_power_8 : decode cM0_power 8 = .ok (.iconst 0, 1) := by decide +kernel
theorem dM0_power_9 : decode cM0_power 9 = .ok (.istore_n 2, 1) := by decide +kernel
theorem dM0_power_10 : decode cM0_power 10 = .ok (.iload_n 2, 1) := by decide +kernel
theorem dM0_power_11 : decode cM0_power 11 = .ok (.iload_n 1, 1) := by decide +kernel
theorem dM0_power_12 : decode cM0_power 12 = .ok (.if_icmp .ge 15, 3) := by decide +kernel
theorem dM0_power_15 : decode cM0_power 15 = .ok (.aload_n 0, 1) := by decide +kernel
theorem dM0_power_16 : decode cM0_power 16 = .ok (.iconst 2, 1) := by decide +kernel
theorem dM0_power_17 : decode cM0_power 17 = .ok (.iconst 0, 1) := by decide +kernel
theorem dM0_power_18 : decode cM0_power 18 = .ok (.invokestatic 56, 3) := by decide +kernel
theorem dM0_power_21 : decode cM0_power 21 = .ok (.iinc 2 1, 3) := by decide +kernel
theorem dM0_power_24 : decode cM0_power 24 = .ok (.goto (-14), 3) := by decide +kernel
theorem dM0_power_27 : decode cM0_power 27 = .ok (.return_, 1) := by decide +kernel
theorem dM0_clear_0 : decode cM0_clear 0 = .ok (.iconst 0, 1) := by decide +kernel
theorem dM0_clear_1 : decode cM0_clear 1 = .ok (.istore_n 1, 1) := by decide +kernel
theorem dM0_clear_2 : decode cM0_clear 2 = .ok (.iload_n 1, 1) := by decide +kernel
theorem dM0_clear_3 : decode cM0_clear 3 = .ok (.sipush 330, 3) := by decide +kernel
theorem dM0_clear_6 : decode cM0_clear 6 = .ok (.if_icmp .ge 13, 3) := by decide +kernel
theorem dM0_clear_9 : decode cM0_clear 9 = .ok (.aload_n 0, 1) := by decide +kernel
theorem dM0_clear_10 : decode cM0_clear 10 = .ok (.iload_n 1, 1) := by decide +kernel
theorem dM0_clear_11 : decode cM0_clear 11 = .ok (.iconst 0, 1) := by decide +kernel
theorem dM0_clear_12 : decode cM0_clear 12 = .ok (.iastore, 1) := by decide +kernel
theorem dM0_clear_13 : decode cM0_clear 13 = .ok (.iinc 1 1, 3) := by decide +kernel
theorem dM0_clear_16 : decode cM0_clear 16 = .ok (.goto (-14), 3) := by decide +kernel
theorem dM0_clear_19 : decode cM0_clear 19 = .ok (.return_, 1) := by decide +kernel
theorem dM0_grow_0 : decode cM0_grow 0 = .ok (.iload_n 2, 1) := by decide +kernel
theorem dM0_grow_1 : decode cM0_grow 1 = .ok (.istore_n 3, 1) := by decide +kernel
theorem dM0_grow_2 : decode cM0_grow 2 = .ok (.iconst 0, 1) := by decide +kernel
theorem dM0_grow_3 : decode cM0_grow 3 = .ok (.istore 4, 2) := by decide +kernel
theorem dM0_grow_5 : decode cM0_grow 5 = .ok (.iload 4, 2) := by decide +kernel
theorem dM0_grow_7 : decode cM0_grow 7 = .ok (.sipush 330, 3) := by decide +kernel
theorem dM0_grow_10 : decode cM0_grow 10 = .ok (.if_icmp .ge 34, 3) := by decide +kernel
theorem dM0_grow_13 : decode cM0_grow 13 = .ok (.aload_n 0, 1) := by decide +kernel
theorem dM0_grow_14 : decode cM0_grow 14 = .ok (.iload 4, 2) := by decide +kernel
theorem dM0_grow_16 : decode cM0_grow 16 = .ok (.iaload, 1) := by decide +kernel
theorem dM0_grow_17 : decode cM0_grow 17 = .ok (.iload_n 1, 1) := by decide +kernel
theorem dM0_grow_18 : decode cM0_grow 18 = .ok (.imul, 1) := by decide +kernel
theorem dM0_grow_19 : decode cM0_grow 19 = .ok (.iload_n 3, 1) := by decide +kernel
theorem dM0_grow_20 : decode cM0_grow 20 = .ok (.iadd, 1) := by decide +kernel
theorem dM0_grow_21 : decode cM0_grow 21 = .ok (.istore 5, 2) := by decide +kernel
theorem dM0_grow_23 : decode cM0_grow 23 = .ok (.aload_n 0, 1) := by decide +kernel
theorem dM0_grow_24 : decode cM0_grow 24 = .ok (.iload 4, 2) := by decide +kernel
theorem dM0_grow_26 : decode cM0_grow 26 = .ok (.iload 5, 2) := by decide +kernel
theorem dM0_grow_28 : decode cM0_grow 28 = .ok (.bipush 10, 2) := by decide +kernel
theorem dM0_grow_30 : decode cM0_grow 30 = .ok (.irem, 1) := by decide +kernel
theorem dM0_grow_31 : decode cM0_grow 31 = .ok (.iastore, 1) := by decide +kernel
theorem dM0_grow_32 : decode cM0_grow 32 = .ok (.iload 5, 2) := by decide +kernel
theorem dM0_grow_34 : decode cM0_grow 34 = .ok (.bipush 10, 2) := by decide +kernel
theorem dM0_grow_36 : decode cM0_grow 36 = .ok (.idiv, 1) := by decide +kernel
theorem dM0_grow_37 : decode cM0_grow 37 = .ok (.istore_n 3, 1) := by decide +kernel
theorem dM0_grow_38 : decode cM0_grow 38 = .ok (.iinc 4 1, 3) := by decide +kernel
theorem dM0_grow_41 : decode cM0_grow 41 = .ok (.goto (-36), 3) := by decide +kernel
theorem dM0_grow_44 : decode cM0_grow 44 = .ok (.return_, 1) := by decide +kernel
theorem dM0_set_0 : decode cM0_set 0 = .ok (.aload_n 0, 1) := by decide +kernel
theorem dM0_set_1 : decode cM0_set 1 = .ok (.iconst 0, 1) := by decide +kernel
theorem dM0_set_2 : decode cM0_set 2 = .ok (.putfield 48, 3) := by decide +kernel
theorem dM0_set_5 : decode cM0_set 5 = .ok (.iload_n 1, 1) := by decide +kernel
theorem dM0_set_6 : decode cM0_set 6 = .ok (.invokestatic 82, 3) := by decide +kernel
theorem dM0_set_9 : decode cM0_set 9 = .ok (.ifCond .ne 5, 3) := by decide +kernel
theorem dM0_set_12 : decode cM0_set 12 = .ok (.iconst 3, 1) := by decide +kernel
theorem dM0_set_13 : decode cM0_set 13 = .ok (.ireturn, 1) := by decide +kernel
theorem dM0_set_14 : decode cM0_set 14 = .ok (.aload_n 0, 1) := by decide +kernel
theorem dM0_set_15 : decode cM0_set 15 = .ok (.iload 4, 2) := by decide +kernel
theorem dM0_set_17 : decode cM0_set 17 = .ok (.ifCond .eq 13, 3) := by decide +kernel
theorem dM0_set_20 : decode cM0_set 20 = .ok (.lload_n 2, 1) := by decide +kernel
theorem dM0_set_21 : decode cM0_set 21 = .ok (.lconst 0, 1) := by decide +kernel
theorem dM0_set_22 : decode cM0_set 22 = .ok (.lcmp, 1) := by decide +kernel
theorem dM0_set_23 : decode cM0_set 23 = .ok (.ifCond .ge 7, 3) := by decide +kernel
theorem dM0_set_26 : decode cM0_set 26 = .ok (.iconst 1, 1) := by decide +kernel
theorem dM0_set_27 : decode cM0_set 27 = .ok (.goto 4, 3) := by decide +kernel
theorem dM0_set_30 : decode cM0_set 30 = .ok (.iconst 0, 1) := by decide +kernel
theorem dM0_set_31 : decode cM0_set 31 = .ok (.putfield 75, 3) := by decide +kernel
theorem dM0_set_34 : decode cM0_set 34 = .ok (.aload_n 0, 1) := by decide +kernel
theorem dM0_set_35 : decode cM0_set 35 = .ok (.getfield 26, 3) := by decide +kernel
theorem dM0_set_38 : decode cM0_set 38 = .ok (.invokestatic 52, 3) := by decide +kernel
theorem dM0_set_41 : decode cM0_set 41 = .ok (.aload_n 0, 1) := by decide +kernel
theorem dM0_set_42 : decode cM0_set 42 = .ok (.getfield 75, 3) := by decide +kernel
theorem dM0_set_45 : decode cM0_set 45 = .ok (.ifCond .eq 8, 3) := by decide +kernel
theorem dM0_set_48 : decode cM0_set 48 = .ok (.lload_n 2, 1) := by decide +kernel
theorem dM0_set_49 : decode cM0_set 49 = .ok (.lneg, 1) := by decide +kernel
theorem dM0_set_50 : decode cM0_set 50 = .ok (.goto 4, 3) := by decide +kernel
theorem dM0_set_53 : decode cM0_set 53 = .ok (.lload_n 2, 1) := by decide +kernel
theorem dM0_set_54 : decode cM0_set 54 = .ok (.lstore 5, 2) := by decide +kernel
theorem dM0_set_56 : decode cM0_set 56 = .ok (.bipush 63, 2) := by decide +kernel
theorem dM0_set_58 : decode cM0_set 58 = .ok (.istore 7, 2) := by decide +kernel
theorem dM0_set_60 : decode cM0_set 60 = .ok (.iload 7, 2) := by decide +kernel
theorem dM0_set_62 : decode cM0_set 62 = .ok (.ifCond .lt 25, 3) := by decide +kernel
theorem dM0_set_65 : decode cM0_set 65 = .ok (.aload_n 0, 1) := by decide +kernel
theorem dM0_set_66 : decode cM0_set 66 = .ok (.getfield 26, 3) := by decide +kernel
theorem dM0_set_69 : decode cM0_set 69 = .ok (.iconst 2, 1) := by decide +kernel
theorem dM0_set_70 : decode cM0_set 70 = .ok (.lload 5, 2) := by decide +kernel
theorem dM0_set_72 : decode cM0_set 72 = .ok (.iload 7, 2) := by decide +kernel
theorem dM0_set_74 : decode cM0_set 74 = .ok (.lushr, 1) := by decide +kernel
theorem dM0_set_75 : decode cM0_set 75 = .ok (.lconst 1, 1) := by decide +kernel
theorem dM0_set_76 : decode cM0_set 76 = .ok (.land, 1) := by decide +kernel
theorem dM0_set_77 : decode cM0_set 77 = .ok (.l2i, 1) := by decide +kernel
theorem dM0_set_78 : decode cM0_set 78 = .ok (.invokestatic 56, 3) := by decide +kernel
theorem dM0_set_81 : decode cM0_set 81 = .ok (.iinc 7 (-1), 3) := by decide +kernel
theorem dM0_set_84 : decode cM0_set 84 = .ok (.goto (-24), 3) := by decide +kernel
theorem dM0_set_87 : decode cM0_set 87 = .ok (.aload_n 0, 1) := by decide +kernel
theorem dM0_set_88 : decode cM0_set 88 = .ok (.iload_n 1, 1) := by decide +kernel
theorem dM0_set_89 : decode cM0_set 89 = .ok (.invokevirtual 86, 3) := by decide +kernel
theorem dM0_set_92 : decode cM0_set 92 = .ok (.ireturn, 1) := by decide +kernel
theorem dM0_isSlot_0 : decode cM0_isSlot 0 = .ok (.iload_n 0, 1) := by decide +kernel
theorem dM0_isSlot_1 : decode cM0_isSlot 1 = .ok (.ifCond .lt 13, 3) := by decide +kernel
theorem dM0_isSlot_4 : decode cM0_isSlot 4 = .ok (.iload_n 0, 1) := by decide +kernel
theorem dM0_isSlot_5 : decode cM0_isSlot 5 = .ok (.bipush 64, 2) := by decide +kernel
theorem dM0_isSlot_7 : decode cM0_isSlot 7 = .ok (.if_icmp .ge 7, 3) := by decide +kernel
theorem dM0_isSlot_10 : decode cM0_isSlot 10 = .ok (.iconst 1, 1) := by decide +kernel
theorem dM0_isSlot_11 : decode cM0_isSlot 11 = .ok (.goto 4, 3) := by decide +kernel
theorem dM0_isSlot_14 : decode cM0_isSlot 14 = .ok (.iconst 0, 1) := by decide +kernel
theorem dM0_isSlot_15 : decode cM0_isSlot 15 = .ok (.ireturn, 1) := by decide +kernel
theorem dM0_keep_0 : decode cM0_keep 0 = .ok (.aload_n 0, 1) := by decide +kernel
theorem dM0_keep_1 : decode cM0_keep 1 = .ok (.getfield 26, 3) := by decide +kernel
theorem dM0_keep_4 : decode cM0_keep 4 = .ok (.aload_n 0, 1) := by decide +kernel
theorem dM0_keep_5 : decode cM0_keep 5 = .ok (.getfield 17, 3) := by decide +kernel
theorem dM0_keep_8 : decode cM0_keep 8 = .ok (.invokestatic 71, 3) := by decide +kernel
theorem dM0_keep_11 : decode cM0_keep 11 = .ok (.ifCond .lt 5, 3) := by decide +kernel
theorem dM0_keep_14 : decode cM0_keep 14 = .ok (.iconst 1, 1) := by decide +kernel
theorem dM0_keep_15 : decode cM0_keep 15 = .ok (.ireturn, 1) := by decide +kernel
theorem dM0_keep_16 : decode cM0_keep 16 = .ok (.iconst 0, 1) := by decide +kernel
theorem dM0_keep_17 : decode cM0_keep 17 = .ok (.istore_n 2, 1) := by decide +kernel
theorem dM0_keep_18 : decode cM0_keep 18 = .ok (.iload_n 2, 1) := by decide +kernel
theorem dM0_keep_19 : decode cM0_keep 19 = .ok (.sipush 160, 3) := by decide +kernel
theorem dM0_keep_22 : decode cM0_keep 22 = .ok (.if_icmp .ge 27, 3) := by decide +kernel
theorem dM0_keep_25 : decode cM0_keep 25 = .ok (.aload_n 0, 1) := by decide +kernel
theorem dM0_keep_26 : decode cM0_keep 26 = .ok (.getfield 7, 3) := by decide +kernel
theorem dM0_keep_29 : decode cM0_keep 29 = .ok (.sipush 160, 3) := by decide +kernel
theorem dM0_keep_32 : decode cM0_keep 32 = .ok (.iload_n 1, 1) := by decide +kernel
theorem dM0_keep_33 : decode cM0_keep 33 = .ok (.imul, 1) := by decide +kernel
theorem dM0_keep_34 : decode cM0_keep 34 = .ok (.iload_n 2, 1) := by decide +kernel
theorem dM0_keep_35 : decode cM0_keep 35 = .ok (.iadd, 1) := by decide +kernel
theorem dM0_keep_36 : decode cM0_keep 36 = .ok (.aload_n 0, 1) := by decide +kernel
theorem dM0_keep_37 : decode cM0_keep 37 = .ok (.getfield 26, 3) := by decide +kernel
theorem dM0_keep_40 : decode cM0_keep 40 = .ok (.iload_n 2, 1) := by decide +kernel
theorem dM0_keep_41 : decode cM0_keep 41 = .ok (.iaload, 1) := by decide +kernel
theorem dM0_keep_42 : decode cM0_keep 42 = .ok (.iastore, 1) := by decide +kernel
theorem dM0_keep_43 : decode cM0_keep 43 = .ok (.iinc 2 1, 3) := by decide +kernel
theorem dM0_keep_46 : decode cM0_keep 46 = .ok (.goto (-28), 3) := by decide +kernel
theorem dM0_keep_49 : decode cM0_keep 49 = .ok (.aload_n 0, 1) := by decide +kernel
theorem dM0_keep_50 : decode cM0_keep 50 = .ok (.getfield 13, 3) := by decide +kernel
theorem dM0_keep_53 : decode cM0_keep 53 = .ok (.iload_n 1, 1) := by decide +kernel
theorem dM0_keep_54 : decode cM0_keep 54 = .ok (.aload_n 0, 1) := by decide +kernel
theorem dM0_keep_55 : decode cM0_keep 55 = .ok (.getfield 75, 3) := by decide +kernel
theorem dM0_keep_58 : decode cM0_keep 58 = .ok (.ifCond .eq 17, 3) := by decide +kernel
theorem dM0_keep_61 : decode cM0_keep 61 = .ok (.aload_n 0, 1) := by decide +kernel
theorem dM0_keep_62 : decode cM0_keep 62 = .ok (.getfield 26, 3) := by decide +kernel
theorem dM0_keep_65 : decode cM0_keep 65 = .ok (.invokestatic 78, 3) := by decide +kernel
theorem dM0_keep_68 : decode cM0_keep 68 = .ok (.ifCond .ne 7, 3) := by decide +kernel
theorem dM0_keep_71 : decode cM0_keep 71 = .ok (.iconst 1, 1) := by decide +kernel
theorem dM0_keep_72 : decode cM0_keep 72 = .ok (.goto 4, 3) := by decide +kernel
theorem dM0_keep_75 : decode cM0_keep 75 = .ok (.iconst 0, 1) := by decide +kernel
theorem dM0_keep_76 : decode cM0_keep 76 = .ok (.bastore, 1) := by decide +kernel
theorem dM0_keep_77 : decode cM0_keep 77 = .ok (.iconst 0, 1) := by decide +kernel
theorem dM0_keep_78 : decode cM0_keep 78 = .ok (.ireturn, 1) := by decide +kernel
theorem dM0_order_0 : decode cM0_order 0 = .ok (.sipush 329, 3) := by decide +kernel
theorem dM0_order_3 : decode cM0_order 3 = .ok (.istore_n 2, 1) := by decide +kernel
theorem dM0_order_4 : decode cM0_order 4 = .ok (.iload_n 2, 1) := by decide +kernel
theorem dM0_order_5 : decode cM0_order 5 = .ok (.ifCond .lt 33, 3) := by decide +kernel
theorem dM0_order_8 : decode cM0_order 8 = .ok (.aload_n 0, 1) := by decide +kernel
theorem dM0_order_9 : decode cM0_order 9 = .ok (.iload_n 2, 1) := by decide +kernel
theorem dM0_order_10 : decode cM0_order 10 = .ok (.iaload, 1) := by decide +kernel
theorem dM0_order_11 : decode cM0_order 11 = .ok (.aload_n 1, 1) := by decide +kernel
theorem dM0_order_12 : decode cM0_order 12 = .ok (.iload_n 2, 1) := by decide +kernel
theorem dM0_order_13 : decode cM0_order 13 = .ok (.iaload, 1) := by decide +kernel
theorem dM0_order_14 : decode cM0_order 14 = .ok (.if_icmp .eq 18, 3) := by decide +kernel
theorem dM0_order_17 : decode cM0_order 17 = .ok (.aload_n 0, 1) := by decide +kernel
theorem dM0_order_18 : decode cM0_order 18 = .ok (.iload_n 2, 1) := by decide +kernel
theorem dM0_order_19 : decode cM0_order 19 = .ok (.iaload, 1) := by decide +kernel
theorem dM0_order_20 : decode cM0_order 20 = .ok (.aload_n 1, 1) := by decide +kernel
theorem dM0_order_21 : decode cM0_order 21 = .ok (.iload_n 2, 1) := by decide +kernel
theorem dM0_order_22 : decode cM0_order 22 = .ok (.iaload, 1) := by decide +kernel
theorem dM0_order_23 : decode cM0_order 23 = .ok (.if_icmp .ge 7, 3) := by decide +kernel
theorem dM0_order_26 : decode cM0_order 26 = .ok (.iconst (-1), 1) := by decide +kernel
theorem dM0_order_27 : decode cM0_order 27 = .ok (.goto 4, 3) := by decide +kernel
theorem dM0_order_30 : decode cM0_order 30 = .ok (.iconst 1, 1) := by decide +kernel
theorem dM0_order_31 : decode cM0_order 31 = .ok (.ireturn, 1) := by decide +kernel
theorem dM0_order_32 : decode cM0_order 32 = .ok (.iinc 2 (-1), 3) := by decide +kernel
theorem dM0_order_35 : decode cM0_order 35 = .ok (.goto (-31), 3) := by decide +kernel
theorem dM0_order_38 : decode cM0_order 38 = .ok (.iconst 0, 1) := by decide +kernel
theorem dM0_order_39 : decode cM0_order 39 = .ok (.ireturn, 1) := by decide +kernel
theorem dM0_isZero_0 : decode cM0_isZero 0 = .ok (.iconst 1, 1) := by decide +kernel
theorem dM0_isZero_1 : decode cM0_isZero 1 = .ok (.istore_n 1, 1) := by decide +kernel
theorem dM0_isZero_2 : decode cM0_isZero 2 = .ok (.iconst 0, 1) := by decide +kernel
theorem dM0_isZero_3 : decode cM0_isZero 3 = .ok (.istore_n 2, 1) := by decide +kernel
theorem dM0_isZero_4 : decode cM0_isZero 4 = .ok (.iload_n 2, 1) := by decide +kernel
theorem dM0_isZero_5 : decode cM0_isZero 5 = .ok (.sipush 330, 3) := by decide +kernel
theorem dM0_isZero_8 : decode cM0_isZero 8 = .ok (.if_icmp .ge 25, 3) := by decide +kernel
theorem dM0_isZero_11 : decode cM0_isZero 11 = .ok (.iload_n 1, 1) := by decide +kernel
theorem dM0_isZero_12 : decode cM0_isZero 12 = .ok (.ifCond .eq 13, 3) := by decide +kernel
theorem dM0_isZero_15 : decode cM0_isZero 15 = .ok (.aload_n 0, 1) := by decide +kernel
theorem dM0_isZero_16 : decode cM0_isZero 16 = .ok (.iload_n 2, 1) := by decide +kernel
theorem dM0_isZero_17 : decode cM0_isZero 17 = .ok (.iaload, 1) := by decide +kernel
theorem dM0_isZero_18 : decode cM0_isZero 18 = .ok (.ifCond .ne 7, 3) := by decide +kernel
theorem dM0_isZero_21 : decode cM0_isZero 21 = .ok (.iconst 1, 1) := by decide +kernel
theorem dM0_isZero_22 : decode cM0_isZero 22 = .ok (.goto 4, 3) := by decide +kernel
theorem dM0_isZero_25 : decode cM0_isZero 25 = .ok (.iconst 0, 1) := by decide +kernel
theorem dM0_isZero_26 : decode cM0_isZero 26 = .ok (.istore_n 1, 1) := by decide +kernel
theorem dM0_isZero_27 : decode cM0_isZero 27 = .ok (.iinc 2 1, 3) := by decide +kernel
theorem dM0_isZero_30 : decode cM0_isZero 30 = .ok (.goto (-26), 3) := by decide +kernel
theorem dM0_isZero_33 : decode cM0_isZero 33 = .ok (.iload_n 1, 1) := by decide +kernel
theorem dM0_isZero_34 : decode cM0_isZero 34 = .ok (.ireturn, 1) := by decide +kernel
theorem dM0_digits_0 : decode cM0_digits 0 = .ok (.aload_n 0, 1) := by decide +kernel
theorem dM0_digits_1 : decode cM0_digits 1 = .ok (.iconst 0, 1) := by decide +kernel
theorem dM0_digits_2 : decode cM0_digits 2 = .ok (.putfield 48, 3) := by decide +kernel
theorem dM0_digits_5 : decode cM0_digits 5 = .ok (.iconst 0, 1) := by decide +kernel
theorem dM0_digits_6 : decode cM0_digits 6 = .ok (.istore_n 3, 1) := by decide +kernel
theorem dM0_digits_7 : decode cM0_digits 7 = .ok (.bipush 7, 2) := by decide +kernel
theorem dM0_digits_9 : decode cM0_digits 9 = .ok (.istore 4, 2) := by decide +kernel
theorem dM0_digits_11 : decode cM0_digits 11 = .ok (.iload 4, 2) := by decide +kernel
theorem dM0_digits_13 : decode cM0_digits 13 = .ok (.ifCond .lt 53, 3) := by decide +kernel
theorem dM0_digits_16 : decode cM0_digits 16 = .ok (.lload_n 1, 1) := by decide +kernel
theorem dM0_digits_17 : decode cM0_digits 17 = .ok (.bipush 8, 2) := by decide +kernel
theorem dM0_digits_19 : decode cM0_digits 19 = .ok (.iload 4, 2) := by decide +kernel
theorem dM0_digits_21 : decode cM0_digits 21 = .ok (.imul, 1) := by decide +kernel
theorem dM0_digits_22 : decode cM0_digits 22 = .ok (.lshr, 1) := by decide +kernel
theorem dM0_digits_23 : decode cM0_digits 23 = .ok (.ldc2_w 90, 3) := by decide +kernel
theorem dM0_digits_26 : decode cM0_digits 26 = .ok (.land, 1) := by decide +kernel
theorem dM0_digits_27 : decode cM0_digits 27 = .ok (.l2i, 1) := by decide +kernel
theorem dM0_digits_28 : decode cM0_digits 28 = .ok (.istore 5, 2) := by decide +kernel
theorem dM0_digits_30 : decode cM0_digits 30 = .ok (.iload 5, 2) := by decide +kernel
theorem dM0_digits_32 : decode cM0_digits 32 = .ok (.ifCond .eq 15, 3) := by decide +kernel
theorem dM0_digits_35 : decode cM0_digits 35 = .ok (.iload 5, 2) := by decide +kernel
theorem dM0_digits_37 : decode cM0_digits 37 = .ok (.invokestatic 92, 3) := by decide +kernel
theorem dM0_digits_40 : decode cM0_digits 40 = .ok (.bipush 35, 2) := by decide +kernel
theorem dM0_digits_42 : decode cM0_digits 42 = .ok (.if_icmp .le 5, 3) := by decide +kernel
theorem dM0_digits_45 : decode cM0_digits 45 = .ok (.iconst 0, 1) := by decide +kernel
theorem dM0_digits_46 : decode cM0_digits 46 = .ok (.ireturn, 1) := by decide +kernel
theorem dM0_digits_47 : decode cM0_digits 47 = .ok (.iload_n 3, 1) := by decide +kernel
theorem dM0_digits_48 : decode cM0_digits 48 = .ok (.iload 5, 2) := by decide +kernel
theorem dM0_digits_50 : decode cM0_digits 50 = .ok (.ifCond .ne 7, 3) := by decide +kernel
theorem dM0_digits_53 : decode cM0_digits 53 = .ok (.iconst 0, 1) := by decide +kernel
theorem dM0_digits_54 : decode cM0_digits 54 = .ok (.goto 4, 3) := by decide +kernel
theorem dM0_digits_57 : decode cM0_digits 57 = .ok (.iconst 1, 1) := by decide +kernel
theorem dM0_digits_58 : decode cM0_digits 58 = .ok (.iadd, 1) := by decide +kernel
theorem dM0_digits_59 : decode cM0_digits 59 = .ok (.istore_n 3, 1) := by decide +kernel
theorem dM0_digits_60 : decode cM0_digits 60 = .ok (.iinc 4 (-1), 3) := by decide +kernel
theorem dM0_digits_63 : decode cM0_digits 63 = .ok (.goto (-52), 3) := by decide +kernel
theorem dM0_digits_66 : decode cM0_digits 66 = .ok (.aload_n 0, 1) := by decide +kernel
theorem dM0_digits_67 : decode cM0_digits 67 = .ok (.getfield 95, 3) := by decide +kernel
theorem dM0_digits_70 : decode cM0_digits 70 = .ok (.iload_n 3, 1) := by decide +kernel
theorem dM0_digits_71 : decode cM0_digits 71 = .ok (.iadd, 1) := by decide +kernel
theorem dM0_digits_72 : decode cM0_digits 72 = .ok (.sipush 1000, 3) := by decide +kernel
theorem dM0_digits_75 : decode cM0_digits 75 = .ok (.if_icmp .le 5, 3) := by decide +kernel
theorem dM0_digits_78 : decode cM0_digits 78 = .ok (.iconst 0, 1) := by decide +kernel
theorem dM0_digits_79 : decode cM0_digits 79 = .ok (.ireturn, 1) := by decide +kernel
theorem dM0_digits_80 : decode cM0_digits 80 = .ok (.bipush 7, 2) := by decide +kernel
theorem dM0_digits_82 : decode cM0_digits 82 = .ok (.istore 4, 2) := by decide +kernel
theorem dM0_digits_84 : decode cM0_digits 84 = .ok (.iload 4, 2) := by decide +kernel
theorem dM0_digits_86 : decode cM0_digits 86 = .ok (.ifCond .lt 55, 3) := by decide +kernel
theorem dM0_digits_89 : decode cM0_digits 89 = .ok (.lload_n 1, 1) := by decide +kernel
theorem dM0_digits_90 : decode cM0_digits 90 = .ok (.bipush 8, 2) := by decide +kernel
theorem dM0_digits_92 : decode cM0_digits 92 = .ok (.iload 4, 2) := by decide +kernel
theorem dM0_digits_94 : decode cM0_digits 94 = .ok (.imul, 1) := by decide +kernel
theorem dM0_digits_95 : decode cM0_digits 95 = .ok (.lshr, 1) := by decide +kernel
theorem dM0_digits_96 : decode cM0_digits 96 = .ok (.ldc2_w 90, 3) := by decide +kernel
theorem dM0_digits_99 : decode cM0_digits 99 = .ok (.land, 1) := by decide +kernel
theorem dM0_digits_100 : decode cM0_digits 100 = .ok (.l2i, 1) := by decide +kernel
theorem dM0_digits_101 : decode cM0_digits 101 = .ok (.istore 5, 2) := by decide +kernel
theorem dM0_digits_103 : decode cM0_digits 103 = .ok (.iload 5, 2) := by decide +kernel
theorem dM0_digits_105 : decode cM0_digits 105 = .ok (.ifCond .ne 6, 3) := by decide +kernel
theorem dM0_digits_108 : decode cM0_digits 108 = .ok (.goto 27, 3) := by decide +kernel
theorem dM0_digits_111 : decode cM0_digits 111 = .ok (.aload_n 0, 1) := by decide +kernel
theorem dM0_digits_112 : decode cM0_digits 112 = .ok (.getfield 38, 3) := by decide +kernel
theorem dM0_digits_115 : decode cM0_digits 115 = .ok (.aload_n 0, 1) := by decide +kernel
theorem dM0_digits_116 : decode cM0_digits 116 = .ok (.getfield 95, 3) := by decide +kernel
theorem dM0_digits_119 : decode cM0_digits 119 = .ok (.iload 5, 2) := by decide +kernel
theorem dM0_digits_121 : decode cM0_digits 121 = .ok (.invokestatic 92, 3) := by decide +kernel
theorem dM0_digits_124 : decode cM0_digits 124 = .ok (.iastore, 1) := by decide +kernel
theorem dM0_digits_125 : decode cM0_digits 125 = .ok (.aload_n 0, 1) := by decide +kernel
theorem dM0_digits_126 : decode cM0_digits 126 = .ok (.dup, 1) := by decide +kernel
theorem dM0_digits_127 : decode cM0_digits 127 = .ok (.getfield 95, 3) := by decide +kernel
theorem dM0_digits_130 : decode cM0_digits 130 = .ok (.iconst 1, 1) := by decide +kernel
theorem dM0_digits_131 : decode cM0_digits 131 = .ok (.iadd, 1) := by decide +kernel
theorem dM0_digits_132 : decode cM0_digits 132 = .ok (.putfield 95, 3) := by decide +kernel
theorem dM0_digits_135 : decode cM0_digits 135 = .ok (.iinc 4 (-1), 3) := by decide +kernel
theorem dM0_digits_138 : decode cM0_digits 138 = .ok (.goto (-54), 3) := by decide +kernel
theorem dM0_digits_141 : decode cM0_digits 141 = .ok (.iconst 1, 1) := by decide +kernel
theorem dM0_digits_142 : decode cM0_digits 142 = .ok (.ireturn, 1) := by decide +kernel
theorem dM0_worth_0 : decode cM0_worth 0 = .ok (.iload_n 0, 1) := by decide +kernel
theorem dM0_worth_1 : decode cM0_worth 1 = .ok (.bipush 48, 2) := by decide +kernel
theorem dM0_worth_3 : decode cM0_worth 3 = .ok (.if_icmp .lt 16, 3) := by decide +kernel
theorem dM0_worth_6 : decode cM0_worth 6 = .ok (.iload_n 0, 1) := by decide +kernel
theorem dM0_worth_7 : decode cM0_worth 7 = .ok (.bipush 57, 2) := by decide +kernel
theorem dM0_worth_9 : decode cM0_worth 9 = .ok (.if_icmp .gt 10, 3) := by decide +kernel
theorem dM0_worth_12 : decode cM0_worth 12 = .ok (.iload_n 0, 1) := by decide +kernel
theorem dM0_worth_13 : decode cM0_worth 13 = .ok (.bipush 48, 2) := by decide +kernel
theorem dM0_worth_15 : decode cM0_worth 15 = .ok (.isub, 1) := by decide +kernel
theorem dM0_worth_16 : decode cM0_worth 16 = .ok (.goto 49, 3) := by decide +kernel
theorem dM0_worth_19 : decode cM0_worth 19 = .ok (.iload_n 0, 1) := by decide +kernel
theorem dM0_worth_20 : decode cM0_worth 20 = .ok (.bipush 97, 2) := by decide +kernel
theorem dM0_worth_22 : decode cM0_worth 22 = .ok (.if_icmp .lt 19, 3) := by decide +kernel
theorem dM0_worth_25 : decode cM0_worth 25 = .ok (.iload_n 0, 1) := by decide +kernel
theorem dM0_worth_26 : decode cM0_worth 26 = .ok (.bipush 122, 2) := by decide +kernel
theorem dM0_worth_28 : decode cM0_worth 28 = .ok (.if_icmp .gt 13, 3) := by decide +kernel
theorem dM0_worth_31 : decode cM0_worth 31 = .ok (.iload_n 0, 1) := by decide +kernel
theorem dM0_worth_32 : decode cM0_worth 32 = .ok (.bipush 97, 2) := by decide +kernel
theorem dM0_worth_34 : decode cM0_worth 34 = .ok (.isub, 1) := by decide +kernel
theorem dM0_worth_35 : decode cM0_worth 35 = .ok (.bipush 10, 2) := by decide +kernel
theorem dM0_worth_37 : decode cM0_worth 37 = .ok (.iadd, 1) := by decide +kernel
theorem dM0_worth_38 : decode cM0_worth 38 = .ok (.goto 27, 3) := by decide +kernel
theorem dM0_worth_41 : decode cM0_worth 41 = .ok (.iload_n 0, 1) := by decide +kernel
theorem dM0_worth_42 : decode cM0_worth 42 = .ok (.bipush 65, 2) := by decide +kernel
theorem dM0_worth_44 : decode cM0_worth 44 = .ok (.if_icmp .lt 19, 3) := by decide +kernel
theorem dM0_worth_47 : decode cM0_worth 47 = .ok (.iload_n 0, 1) := by decide +kernel
theorem dM0_worth_48 : decode cM0_worth 48 = .ok (.bipush 90, 2) := by decide +kernel
theorem dM0_worth_50 : decode cM0_worth 50 = .ok (.if_icmp .gt 13, 3) := by decide +kernel
theorem dM0_worth_53 : decode cM0_worth 53 = .ok (.iload_n 0, 1) := by decide +kernel
theorem dM0_worth_54 : decode cM0_worth 54 = .ok (.bipush 65, 2) := by decide +kernel
theorem dM0_worth_56 : decode cM0_worth 56 = .ok (.isub, 1) := by decide +kernel
theorem dM0_worth_57 : decode cM0_worth 57 = .ok (.bipush 10, 2) := by decide +kernel
theorem dM0_worth_59 : decode cM0_worth 59 = .ok (.iadd, 1) := by decide +kernel
theorem dM0_worth_60 : decode cM0_worth 60 = .ok (.goto 5, 3) := by decide +kernel
theorem dM0_worth_63 : decode cM0_worth 63 = .ok (.bipush 99, 2) := by decide +kernel
theorem dM0_worth_65 : decode cM0_worth 65 = .ok (.ireturn, 1) := by decide +kernel
theorem dM0_read_0 : decode cM0_read 0 = .ok (.aload_n 0, 1) := by decide +kernel
theorem dM0_read_1 : decode cM0_read 1 = .ok (.iconst 0, 1) := by decide +kernel
theorem dM0_read_2 : decode cM0_read 2 = .ok (.putfield 48, 3) := by decide +kernel
theorem dM0_read_5 : decode cM0_read 5 = .ok (.aload_n 0, 1) := by decide +kernel
theorem dM0_read_6 : decode cM0_read 6 = .ok (.getfield 95, 3) := by decide +kernel
theorem dM0_read_9 : decode cM0_read 9 = .ok (.istore_n 3, 1) := by decide +kernel
theorem dM0_read_10 : decode cM0_read 10 = .ok (.aload_n 0, 1) := by decide +kernel
theorem dM0_read_11 : decode cM0_read 11 = .ok (.iconst 0, 1) := by decide +kernel
theorem dM0_read_12 : decode cM0_read 12 = .ok (.putfield 95, 3) := by decide +kernel
theorem dM0_read_15 : decode cM0_read 15 = .ok (.iload_n 1, 1) := by decide +kernel
theorem dM0_read_16 : decode cM0_read 16 = .ok (.invokestatic 82, 3) := by decide +kernel
theorem dM0_read_19 : decode cM0_read 19 = .ok (.ifCond .eq 18, 3) := by decide +kernel
theorem dM0_read_22 : decode cM0_read 22 = .ok (.iload_n 2, 1) := by decide +kernel
theorem dM0_read_23 : decode cM0_read 23 = .ok (.iconst 2, 1) := by decide +kernel
theorem dM0_read_24 : decode cM0_read 24 = .ok (.if_icmp .lt 13, 3) := by decide +kernel
theorem dM0_read_27 : decode cM0_read 27 = .ok (.iload_n 2, 1) := by decide +kernel
theorem dM0_read_28 : decode cM0_read 28 = .ok (.bipush 36, 2) := by decide +kernel
theorem dM0_read_30 : decode cM0_read 30 = .ok (.if_icmp .gt 7, 3) := by decide +kernel
theorem dM0_read_33 : decode cM0_read 33 = .ok (.iload_n 3, 1) := by decide +kernel
theorem dM0_read_34 : decode cM0_read 34 = .ok (.ifCond .ne 5, 3) := by decide +kernel
theorem dM0_read_37 : decode cM0_read 37 = .ok (.iconst 3, 1) := by decide +kernel
theorem dM0_read_38 : decode cM0_read 38 = .ok (.ireturn, 1) := by decide +kernel
theorem dM0_read_39 : decode cM0_read 39 = .ok (.iconst 0, 1) := by decide +kernel
theorem dM0_read_40 : decode cM0_read 40 = .ok (.istore 4, 2) := by decide +kernel
theorem dM0_read_42 : decode cM0_read 42 = .ok (.aload_n 0, 1) := by decide +kernel
theorem dM0_read_43 : decode cM0_read 43 = .ok (.getfield 26, 3) := by decide +kernel
theorem dM0_read_46 : decode cM0_read 46 = .ok (.invokestatic 52, 3) := by decide +kernel
theorem dM0_read_49 : decode cM0_read 49 = .ok (.iconst 0, 1) := by decide +kernel
theorem dM0_read_50 : decode cM0_read 50 = .ok (.istore 5, 2) := by decide +kernel
theorem dM0_read_52 : decode cM0_read 52 = .ok (.iload 5, 2) := by decide +kernel
theorem dM0_read_54 : decode cM0_read 54 = .ok (.iload_n 3, 1) := by decide +kernel
theorem dM0_read_55 : decode cM0_read 55 = .ok (.if_icmp .ge 68, 3) := by decide +kernel
theorem dM0_read_58 : decode cM0_read 58 = .ok (.aload_n 0, 1) := by decide +kernel
theorem dM0_read_59 : decode cM0_read 59 = .ok (.getfield 38, 3) := by decide +kernel
theorem dM0_read_62 : decode cM0_read 62 = .ok (.iload 5, 2) := by decide +kernel
theorem dM0_read_64 : decode cM0_read 64 = .ok (.iaload, 1) := by decide +kernel
theorem dM0_read_65 : decode cM0_read 65 = .ok (.iload_n 2, 1) := by decide +kernel
theorem dM0_read_66 : decode cM0_read 66 = .ok (.if_icmp .lt 5, 3) := by decide +kernel
theorem dM0_read_69 : decode cM0_read 69 = .ok (.iconst 3, 1) := by decide +kernel
theorem dM0_read_70 : decode cM0_read 70 = .ok (.ireturn, 1) := by decide +kernel
theorem dM0_read_71 : decode cM0_read 71 = .ok (.iload 4, 2) := by decide +kernel
theorem dM0_read_73 : decode cM0_read 73 = .ok (.ifCond .ne 18, 3) := by decide +kernel
theorem dM0_read_76 : decode cM0_read 76 = .ok (.aload_n 0, 1) := by decide +kernel
theorem dM0_read_77 : decode cM0_read 77 = .ok (.getfield 26, 3) := by decide +kernel
theorem dM0_read_80 : decode cM0_read 80 = .ok (.iload_n 2, 1) := by decide +kernel
theorem dM0_read_81 : decode cM0_read 81 = .ok (.aload_n 0, 1) := by decide +kernel
theorem dM0_read_82 : decode cM0_read 82 = .ok (.getfield 38, 3) := by decide +kernel
theorem dM0_read_85 : decode cM0_read 85 = .ok (.iload 5, 2) := by decide +kernel
theorem dM0_read_87 : decode cM0_read 87 = .ok (.iaload, 1) := by decide +kernel
theorem dM0_read_88 : decode cM0_read 88 = .ok (.invokestatic 56, 3) := by decide +kernel
theorem dM0_read_91 : decode cM0_read 91 = .ok (.iload 4, 2) := by decide +kernel
theorem dM0_read_93 : decode cM0_read 93 = .ok (.ifCond .ne 17, 3) := by decide +kernel
theorem dM0_read_96 : decode cM0_read 96 = .ok (.aload_n 0, 1) := by decide +kernel
theorem dM0_read_97 : decode cM0_read 97 = .ok (.getfield 26, 3) := by decide +kernel
theorem dM0_read_100 : decode cM0_read 100 = .ok (.aload_n 0, 1) := by decide +kernel
theorem dM0_read_101 : decode cM0_read 101 = .ok (.getfield 17, 3) := by decide +kernel
theorem dM0_read_104 : decode cM0_read 104 = .ok (.invokestatic 71, 3) := by decide +kernel
theorem dM0_read_107 : decode cM0_read 107 = .ok (.ifCond .lt 7, 3) := by decide +kernel
theorem dM0_read_110 : decode cM0_read 110 = .ok (.iconst 1, 1) := by decide +kernel
theorem dM0_read_111 : decode cM0_read 111 = .ok (.goto 4, 3) := by decide +kernel
theorem dM0_read_114 : decode cM0_read 114 = .ok (.iconst 0, 1) := by decide +kernel
theorem dM0_read_115 : decode cM0_read 115 = .ok (.istore 4, 2) := by decide +kernel
theorem dM0_read_117 : decode cM0_read 117 = .ok (.iinc 5 1, 3) := by decide +kernel
theorem dM0_read_120 : decode cM0_read 120 = .ok (.goto (-68), 3) := by decide +kernel
theorem dM0_read_123 : decode cM0_read 123 = .ok (.aload_n 0, 1) := by decide +kernel
theorem dM0_read_124 : decode cM0_read 124 = .ok (.iconst 0, 1) := by decide +kernel
theorem dM0_read_125 : decode cM0_read 125 = .ok (.putfield 75, 3) := by decide +kernel
theorem dM0_read_128 : decode cM0_read 128 = .ok (.iload 4, 2) := by decide +kernel
theorem dM0_read_130 : decode cM0_read 130 = .ok (.ifCond .eq 7, 3) := by decide +kernel
theorem dM0_read_133 : decode cM0_read 133 = .ok (.iconst 1, 1) := by decide +kernel
theorem dM0_read_134 : decode cM0_read 134 = .ok (.goto 8, 3) := by decide +kernel
theorem dM0_read_137 : decode cM0_read 137 = .ok (.aload_n 0, 1) := by decide +kernel
theorem dM0_read_138 : decode cM0_read 138 = .ok (.iload_n 1, 1) := by decide +kernel
theorem dM0_read_139 : decode cM0_read 139 = .ok (.invokevirtual 86, 3) := by decide +kernel
theorem dM0_read_142 : decode cM0_read 142 = .ok (.ireturn, 1) := by decide +kernel
theorem dM0_work_0 : decode cM0_work 0 = .ok (.aload_n 0, 1) := by decide +kernel
theorem dM0_work_1 : decode cM0_work 1 = .ok (.iconst 0, 1) := by decide +kernel
theorem dM0_work_2 : decode cM0_work 2 = .ok (.putfield 48, 3) := by decide +kernel
theorem dM0_work_5 : decode cM0_work 5 = .ok (.iload_n 1, 1) := by decide +kernel
theorem dM0_work_6 : decode cM0_work 6 = .ok (.ifCond .lt 31, 3) := by decide +kernel
theorem dM0_work_9 : decode cM0_work 9 = .ok (.iload_n 1, 1) := by decide +kernel
theorem dM0_work_10 : decode cM0_work 10 = .ok (.bipush 8, 2) := by decide +kernel
theorem dM0_work_12 : decode cM0_work 12 = .ok (.if_icmp .gt 25, 3) := by decide +kernel
theorem dM0_work_15 : decode cM0_work 15 = .ok (.iload_n 2, 1) := by decide +kernel
theorem dM0_work_16 : decode cM0_work 16 = .ok (.invokestatic 82, 3) := by decide +kernel
theorem dM0_work_19 : decode cM0_work 19 = .ok (.ifCond .eq 18, 3) := by decide +kernel
theorem dM0_work_22 : decode cM0_work 22 = .ok (.iload_n 3, 1) := by decide +kernel
theorem dM0_work_23 : decode cM0_work 23 = .ok (.invokestatic 82, 3) := by decide +kernel
theorem dM0_work_26 : decode cM0_work 26 = .ok (.ifCond .eq 11, 3) := by decide +kernel
theorem dM0_work_29 : decode cM0_work 29 = .ok (.iload 4, 2) := by decide +kernel
theorem dM0_work_31 : decode cM0_work 31 = .ok (.invokestatic 82, 3) := by decide +kernel
theorem dM0_work_34 : decode cM0_work 34 = .ok (.ifCond .ne 5, 3) := by decide +kernel
theorem dM0_work_37 : decode cM0_work 37 = .ok (.iconst 3, 1) := by decide +kernel
theorem dM0_work_38 : decode cM0_work 38 = .ok (.ireturn, 1) := by decide +kernel
theorem dM0_work_39 : decode cM0_work 39 = .ok (.aload_n 0, 1) := by decide +kernel
theorem dM0_work_40 : decode cM0_work 40 = .ok (.iload_n 3, 1) := by decide +kernel
theorem dM0_work_41 : decode cM0_work 41 = .ok (.iload 4, 2) := by decide +kernel
theorem dM0_work_43 : decode cM0_work 43 = .ok (.invokevirtual 119, 3) := by decide +kernel
theorem dM0_work_46 : decode cM0_work 46 = .ok (.iload_n 1, 1) := by decide +kernel
theorem dM0_work_47 : decode cM0_work 47 = .ok (.iconst 3, 1) := by decide +kernel
theorem dM0_work_48 : decode cM0_work 48 = .ok (.if_icmp .eq 8, 3) := by decide +kernel
theorem dM0_work_51 : decode cM0_work 51 = .ok (.iload_n 1, 1) := by decide +kernel
theorem dM0_work_52 : decode cM0_work 52 = .ok (.iconst 4, 1) := by decide +kernel
theorem dM0_work_53 : decode cM0_work 53 = .ok (.if_icmp .ne 15, 3) := by decide +kernel
theorem dM0_work_56 : decode cM0_work 56 = .ok (.aload_n 0, 1) := by decide +kernel
theorem dM0_work_57 : decode cM0_work 57 = .ok (.getfield 23, 3) := by decide +kernel
theorem dM0_work_60 : decode cM0_work 60 = .ok (.invokestatic 78, 3) := by decide +kernel
theorem dM0_work_63 : decode cM0_work 63 = .ok (.ifCond .eq 5, 3) := by decide +kernel
theorem dM0_work_66 : decode cM0_work 66 = .ok (.iconst 2, 1) := by decide +kernel
theorem dM0_work_67 : decode cM0_work 67 = .ok (.ireturn, 1) := by decide +kernel
theorem dM0_work_68 : decode cM0_work 68 = .ok (.iload_n 1, 1) := by decide +kernel
theorem dM0_work_69 : decode cM0_work 69 = .ok (.iconst 2, 1) := by decide +kernel
theorem dM0_work_70 : decode cM0_work 70 = .ok (.if_icmp .ge 20, 3) := by decide +kernel
theorem dM0_work_73 : decode cM0_work 73 = .ok (.aload_n 0, 1) := by decide +kernel
theorem dM0_work_74 : decode cM0_work 74 = .ok (.iload_n 1, 1) := by decide +kernel
theorem dM0_work_75 : decode cM0_work 75 = .ok (.iconst 1, 1) := by decide +kernel
theorem dM0_work_76 : decode cM0_work 76 = .ok (.if_icmp .ne 7, 3) := by decide +kernel
theorem dM0_work_79 : decode cM0_work 79 = .ok (.iconst 1, 1) := by decide +kernel
theorem dM0_work_80 : decode cM0_work 80 = .ok (.goto 4, 3) := by decide +kernel
theorem dM0_work_83 : decode cM0_work 83 = .ok (.iconst 0, 1) := by decide +kernel
theorem dM0_work_84 : decode cM0_work 84 = .ok (.invokevirtual 123, 3) := by decide +kernel
theorem dM0_work_87 : decode cM0_work 87 = .ok (.goto 56, 3) := by decide +kernel
theorem dM0_work_90 : decode cM0_work 90 = .ok (.iload_n 1, 1) := by decide +kernel
theorem dM0_work_91 : decode cM0_work 91 = .ok (.iconst 2, 1) := by decide +kernel
theorem dM0_work_92 : decode cM0_work 92 = .ok (.if_icmp .ne 10, 3) := by decide +kernel
theorem dM0_work_95 : decode cM0_work 95 = .ok (.aload_n 0, 1) := by decide +kernel
theorem dM0_work_96 : decode cM0_work 96 = .ok (.invokevirtual 127, 3) := by decide +kernel
theorem dM0_work_99 : decode cM0_work 99 = .ok (.goto 44, 3) := by decide +kernel
theorem dM0_work_102 : decode cM0_work 102 = .ok (.iload_n 1, 1) := by decide +kernel
theorem dM0_work_103 : decode cM0_work 103 = .ok (.iconst 5, 1) := by decide +kernel
theorem dM0_work_104 : decode cM0_work 104 = .ok (.if_icmp .ge 34, 3) := by decide +kernel
theorem dM0_work_107 : decode cM0_work 107 = .ok (.aload_n 0, 1) := by decide +kernel
theorem dM0_work_108 : decode cM0_work 108 = .ok (.invokevirtual 130, 3) := by decide +kernel
theorem dM0_work_111 : decode cM0_work 111 = .ok (.iload_n 1, 1) := by decide +kernel
theorem dM0_work_112 : decode cM0_work 112 = .ok (.iconst 4, 1) := by decide +kernel
theorem dM0_work_113 : decode cM0_work 113 = .ok (.if_icmp .ne 30, 3) := by decide +kernel
theorem dM0_work_116 : decode cM0_work 116 = .ok (.aload_n 0, 1) := by decide +kernel
theorem dM0_work_117 : decode cM0_work 117 = .ok (.getfield 29, 3) := by decide +kernel
theorem dM0_work_120 : decode cM0_work 120 = .ok (.aload_n 0, 1) := by decide +kernel
theorem dM0_work_121 : decode cM0_work 121 = .ok (.getfield 26, 3) := by decide +kernel
theorem dM0_work_124 : decode cM0_work 124 = .ok (.invokestatic 98, 3) := by decide +kernel
theorem dM0_work_127 : decode cM0_work 127 = .ok (.aload_n 0, 1) := by decide +kernel
theorem dM0_work_128 : decode cM0_work 128 = .ok (.aload_n 0, 1) := by decide +kernel
theorem dM0_work_129 : decode cM0_work 129 = .ok (.getfield 64, 3) := by decide +kernel
theorem dM0_work_132 : decode cM0_work 132 = .ok (.putfield 75, 3) := by decide +kernel
theorem dM0_work_135 : decode cM0_work 135 = .ok (.goto 8, 3) := by decide +kernel
theorem dM0_work_138 : decode cM0_work 138 = .ok (.aload_n 0, 1) := by decide +kernel
theorem dM0_work_139 : decode cM0_work 139 = .ok (.iload_n 1, 1) := by decide +kernel
theorem dM0_work_140 : decode cM0_work 140 = .ok (.invokevirtual 133, 3) := by decide +kernel
theorem dM0_work_143 : decode cM0_work 143 = .ok (.aload_n 0, 1) := by decide +kernel
theorem dM0_work_144 : decode cM0_work 144 = .ok (.iload_n 2, 1) := by decide +kernel
theorem dM0_work_145 : decode cM0_work 145 = .ok (.invokevirtual 86, 3) := by decide +kernel
theorem dM0_work_148 : decode cM0_work 148 = .ok (.ireturn, 1) := by decide +kernel
theorem dM0_loadBoth_0 : decode cM0_loadBoth 0 = .ok (.aload_n 0, 1) := by decide +kernel
theorem dM0_loadBoth_1 : decode cM0_loadBoth 1 = .ok (.iload_n 1, 1) := by decide +kernel
theorem dM0_loadBoth_2 : decode cM0_loadBoth 2 = .ok (.aload_n 0, 1) := by decide +kernel
theorem dM0_loadBoth_3 : decode cM0_loadBoth 3 = .ok (.getfield 20, 3) := by decide +kernel
theorem dM0_loadBoth_6 : decode cM0_loadBoth 6 = .ok (.invokevirtual 60, 3) := by decide +kernel
theorem dM0_loadBoth_9 : decode cM0_loadBoth 9 = .ok (.aload_n 0, 1) := by decide +kernel
theorem dM0_loadBoth_10 : decode cM0_loadBoth 10 = .ok (.iload_n 2, 1) := by decide +kernel
theorem dM0_loadBoth_11 : decode cM0_loadBoth 11 = .ok (.aload_n 0, 1) := by decide +kernel
theorem dM0_loadBoth_12 : decode cM0_loadBoth 12 = .ok (.getfield 23, 3) := by decide +kernel
theorem dM0_loadBoth_15 : decode cM0_loadBoth 15 = .ok (.invokevirtual 60, 3) := by decide +kernel
theorem dM0_loadBoth_18 : decode cM0_loadBoth 18 = .ok (.aload_n 0, 1) := by decide +kernel
theorem dM0_loadBoth_19 : decode cM0_loadBoth 19 = .ok (.aload_n 0, 1) := by decide +kernel
theorem dM0_loadBoth_20 : decode cM0_loadBoth 20 = .ok (.getfield 13, 3) := by decide +kernel
theorem dM0_loadBoth_23 : decode cM0_loadBoth 23 = .ok (.iload_n 1, 1) := by decide +kernel
theorem dM0_loadBoth_24 : decode cM0_loadBoth 24 = .ok (.baload, 1) := by decide +kernel
theorem dM0_loadBoth_25 : decode cM0_loadBoth 25 = .ok (.putfield 64, 3) := by decide +kernel
theorem dM0_loadBoth_28 : decode cM0_loadBoth 28 = .ok (.aload_n 0, 1) := by decide +kernel
theorem dM0_loadBoth_29 : decode cM0_loadBoth 29 = .ok (.aload_n 0, 1) := by decide +kernel
theorem dM0_loadBoth_30 : decode cM0_loadBoth 30 = .ok (.getfield 13, 3) := by decide +kernel
theorem dM0_loadBoth_33 : decode cM0_loadBoth 33 = .ok (.iload_n 2, 1) := by decide +kernel
theorem dM0_loadBoth_34 : decode cM0_loadBoth 34 = .ok (.baload, 1) := by decide +kernel
theorem dM0_loadBoth_35 : decode cM0_loadBoth 35 = .ok (.putfield 68, 3) := by decide +kernel
theorem dM0_loadBoth_38 : decode cM0_loadBoth 38 = .ok (.return_, 1) := by decide +kernel
theorem dM0_load_0 : decode cM0_load 0 = .ok (.aload_n 2, 1) := by decide +kernel
theorem dM0_load_1 : decode cM0_load 1 = .ok (.invokestatic 52, 3) := by decide +kernel
theorem dM0_load_4 : decode cM0_load 4 = .ok (.iconst 0, 1) := by decide +kernel
theorem dM0_load_5 : decode cM0_load 5 = .ok (.istore_n 3, 1) := by decide +kernel
theorem dM0_load_6 : decode cM0_load 6 = .ok (.iload_n 3, 1) := by decide +kernel
theorem dM0_load_7 : decode cM0_load 7 = .ok (.sipush 160, 3) := by decide +kernel
theorem dM0_load_10 : decode cM0_load 10 = .ok (.if_icmp .ge 24, 3) := by decide +kernel
theorem dM0_load_13 : decode cM0_load 13 = .ok (.aload_n 2, 1) := by decide +kernel
theorem dM0_load_14 : decode cM0_load 14 = .ok (.iload_n 3, 1) := by decide +kernel
theorem dM0_load_15 : decode cM0_load 15 = .ok (.aload_n 0, 1) := by decide +kernel
theorem dM0_load_16 : decode cM0_load 16 = .ok (.getfield 7, 3) := by decide +kernel
theorem dM0_load_19 : decode cM0_load 19 = .ok (.sipush 160, 3) := by decide +kernel
theorem dM0_load_22 : decode cM0_load 22 = .ok (.iload_n 1, 1) := by decide +kernel
theorem dM0_load_23 : decode cM0_load 23 = .ok (.imul, 1) := by decide +kernel
theorem dM0_load_24 : decode cM0_load 24 = .ok (.iload_n 3, 1) := by decide +kernel
theorem dM0_load_25 : decode cM0_load 25 = .ok (.iadd, 1) := by decide +kernel
theorem dM0_load_26 : decode cM0_load 26 = .ok (.iaload, 1) := by decide +kernel
theorem dM0_load_27 : decode cM0_load 27 = .ok (.iastore, 1) := by decide +kernel
theorem dM0_load_28 : decode cM0_load 28 = .ok (.iinc 3 1, 3) := by decide +kernel
theorem dM0_load_31 : decode cM0_load 31 = .ok (.goto (-25), 3) := by decide +kernel
theorem dM0_load_34 : decode cM0_load 34 = .ok (.return_, 1) := by decide +kernel
theorem dM0_sum_0 : decode cM0_sum 0 = .ok (.aload_n 0, 1) := by decide +kernel
theorem dM0_sum_1 : decode cM0_sum 1 = .ok (.getfield 68, 3) := by decide +kernel
theorem dM0_sum_4 : decode cM0_sum 4 = .ok (.iload_n 1, 1) := by decide +kernel
theorem dM0_sum_5 : decode cM0_sum 5 = .ok (.if_icmp .eq 7, 3) := by decide +kernel
theorem dM0_sum_8 : decode cM0_sum 8 = .ok (.iconst 1, 1) := by decide +kernel
theorem dM0_sum_9 : decode cM0_sum 9 = .ok (.goto 4, 3) := by decide +kernel
theorem dM0_sum_12 : decode cM0_sum 12 = .ok (.iconst 0, 1) := by decide +kernel
theorem dM0_sum_13 : decode cM0_sum 13 = .ok (.istore_n 2, 1) := by decide +kernel
theorem dM0_sum_14 : decode cM0_sum 14 = .ok (.aload_n 0, 1) := by decide +kernel
theorem dM0_sum_15 : decode cM0_sum 15 = .ok (.getfield 20, 3) := by decide +kernel
theorem dM0_sum_18 : decode cM0_sum 18 = .ok (.aload_n 0, 1) := by decide +kernel
theorem dM0_sum_19 : decode cM0_sum 19 = .ok (.getfield 26, 3) := by decide +kernel
theorem dM0_sum_22 : decode cM0_sum 22 = .ok (.invokestatic 98, 3) := by decide +kernel
theorem dM0_sum_25 : decode cM0_sum 25 = .ok (.aload_n 0, 1) := by decide +kernel
theorem dM0_sum_26 : decode cM0_sum 26 = .ok (.aload_n 0, 1) := by decide +kernel
theorem dM0_sum_27 : decode cM0_sum 27 = .ok (.getfield 64, 3) := by decide +kernel
theorem dM0_sum_30 : decode cM0_sum 30 = .ok (.putfield 75, 3) := by decide +kernel
theorem dM0_sum_33 : decode cM0_sum 33 = .ok (.aload_n 0, 1) := by decide +kernel
theorem dM0_sum_34 : decode cM0_sum 34 = .ok (.getfield 64, 3) := by decide +kernel
theorem dM0_sum_37 : decode cM0_sum 37 = .ok (.iload_n 2, 1) := by decide +kernel
theorem dM0_sum_38 : decode cM0_sum 38 = .ok (.if_icmp .ne 17, 3) := by decide +kernel
theorem dM0_sum_41 : decode cM0_sum 41 = .ok (.aload_n 0, 1) := by decide +kernel
theorem dM0_sum_42 : decode cM0_sum 42 = .ok (.getfield 26, 3) := by decide +kernel
theorem dM0_sum_45 : decode cM0_sum 45 = .ok (.aload_n 0, 1) := by decide +kernel
theorem dM0_sum_46 : decode cM0_sum 46 = .ok (.getfield 23, 3) := by decide +kernel
theorem dM0_sum_49 : decode cM0_sum 49 = .ok (.invokestatic 102, 3) := by decide +kernel
theorem dM0_sum_52 : decode cM0_sum 52 = .ok (.goto 58, 3) := by decide +kernel
theorem dM0_sum_55 : decode cM0_sum 55 = .ok (.aload_n 0, 1) := by decide +kernel
theorem dM0_sum_56 : decode cM0_sum 56 = .ok (.getfield 20, 3) := by decide +kernel
theorem dM0_sum_59 : decode cM0_sum 59 = .ok (.aload_n 0, 1) := by decide +kernel
theorem dM0_sum_60 : decode cM0_sum 60 = .ok (.getfield 23, 3) := by decide +kernel
theorem dM0_sum_63 : decode cM0_sum 63 = .ok (.invokestatic 71, 3) := by decide +kernel
theorem dM0_sum_66 : decode cM0_sum 66 = .ok (.ifCond .lt 17, 3) := by decide +kernel
theorem dM0_sum_69 : decode cM0_sum 69 = .ok (.aload_n 0, 1) := by decide +kernel
theorem dM0_sum_70 : decode cM0_sum 70 = .ok (.getfield 26, 3) := by decide +kernel
theorem dM0_sum_73 : decode cM0_sum 73 = .ok (.aload_n 0, 1) := by decide +kernel
theorem dM0_sum_74 : decode cM0_sum 74 = .ok (.getfield 23, 3) := by decide +kernel
theorem dM0_sum_77 : decode cM0_sum 77 = .ok (.invokestatic 105, 3) := by decide +kernel
theorem dM0_sum_80 : decode cM0_sum 80 = .ok (.goto 30, 3) := by decide +kernel
theorem dM0_sum_83 : decode cM0_sum 83 = .ok (.aload_n 0, 1) := by decide +kernel
theorem dM0_sum_84 : decode cM0_sum 84 = .ok (.getfield 23, 3) := by decide +kernel
theorem dM0_sum_87 : decode cM0_sum 87 = .ok (.aload_n 0, 1) := by decide +kernel
theorem dM0_sum_88 : decode cM0_sum 88 = .ok (.getfield 26, 3) := by decide +kernel
theorem dM0_sum_91 : decode cM0_sum 91 = .ok (.invokestatic 98, 3) := by decide +kernel
theorem dM0_sum_94 : decode cM0_sum 94 = .ok (.aload_n 0, 1) := by decide +kernel
theorem dM0_sum_95 : decode cM0_sum 95 = .ok (.getfield 26, 3) := by decide +kernel
theorem dM0_sum_98 : decode cM0_sum 98 = .ok (.aload_n 0, 1) := by decide +kernel
theorem dM0_sum_99 : decode cM0_sum 99 = .ok (.getfield 20, 3) := by decide +kernel
theorem dM0_sum_102 : decode cM0_sum 102 = .ok (.invokestatic 105, 3) := by decide +kernel
theorem dM0_sum_105 : decode cM0_sum 105 = .ok (.aload_n 0, 1) := by decide +kernel
theorem dM0_sum_106 : decode cM0_sum 106 = .ok (.iload_n 2, 1) := by decide +kernel
theorem dM0_sum_107 : decode cM0_sum 107 = .ok (.putfield 75, 3) := by decide +kernel
theorem dM0_sum_110 : decode cM0_sum 110 = .ok (.return_, 1) := by decide +kernel
theorem dM0_copy_0 : decode cM0_copy 0 = .ok (.iconst 0, 1) := by decide +kernel
theorem dM0_copy_1 : decode cM0_copy 1 = .ok (.istore_n 2, 1) := by decide +kernel
theorem dM0_copy_2 : decode cM0_copy 2 = .ok (.iload_n 2, 1) := by decide +kernel
theorem dM0_copy_3 : decode cM0_copy 3 = .ok (.sipush 330, 3) := by decide +kernel
theorem dM0_copy_6 : decode cM0_copy 6 = .ok (.if_icmp .ge 15, 3) := by decide +kernel
theorem dM0_copy_9 : decode cM0_copy 9 = .ok (.aload_n 1, 1) := by decide +kernel
theorem dM0_copy_10 : decode cM0_copy 10 = .ok (.iload_n 2, 1) := by decide +kernel
theorem dM0_copy_11 : decode cM0_copy 11 = .ok (.aload_n 0, 1) := by decide +kernel
theorem dM0_copy_12 : decode cM0_copy 12 = .ok (.iload_n 2, 1) := by decide +kernel
theorem dM0_copy_13 : decode cM0_copy 13 = .ok (.iaload, 1) := by decide +kernel
theorem dM0_copy_14 : decode cM0_copy 14 = .ok (.iastore, 1) := by decide +kernel
theorem dM0_copy_15 : decode cM0_copy 15 = .ok (.iinc 2 1, 3) := by decide +kernel
theorem dM0_copy_18 : decode cM0_copy 18 = .ok (.goto (-16), 3) := by decide +kernel
theorem dM0_copy_21 : decode cM0_copy 21 = .ok (.return_, 1) := by decide +kernel
theorem dM0_add_0 : decode cM0_add 0 = .ok (.iconst 0, 1) := by decide +kernel
theorem dM0_add_1 : decode cM0_add 1 = .ok (.istore_n 2, 1) := by decide +kernel
theorem dM0_add_2 : decode cM0_add 2 = .ok (.iconst 0, 1) := by decide +kernel
theorem dM0_add_3 : decode cM0_add 3 = .ok (.istore_n 3, 1) := by decide +kernel
theorem dM0_add_4 : decode cM0_add 4 = .ok (.iload_n 3, 1) := by decide +kernel
theorem dM0_add_5 : decode cM0_add 5 = .ok (.sipush 330, 3) := by decide +kernel
theorem dM0_add_8 : decode cM0_add 8 = .ok (.if_icmp .ge 34, 3) := by decide +kernel
theorem dM0_add_11 : decode cM0_add 11 = .ok (.aload_n 0, 1) := by decide +kernel
theorem dM0_add_12 : decode cM0_add 12 = .ok (.iload_n 3, 1) := by decide +kernel
theorem dM0_add_13 : decode cM0_add 13 = .ok (.iaload, 1) := by decide +kernel
theorem dM0_add_14 : decode cM0_add 14 = .ok (.aload_n 1, 1) := by decide +kernel
theorem dM0_add_15 : decode cM0_add 15 = .ok (.iload_n 3, 1) := by decide +kernel
theorem dM0_add_16 : decode cM0_add 16 = .ok (.iaload, 1) := by decide +kernel
theorem dM0_add_17 : decode cM0_add 17 = .ok (.iadd, 1) := by decide +kernel
theorem dM0_add_18 : decode cM0_add 18 = .ok (.iload_n 2, 1) := by decide +kernel
theorem dM0_add_19 : decode cM0_add 19 = .ok (.iadd, 1) := by decide +kernel
theorem dM0_add_20 : decode cM0_add 20 = .ok (.istore 4, 2) := by decide +kernel
theorem dM0_add_22 : decode cM0_add 22 = .ok (.aload_n 0, 1) := by decide +kernel
theorem dM0_add_23 : decode cM0_add 23 = .ok (.iload_n 3, 1) := by decide +kernel
theorem dM0_add_24 : decode cM0_add 24 = .ok (.iload 4, 2) := by decide +kernel
theorem dM0_add_26 : decode cM0_add 26 = .ok (.bipush 10, 2) := by decide +kernel
theorem dM0_add_28 : decode cM0_add 28 = .ok (.irem, 1) := by decide +kernel
theorem dM0_add_29 : decode cM0_add 29 = .ok (.iastore, 1) := by decide +kernel
theorem dM0_add_30 : decode cM0_add 30 = .ok (.iload 4, 2) := by decide +kernel
theorem dM0_add_32 : decode cM0_add 32 = .ok (.bipush 10, 2) := by decide +kernel
theorem dM0_add_34 : decode cM0_add 34 = .ok (.idiv, 1) := by decide +kernel
theorem dM0_add_35 : decode cM0_add 35 = .ok (.istore_n 2, 1) := by decide +kernel
theorem dM0_add_36 : decode cM0_add 36 = .ok (.iinc 3 1, 3) := by decide +kernel
theorem dM0_add_39 : decode cM0_add 39 = .ok (.goto (-35), 3) := by decide +kernel
theorem dM0_add_42 : decode cM0_add 42 = .ok (.return_, 1) := by decide +kernel
theorem dM0_subtract_0 : decode cM0_subtract 0 = .ok (.iconst 0, 1) := by decide +kernel
theorem dM0_subtract_1 : decode cM0_subtract 1 = .ok (.istore_n 2, 1) := by decide +kernel
theorem dM0_subtract_2 : decode cM0_subtract 2 = .ok (.iconst 0, 1) := by decide +kernel
theorem dM0_subtract_3 : decode cM0_subtract 3 = .ok (.istore_n 3, 1) := by decide +kernel
theorem dM0_subtract_4 : decode cM0_subtract 4 = .ok (.iload_n 3, 1) := by decide +kernel
theorem dM0_subtract_5 : decode cM0_subtract 5 = .ok (.sipush 330, 3) := by decide +kernel
theorem dM0_subtract_8 : decode cM0_subtract 8 = .ok (.if_icmp .ge 41, 3) := by decide +kernel
theorem dM0_subtract_11 : decode cM0_subtract 11 = .ok (.aload_n 0, 1) := by decide +kernel
theorem dM0_subtract_12 : decode cM0_subtract 12 = .ok (.iload_n 3, 1) := by decide +kernel
theorem dM0_subtract_13 : decode cM0_subtract 13 = .ok (.iaload, 1) := by decide +kernel
theorem dM0_subtract_14 : decode cM0_subtract 14 = .ok (.aload_n 1, 1) := by decide +kernel
theorem dM0_subtract_15 : decode cM0_subtract 15 = .ok (.iload_n 3, 1) := by decide +kernel
theorem dM0_subtract_16 : decode cM0_subtract 16 = .ok (.iaload, 1) := by decide +kernel
theorem dM0_subtract_17 : decode cM0_subtract 17 = .ok (.isub, 1) := by decide +kernel
theorem dM0_subtract_18 : decode cM0_subtract 18 = .ok (.iload_n 2, 1) := by decide +kernel
theorem dM0_subtract_19 : decode cM0_subtract 19 = .ok (.isub, 1) := by decide +kernel
theorem dM0_subtract_20 : decode cM0_subtract 20 = .ok (.istore 4, 2) := by decide +kernel
theorem dM0_subtract_22 : decode cM0_subtract 22 = .ok (.iload 4, 2) := by decide +kernel
theorem dM0_subtract_24 : decode cM0_subtract 24 = .ok (.ifCond .ge 7, 3) := by decide +kernel
theorem dM0_subtract_27 : decode cM0_subtract 27 = .ok (.iconst 1, 1) := by decide +kernel
theorem dM0_subtract_28 : decode cM0_subtract 28 = .ok (.goto 4, 3) := by decide +kernel
theorem dM0_subtract_31 : decode cM0_subtract 31 = .ok (.iconst 0, 1) := by decide +kernel
theorem dM0_subtract_32 : decode cM0_subtract 32 = .ok (.istore_n 2, 1) := by decide +kernel
theorem dM0_subtract_33 : decode cM0_subtract 33 = .ok (.aload_n 0, 1) := by decide +kernel
theorem dM0_subtract_34 : decode cM0_subtract 34 = .ok (.iload_n 3, 1) := by decide +kernel
theorem dM0_subtract_35 : decode cM0_subtract 35 = .ok (.iload 4, 2) := by decide +kernel
theorem dM0_subtract_37 : decode cM0_subtract 37 = .ok (.bipush 10, 2) := by decide +kernel
theorem dM0_subtract_39 : decode cM0_subtract 39 = .ok (.iload_n 2, 1) := by decide +kernel
theorem dM0_subtract_40 : decode cM0_subtract 40 = .ok (.imul, 1) := by decide +kernel
theorem dM0_subtract_41 : decode cM0_subtract 41 = .ok (.iadd, 1) := by decide +kernel
theorem dM0_subtract_42 : decode cM0_subtract 42 = .ok (.iastore, 1) := by decide +kernel
theorem dM0_subtract_43 : decode cM0_subtract 43 = .ok (.iinc 3 1, 3) := by decide +kernel
theorem dM0_subtract_46 : decode cM0_subtract 46 = .ok (.goto (-42), 3) := by decide +kernel
theorem dM0_subtract_49 : decode cM0_subtract 49 = .ok (.return_, 1) := by decide +kernel
theorem dM0_times_0 : decode cM0_times 0 = .ok (.aload_n 0, 1) := by decide +kernel
theorem dM0_times_1 : decode cM0_times 1 = .ok (.getfield 26, 3) := by decide +kernel
theorem dM0_times_4 : decode cM0_times 4 = .ok (.invokestatic 52, 3) := by decide +kernel
theorem dM0_times_7 : decode cM0_times 7 = .ok (.sipush 159, 3) := by decide +kernel
theorem dM0_times_10 : decode cM0_times 10 = .ok (.istore_n 1, 1) := by decide +kernel
theorem dM0_times_11 : decode cM0_times 11 = .ok (.iload_n 1, 1) := by decide +kernel
theorem dM0_times_12 : decode cM0_times 12 = .ok (.ifCond .lt 48, 3) := by decide +kernel
theorem dM0_times_15 : decode cM0_times 15 = .ok (.aload_n 0, 1) := by decide +kernel
theorem dM0_times_16 : decode cM0_times 16 = .ok (.getfield 26, 3) := by decide +kernel
theorem dM0_times_19 : decode cM0_times 19 = .ok (.bipush 10, 2) := by decide +kernel
theorem dM0_times_21 : decode cM0_times 21 = .ok (.iconst 0, 1) := by decide +kernel
theorem dM0_times_22 : decode cM0_times 22 = .ok (.invokestatic 56, 3) := by decide +kernel
theorem dM0_times_25 : decode cM0_times 25 = .ok (.iconst 0, 1) := by decide +kernel
theorem dM0_times_26 : decode cM0_times 26 = .ok (.istore_n 2, 1) := by decide +kernel
theorem dM0_times_27 : decode cM0_times 27 = .ok (.iload_n 2, 1) := by decide +kernel
theorem dM0_times_28 : decode cM0_times 28 = .ok (.aload_n 0, 1) := by decide +kernel
theorem dM0_times_29 : decode cM0_times 29 = .ok (.getfield 23, 3) := by decide +kernel
theorem dM0_times_32 : decode cM0_times 32 = .ok (.iload_n 1, 1) := by decide +kernel
theorem dM0_times_33 : decode cM0_times 33 = .ok (.iaload, 1) := by decide +kernel
theorem dM0_times_34 : decode cM0_times 34 = .ok (.if_icmp .ge 20, 3) := by decide +kernel
theorem dM0_times_37 : decode cM0_times 37 = .ok (.aload_n 0, 1) := by decide +kernel
theorem dM0_times_38 : decode cM0_times 38 = .ok (.getfield 26, 3) := by decide +kernel
theorem dM0_times_41 : decode cM0_times 41 = .ok (.aload_n 0, 1) := by decide +kernel
theorem dM0_times_42 : decode cM0_times 42 = .ok (.getfield 20, 3) := by decide +kernel
theorem dM0_times_45 : decode cM0_times 45 = .ok (.invokestatic 102, 3) := by decide +kernel
theorem dM0_times_48 : decode cM0_times 48 = .ok (.iinc 2 1, 3) := by decide +kernel
theorem dM0_times_51 : decode cM0_times 51 = .ok (.goto (-24), 3) := by decide +kernel
theorem dM0_times_54 : decode cM0_times 54 = .ok (.iinc 1 (-1), 3) := by decide +kernel
theorem dM0_times_57 : decode cM0_times 57 = .ok (.goto (-46), 3) := by decide +kernel
theorem dM0_times_60 : decode cM0_times 60 = .ok (.aload_n 0, 1) := by decide +kernel
theorem dM0_times_61 : decode cM0_times 61 = .ok (.aload_n 0, 1) := by decide +kernel
theorem dM0_times_62 : decode cM0_times 62 = .ok (.getfield 64, 3) := by decide +kernel
theorem dM0_times_65 : decode cM0_times 65 = .ok (.aload_n 0, 1) := by decide +kernel
theorem dM0_times_66 : decode cM0_times 66 = .ok (.getfield 68, 3) := by decide +kernel
theorem dM0_times_69 : decode cM0_times 69 = .ok (.if_icmp .eq 7, 3) := by decide +kernel
theorem dM0_times_72 : decode cM0_times 72 = .ok (.iconst 1, 1) := by decide +kernel
theorem dM0_times_73 : decode cM0_times 73 = .ok (.goto 4, 3) := by decide +kernel
theorem dM0_times_76 : decode cM0_times 76 = .ok (.iconst 0, 1) := by decide +kernel
theorem dM0_times_77 : decode cM0_times 77 = .ok (.putfield 75, 3) := by decide +kernel
theorem dM0_times_80 : decode cM0_times 80 = .ok (.return_, 1) := by decide +kernel
theorem dM0_divide_0 : decode cM0_divide 0 = .ok (.aload_n 0, 1) := by decide +kernel
theorem dM0_divide_1 : decode cM0_divide 1 = .ok (.getfield 26, 3) := by decide +kernel
theorem dM0_divide_4 : decode cM0_divide 4 = .ok (.invokestatic 52, 3) := by decide +kernel
theorem dM0_divide_7 : decode cM0_divide 7 = .ok (.aload_n 0, 1) := by decide +kernel
theorem dM0_divide_8 : decode cM0_divide 8 = .ok (.getfield 29, 3) := by decide +kernel
theorem dM0_divide_11 : decode cM0_divide 11 = .ok (.invokestatic 52, 3) := by decide +kernel
theorem dM0_divide_14 : decode cM0_divide 14 = .ok (.sipush 159, 3) := by decide +kernel
theorem dM0_divide_17 : decode cM0_divide 17 = .ok (.istore_n 1, 1) := by decide +kernel
theorem dM0_divide_18 : decode cM0_divide 18 = .ok (.iload_n 1, 1) := by decide +kernel
theorem dM0_divide_19 : decode cM0_divide 19 = .ok (.ifCond .lt 72, 3) := by decide +kernel
theorem dM0_divide_22 : decode cM0_divide 22 = .ok (.aload_n 0, 1) := by decide +kernel
theorem dM0_divide_23 : decode cM0_divide 23 = .ok (.getfield 29, 3) := by decide +kernel
theorem dM0_divide_26 : decode cM0_divide 26 = .ok (.bipush 10, 2) := by decide +kernel
theorem dM0_divide_28 : decode cM0_divide 28 = .ok (.aload_n 0, 1) := by decide +kernel
theorem dM0_divide_29 : decode cM0_divide 29 = .ok (.getfield 20, 3) := by decide +kernel
theorem dM0_divide_32 : decode cM0_divide 32 = .ok (.iload_n 1, 1) := by decide +kernel
theorem dM0_divide_33 : decode cM0_divide 33 = .ok (.iaload, 1) := by decide +kernel
theorem dM0_divide_34 : decode cM0_divide 34 = .ok (.invokestatic 56, 3) := by decide +kernel
theorem dM0_divide_37 : decode cM0_divide 37 = .ok (.aload_n 0, 1) := by decide +kernel
theorem dM0_divide_38 : decode cM0_divide 38 = .ok (.getfield 26, 3) := by decide +kernel
theorem dM0_divide_41 : decode cM0_divide 41 = .ok (.bipush 10, 2) := by decide +kernel
theorem dM0_divide_43 : decode cM0_divide 43 = .ok (.iconst 0, 1) := by decide +kernel
theorem dM0_divide_44 : decode cM0_divide 44 = .ok (.invokestatic 56, 3) := by decide +kernel
theorem dM0_divide_47 : decode cM0_divide 47 = .ok (.aload_n 0, 1) := by decide +kernel
theorem dM0_divide_48 : decode cM0_divide 48 = .ok (.getfield 29, 3) := by decide +kernel
theorem dM0_divide_51 : decode cM0_divide 51 = .ok (.aload_n 0, 1) := by decide +kernel
theorem dM0_divide_52 : decode cM0_divide 52 = .ok (.getfield 23, 3) := by decide +kernel
theorem dM0_divide_55 : decode cM0_divide 55 = .ok (.invokestatic 71, 3) := by decide +kernel
theorem dM0_divide_58 : decode cM0_divide 58 = .ok (.ifCond .lt 27, 3) := by decide +kernel
theorem dM0_divide_61 : decode cM0_divide 61 = .ok (.aload_n 0, 1) := by decide +kernel
theorem dM0_divide_62 : decode cM0_divide 62 = .ok (.getfield 29, 3) := by decide +kernel
theorem dM0_divide_65 : decode cM0_divide 65 = .ok (.aload_n 0, 1) := by decide +kernel
theorem dM0_divide_66 : decode cM0_divide 66 = .ok (.getfield 23, 3) := by decide +kernel
theorem dM0_divide_69 : decode cM0_divide 69 = .ok (.invokestatic 105, 3) := by decide +kernel
theorem dM0_divide_72 : decode cM0_divide 72 = .ok (.aload_n 0, 1) := by decide +kernel
theorem dM0_divide_73 : decode cM0_divide 73 = .ok (.getfield 26, 3) := by decide +kernel
theorem dM0_divide_76 : decode cM0_divide 76 = .ok (.iconst 0, 1) := by decide +kernel
theorem dM0_divide_77 : decode cM0_divide 77 = .ok (.dup2, 1) := by decide +kernel
theorem dM0_divide_78 : decode cM0_divide 78 = .ok (.iaload, 1) := by decide +kernel
theorem dM0_divide_79 : decode cM0_divide 79 = .ok (.iconst 1, 1) := by decide +kernel
theorem dM0_divide_80 : decode cM0_divide 80 = .ok (.iadd, 1) := by decide +kernel
theorem dM0_divide_81 : decode cM0_divide 81 = .ok (.iastore, 1) := by decide +kernel
theorem dM0_divide_82 : decode cM0_divide 82 = .ok (.goto (-35), 3) := by decide +kernel
theorem dM0_divide_85 : decode cM0_divide 85 = .ok (.iinc 1 (-1), 3) := by decide +kernel
theorem dM0_divide_88 : decode cM0_divide 88 = .ok (.goto (-70), 3) := by decide +kernel
theorem dM0_divide_91 : decode cM0_divide 91 = .ok (.aload_n 0, 1) := by decide +kernel
theorem dM0_divide_92 : decode cM0_divide 92 = .ok (.aload_n 0, 1) := by decide +kernel
theorem dM0_divide_93 : decode cM0_divide 93 = .ok (.getfield 64, 3) := by decide +kernel
theorem dM0_divide_96 : decode cM0_divide 96 = .ok (.aload_n 0, 1) := by decide +kernel
theorem dM0_divide_97 : decode cM0_divide 97 = .ok (.getfield 68, 3) := by decide +kernel
theorem dM0_divide_100 : decode cM0_divide 100 = .ok (.if_icmp .eq 7, 3) := by decide +kernel
theorem dM0_divide_103 : decode cM0_divide 103 = .ok (.iconst 1, 1) := by decide +kernel
theorem dM0_divide_104 : decode cM0_divide 104 = .ok (.goto 4, 3) := by decide +kernel
theorem dM0_divide_107 : decode cM0_divide 107 = .ok (.iconst 0, 1) := by decide +kernel
theorem dM0_divide_108 : decode cM0_divide 108 = .ok (.putfield 75, 3) := by decide +kernel
theorem dM0_divide_111 : decode cM0_divide 111 = .ok (.return_, 1) := by decide +kernel
theorem dM0_bitwise_0 : decode cM0_bitwise 0 = .ok (.aload_n 0, 1) := by decide +kernel
theorem dM0_bitwise_1 : decode cM0_bitwise 1 = .ok (.aload_n 0, 1) := by decide +kernel
theorem dM0_bitwise_2 : decode cM0_bitwise 2 = .ok (.getfield 20, 3) := by decide +kernel
theorem dM0_bitwise_5 : decode cM0_bitwise 5 = .ok (.aload_n 0, 1) := by decide +kernel
theorem dM0_bitwise_6 : decode cM0_bitwise 6 = .ok (.getfield 64, 3) := by decide +kernel
theorem dM0_bitwise_9 : decode cM0_bitwise 9 = .ok (.aload_n 0, 1) := by decide +kernel
theorem dM0_bitwise_10 : decode cM0_bitwise 10 = .ok (.getfield 32, 3) := by decide +kernel
theorem dM0_bitwise_13 : decode cM0_bitwise 13 = .ok (.invokevirtual 112, 3) := by decide +kernel
theorem dM0_bitwise_16 : decode cM0_bitwise 16 = .ok (.aload_n 0, 1) := by decide +kernel
theorem dM0_bitwise_17 : decode cM0_bitwise 17 = .ok (.aload_n 0, 1) := by decide +kernel
theorem dM0_bitwise_18 : decode cM0_bitwise 18 = .ok (.getfield 23, 3) := by decide +kernel
theorem dM0_bitwise_21 : decode cM0_bitwise 21 = .ok (.aload_n 0, 1) := by decide +kernel
theorem dM0_bitwise_22 : decode cM0_bitwise 22 = .ok (.getfield 68, 3) := by decide +kernel
theorem dM0_bitwise_25 : decode cM0_bitwise 25 = .ok (.aload_n 0, 1) := by decide +kernel
theorem dM0_bitwise_26 : decode cM0_bitwise 26 = .ok (.getfield 35, 3) := by decide +kernel
theorem dM0_bitwise_29 : decode cM0_bitwise 29 = .ok (.invokevirtual 112, 3) := by decide +kernel
theorem dM0_bitwise_32 : decode cM0_bitwise 32 = .ok (.iconst 0, 1) := by decide +kernel
theorem dM0_bitwise_33 : decode cM0_bitwise 33 = .ok (.istore_n 2, 1) := by decide +kernel
theorem dM0_bitwise_34 : decode cM0_bitwise 34 = .ok (.iload_n 2, 1) := by decide +kernel
theorem dM0_bitwise_35 : decode cM0_bitwise 35 = .ok (.sipush 514, 3) := by decide +kernel
theorem dM0_bitwise_38 : decode cM0_bitwise 38 = .ok (.if_icmp .ge 74, 3) := by decide +kernel
theorem dM0_bitwise_41 : decode cM0_bitwise 41 = .ok (.aload_n 0, 1) := by decide +kernel
theorem dM0_bitwise_42 : decode cM0_bitwise 42 = .ok (.getfield 32, 3) := by decide +kernel
theorem dM0_bitwise_45 : decode cM0_bitwise 45 = .ok (.iload_n 2, 1) := by decide +kernel
theorem dM0_bitwise_46 : decode cM0_bitwise 46 = .ok (.iaload, 1) := by decide +kernel
theorem dM0_bitwise_47 : decode cM0_bitwise 47 = .ok (.istore_n 3, 1) := by decide +kernel
theorem dM0_bitwise_48 : decode cM0_bitwise 48 = .ok (.aload_n 0, 1) := by decide +kernel
theorem dM0_bitwise_49 : decode cM0_bitwise 49 = .ok (.getfield 35, 3) := by decide +kernel
theorem dM0_bitwise_52 : decode cM0_bitwise 52 = .ok (.iload_n 2, 1) := by decide +kernel
theorem dM0_bitwise_53 : decode cM0_bitwise 53 = .ok (.iaload, 1) := by decide +kernel
theorem dM0_bitwise_54 : decode cM0_bitwise 54 = .ok (.istore 4, 2) := by decide +kernel
theorem dM0_bitwise_56 : decode cM0_bitwise 56 = .ok (.aload_n 0, 1) := by decide +kernel
theorem dM0_bitwise_57 : decode cM0_bitwise 57 = .ok (.getfield 32, 3) := by decide +kernel
theorem dM0_bitwise_60 : decode cM0_bitwise 60 = .ok (.iload_n 2, 1) := by decide +kernel
theorem dM0_bitwise_61 : decode cM0_bitwise 61 = .ok (.iload_n 1, 1) := by decide +kernel
theorem dM0_bitwise_62 : decode cM0_bitwise 62 = .ok (.iconst 5, 1) := by decide +kernel
theorem dM0_bitwise_63 : decode cM0_bitwise 63 = .ok (.if_icmp .ne 10, 3) := by decide +kernel
theorem dM0_bitwise_66 : decode cM0_bitwise 66 = .ok (.iload_n 3, 1) := by decide +kernel
theorem dM0_bitwise_67 : decode cM0_bitwise 67 = .ok (.iload 4, 2) := by decide +kernel
theorem dM0_bitwise_69 : decode cM0_bitwise 69 = .ok (.iand, 1) := by decide +kernel
theorem dM0_bitwise_70 : decode cM0_bitwise 70 = .ok (.goto 35, 3) := by decide +kernel
theorem dM0_bitwise_73 : decode cM0_bitwise 73 = .ok (.iload_n 1, 1) := by decide +kernel
theorem dM0_bitwise_74 : decode cM0_bitwise 74 = .ok (.bipush 6, 2) := by decide +kernel
theorem dM0_bitwise_76 : decode cM0_bitwise 76 = .ok (.if_icmp .ne 10, 3) := by decide +kernel
theorem dM0_bitwise_79 : decode cM0_bitwise 79 = .ok (.iload_n 3, 1) := by decide +kernel
theorem dM0_bitwise_80 : decode cM0_bitwise 80 = .ok (.iload 4, 2) := by decide +kernel
theorem dM0_bitwise_82 : decode cM0_bitwise 82 = .ok (.ior, 1) := by decide +kernel
theorem dM0_bitwise_83 : decode cM0_bitwise 83 = .ok (.goto 22, 3) := by decide +kernel
theorem dM0_bitwise_86 : decode cM0_bitwise 86 = .ok (.iload_n 1, 1) := by decide +kernel
theorem dM0_bitwise_87 : decode cM0_bitwise 87 = .ok (.bipush 7, 2) := by decide +kernel
theorem dM0_bitwise_89 : decode cM0_bitwise 89 = .ok (.if_icmp .ne 10, 3) := by decide +kernel
theorem dM0_bitwise_92 : decode cM0_bitwise 92 = .ok (.iload_n 3, 1) := by decide +kernel
theorem dM0_bitwise_93 : decode cM0_bitwise 93 = .ok (.iload 4, 2) := by decide +kernel
theorem dM0_bitwise_95 : decode cM0_bitwise 95 = .ok (.ixor, 1) := by decide +kernel
theorem dM0_bitwise_96 : decode cM0_bitwise 96 = .ok (.goto 9, 3) := by decide +kernel
theorem dM0_bitwise_99 : decode cM0_bitwise 99 = .ok (.iload_n 3, 1) := by decide +kernel
theorem dM0_bitwise_100 : decode cM0_bitwise 100 = .ok (.iconst 1, 1) := by decide +kernel
theorem dM0_bitwise_101 : decode cM0_bitwise 101 = .ok (.iload 4, 2) := by decide +kernel
theorem dM0_bitwise_103 : decode cM0_bitwise 103 = .ok (.isub, 1) := by decide +kernel
theorem dM0_bitwise_104 : decode cM0_bitwise 104 = .ok (.iand, 1) := by decide +kernel
theorem dM0_bitwise_105 : decode cM0_bitwise 105 = .ok (.iastore, 1) := by decide +kernel
theorem dM0_bitwise_106 : decode cM0_bitwise 106 = .ok (.iinc 2 1, 3) := by decide +kernel
theorem dM0_bitwise_109 : decode cM0_bitwise 109 = .ok (.goto (-75), 3) := by decide +kernel
theorem dM0_bitwise_112 : decode cM0_bitwise 112 = .ok (.aload_n 0, 1) := by decide +kernel
theorem dM0_bitwise_113 : decode cM0_bitwise 113 = .ok (.aload_n 0, 1) := by decide +kernel
theorem dM0_bitwise_114 : decode cM0_bitwise 114 = .ok (.getfield 32, 3) := by decide +kernel
theorem dM0_bitwise_117 : decode cM0_bitwise 117 = .ok (.invokevirtual 116, 3) := by decide +kernel
theorem dM0_bitwise_120 : decode cM0_bitwise 120 = .ok (.return_, 1) := by decide +kernel
theorem dM0_toBits_0 : decode cM0_toBits 0 = .ok (.aload_n 1, 1) := by decide +kernel
theorem dM0_toBits_1 : decode cM0_toBits 1 = .ok (.aload_n 0, 1) := by decide +kernel
theorem dM0_toBits_2 : decode cM0_toBits 2 = .ok (.getfield 29, 3) := by decide +kernel
theorem dM0_toBits_5 : decode cM0_toBits 5 = .ok (.invokestatic 98, 3) := by decide +kernel
theorem dM0_toBits_8 : decode cM0_toBits 8 = .ok (.iconst 1, 1) := by decide +kernel
theorem dM0_toBits_9 : decode cM0_toBits 9 = .ok (.istore 4, 2) := by decide +kernel
theorem dM0_toBits_11 : decode cM0_toBits 11 = .ok (.iconst 0, 1) := by decide +kernel
theorem dM0_toBits_12 : decode cM0_toBits 12 = .ok (.istore 5, 2) := by decide +kernel
theorem dM0_toBits_14 : decode cM0_toBits 14 = .ok (.iload 5, 2) := by decide +kernel
theorem dM0_toBits_16 : decode cM0_toBits 16 = .ok (.sipush 514, 3) := by decide +kernel
theorem dM0_toBits_19 : decode cM0_toBits 19 = .ok (.if_icmp .ge 50, 3) := by decide +kernel
theorem dM0_toBits_22 : decode cM0_toBits 22 = .ok (.aload_n 0, 1) := by decide +kernel
theorem dM0_toBits_23 : decode cM0_toBits 23 = .ok (.getfield 29, 3) := by decide +kernel
theorem dM0_toBits_26 : decode cM0_toBits 26 = .ok (.iconst 2, 1) := by decide +kernel
theorem dM0_toBits_27 : decode cM0_toBits 27 = .ok (.invokestatic 108, 3) := by decide +kernel
theorem dM0_toBits_30 : decode cM0_toBits 30 = .ok (.istore 6, 2) := by decide +kernel
theorem dM0_toBits_32 : decode cM0_toBits 32 = .ok (.iload_n 2, 1) := by decide +kernel
theorem dM0_toBits_33 : decode cM0_toBits 33 = .ok (.ifCond .eq 24, 3) := by decide +kernel
theorem dM0_toBits_36 : decode cM0_toBits 36 = .ok (.iconst 1, 1) := by decide +kernel
theorem dM0_toBits_37 : decode cM0_toBits 37 = .ok (.iload 6, 2) := by decide +kernel
theorem dM0_toBits_39 : decode cM0_toBits 39 = .ok (.isub, 1) := by decide +kernel
theorem dM0_toBits_40 : decode cM0_toBits 40 = .ok (.iload 4, 2) := by decide +kernel
theorem dM0_toBits_42 : decode cM0_toBits 42 = .ok (.iadd, 1) := by decide +kernel
theorem dM0_toBits_43 : decode cM0_toBits 43 = .ok (.istore 6, 2) := by decide +kernel
theorem dM0_toBits_45 : decode cM0_toBits 45 = .ok (.iload 6, 2) := by decide +kernel
theorem dM0_toBits_47 : decode cM0_toBits 47 = .ok (.iconst 1, 1) := by decide +kernel
theorem dM0_toBits_48 : decode cM0_toBits 48 = .ok (.ishr, 1) := by decide +kernel
theorem dM0_toBits_49 : decode cM0_toBits 49 = .ok (.istore 4, 2) := by decide +kernel
theorem dM0_toBits_51 : decode cM0_toBits 51 = .ok (.iload 6, 2) := by decide +kernel
theorem dM0_toBits_53 : decode cM0_toBits 53 = .ok (.iconst 1, 1) := by decide +kernel
theorem dM0_toBits_54 : decode cM0_toBits 54 = .ok (.iand, 1) := by decide +kernel
theorem dM0_toBits_55 : decode cM0_toBits 55 = .ok (.istore 6, 2) := by decide +kernel
theorem dM0_toBits_57 : decode cM0_toBits 57 = .ok (.aload_n 3, 1) := by decide +kernel
theorem dM0_toBits_58 : decode cM0_toBits 58 = .ok (.iload 5, 2) := by decide +kernel
theorem dM0_toBits_60 : decode cM0_toBits 60 = .ok (.iload 6, 2) := by decide +kernel
theorem dM0_toBits_62 : decode cM0_toBits 62 = .ok (.iastore, 1) := by decide +kernel
theorem dM0_toBits_63 : decode cM0_toBits 63 = .ok (.iinc 5 1, 3) := by decide +kernel
theorem dM0_toBits_66 : decode cM0_toBits 66 = .ok (.goto (-52), 3) := by decide +kernel
theorem dM0_toBits_69 : decode cM0_toBits 69 = .ok (.return_, 1) := by decide +kernel
theorem dM0_shrink_0 : decode cM0_shrink 0 = .ok (.iconst 0, 1) := by decide +kernel
theorem dM0_shrink_1 : decode cM0_shrink 1 = .ok (.istore_n 2, 1) := by decide +kernel
theorem dM0_shrink_2 : decode cM0_shrink 2 = .ok (.sipush 329, 3) := by decide +kernel
theorem dM0_shrink_5 : decode cM0_shrink 5 = .ok (.istore_n 3, 1) := by decide +kernel
theorem dM0_shrink_6 : decode cM0_shrink 6 = .ok (.iload_n 3, 1) := by decide +kernel
theorem dM0_shrink_7 : decode cM0_shrink 7 = .ok (.ifCond .lt 31, 3) := by decide +kernel
theorem dM0_shrink_10 : decode cM0_shrink 10 = .ok (.bipush 10, 2) := by decide +kernel
theorem dM0_shrink_12 : decode cM0_shrink 12 = .ok (.iload_n 2, 1) := by decide +kernel
theorem dM0_shrink_13 : decode cM0_shrink 13 = .ok (.imul, 1) := by decide +kernel
theorem dM0_shrink_14 : decode cM0_shrink 14 = .ok (.aload_n 0, 1) := by decide +kernel
theorem dM0_shrink_15 : decode cM0_shrink 15 = .ok (.iload_n 3, 1) := by decide +kernel
theorem dM0_shrink_16 : decode cM0_shrink 16 = .ok (.iaload, 1) := by decide +kernel
theorem dM0_shrink_17 : decode cM0_shrink 17 = .ok (.iadd, 1) := by decide +kernel
theorem dM0_shrink_18 : decode cM0_shrink 18 = .ok (.istore 4, 2) := by decide +kernel
theorem dM0_shrink_20 : decode cM0_shrink 20 = .ok (.aload_n 0, 1) := by decide +kernel
theorem dM0_shrink_21 : decode cM0_shrink 21 = .ok (.iload_n 3, 1) := by decide +kernel
theorem dM0_shrink_22 : decode cM0_shrink 22 = .ok (.iload 4, 2) := by decide +kernel
theorem dM0_shrink_24 : decode cM0_shrink 24 = .ok (.iload_n 1, 1) := by decide +kernel
theorem dM0_shrink_25 : decode cM0_shrink 25 = .ok (.idiv, 1) := by decide +kernel
theorem dM0_shrink_26 : decode cM0_shrink 26 = .ok (.iastore, 1) := by decide +kernel
theorem dM0_shrink_27 : decode cM0_shrink 27 = .ok (.iload 4, 2) := by decide +kernel
theorem dM0_shrink_29 : decode cM0_shrink 29 = .ok (.iload_n 1, 1) := by decide +kernel
theorem dM0_shrink_30 : decode cM0_shrink 30 = .ok (.irem, 1) := by decide +kernel
theorem dM0_shrink_31 : decode cM0_shrink 31 = .ok (.istore_n 2, 1) := by decide +kernel
theorem dM0_shrink_32 : decode cM0_shrink 32 = .ok (.iinc 3 (-1), 3) := by decide +kernel
theorem dM0_shrink_35 : decode cM0_shrink 35 = .ok (.goto (-29), 3) := by decide +kernel
theorem dM0_shrink_38 : decode cM0_shrink 38 = .ok (.iload_n 2, 1) := by decide +kernel
theorem dM0_shrink_39 : decode cM0_shrink 39 = .ok (.ireturn, 1) := by decide +kernel
theorem dM0_fromBits_0 : decode cM0_fromBits 0 = .ok (.aload_n 0, 1) := by decide +kernel
theorem dM0_fromBits_1 : decode cM0_fromBits 1 = .ok (.aload_n 1, 1) := by decide +kernel
theorem dM0_fromBits_2 : decode cM0_fromBits 2 = .ok (.sipush 513, 3) := by decide +kernel
theorem dM0_fromBits_5 : decode cM0_fromBits 5 = .ok (.iaload, 1) := by decide +kernel
theorem dM0_fromBits_6 : decode cM0_fromBits 6 = .ok (.iconst 1, 1) := by decide +kernel
theorem dM0_fromBits_7 : decode cM0_fromBits 7 = .ok (.if_icmp .ne 7, 3) := by decide +kernel
theorem dM0_fromBits_10 : decode cM0_fromBits 10 = .ok (.iconst 1, 1) := by decide +kernel
theorem dM0_fromBits_11 : decode cM0_fromBits 11 = .ok (.goto 4, 3) := by decide +kernel
theorem dM0_fromBits_14 : decode cM0_fromBits 14 = .ok (.iconst 0, 1) := by decide +kernel
theorem dM0_fromBits_15 : decode cM0_fromBits 15 = .ok (.putfield 75, 3) := by decide +kernel
theorem dM0_fromBits_18 : decode cM0_fromBits 18 = .ok (.aload_n 0, 1) := by decide +kernel
theorem dM0_fromBits_19 : decode cM0_fromBits 19 = .ok (.getfield 26, 3) := by decide +kernel
theorem dM0_fromBits_22 : decode cM0_fromBits 22 = .ok (.invokestatic 52, 3) := by decide +kernel
theorem dM0_fromBits_25 : decode cM0_fromBits 25 = .ok (.sipush 513, 3) := by decide +kernel
theorem dM0_fromBits_28 : decode cM0_fromBits 28 = .ok (.istore_n 2, 1) := by decide +kernel
theorem dM0_fromBits_29 : decode cM0_fromBits 29 = .ok (.iload_n 2, 1) := by decide +kernel
theorem dM0_fromBits_30 : decode cM0_fromBits 30 = .ok (.ifCond .lt 35, 3) := by decide +kernel
theorem dM0_fromBits_33 : decode cM0_fromBits 33 = .ok (.aload_n 0, 1) := by decide +kernel
theorem dM0_fromBits_34 : decode cM0_fromBits 34 = .ok (.getfield 26, 3) := by decide +kernel
theorem dM0_fromBits_37 : decode cM0_fromBits 37 = .ok (.iconst 2, 1) := by decide +kernel
theorem dM0_fromBits_38 : decode cM0_fromBits 38 = .ok (.aload_n 0, 1) := by decide +kernel
theorem dM0_fromBits_39 : decode cM0_fromBits 39 = .ok (.getfield 75, 3) := by decide +kernel
theorem dM0_fromBits_42 : decode cM0_fromBits 42 = .ok (.ifCond .eq 11, 3) := by decide +kernel
theorem dM0_fromBits_45 : decode cM0_fromBits 45 = .ok (.iconst 1, 1) := by decide +kernel
theorem dM0_fromBits_46 : decode cM0_fromBits 46 = .ok (.aload_n 1, 1) := by decide +kernel
theorem dM0_fromBits_47 : decode cM0_fromBits 47 = .ok (.iload_n 2, 1) := by decide +kernel
theorem dM0_fromBits_48 : decode cM0_fromBits 48 = .ok (.iaload, 1) := by decide +kernel
theorem dM0_fromBits_49 : decode cM0_fromBits 49 = .ok (.isub, 1) := by decide +kernel
theorem dM0_fromBits_50 : decode cM0_fromBits 50 = .ok (.goto 6, 3) := by decide +kernel
theorem dM0_fromBits_53 : decode cM0_fromBits 53 = .ok (.aload_n 1, 1) := by decide +kernel
theorem dM0_fromBits_54 : decode cM0_fromBits 54 = .ok (.iload_n 2, 1) := by decide +kernel
theorem dM0_fromBits_55 : decode cM0_fromBits 55 = .ok (.iaload, 1) := by decide +kernel
theorem dM0_fromBits_56 : decode cM0_fromBits 56 = .ok (.invokestatic 56, 3) := by decide +kernel
theorem dM0_fromBits_59 : decode cM0_fromBits 59 = .ok (.iinc 2 (-1), 3) := by decide +kernel
theorem dM0_fromBits_62 : decode cM0_fromBits 62 = .ok (.goto (-33), 3) := by decide +kernel
theorem dM0_fromBits_65 : decode cM0_fromBits 65 = .ok (.aload_n 0, 1) := by decide +kernel
theorem dM0_fromBits_66 : decode cM0_fromBits 66 = .ok (.getfield 75, 3) := by decide +kernel
theorem dM0_fromBits_69 : decode cM0_fromBits 69 = .ok (.ifCond .ne 4, 3) := by decide +kernel
theorem dM0_fromBits_72 : decode cM0_fromBits 72 = .ok (.return_, 1) := by decide +kernel
theorem dM0_fromBits_73 : decode cM0_fromBits 73 = .ok (.aload_n 0, 1) := by decide +kernel
theorem dM0_fromBits_74 : decode cM0_fromBits 74 = .ok (.getfield 29, 3) := by decide +kernel
theorem dM0_fromBits_77 : decode cM0_fromBits 77 = .ok (.invokestatic 52, 3) := by decide +kernel
theorem dM0_fromBits_80 : decode cM0_fromBits 80 = .ok (.aload_n 0, 1) := by decide +kernel
theorem dM0_fromBits_81 : decode cM0_fromBits 81 = .ok (.getfield 29, 3) := by decide +kernel
theorem dM0_fromBits_84 : decode cM0_fromBits 84 = .ok (.iconst 0, 1) := by decide +kernel
theorem dM0_fromBits_85 : decode cM0_fromBits 85 = .ok (.iconst 1, 1) := by decide +kernel
theorem dM0_fromBits_86 : decode cM0_fromBits 86 = .ok (.iastore, 1) := by decide +kernel
theorem dM0_fromBits_87 : decode cM0_fromBits 87 = .ok (.aload_n 0, 1) := by decide +kernel
theorem dM0_fromBits_88 : decode cM0_fromBits 88 = .ok (.getfield 26, 3) := by decide +kernel
theorem dM0_fromBits_91 : decode cM0_fromBits 91 = .ok (.aload_n 0, 1) := by decide +kernel
theorem dM0_fromBits_92 : decode cM0_fromBits 92 = .ok (.getfield 29, 3) := by decide +kernel
theorem dM0_fromBits_95 : decode cM0_fromBits 95 = .ok (.invokestatic 102, 3) := by decide +kernel
theorem dM0_fromBits_98 : decode cM0_fromBits 98 = .ok (.return_, 1) := by decide +kernel
theorem dM0_shift_0 : decode cM0_shift 0 = .ok (.aload_n 0, 1) := by decide +kernel
theorem dM0_shift_1 : decode cM0_shift 1 = .ok (.iconst 0, 1) := by decide +kernel
theorem dM0_shift_2 : decode cM0_shift 2 = .ok (.putfield 48, 3) := by decide +kernel
theorem dM0_shift_5 : decode cM0_shift 5 = .ok (.iload_n 1, 1) := by decide +kernel
theorem dM0_shift_6 : decode cM0_shift 6 = .ok (.invokestatic 82, 3) := by decide +kernel
theorem dM0_shift_9 : decode cM0_shift 9 = .ok (.ifCond .eq 21, 3) := by decide +kernel
theorem dM0_shift_12 : decode cM0_shift 12 = .ok (.iload_n 2, 1) := by decide +kernel
theorem dM0_shift_13 : decode cM0_shift 13 = .ok (.invokestatic 82, 3) := by decide +kernel
theorem dM0_shift_16 : decode cM0_shift 16 = .ok (.ifCond .eq 14, 3) := by decide +kernel
theorem dM0_shift_19 : decode cM0_shift 19 = .ok (.iload_n 3, 1) := by decide +kernel
theorem dM0_shift_20 : decode cM0_shift 20 = .ok (.ifCond .lt 10, 3) := by decide +kernel
theorem dM0_shift_23 : decode cM0_shift 23 = .ok (.iload_n 3, 1) := by decide +kernel
theorem dM0_shift_24 : decode cM0_shift 24 = .ok (.sipush 1000, 3) := by decide +kernel
theorem dM0_shift_27 : decode cM0_shift 27 = .ok (.if_icmp .le 5, 3) := by decide +kernel
theorem dM0_shift_30 : decode cM0_shift 30 = .ok (.iconst 3, 1) := by decide +kernel
theorem dM0_shift_31 : decode cM0_shift 31 = .ok (.ireturn, 1) := by decide +kernel
theorem dM0_shift_32 : decode cM0_shift 32 = .ok (.aload_n 0, 1) := by decide +kernel
theorem dM0_shift_33 : decode cM0_shift 33 = .ok (.iload_n 2, 1) := by decide +kernel
theorem dM0_shift_34 : decode cM0_shift 34 = .ok (.aload_n 0, 1) := by decide +kernel
theorem dM0_shift_35 : decode cM0_shift 35 = .ok (.getfield 26, 3) := by decide +kernel
theorem dM0_shift_38 : decode cM0_shift 38 = .ok (.invokevirtual 60, 3) := by decide +kernel
theorem dM0_shift_41 : decode cM0_shift 41 = .ok (.aload_n 0, 1) := by decide +kernel
theorem dM0_shift_42 : decode cM0_shift 42 = .ok (.aload_n 0, 1) := by decide +kernel
theorem dM0_shift_43 : decode cM0_shift 43 = .ok (.getfield 13, 3) := by decide +kernel
theorem dM0_shift_46 : decode cM0_shift 46 = .ok (.iload_n 2, 1) := by decide +kernel
theorem dM0_shift_47 : decode cM0_shift 47 = .ok (.baload, 1) := by decide +kernel
theorem dM0_shift_48 : decode cM0_shift 48 = .ok (.putfield 75, 3) := by decide +kernel
theorem dM0_shift_51 : decode cM0_shift 51 = .ok (.iconst 0, 1) := by decide +kernel
theorem dM0_shift_52 : decode cM0_shift 52 = .ok (.istore 5, 2) := by decide +kernel
theorem dM0_shift_54 : decode cM0_shift 54 = .ok (.iload 5, 2) := by decide +kernel
theorem dM0_shift_56 : decode cM0_shift 56 = .ok (.iload_n 3, 1) := by decide +kernel
theorem dM0_shift_57 : decode cM0_shift 57 = .ok (.if_icmp .ge 71, 3) := by decide +kernel
theorem dM0_shift_60 : decode cM0_shift 60 = .ok (.iload 4, 2) := by decide +kernel
theorem dM0_shift_62 : decode cM0_shift 62 = .ok (.ifCond .eq 28, 3) := by decide +kernel
theorem dM0_shift_65 : decode cM0_shift 65 = .ok (.aload_n 0, 1) := by decide +kernel
theorem dM0_shift_66 : decode cM0_shift 66 = .ok (.getfield 26, 3) := by decide +kernel
theorem dM0_shift_69 : decode cM0_shift 69 = .ok (.iconst 2, 1) := by decide +kernel
theorem dM0_shift_70 : decode cM0_shift 70 = .ok (.iconst 0, 1) := by decide +kernel
theorem dM0_shift_71 : decode cM0_shift 71 = .ok (.invokestatic 56, 3) := by decide +kernel
theorem dM0_shift_74 : decode cM0_shift 74 = .ok (.aload_n 0, 1) := by decide +kernel
theorem dM0_shift_75 : decode cM0_shift 75 = .ok (.getfield 26, 3) := by decide +kernel
theorem dM0_shift_78 : decode cM0_shift 78 = .ok (.aload_n 0, 1) := by decide +kernel
theorem dM0_shift_79 : decode cM0_shift 79 = .ok (.getfield 17, 3) := by decide +kernel
theorem dM0_shift_82 : decode cM0_shift 82 = .ok (.invokestatic 71, 3) := by decide +kernel
theorem dM0_shift_85 : decode cM0_shift 85 = .ok (.ifCond .lt 37, 3) := by decide +kernel
theorem dM0_shift_88 : decode cM0_shift 88 = .ok (.iconst 1, 1) := by decide +kernel
theorem dM0_shift_89 : decode cM0_shift 89 = .ok (.ireturn, 1) := by decide +kernel
theorem dM0_shift_90 : decode cM0_shift 90 = .ok (.aload_n 0, 1) := by decide +kernel
theorem dM0_shift_91 : decode cM0_shift 91 = .ok (.getfield 26, 3) := by decide +kernel
theorem dM0_shift_94 : decode cM0_shift 94 = .ok (.iconst 2, 1) := by decide +kernel
theorem dM0_shift_95 : decode cM0_shift 95 = .ok (.invokestatic 108, 3) := by decide +kernel
theorem dM0_shift_98 : decode cM0_shift 98 = .ok (.istore 6, 2) := by decide +kernel
theorem dM0_shift_100 : decode cM0_shift 100 = .ok (.aload_n 0, 1) := by decide +kernel
theorem dM0_shift_101 : decode cM0_shift 101 = .ok (.getfield 75, 3) := by decide +kernel
theorem dM0_shift_104 : decode cM0_shift 104 = .ok (.ifCond .eq 18, 3) := by decide +kernel
theorem dM0_shift_107 : decode cM0_shift 107 = .ok (.iload 6, 2) := by decide +kernel
theorem dM0_shift_109 : decode cM0_shift 109 = .ok (.iconst 1, 1) := by decide +kernel
theorem dM0_shift_110 : decode cM0_shift 110 = .ok (.if_icmp .ne 12, 3) := by decide +kernel
theorem dM0_shift_113 : decode cM0_shift 113 = .ok (.aload_n 0, 1) := by decide +kernel
theorem dM0_shift_114 : decode cM0_shift 114 = .ok (.getfield 26, 3) := by decide +kernel
theorem dM0_shift_117 : decode cM0_shift 117 = .ok (.iconst 1, 1) := by decide +kernel
theorem dM0_shift_118 : decode cM0_shift 118 = .ok (.iconst 1, 1) := by decide +kernel
theorem dM0_shift_119 : decode cM0_shift 119 = .ok (.invokestatic 56, 3) := by decide +kernel
theorem dM0_shift_122 : decode cM0_shift 122 = .ok (.iinc 5 1, 3) := by decide +kernel
theorem dM0_shift_125 : decode cM0_shift 125 = .ok (.goto (-71), 3) := by decide +kernel
theorem dM0_shift_128 : decode cM0_shift 128 = .ok (.aload_n 0, 1) := by decide +kernel
theorem dM0_shift_129 : decode cM0_shift 129 = .ok (.iload_n 1, 1) := by decide +kernel
theorem dM0_shift_130 : decode cM0_shift 130 = .ok (.invokevirtual 86, 3) := by decide +kernel
theorem dM0_shift_133 : decode cM0_shift 133 = .ok (.ireturn, 1) := by decide +kernel
theorem dM0_turn_0 : decode cM0_turn 0 = .ok (.aload_n 0, 1) := by decide +kernel
theorem dM0_turn_1 : decode cM0_turn 1 = .ok (.iconst 0, 1) := by decide +kernel
theorem dM0_turn_2 : decode cM0_turn 2 = .ok (.putfield 48, 3) := by decide +kernel
theorem dM0_turn_5 : decode cM0_turn 5 = .ok (.iload_n 1, 1) := by decide +kernel
theorem dM0_turn_6 : decode cM0_turn 6 = .ok (.invokestatic 82, 3) := by decide +kernel
theorem dM0_turn_9 : decode cM0_turn 9 = .ok (.ifCond .eq 10, 3) := by decide +kernel
theorem dM0_turn_12 : decode cM0_turn 12 = .ok (.iload_n 2, 1) := by decide +kernel
theorem dM0_turn_13 : decode cM0_turn 13 = .ok (.invokestatic 82, 3) := by decide +kernel
theorem dM0_turn_16 : decode cM0_turn 16 = .ok (.ifCond .ne 5, 3) := by decide +kernel
theorem dM0_turn_19 : decode cM0_turn 19 = .ok (.iconst 3, 1) := by decide +kernel
theorem dM0_turn_20 : decode cM0_turn 20 = .ok (.ireturn, 1) := by decide +kernel
theorem dM0_turn_21 : decode cM0_turn 21 = .ok (.iload_n 3, 1) := by decide +kernel
theorem dM0_turn_22 : decode cM0_turn 22 = .ok (.ifCond .ne 36, 3) := by decide +kernel
theorem dM0_turn_25 : decode cM0_turn 25 = .ok (.aload_n 0, 1) := by decide +kernel
theorem dM0_turn_26 : decode cM0_turn 26 = .ok (.iload_n 2, 1) := by decide +kernel
theorem dM0_turn_27 : decode cM0_turn 27 = .ok (.aload_n 0, 1) := by decide +kernel
theorem dM0_turn_28 : decode cM0_turn 28 = .ok (.getfield 26, 3) := by decide +kernel
theorem dM0_turn_31 : decode cM0_turn 31 = .ok (.invokevirtual 60, 3) := by decide +kernel
theorem dM0_turn_34 : decode cM0_turn 34 = .ok (.aload_n 0, 1) := by decide +kernel
theorem dM0_turn_35 : decode cM0_turn 35 = .ok (.aload_n 0, 1) := by decide +kernel
theorem dM0_turn_36 : decode cM0_turn 36 = .ok (.getfield 13, 3) := by decide +kernel
theorem dM0_turn_39 : decode cM0_turn 39 = .ok (.iload_n 2, 1) := by decide +kernel
theorem dM0_turn_40 : decode cM0_turn 40 = .ok (.baload, 1) := by decide +kernel
theorem dM0_turn_41 : decode cM0_turn 41 = .ok (.ifCond .ne 7, 3) := by decide +kernel
theorem dM0_turn_44 : decode cM0_turn 44 = .ok (.iconst 1, 1) := by decide +kernel
theorem dM0_turn_45 : decode cM0_turn 45 = .ok (.goto 4, 3) := by decide +kernel
theorem dM0_turn_48 : decode cM0_turn 48 = .ok (.iconst 0, 1) := by decide +kernel
theorem dM0_turn_49 : decode cM0_turn 49 = .ok (.putfield 75, 3) := by decide +kernel
theorem dM0_turn_52 : decode cM0_turn 52 = .ok (.aload_n 0, 1) := by decide +kernel
theorem dM0_turn_53 : decode cM0_turn 53 = .ok (.iload_n 1, 1) := by decide +kernel
theorem dM0_turn_54 : decode cM0_turn 54 = .ok (.invokevirtual 86, 3) := by decide +kernel
theorem dM0_turn_57 : decode cM0_turn 57 = .ok (.ireturn, 1) := by decide +kernel
theorem dM0_turn_58 : decode cM0_turn 58 = .ok (.aload_n 0, 1) := by decide +kernel
theorem dM0_turn_59 : decode cM0_turn 59 = .ok (.iload_n 2, 1) := by decide +kernel
theorem dM0_turn_60 : decode cM0_turn 60 = .ok (.iload_n 2, 1) := by decide +kernel
theorem dM0_turn_61 : decode cM0_turn 61 = .ok (.invokevirtual 119, 3) := by decide +kernel
theorem dM0_turn_64 : decode cM0_turn 64 = .ok (.aload_n 0, 1) := by decide +kernel
theorem dM0_turn_65 : decode cM0_turn 65 = .ok (.getfield 20, 3) := by decide +kernel
theorem dM0_turn_68 : decode cM0_turn 68 = .ok (.aload_n 0, 1) := by decide +kernel
theorem dM0_turn_69 : decode cM0_turn 69 = .ok (.getfield 23, 3) := by decide +kernel
theorem dM0_turn_72 : decode cM0_turn 72 = .ok (.invokestatic 98, 3) := by decide +kernel
theorem dM0_turn_75 : decode cM0_turn 75 = .ok (.aload_n 0, 1) := by decide +kernel
theorem dM0_turn_76 : decode cM0_turn 76 = .ok (.aload_n 0, 1) := by decide +kernel
theorem dM0_turn_77 : decode cM0_turn 77 = .ok (.getfield 64, 3) := by decide +kernel
theorem dM0_turn_80 : decode cM0_turn 80 = .ok (.putfield 68, 3) := by decide +kernel
theorem dM0_turn_83 : decode cM0_turn 83 = .ok (.aload_n 0, 1) := by decide +kernel
theorem dM0_turn_84 : decode cM0_turn 84 = .ok (.getfield 20, 3) := by decide +kernel
theorem dM0_turn_87 : decode cM0_turn 87 = .ok (.invokestatic 52, 3) := by decide +kernel
theorem dM0_turn_90 : decode cM0_turn 90 = .ok (.aload_n 0, 1) := by decide +kernel
theorem dM0_turn_91 : decode cM0_turn 91 = .ok (.getfield 20, 3) := by decide +kernel
theorem dM0_turn_94 : decode cM0_turn 94 = .ok (.iconst 0, 1) := by decide +kernel
theorem dM0_turn_95 : decode cM0_turn 95 = .ok (.iconst 1, 1) := by decide +kernel
theorem dM0_turn_96 : decode cM0_turn 96 = .ok (.iastore, 1) := by decide +kernel
theorem dM0_turn_97 : decode cM0_turn 97 = .ok (.aload_n 0, 1) := by decide +kernel
theorem dM0_turn_98 : decode cM0_turn 98 = .ok (.iconst 1, 1) := by decide +kernel
theorem dM0_turn_99 : decode cM0_turn 99 = .ok (.putfield 64, 3) := by decide +kernel
theorem dM0_turn_102 : decode cM0_turn 102 = .ok (.aload_n 0, 1) := by decide +kernel
theorem dM0_turn_103 : decode cM0_turn 103 = .ok (.iconst 1, 1) := by decide +kernel
theorem dM0_turn_104 : decode cM0_turn 104 = .ok (.invokevirtual 123, 3) := by decide +kernel
theorem dM0_turn_107 : decode cM0_turn 107 = .ok (.aload_n 0, 1) := by decide +kernel
theorem dM0_turn_108 : decode cM0_turn 108 = .ok (.iload_n 1, 1) := by decide +kernel
theorem dM0_turn_109 : decode cM0_turn 109 = .ok (.invokevirtual 86, 3) := by decide +kernel
theorem dM0_turn_112 : decode cM0_turn 112 = .ok (.ireturn, 1) := by decide +kernel
theorem dM0_compare_0 : decode cM0_compare 0 = .ok (.aload_n 0, 1) := by decide +kernel
theorem dM0_compare_1 : decode cM0_compare 1 = .ok (.iconst 0, 1) := by decide +kernel
theorem dM0_compare_2 : decode cM0_compare 2 = .ok (.putfield 48, 3) := by decide +kernel
theorem dM0_compare_5 : decode cM0_compare 5 = .ok (.iload_n 1, 1) := by decide +kernel
theorem dM0_compare_6 : decode cM0_compare 6 = .ok (.invokestatic 82, 3) := by decide +kernel
theorem dM0_compare_9 : decode cM0_compare 9 = .ok (.ifCond .eq 10, 3) := by decide +kernel
theorem dM0_compare_12 : decode cM0_compare 12 = .ok (.iload_n 2, 1) := by decide +kernel
theorem dM0_compare_13 : decode cM0_compare 13 = .ok (.invokestatic 82, 3) := by decide +kernel
theorem dM0_compare_16 : decode cM0_compare 16 = .ok (.ifCond .ne 6, 3) := by decide +kernel
theorem dM0_compare_19 : decode cM0_compare 19 = .ok (.bipush (-2), 2) := by decide +kernel
theorem dM0_compare_21 : decode cM0_compare 21 = .ok (.ireturn, 1) := by decide +kernel
theorem dM0_compare_22 : decode cM0_compare 22 = .ok (.aload_n 0, 1) := by decide +kernel
theorem dM0_compare_23 : decode cM0_compare 23 = .ok (.iload_n 1, 1) := by decide +kernel
theorem dM0_compare_24 : decode cM0_compare 24 = .ok (.iload_n 2, 1) := by decide +kernel
theorem dM0_compare_25 : decode cM0_compare 25 = .ok (.invokevirtual 119, 3) := by decide +kernel
theorem dM0_compare_28 : decode cM0_compare 28 = .ok (.aload_n 0, 1) := by decide +kernel
theorem dM0_compare_29 : decode cM0_compare 29 = .ok (.getfield 64, 3) := by decide +kernel
theorem dM0_compare_32 : decode cM0_compare 32 = .ok (.aload_n 0, 1) := by decide +kernel
theorem dM0_compare_33 : decode cM0_compare 33 = .ok (.getfield 68, 3) := by decide +kernel
theorem dM0_compare_36 : decode cM0_compare 36 = .ok (.if_icmp .eq 16, 3) := by decide +kernel
theorem dM0_compare_39 : decode cM0_compare 39 = .ok (.aload_n 0, 1) := by decide +kernel
theorem dM0_compare_40 : decode cM0_compare 40 = .ok (.getfield 64, 3) := by decide +kernel
theorem dM0_compare_43 : decode cM0_compare 43 = .ok (.ifCond .eq 7, 3) := by decide +kernel
theorem dM0_compare_46 : decode cM0_compare 46 = .ok (.iconst (-1), 1) := by decide +kernel
theorem dM0_compare_47 : decode cM0_compare 47 = .ok (.goto 4, 3) := by decide +kernel
theorem dM0_compare_50 : decode cM0_compare 50 = .ok (.iconst 1, 1) := by decide +kernel
theorem dM0_compare_51 : decode cM0_compare 51 = .ok (.ireturn, 1) := by decide +kernel
theorem dM0_compare_52 : decode cM0_compare 52 = .ok (.aload_n 0, 1) := by decide +kernel
theorem dM0_compare_53 : decode cM0_compare 53 = .ok (.getfield 20, 3) := by decide +kernel
theorem dM0_compare_56 : decode cM0_compare 56 = .ok (.aload_n 0, 1) := by decide +kernel
theorem dM0_compare_57 : decode cM0_compare 57 = .ok (.getfield 23, 3) := by decide +kernel
theorem dM0_compare_60 : decode cM0_compare 60 = .ok (.invokestatic 71, 3) := by decide +kernel
theorem dM0_compare_63 : decode cM0_compare 63 = .ok (.istore_n 3, 1) := by decide +kernel
theorem dM0_compare_64 : decode cM0_compare 64 = .ok (.aload_n 0, 1) := by decide +kernel
theorem dM0_compare_65 : decode cM0_compare 65 = .ok (.getfield 64, 3) := by decide +kernel
theorem dM0_compare_68 : decode cM0_compare 68 = .ok (.ifCond .eq 8, 3) := by decide +kernel
theorem dM0_compare_71 : decode cM0_compare 71 = .ok (.iload_n 3, 1) := by decide +kernel
theorem dM0_compare_72 : decode cM0_compare 72 = .ok (.ineg, 1) := by decide +kernel
theorem dM0_compare_73 : decode cM0_compare 73 = .ok (.goto 4, 3) := by decide +kernel
theorem dM0_compare_76 : decode cM0_compare 76 = .ok (.iload_n 3, 1) := by decide +kernel
theorem dM0_compare_77 : decode cM0_compare 77 = .ok (.ireturn, 1) := by decide +kernel
theorem dM0_bits_0 : decode cM0_bits 0 = .ok (.aload_n 0, 1) := by decide +kernel
theorem dM0_bits_1 : decode cM0_bits 1 = .ok (.iconst 0, 1) := by decide +kernel
theorem dM0_bits_2 : decode cM0_bits 2 = .ok (.putfield 48, 3) := by decide +kernel
theorem dM0_bits_5 : decode cM0_bits 5 = .ok (.iload_n 1, 1) := by decide +kernel
theorem dM0_bits_6 : decode cM0_bits 6 = .ok (.invokestatic 82, 3) := by decide +kernel
theorem dM0_bits_9 : decode cM0_bits 9 = .ok (.ifCond .ne 5, 3) := by decide +kernel
theorem dM0_bits_12 : decode cM0_bits 12 = .ok (.iconst (-1), 1) := by decide +kernel
theorem dM0_bits_13 : decode cM0_bits 13 = .ok (.ireturn, 1) := by decide +kernel
theorem dM0_bits_14 : decode cM0_bits 14 = .ok (.aload_n 0, 1) := by decide +kernel
theorem dM0_bits_15 : decode cM0_bits 15 = .ok (.iload_n 1, 1) := by decide +kernel
theorem dM0_bits_16 : decode cM0_bits 16 = .ok (.aload_n 0, 1) := by decide +kernel
theorem dM0_bits_17 : decode cM0_bits 17 = .ok (.getfield 20, 3) := by decide +kernel
theorem dM0_bits_20 : decode cM0_bits 20 = .ok (.invokevirtual 60, 3) := by decide +kernel
theorem dM0_bits_23 : decode cM0_bits 23 = .ok (.iconst 0, 1) := by decide +kernel
theorem dM0_bits_24 : decode cM0_bits 24 = .ok (.istore_n 2, 1) := by decide +kernel
theorem dM0_bits_25 : decode cM0_bits 25 = .ok (.aload_n 0, 1) := by decide +kernel
theorem dM0_bits_26 : decode cM0_bits 26 = .ok (.getfield 20, 3) := by decide +kernel
theorem dM0_bits_29 : decode cM0_bits 29 = .ok (.invokestatic 78, 3) := by decide +kernel
theorem dM0_bits_32 : decode cM0_bits 32 = .ok (.ifCond .ne 18, 3) := by decide +kernel
theorem dM0_bits_35 : decode cM0_bits 35 = .ok (.aload_n 0, 1) := by decide +kernel
theorem dM0_bits_36 : decode cM0_bits 36 = .ok (.getfield 20, 3) := by decide +kernel
theorem dM0_bits_39 : decode cM0_bits 39 = .ok (.iconst 2, 1) := by decide +kernel
theorem dM0_bits_40 : decode cM0_bits 40 = .ok (.invokestatic 108, 3) := by decide +kernel
theorem dM0_bits_43 : decode cM0_bits 43 = .ok (.istore_n 3, 1) := by decide +kernel
theorem dM0_bits_44 : decode cM0_bits 44 = .ok (.iinc 2 1, 3) := by decide +kernel
theorem dM0_bits_47 : decode cM0_bits 47 = .ok (.goto (-22), 3) := by decide +kernel
theorem dM0_bits_50 : decode cM0_bits 50 = .ok (.iload_n 2, 1) := by decide +kernel
theorem dM0_bits_51 : decode cM0_bits 51 = .ok (.ireturn, 1) := by decide +kernel
theorem dM0_fits_0 : decode cM0_fits 0 = .ok (.aload_n 0, 1) := by decide +kernel
theorem dM0_fits_1 : decode cM0_fits 1 = .ok (.iconst 0, 1) := by decide +kernel
theorem dM0_fits_2 : decode cM0_fits 2 = .ok (.putfield 48, 3) := by decide +kernel
theorem dM0_fits_5 : decode cM0_fits 5 = .ok (.iload_n 1, 1) := by decide +kernel
theorem dM0_fits_6 : decode cM0_fits 6 = .ok (.invokestatic 82, 3) := by decide +kernel
theorem dM0_fits_9 : decode cM0_fits 9 = .ok (.ifCond .eq 14, 3) := by decide +kernel
theorem dM0_fits_12 : decode cM0_fits 12 = .ok (.iload_n 2, 1) := by decide +kernel
theorem dM0_fits_13 : decode cM0_fits 13 = .ok (.iconst 1, 1) := by decide +kernel
theorem dM0_fits_14 : decode cM0_fits 14 = .ok (.if_icmp .lt 9, 3) := by decide +kernel
theorem dM0_fits_17 : decode cM0_fits 17 = .ok (.iload_n 2, 1) := by decide +kernel
theorem dM0_fits_18 : decode cM0_fits 18 = .ok (.bipush 64, 2) := by decide +kernel
theorem dM0_fits_20 : decode cM0_fits 20 = .ok (.if_icmp .le 5, 3) := by decide +kernel
theorem dM0_fits_23 : decode cM0_fits 23 = .ok (.iconst 0, 1) := by decide +kernel
theorem dM0_fits_24 : decode cM0_fits 24 = .ok (.ireturn, 1) := by decide +kernel
theorem dM0_fits_25 : decode cM0_fits 25 = .ok (.aload_n 0, 1) := by decide +kernel
theorem dM0_fits_26 : decode cM0_fits 26 = .ok (.iload_n 1, 1) := by decide +kernel
theorem dM0_fits_27 : decode cM0_fits 27 = .ok (.aload_n 0, 1) := by decide +kernel
theorem dM0_fits_28 : decode cM0_fits 28 = .ok (.getfield 20, 3) := by decide +kernel
theorem dM0_fits_31 : decode cM0_fits 31 = .ok (.invokevirtual 60, 3) := by decide +kernel
theorem dM0_fits_34 : decode cM0_fits 34 = .ok (.aload_n 0, 1) := by decide +kernel
theorem dM0_fits_35 : decode cM0_fits 35 = .ok (.getfield 23, 3) := by decide +kernel
theorem dM0_fits_38 : decode cM0_fits 38 = .ok (.iload_n 3, 1) := by decide +kernel
theorem dM0_fits_39 : decode cM0_fits 39 = .ok (.ifCond .eq 9, 3) := by decide +kernel
theorem dM0_fits_42 : decode cM0_fits 42 = .ok (.iload_n 2, 1) := by decide +kernel
theorem dM0_fits_43 : decode cM0_fits 43 = .ok (.iconst 1, 1) := by decide +kernel
theorem dM0_fits_44 : decode cM0_fits 44 = .ok (.isub, 1) := by decide +kernel
theorem dM0_fits_45 : decode cM0_fits 45 = .ok (.goto 4, 3) := by decide +kernel
theorem dM0_fits_48 : decode cM0_fits 48 = .ok (.iload_n 2, 1) := by decide +kernel
theorem dM0_fits_49 : decode cM0_fits 49 = .ok (.invokestatic 44, 3) := by decide +kernel
theorem dM0_fits_52 : decode cM0_fits 52 = .ok (.aload_n 0, 1) := by decide +kernel
theorem dM0_fits_53 : decode cM0_fits 53 = .ok (.getfield 20, 3) := by decide +kernel
theorem dM0_fits_56 : decode cM0_fits 56 = .ok (.aload_n 0, 1) := by decide +kernel
theorem dM0_fits_57 : decode cM0_fits 57 = .ok (.getfield 23, 3) := by decide +kernel
theorem dM0_fits_60 : decode cM0_fits 60 = .ok (.invokestatic 71, 3) := by decide +kernel
theorem dM0_fits_63 : decode cM0_fits 63 = .ok (.istore 4, 2) := by decide +kernel
theorem dM0_fits_65 : decode cM0_fits 65 = .ok (.aload_n 0, 1) := by decide +kernel
theorem dM0_fits_66 : decode cM0_fits 66 = .ok (.getfield 13, 3) := by decide +kernel
theorem dM0_fits_69 : decode cM0_fits 69 = .ok (.iload_n 1, 1) := by decide +kernel
theorem dM0_fits_70 : decode cM0_fits 70 = .ok (.baload, 1) := by decide +kernel
theorem dM0_fits_71 : decode cM0_fits 71 = .ok (.ifCond .eq 20, 3) := by decide +kernel
theorem dM0_fits_74 : decode cM0_fits 74 = .ok (.iload_n 3, 1) := by decide +kernel
theorem dM0_fits_75 : decode cM0_fits 75 = .ok (.ifCond .eq 12, 3) := by decide +kernel
theorem dM0_fits_78 : decode cM0_fits 78 = .ok (.iload 4, 2) := by decide +kernel
theorem dM0_fits_80 : decode cM0_fits 80 = .ok (.ifCond .gt 7, 3) := by decide +kernel
theorem dM0_fits_83 : decode cM0_fits 83 = .ok (.iconst 1, 1) := by decide +kernel
theorem dM0_fits_84 : decode cM0_fits 84 = .ok (.goto 17, 3) := by decide +kernel
theorem dM0_fits_87 : decode cM0_fits 87 = .ok (.iconst 0, 1) := by decide +kernel
theorem dM0_fits_88 : decode cM0_fits 88 = .ok (.goto 13, 3) := by decide +kernel
theorem dM0_fits_91 : decode cM0_fits 91 = .ok (.iload 4, 2) := by decide +kernel
theorem dM0_fits_93 : decode cM0_fits 93 = .ok (.ifCond .ge 7, 3) := by decide +kernel
theorem dM0_fits_96 : decode cM0_fits 96 = .ok (.iconst 1, 1) := by decide +kernel
theorem dM0_fits_97 : decode cM0_fits 97 = .ok (.goto 4, 3) := by decide +kernel
theorem dM0_fits_100 : decode cM0_fits 100 = .ok (.iconst 0, 1) := by decide +kernel
theorem dM0_fits_101 : decode cM0_fits 101 = .ok (.ireturn, 1) := by decide +kernel
theorem dM0_cut_0 : decode cM0_cut 0 = .ok (.aload_n 0, 1) := by decide +kernel
theorem dM0_cut_1 : decode cM0_cut 1 = .ok (.iconst 0, 1) := by decide +kernel
theorem dM0_cut_2 : decode cM0_cut 2 = .ok (.putfield 48, 3) := by decide +kernel
theorem dM0_cut_5 : decode cM0_cut 5 = .ok (.iload_n 1, 1) := by decide +kernel
theorem dM0_cut_6 : decode cM0_cut 6 = .ok (.invokestatic 82, 3) := by decide +kernel
theorem dM0_cut_9 : decode cM0_cut 9 = .ok (.ifCond .eq 14, 3) := by decide +kernel
theorem dM0_cut_12 : decode cM0_cut 12 = .ok (.iload_n 2, 1) := by decide +kernel
theorem dM0_cut_13 : decode cM0_cut 13 = .ok (.iconst 1, 1) := by decide +kernel
theorem dM0_cut_14 : decode cM0_cut 14 = .ok (.if_icmp .lt 9, 3) := by decide +kernel
theorem dM0_cut_17 : decode cM0_cut 17 = .ok (.iload_n 2, 1) := by decide +kernel
theorem dM0_cut_18 : decode cM0_cut 18 = .ok (.bipush 64, 2) := by decide +kernel
theorem dM0_cut_20 : decode cM0_cut 20 = .ok (.if_icmp .le 5, 3) := by decide +kernel
theorem dM0_cut_23 : decode cM0_cut 23 = .ok (.lconst 0, 1) := by decide +kernel
theorem dM0_cut_24 : decode cM0_cut 24 = .ok (.lreturn, 1) := by decide +kernel
theorem dM0_cut_25 : decode cM0_cut 25 = .ok (.lconst 0, 1) := by decide +kernel
theorem dM0_cut_26 : decode cM0_cut 26 = .ok (.lstore 4, 2) := by decide +kernel
theorem dM0_cut_28 : decode cM0_cut 28 = .ok (.sipush 159, 3) := by decide +kernel
theorem dM0_cut_31 : decode cM0_cut 31 = .ok (.istore 6, 2) := by decide +kernel
theorem dM0_cut_33 : decode cM0_cut 33 = .ok (.iload 6, 2) := by decide +kernel
theorem dM0_cut_35 : decode cM0_cut 35 = .ok (.ifCond .lt 32, 3) := by decide +kernel
theorem dM0_cut_38 : decode cM0_cut 38 = .ok (.ldc2_w 137, 3) := by decide +kernel
theorem dM0_cut_41 : decode cM0_cut 41 = .ok (.lload 4, 2) := by decide +kernel
theorem dM0_cut_43 : decode cM0_cut 43 = .ok (.lmul, 1) := by decide +kernel
theorem dM0_cut_44 : decode cM0_cut 44 = .ok (.aload_n 0, 1) := by decide +kernel
theorem dM0_cut_45 : decode cM0_cut 45 = .ok (.getfield 7, 3) := by decide +kernel
theorem dM0_cut_48 : decode cM0_cut 48 = .ok (.sipush 160, 3) := by decide +kernel
theorem dM0_cut_51 : decode cM0_cut 51 = .ok (.iload_n 1, 1) := by decide +kernel
theorem dM0_cut_52 : decode cM0_cut 52 = .ok (.imul, 1) := by decide +kernel
theorem dM0_cut_53 : decode cM0_cut 53 = .ok (.iload 6, 2) := by decide +kernel
theorem dM0_cut_55 : decode cM0_cut 55 = .ok (.iadd, 1) := by decide +kernel
theorem dM0_cut_56 : decode cM0_cut 56 = .ok (.iaload, 1) := by decide +kernel
theorem dM0_cut_57 : decode cM0_cut 57 = .ok (.i2l, 1) := by decide +kernel
theorem dM0_cut_58 : decode cM0_cut 58 = .ok (.ladd, 1) := by decide +kernel
theorem dM0_cut_59 : decode cM0_cut 59 = .ok (.lstore 4, 2) := by decide +kernel
theorem dM0_cut_61 : decode cM0_cut 61 = .ok (.iinc 6 (-1), 3) := by decide +kernel
theorem dM0_cut_64 : decode cM0_cut 64 = .ok (.goto (-31), 3) := by decide +kernel
theorem dM0_cut_67 : decode cM0_cut 67 = .ok (.aload_n 0, 1) := by decide +kernel
theorem dM0_cut_68 : decode cM0_cut 68 = .ok (.getfield 13, 3) := by decide +kernel
theorem dM0_cut_71 : decode cM0_cut 71 = .ok (.iload_n 1, 1) := by decide +kernel
theorem dM0_cut_72 : decode cM0_cut 72 = .ok (.baload, 1) := by decide +kernel
theorem dM0_cut_73 : decode cM0_cut 73 = .ok (.ifCond .eq 9, 3) := by decide +kernel
theorem dM0_cut_76 : decode cM0_cut 76 = .ok (.lload 4, 2) := by decide +kernel
theorem dM0_cut_78 : decode cM0_cut 78 = .ok (.lneg, 1) := by decide +kernel
theorem dM0_cut_79 : decode cM0_cut 79 = .ok (.goto 5, 3) := by decide +kernel
theorem dM0_cut_82 : decode cM0_cut 82 = .ok (.lload 4, 2) := by decide +kernel
theorem dM0_cut_84 : decode cM0_cut 84 = .ok (.lstore 4, 2) := by decide +kernel
theorem dM0_cut_86 : decode cM0_cut 86 = .ok (.iload_n 2, 1) := by decide +kernel
theorem dM0_cut_87 : decode cM0_cut 87 = .ok (.istore 6, 2) := by decide +kernel
theorem dM0_cut_89 : decode cM0_cut 89 = .ok (.iload 6, 2) := by decide +kernel
theorem dM0_cut_91 : decode cM0_cut 91 = .ok (.bipush 64, 2) := by decide +kernel
theorem dM0_cut_93 : decode cM0_cut 93 = .ok (.if_icmp .ge 15, 3) := by decide +kernel
theorem dM0_cut_96 : decode cM0_cut 96 = .ok (.lload 4, 2) := by decide +kernel
theorem dM0_cut_98 : decode cM0_cut 98 = .ok (.iconst 1, 1) := by decide +kernel
theorem dM0_cut_99 : decode cM0_cut 99 = .ok (.lshl, 1) := by decide +kernel
theorem dM0_cut_100 : decode cM0_cut 100 = .ok (.lstore 4, 2) := by decide +kernel
theorem dM0_cut_102 : decode cM0_cut 102 = .ok (.iinc 6 1, 3) := by decide +kernel
theorem dM0_cut_105 : decode cM0_cut 105 = .ok (.goto (-16), 3) := by decide +kernel
theorem dM0_cut_108 : decode cM0_cut 108 = .ok (.iload_n 2, 1) := by decide +kernel
theorem dM0_cut_109 : decode cM0_cut 109 = .ok (.istore 6, 2) := by decide +kernel
theorem dM0_cut_111 : decode cM0_cut 111 = .ok (.iload 6, 2) := by decide +kernel
theorem dM0_cut_113 : decode cM0_cut 113 = .ok (.bipush 64, 2) := by decide +kernel
theorem dM0_cut_115 : decode cM0_cut 115 = .ok (.if_icmp .ge 26, 3) := by decide +kernel
theorem dM0_cut_118 : decode cM0_cut 118 = .ok (.iload_n 3, 1) := by decide +kernel
theorem dM0_cut_119 : decode cM0_cut 119 = .ok (.ifCond .eq 10, 3) := by decide +kernel
theorem dM0_cut_122 : decode cM0_cut 122 = .ok (.lload 4, 2) := by decide +kernel
theorem dM0_cut_124 : decode cM0_cut 124 = .ok (.iconst 1, 1) := by decide +kernel
theorem dM0_cut_125 : decode cM0_cut 125 = .ok (.lshr, 1) := by decide +kernel
theorem dM0_cut_126 : decode cM0_cut 126 = .ok (.goto 7, 3) := by decide +kernel
theorem dM0_cut_129 : decode cM0_cut 129 = .ok (.lload 4, 2) := by decide +kernel
theorem dM0_cut_131 : decode cM0_cut 131 = .ok (.iconst 1, 1) := by decide +kernel
theorem dM0_cut_132 : decode cM0_cut 132 = .ok (.lushr, 1) := by decide +kernel
theorem dM0_cut_133 : decode cM0_cut 133 = .ok (.lstore 4, 2) := by decide +kernel
theorem dM0_cut_135 : decode cM0_cut 135 = .ok (.iinc 6 1, 3) := by decide +kernel
theorem dM0_cut_138 : decode cM0_cut 138 = .ok (.goto (-27), 3) := by decide +kernel
theorem dM0_cut_141 : decode cM0_cut 141 = .ok (.lload 4, 2) := by decide +kernel
theorem dM0_cut_143 : decode cM0_cut 143 = .ok (.lreturn, 1) := by decide +kernel
theorem dM0_write_0 : decode cM0_write 0 = .ok (.aload_n 0, 1) := by decide +kernel
theorem dM0_write_1 : decode cM0_write 1 = .ok (.iconst 0, 1) := by decide +kernel
theorem dM0_write_2 : decode cM0_write 2 = .ok (.putfield 48, 3) := by decide +kernel
theorem dM0_write_5 : decode cM0_write 5 = .ok (.iload_n 1, 1) := by decide +kernel
theorem dM0_write_6 : decode cM0_write 6 = .ok (.invokestatic 82, 3) := by decide +kernel
theorem dM0_write_9 : decode cM0_write 9 = .ok (.ifCond .eq 14, 3) := by decide +kernel
theorem dM0_write_12 : decode cM0_write 12 = .ok (.iload_n 2, 1) := by decide +kernel
theorem dM0_write_13 : decode cM0_write 13 = .ok (.iconst 2, 1) := by decide +kernel
theorem dM0_write_14 : decode cM0_write 14 = .ok (.if_icmp .lt 9, 3) := by decide +kernel
theorem dM0_write_17 : decode cM0_write 17 = .ok (.iload_n 2, 1) := by decide +kernel
theorem dM0_write_18 : decode cM0_write 18 = .ok (.bipush 36, 2) := by decide +kernel
theorem dM0_write_20 : decode cM0_write 20 = .ok (.if_icmp .le 6, 3) := by decide +kernel
theorem dM0_write_23 : decode cM0_write 23 = .ok (.bipush (-3), 2) := by decide +kernel
theorem dM0_write_25 : decode cM0_write 25 = .ok (.ireturn, 1) := by decide +kernel
theorem dM0_write_26 : decode cM0_write 26 = .ok (.aload_n 0, 1) := by decide +kernel
theorem dM0_write_27 : decode cM0_write 27 = .ok (.iload_n 1, 1) := by decide +kernel
theorem dM0_write_28 : decode cM0_write 28 = .ok (.aload_n 0, 1) := by decide +kernel
theorem dM0_write_29 : decode cM0_write 29 = .ok (.getfield 20, 3) := by decide +kernel
theorem dM0_write_32 : decode cM0_write 32 = .ok (.invokevirtual 60, 3) := by decide +kernel
theorem dM0_write_35 : decode cM0_write 35 = .ok (.iconst 0, 1) := by decide +kernel
theorem dM0_write_36 : decode cM0_write 36 = .ok (.istore_n 3, 1) := by decide +kernel
theorem dM0_write_37 : decode cM0_write 37 = .ok (.iload_n 3, 1) := by decide +kernel
theorem dM0_write_38 : decode cM0_write 38 = .ok (.ifCond .eq 13, 3) := by decide +kernel
theorem dM0_write_41 : decode cM0_write 41 = .ok (.aload_n 0, 1) := by decide +kernel
theorem dM0_write_42 : decode cM0_write 42 = .ok (.getfield 20, 3) := by decide +kernel
theorem dM0_write_45 : decode cM0_write 45 = .ok (.invokestatic 78, 3) := by decide +kernel
theorem dM0_write_48 : decode cM0_write 48 = .ok (.ifCond .ne 48, 3) := by decide +kernel
theorem dM0_write_51 : decode cM0_write 51 = .ok (.aload_n 0, 1) := by decide +kernel
theorem dM0_write_52 : decode cM0_write 52 = .ok (.getfield 20, 3) := by decide +kernel
theorem dM0_write_55 : decode cM0_write 55 = .ok (.iload_n 2, 1) := by decide +kernel
theorem dM0_write_56 : decode cM0_write 56 = .ok (.invokestatic 108, 3) := by decide +kernel
theorem dM0_write_59 : decode cM0_write 59 = .ok (.istore 4, 2) := by decide +kernel
theorem dM0_write_61 : decode cM0_write 61 = .ok (.aload_n 0, 1) := by decide +kernel
theorem dM0_write_62 : decode cM0_write 62 = .ok (.getfield 41, 3) := by decide +kernel
theorem dM0_write_65 : decode cM0_write 65 = .ok (.iload_n 3, 1) := by decide +kernel
theorem dM0_write_66 : decode cM0_write 66 = .ok (.iload 4, 2) := by decide +kernel
theorem dM0_write_68 : decode cM0_write 68 = .ok (.bipush 10, 2) := by decide +kernel
theorem dM0_write_70 : decode cM0_write 70 = .ok (.if_icmp .ge 11, 3) := by decide +kernel
theorem dM0_write_73 : decode cM0_write 73 = .ok (.bipush 48, 2) := by decide +kernel
theorem dM0_write_75 : decode cM0_write 75 = .ok (.iload 4, 2) := by decide +kernel
theorem dM0_write_77 : decode cM0_write 77 = .ok (.iadd, 1) := by decide +kernel
theorem dM0_write_78 : decode cM0_write 78 = .ok (.goto 11, 3) := by decide +kernel
theorem dM0_write_81 : decode cM0_write 81 = .ok (.bipush 97, 2) := by decide +kernel
theorem dM0_write_83 : decode cM0_write 83 = .ok (.iload 4, 2) := by decide +kernel
theorem dM0_write_85 : decode cM0_write 85 = .ok (.iadd, 1) := by decide +kernel
theorem dM0_write_86 : decode cM0_write 86 = .ok (.bipush 10, 2) := by decide +kernel
theorem dM0_write_88 : decode cM0_write 88 = .ok (.isub, 1) := by decide +kernel
theorem dM0_write_89 : decode cM0_write 89 = .ok (.iastore, 1) := by decide +kernel
theorem dM0_write_90 : decode cM0_write 90 = .ok (.iinc 3 1, 3) := by decide +kernel
theorem dM0_write_93 : decode cM0_write 93 = .ok (.goto (-56), 3) := by decide +kernel
theorem dM0_write_96 : decode cM0_write 96 = .ok (.aload_n 0, 1) := by decide +kernel
theorem dM0_write_97 : decode cM0_write 97 = .ok (.getfield 13, 3) := by decide +kernel
theorem dM0_write_100 : decode cM0_write 100 = .ok (.iload_n 1, 1) := by decide +kernel
theorem dM0_write_101 : decode cM0_write 101 = .ok (.baload, 1) := by decide +kernel
theorem dM0_write_102 : decode cM0_write 102 = .ok (.ifCond .eq 14, 3) := by decide +kernel
theorem dM0_write_105 : decode cM0_write 105 = .ok (.aload_n 0, 1) := by decide +kernel
theorem dM0_write_106 : decode cM0_write 106 = .ok (.getfield 41, 3) := by decide +kernel
theorem dM0_write_109 : decode cM0_write 109 = .ok (.iload_n 3, 1) := by decide +kernel
theorem dM0_write_110 : decode cM0_write 110 = .ok (.bipush 45, 2) := by decide +kernel
theorem dM0_write_112 : decode cM0_write 112 = .ok (.iastore, 1) := by decide +kernel
theorem dM0_write_113 : decode cM0_write 113 = .ok (.iinc 3 1, 3) := by decide +kernel
theorem dM0_write_116 : decode cM0_write 116 = .ok (.aload_n 0, 1) := by decide +kernel
theorem dM0_write_117 : decode cM0_write 117 = .ok (.iload_n 3, 1) := by decide +kernel
theorem dM0_write_118 : decode cM0_write 118 = .ok (.putfield 139, 3) := by decide +kernel
theorem dM0_write_121 : decode cM0_write 121 = .ok (.iload_n 3, 1) := by decide +kernel
theorem dM0_write_122 : decode cM0_write 122 = .ok (.ireturn, 1) := by decide +kernel
theorem dM0_byteOf_0 : decode cM0_byteOf 0 = .ok (.aload_n 0, 1) := by decide +kernel
theorem dM0_byteOf_1 : decode cM0_byteOf 1 = .ok (.iconst 0, 1) := by decide +kernel
theorem dM0_byteOf_2 : decode cM0_byteOf 2 = .ok (.putfield 48, 3) := by decide +kernel
theorem dM0_byteOf_5 : decode cM0_byteOf 5 = .ok (.iload_n 1, 1) := by decide +kernel
theorem dM0_byteOf_6 : decode cM0_byteOf 6 = .ok (.ifCond .lt 27, 3) := by decide +kernel
theorem dM0_byteOf_9 : decode cM0_byteOf 9 = .ok (.iload_n 1, 1) := by decide +kernel
theorem dM0_byteOf_10 : decode cM0_byteOf 10 = .ok (.aload_n 0, 1) := by decide +kernel
theorem dM0_byteOf_11 : decode cM0_byteOf 11 = .ok (.getfield 139, 3) := by decide +kernel
theorem dM0_byteOf_14 : decode cM0_byteOf 14 = .ok (.if_icmp .ge 19, 3) := by decide +kernel
theorem dM0_byteOf_17 : decode cM0_byteOf 17 = .ok (.aload_n 0, 1) := by decide +kernel
theorem dM0_byteOf_18 : decode cM0_byteOf 18 = .ok (.getfield 41, 3) := by decide +kernel
theorem dM0_byteOf_21 : decode cM0_byteOf 21 = .ok (.aload_n 0, 1) := by decide +kernel
theorem dM0_byteOf_22 : decode cM0_byteOf 22 = .ok (.getfield 139, 3) := by decide +kernel
theorem dM0_byteOf_25 : decode cM0_byteOf 25 = .ok (.iconst 1, 1) := by decide +kernel
theorem dM0_byteOf_26 : decode cM0_byteOf 26 = .ok (.isub, 1) := by decide +kernel
theorem dM0_byteOf_27 : decode cM0_byteOf 27 = .ok (.iload_n 1, 1) := by decide +kernel
theorem dM0_byteOf_28 : decode cM0_byteOf 28 = .ok (.isub, 1) := by decide +kernel
theorem dM0_byteOf_29 : decode cM0_byteOf 29 = .ok (.iaload, 1) := by decide +kernel
theorem dM0_byteOf_30 : decode cM0_byteOf 30 = .ok (.goto 4, 3) := by decide +kernel
theorem dM0_byteOf_33 : decode cM0_byteOf 33 = .ok (.iconst (-1), 1) := by decide +kernel
theorem dM0_byteOf_34 : decode cM0_byteOf 34 = .ok (.ireturn, 1) := by decide +kernel
end
section
theorem dL_law_0 : decode cL_law 0 = .ok (.new 7, 3) := by decide +kernel
theorem dL_law_3 : decode cL_law 3 = .ok (.dup, 1) := by decide +kernel
theorem dL_law_4 : decode cL_law 4 = .ok (.invokespecial 9, 3) := by decide +kernel
theorem dL_law_7 : decode cL_law 7 = .ok (.astore_n 1, 1) := by decide +kernel
theorem dL_law_8 : decode cL_law 8 = .ok (.new 10, 3) := by decide +kernel
theorem dL_law_11 : decode cL_law 11 = .ok (.dup, 1) := by decide +kernel
theorem dL_law_12 : decode cL_law 12 = .ok (.invokespecial 12, 3) := by decide +kernel
theorem dL_law_15 : decode cL_law 15 = .ok (.astore_n 2, 1) := by decide +kernel
theorem dL_law_16 : decode cL_law 16 = .ok (.iconst 0, 1) := by decide +kernel
theorem dL_law_17 : decode cL_law 17 = .ok (.istore_n 3, 1) := by decide +kernel
theorem dL_law_18 : decode cL_law 18 = .ok (.iload_n 3, 1) := by decide +kernel
theorem dL_law_19 : decode cL_law 19 = .ok (.aload_n 0, 1) := by decide +kernel
theorem dL_law_20 : decode cL_law 20 = .ok (.arraylength, 1) := by decide +kernel
theorem dL_law_21 : decode cL_law 21 = .ok (.iconst 5, 1) := by decide +kernel
theorem dL_law_22 : decode cL_law 22 = .ok (.isub, 1) := by decide +kernel
theorem dL_law_23 : decode cL_law 23 = .ok (.if_icmp .gt 666, 3) := by decide +kernel
theorem dL_law_26 : decode cL_law 26 = .ok (.aload_n 0, 1) := by decide +kernel
theorem dL_law_27 : decode cL_law 27 = .ok (.iload_n 3, 1) := by decide +kernel
theorem dL_law_28 : decode cL_law 28 = .ok (.iaload, 1) := by decide +kernel
theorem dL_law_29 : decode cL_law 29 = .ok (.bipush 15, 2) := by decide +kernel
theorem dL_law_31 : decode cL_law 31 = .ok (.iand, 1) := by decide +kernel
theorem dL_law_32 : decode cL_law 32 = .ok (.tableswitch 651 0 11 #[64, 153, 206, 239, 292, 361, 420, 453, 476, 535, 595, 628], 64) := by decide +kernel
theorem dL_law_96 : decode cL_law 96 = .ok (.aload_n 1, 1) := by decide +kernel
theorem dL_law_97 : decode cL_law 97 = .ok (.aload_n 0, 1) := by decide +kernel
theorem dL_law_98 : decode cL_law 98 = .ok (.iload_n 3, 1) := by decide +kernel
theorem dL_law_99 : decode cL_law 99 = .ok (.iconst 1, 1) := by decide +kernel
theorem dL_law_100 : decode cL_law 100 = .ok (.iadd, 1) := by decide +kernel
theorem dL_law_101 : decode cL_law 101 = .ok (.iaload, 1) := by decide +kernel
theorem dL_law_102 : decode cL_law 102 = .ok (.aload_n 0, 1) := by decide +kernel
theorem dL_law_103 : decode cL_law 103 = .ok (.iload_n 3, 1) := by decide +kernel
theorem dL_law_104 : decode cL_law 104 = .ok (.iconst 2, 1) := by decide +kernel
theorem dL_law_105 : decode cL_law 105 = .ok (.iadd, 1) := by decide +kernel
theorem dL_law_106 : decode cL_law 106 = .ok (.iaload, 1) := by decide +kernel
theorem dL_law_107 : decode cL_law 107 = .ok (.i2l, 1) := by decide +kernel
theorem dL_law_108 : decode cL_law 108 = .ok (.bipush 32, 2) := by decide +kernel
theorem dL_law_110 : decode cL_law 110 = .ok (.lshl, 1) := by decide +kernel
theorem dL_law_111 : decode cL_law 111 = .ok (.aload_n 0, 1) := by decide +kernel
theorem dL_law_112 : decode cL_law 112 = .ok (.iload_n 3, 1) := by decide +kernel
theorem dL_law_113 : decode cL_law 113 = .ok (.iconst 3, 1) := by decide +kernel
theorem dL_law_114 : decode cL_law 114 = .ok (.iadd, 1) := by decide +kernel
theorem dL_law_115 : decode cL_law 115 = .ok (.iaload, 1) := by decide +kernel
theorem dL_law_116 : decode cL_law 116 = .ok (.i2l, 1) := by decide +kernel
theorem dL_law_117 : decode cL_law 117 = .ok (.ldc2_w 13, 3) := by decide +kernel
theorem dL_law_120 : decode cL_law 120 = .ok (.land, 1) := by decide +kernel
theorem dL_law_121 : decode cL_law 121 = .ok (.lor, 1) := by decide +kernel
theorem dL_law_122 : decode cL_law 122 = .ok (.aload_n 0, 1) := by decide +kernel
theorem dL_law_123 : decode cL_law 123 = .ok (.iload_n 3, 1) := by decide +kernel
theorem dL_law_124 : decode cL_law 124 = .ok (.iconst 4, 1) := by decide +kernel
theorem dL_law_125 : decode cL_law 125 = .ok (.iadd, 1) := by decide +kernel
theorem dL_law_126 : decode cL_law 126 = .ok (.iaload, 1) := by decide +kernel
theorem dL_law_127 : decode cL_law 127 = .ok (.ifCond .eq 7, 3) := by decide +kernel
theorem dL_law_130 : decode cL_law 130 = .ok (.iconst 1, 1) := by decide +kernel
theorem dL_law_131 : decode cL_law 131 = .ok (.goto 4, 3) := by decide +kernel
theorem dL_law_134 : decode cL_law 134 = .ok (.iconst 0, 1) := by decide +kernel
theorem dL_law_135 : decode cL_law 135 = .ok (.invokevirtual 15, 3) := by decide +kernel
theorem dL_law_138 : decode cL_law 138 = .ok (.aload_n 2, 1) := by decide +kernel
theorem dL_law_139 : decode cL_law 139 = .ok (.aload_n 0, 1) := by decide +kernel
theorem dL_law_140 : decode cL_law 140 = .ok (.iload_n 3, 1) := by decide +kernel
theorem dL_law_141 : decode cL_law 141 = .ok (.iconst 1, 1) := by decide +kernel
theorem dL_law_142 : decode cL_law 142 = .ok (.iadd, 1) := by decide +kernel
theorem dL_law_143 : decode cL_law 143 = .ok (.iaload, 1) := by decide +kernel
theorem dL_law_144 : decode cL_law 144 = .ok (.aload_n 0, 1) := by decide +kernel
theorem dL_law_145 : decode cL_law 145 = .ok (.iload_n 3, 1) := by decide +kernel
theorem dL_law_146 : decode cL_law 146 = .ok (.iconst 2, 1) := by decide +kernel
theorem dL_law_147 : decode cL_law 147 = .ok (.iadd, 1) := by decide +kernel
theorem dL_law_148 : decode cL_law 148 = .ok (.iaload, 1) := by decide +kernel
theorem dL_law_149 : decode cL_law 149 = .ok (.i2l, 1) := by decide +kernel
theorem dL_law_150 : decode cL_law 150 = .ok (.bipush 32, 2) := by decide +kernel
theorem dL_law_152 : decode cL_law 152 = .ok (.lshl, 1) := by decide +kernel
theorem dL_law_153 : decode cL_law 153 = .ok (.aload_n 0, 1) := by decide +kernel
theorem dL_law_154 : decode cL_law 154 = .ok (.iload_n 3, 1) := by decide +kernel
theorem dL_law_155 : decode cL_law 155 = .ok (.iconst 3, 1) := by decide +kernel
theorem dL_law_156 : decode cL_law 156 = .ok (.iadd, 1) := by decide +kernel
theorem dL_law_157 : decode cL_law 157 = .ok (.iaload, 1) := by decide +kernel
theorem dL_law_158 : decode cL_law 158 = .ok (.i2l, 1) := by decide +kernel
theorem dL_law_159 : decode cL_law 159 = .ok (.ldc2_w 13, 3) := by decide +kernel
theorem dL_law_162 : decode cL_law 162 = .ok (.land, 1) := by decide +kernel
theorem dL_law_163 : decode cL_law 163 = .ok (.lor, 1) := by decide +kernel
theorem dL_law_164 : decode cL_law 164 = .ok (.aload_n 0, 1) := by decide +kernel
theorem dL_law_165 : decode cL_law 165 = .ok (.iload_n 3, 1) := by decide +kernel
theorem dL_law_166 : decode cL_law 166 = .ok (.iconst 4, 1) := by decide +kernel
theorem dL_law_167 : decode cL_law 167 = .ok (.iadd, 1) := by decide +kernel
theorem dL_law_168 : decode cL_law 168 = .ok (.iaload, 1) := by decide +kernel
theorem dL_law_169 : decode cL_law 169 = .ok (.ifCond .eq 7, 3) := by decide +kernel
theorem dL_law_172 : decode cL_law 172 = .ok (.iconst 1, 1) := by decide +kernel
theorem dL_law_173 : decode cL_law 173 = .ok (.goto 4, 3) := by decide +kernel
theorem dL_law_176 : decode cL_law 176 = .ok (.iconst 0, 1) := by decide +kernel
theorem dL_law_177 : decode cL_law 177 = .ok (.invokevirtual 19, 3) := by decide +kernel
theorem dL_law_180 : decode cL_law 180 = .ok (.if_icmp .eq 503, 3) := by decide +kernel
theorem dL_law_183 : decode cL_law 183 = .ok (.iconst 0, 1) := by decide +kernel
theorem dL_law_184 : decode cL_law 184 = .ok (.ireturn, 1) := by decide +kernel
theorem dL_law_185 : decode cL_law 185 = .ok (.aload_n 1, 1) := by decide +kernel
theorem dL_law_186 : decode cL_law 186 = .ok (.aload_n 0, 1) := by decide +kernel
theorem dL_law_187 : decode cL_law 187 = .ok (.iload_n 3, 1) := by decide +kernel
theorem dL_law_188 : decode cL_law 188 = .ok (.iconst 1, 1) := by decide +kernel
theorem dL_law_189 : decode cL_law 189 = .ok (.iadd, 1) := by decide +kernel
theorem dL_law_190 : decode cL_law 190 = .ok (.iaload, 1) := by decide +kernel
theorem dL_law_191 : decode cL_law 191 = .ok (.i2l, 1) := by decide +kernel
theorem dL_law_192 : decode cL_law 192 = .ok (.bipush 32, 2) := by decide +kernel
theorem dL_law_194 : decode cL_law 194 = .ok (.lshl, 1) := by decide +kernel
theorem dL_law_195 : decode cL_law 195 = .ok (.aload_n 0, 1) := by decide +kernel
theorem dL_law_196 : decode cL_law 196 = .ok (.iload_n 3, 1) := by decide +kernel
theorem dL_law_197 : decode cL_law 197 = .ok (.iconst 2, 1) := by decide +kernel
theorem dL_law_198 : decode cL_law 198 = .ok (.iadd, 1) := by decide +kernel
theorem dL_law_199 : decode cL_law 199 = .ok (.iaload, 1) := by decide +kernel
theorem dL_law_200 : decode cL_law 200 = .ok (.i2l, 1) := by decide +kernel
theorem dL_law_201 : decode cL_law 201 = .ok (.ldc2_w 13, 3) := by decide +kernel
theorem dL_law_204 : decode cL_law 204 = .ok (.land, 1) := by decide +kernel
theorem dL_law_205 : decode cL_law 205 = .ok (.lor, 1) := by decide +kernel
theorem dL_law_206 : decode cL_law 206 = .ok (.invokevirtual 20, 3) := by decide +kernel
theorem dL_law_209 : decode cL_law 209 = .ok (.aload_n 2, 1) := by decide +kernel
theorem dL_law_210 : decode cL_law 210 = .ok (.aload_n 0, 1) := by decide +kernel
theorem dL_law_211 : decode cL_law 211 = .ok (.iload_n 3, 1) := by decide +kernel
theorem dL_law_212 : decode cL_law 212 = .ok (.iconst 1, 1) := by decide +kernel
theorem dL_law_213 : decode cL_law 213 = .ok (.iadd, 1) := by decide +kernel
theorem dL_law_214 : decode cL_law 214 = .ok (.iaload, 1) := by decide +kernel
theorem dL_law_215 : decode cL_law 215 = .ok (.i2l, 1) := by decide +kernel
theorem dL_law_216 : decode cL_law 216 = .ok (.bipush 32, 2) := by decide +kernel
theorem dL_law_218 : decode cL_law 218 = .ok (.lshl, 1) := by decide +kernel
theorem dL_law_219 : decode cL_law 219 = .ok (.aload_n 0, 1) := by decide +kernel
theorem dL_law_220 : decode cL_law 220 = .ok (.iload_n 3, 1) := by decide +kernel
theorem dL_law_221 : decode cL_law 221 = .ok (.iconst 2, 1) := by decide +kernel
theorem dL_law_222 : decode cL_law 222 = .ok (.iadd, 1) := by decide +kernel
theorem dL_law_223 : decode cL_law 223 = .ok (.iaload, 1) := by decide +kernel
theorem dL_law_224 : decode cL_law 224 = .ok (.i2l, 1) := by decide +kernel
theorem dL_law_225 : decode cL_law 225 = .ok (.ldc2_w 13, 3) := by decide +kernel
theorem dL_law_228 : decode cL_law 228 = .ok (.land, 1) := by decide +kernel
theorem dL_law_229 : decode cL_law 229 = .ok (.lor, 1) := by decide +kernel
theorem dL_law_230 : decode cL_law 230 = .ok (.invokevirtual 24, 3) := by decide +kernel
theorem dL_law_233 : decode cL_law 233 = .ok (.if_icmp .eq 450, 3) := by decide +kernel
theorem dL_law_236 : decode cL_law 236 = .ok (.iconst 0, 1) := by decide +kernel
theorem dL_law_237 : decode cL_law 237 = .ok (.ireturn, 1) := by decide +kernel
theorem dL_law_238 : decode cL_law 238 = .ok (.aload_n 1, 1) := by decide +kernel
theorem dL_law_239 : decode cL_law 239 = .ok (.aload_n 0, 1) := by decide +kernel
theorem dL_law_240 : decode cL_law 240 = .ok (.iload_n 3, 1) := by decide +kernel
theorem dL_law_241 : decode cL_law 241 = .ok (.iconst 1, 1) := by decide +kernel
theorem dL_law_242 : decode cL_law 242 = .ok (.iadd, 1) := by decide +kernel
theorem dL_law_243 : decode cL_law 243 = .ok (.iaload, 1) := by decide +kernel
theorem dL_law_244 : decode cL_law 244 = .ok (.aload_n 0, 1) := by decide +kernel
theorem dL_law_245 : decode cL_law 245 = .ok (.iload_n 3, 1) := by decide +kernel
theorem dL_law_246 : decode cL_law 246 = .ok (.iconst 2, 1) := by decide +kernel
theorem dL_law_247 : decode cL_law 247 = .ok (.iadd, 1) := by decide +kernel
theorem dL_law_248 : decode cL_law 248 = .ok (.iaload, 1) := by decide +kernel
theorem dL_law_249 : decode cL_law 249 = .ok (.invokevirtual 25, 3) := by decide +kernel
theorem dL_law_252 : decode cL_law 252 = .ok (.aload_n 2, 1) := by decide +kernel
theorem dL_law_253 : decode cL_law 253 = .ok (.aload_n 0, 1) := by decide +kernel
theorem dL_law_254 : decode cL_law 254 = .ok (.iload_n 3, 1) := by decide +kernel
theorem dL_law_255 : decode cL_law 255 = .ok (.iconst 1, 1) := by decide +kernel
theorem dL_law_256 : decode cL_law 256 = .ok (.iadd, 1) := by decide +kernel
theorem dL_law_257 : decode cL_law 257 = .ok (.iaload, 1) := by decide +kernel
theorem dL_law_258 : decode cL_law 258 = .ok (.aload_n 0, 1) := by decide +kernel
theorem dL_law_259 : decode cL_law 259 = .ok (.iload_n 3, 1) := by decide +kernel
theorem dL_law_260 : decode cL_law 260 = .ok (.iconst 2, 1) := by decide +kernel
theorem dL_law_261 : decode cL_law 261 = .ok (.iadd, 1) := by decide +kernel
theorem dL_law_262 : decode cL_law 262 = .ok (.iaload, 1) := by decide +kernel
theorem dL_law_263 : decode cL_law 263 = .ok (.invokevirtual 29, 3) := by decide +kernel
theorem dL_law_266 : decode cL_law 266 = .ok (.if_icmp .eq 417, 3) := by decide +kernel
theorem dL_law_269 : decode cL_law 269 = .ok (.iconst 0, 1) := by decide +kernel
theorem dL_law_270 : decode cL_law 270 = .ok (.ireturn, 1) := by decide +kernel
theorem dL_law_271 : decode cL_law 271 = .ok (.aload_n 1, 1) := by decide +kernel
theorem dL_law_272 : decode cL_law 272 = .ok (.aload_n 0, 1) := by decide +kernel
theorem dL_law_273 : decode cL_law 273 = .ok (.iload_n 3, 1) := by decide +kernel
theorem dL_law_274 : decode cL_law 274 = .ok (.iconst 1, 1) := by decide +kernel
theorem dL_law_275 : decode cL_law 275 = .ok (.iadd, 1) := by decide +kernel
theorem dL_law_276 : decode cL_law 276 = .ok (.iaload, 1) := by decide +kernel
theorem dL_law_277 : decode cL_law 277 = .ok (.aload_n 0, 1) := by decide +kernel
theorem dL_law_278 : decode cL_law 278 = .ok (.iload_n 3, 1) := by decide +kernel
theorem dL_law_279 : decode cL_law 279 = .ok (.iconst 2, 1) := by decide +kernel
theorem dL_law_280 : decode cL_law 280 = .ok (.iadd, 1) := by decide +kernel
theorem dL_law_281 : decode cL_law 281 = .ok (.iaload, 1) := by decide +kernel
theorem dL_law_282 : decode cL_law 282 = .ok (.aload_n 0, 1) := by decide +kernel
theorem dL_law_283 : decode cL_law 283 = .ok (.iload_n 3, 1) := by decide +kernel
theorem dL_law_284 : decode cL_law 284 = .ok (.iconst 3, 1) := by decide +kernel
theorem dL_law_285 : decode cL_law 285 = .ok (.iadd, 1) := by decide +kernel
theorem dL_law_286 : decode cL_law 286 = .ok (.iaload, 1) := by decide +kernel
theorem dL_law_287 : decode cL_law 287 = .ok (.aload_n 0, 1) := by decide +kernel
theorem dL_law_288 : decode cL_law 288 = .ok (.iload_n 3, 1) := by decide +kernel
theorem dL_law_289 : decode cL_law 289 = .ok (.iconst 4, 1) := by decide +kernel
theorem dL_law_290 : decode cL_law 290 = .ok (.iadd, 1) := by decide +kernel
theorem dL_law_291 : decode cL_law 291 = .ok (.iaload, 1) := by decide +kernel
theorem dL_law_292 : decode cL_law 292 = .ok (.invokevirtual 30, 3) := by decide +kernel
theorem dL_law_295 : decode cL_law 295 = .ok (.aload_n 2, 1) := by decide +kernel
theorem dL_law_296 : decode cL_law 296 = .ok (.aload_n 0, 1) := by decide +kernel
theorem dL_law_297 : decode cL_law 297 = .ok (.iload_n 3, 1) := by decide +kernel
theorem dL_law_298 : decode cL_law 298 = .ok (.iconst 1, 1) := by decide +kernel
theorem dL_law_299 : decode cL_law 299 = .ok (.iadd, 1) := by decide +kernel
theorem dL_law_300 : decode cL_law 300 = .ok (.iaload, 1) := by decide +kernel
theorem dL_law_301 : decode cL_law 301 = .ok (.aload_n 0, 1) := by decide +kernel
theorem dL_law_302 : decode cL_law 302 = .ok (.iload_n 3, 1) := by decide +kernel
theorem dL_law_303 : decode cL_law 303 = .ok (.iconst 2, 1) := by decide +kernel
theorem dL_law_304 : decode cL_law 304 = .ok (.iadd, 1) := by decide +kernel
theorem dL_law_305 : decode cL_law 305 = .ok (.iaload, 1) := by decide +kernel
theorem dL_law_306 : decode cL_law 306 = .ok (.aload_n 0, 1) := by decide +kernel
theorem dL_law_307 : decode cL_law 307 = .ok (.iload_n 3, 1) := by decide +kernel
theorem dL_law_308 : decode cL_law 308 = .ok (.iconst 3, 1) := by decide +kernel
theorem dL_law_309 : decode cL_law 309 = .ok (.iadd, 1) := by decide +kernel
theorem dL_law_310 : decode cL_law 310 = .ok (.iaload, 1) := by decide +kernel
theorem dL_law_311 : decode cL_law 311 = .ok (.aload_n 0, 1) := by decide +kernel
theorem dL_law_312 : decode cL_law 312 = .ok (.iload_n 3, 1) := by decide +kernel
theorem dL_law_313 : decode cL_law 313 = .ok (.iconst 4, 1) := by decide +kernel
theorem dL_law_314 : decode cL_law 314 = .ok (.iadd, 1) := by decide +kernel
theorem dL_law_315 : decode cL_law 315 = .ok (.iaload, 1) := by decide +kernel
theorem dL_law_316 : decode cL_law 316 = .ok (.invokevirtual 34, 3) := by decide +kernel
theorem dL_law_319 : decode cL_law 319 = .ok (.if_icmp .eq 364, 3) := by decide +kernel
theorem dL_law_322 : decode cL_law 322 = .ok (.iconst 0, 1) := by decide +kernel
theorem dL_law_323 : decode cL_law 323 = .ok (.ireturn, 1) := by decide +kernel
theorem dL_law_324 : decode cL_law 324 = .ok (.aload_n 1, 1) := by decide +kernel
theorem dL_law_325 : decode cL_law 325 = .ok (.aload_n 0, 1) := by decide +kernel
theorem dL_law_326 : decode cL_law 326 = .ok (.iload_n 3, 1) := by decide +kernel
theorem dL_law_327 : decode cL_law 327 = .ok (.iconst 1, 1) := by decide +kernel
theorem dL_law_328 : decode cL_law 328 = .ok (.iadd, 1) := by decide +kernel
theorem dL_law_329 : decode cL_law 329 = .ok (.iaload, 1) := by decide +kernel
theorem dL_law_330 : decode cL_law 330 = .ok (.aload_n 0, 1) := by decide +kernel
theorem dL_law_331 : decode cL_law 331 = .ok (.iload_n 3, 1) := by decide +kernel
theorem dL_law_332 : decode cL_law 332 = .ok (.iconst 2, 1) := by decide +kernel
theorem dL_law_333 : decode cL_law 333 = .ok (.iadd, 1) := by decide +kernel
theorem dL_law_334 : decode cL_law 334 = .ok (.iaload, 1) := by decide +kernel
theorem dL_law_335 : decode cL_law 335 = .ok (.aload_n 0, 1) := by decide +kernel
theorem dL_law_336 : decode cL_law 336 = .ok (.iload_n 3, 1) := by decide +kernel
theorem dL_law_337 : decode cL_law 337 = .ok (.iconst 3, 1) := by decide +kernel
theorem dL_law_338 : decode cL_law 338 = .ok (.iadd, 1) := by decide +kernel
theorem dL_law_339 : decode cL_law 339 = .ok (.iaload, 1) := by decide +kernel
theorem dL_law_340 : decode cL_law 340 = .ok (.aload_n 0, 1) := by decide +kernel
theorem dL_law_341 : decode cL_law 341 = .ok (.iload_n 3, 1) := by decide +kernel
theorem dL_law_342 : decode cL_law 342 = .ok (.iconst 4, 1) := by decide +kernel
theorem dL_law_343 : decode cL_law 343 = .ok (.iadd, 1) := by decide +kernel
theorem dL_law_344 : decode cL_law 344 = .ok (.iaload, 1) := by decide +kernel
theorem dL_law_345 : decode cL_law 345 = .ok (.ifCond .eq 7, 3) := by decide +kernel
theorem dL_law_348 : decode cL_law 348 = .ok (.iconst 1, 1) := by decide +kernel
theorem dL_law_349 : decode cL_law 349 = .ok (.goto 4, 3) := by decide +kernel
theorem dL_law_352 : decode cL_law 352 = .ok (.iconst 0, 1) := by decide +kernel
theorem dL_law_353 : decode cL_law 353 = .ok (.invokevirtual 35, 3) := by decide +kernel
theorem dL_law_356 : decode cL_law 356 = .ok (.aload_n 2, 1) := by decide +kernel
theorem dL_law_357 : decode cL_law 357 = .ok (.aload_n 0, 1) := by decide +kernel
theorem dL_law_358 : decode cL_law 358 = .ok (.iload_n 3, 1) := by decide +kernel
theorem dL_law_359 : decode cL_law 359 = .ok (.iconst 1, 1) := by decide +kernel
theorem dL_law_360 : decode cL_law 360 = .ok (.iadd, 1) := by decide +kernel
theorem dL_law_361 : decode cL_law 361 = .ok (.iaload, 1) := by decide +kernel
theorem dL_law_362 : decode cL_law 362 = .ok (.aload_n 0, 1) := by decide +kernel
theorem dL_law_363 : decode cL_law 363 = .ok (.iload_n 3, 1) := by decide +kernel
theorem dL_law_364 : decode cL_law 364 = .ok (.iconst 2, 1) := by decide +kernel
theorem dL_law_365 : decode cL_law 365 = .ok (.iadd, 1) := by decide +kernel
theorem dL_law_366 : decode cL_law 366 = .ok (.iaload, 1) := by decide +kernel
theorem dL_law_367 : decode cL_law 367 = .ok (.aload_n 0, 1) := by decide +kernel
theorem dL_law_368 : decode cL_law 368 = .ok (.iload_n 3, 1) := by decide +kernel
theorem dL_law_369 : decode cL_law 369 = .ok (.iconst 3, 1) := by decide +kernel
theorem dL_law_370 : decode cL_law 370 = .ok (.iadd, 1) := by decide +kernel
theorem dL_law_371 : decode cL_law 371 = .ok (.iaload, 1) := by decide +kernel
theorem dL_law_372 : decode cL_law 372 = .ok (.aload_n 0, 1) := by decide +kernel
theorem dL_law_373 : decode cL_law 373 = .ok (.iload_n 3, 1) := by decide +kernel
theorem dL_law_374 : decode cL_law 374 = .ok (.iconst 4, 1) := by decide +kernel
theorem dL_law_375 : decode cL_law 375 = .ok (.iadd, 1) := by decide +kernel
theorem dL_law_376 : decode cL_law 376 = .ok (.iaload, 1) := by decide +kernel
theorem dL_law_377 : decode cL_law 377 = .ok (.ifCond .eq 7, 3) := by decide +kernel
theorem dL_law_380 : decode cL_law 380 = .ok (.iconst 1, 1) := by decide +kernel
theorem dL_law_381 : decode cL_law 381 = .ok (.goto 4, 3) := by decide +kernel
theorem dL_law_384 : decode cL_law 384 = .ok (.iconst 0, 1) := by decide +kernel
theorem dL_law_385 : decode cL_law 385 = .ok (.invokevirtual 39, 3) := by decide +kernel
theorem dL_law_388 : decode cL_law 388 = .ok (.if_icmp .eq 295, 3) := by decide +kernel
theorem dL_law_391 : decode cL_law 391 = .ok (.iconst 0, 1) := by decide +kernel
theorem dL_law_392 : decode cL_law 392 = .ok (.ireturn, 1) := by decide +kernel
theorem dL_law_393 : decode cL_law 393 = .ok (.aload_n 1, 1) := by decide +kernel
theorem dL_law_394 : decode cL_law 394 = .ok (.aload_n 0, 1) := by decide +kernel
theorem dL_law_395 : decode cL_law 395 = .ok (.iload_n 3, 1) := by decide +kernel
theorem dL_law_396 : decode cL_law 396 = .ok (.iconst 1, 1) := by decide +kernel
theorem dL_law_397 : decode cL_law 397 = .ok (.iadd, 1) := by decide +kernel
theorem dL_law_398 : decode cL_law 398 = .ok (.iaload, 1) := by decide +kernel
theorem dL_law_399 : decode cL_law 399 = .ok (.aload_n 0, 1) := by decide +kernel
theorem dL_law_400 : decode cL_law 400 = .ok (.iload_n 3, 1) := by decide +kernel
theorem dL_law_401 : decode cL_law 401 = .ok (.iconst 2, 1) := by decide +kernel
theorem dL_law_402 : decode cL_law 402 = .ok (.iadd, 1) := by decide +kernel
theorem dL_law_403 : decode cL_law 403 = .ok (.iaload, 1) := by decide +kernel
theorem dL_law_404 : decode cL_law 404 = .ok (.aload_n 0, 1) := by decide +kernel
theorem dL_law_405 : decode cL_law 405 = .ok (.iload_n 3, 1) := by decide +kernel
theorem dL_law_406 : decode cL_law 406 = .ok (.iconst 3, 1) := by decide +kernel
theorem dL_law_407 : decode cL_law 407 = .ok (.iadd, 1) := by decide +kernel
theorem dL_law_408 : decode cL_law 408 = .ok (.iaload, 1) := by decide +kernel
theorem dL_law_409 : decode cL_law 409 = .ok (.ifCond .eq 7, 3) := by decide +kernel
theorem dL_law_412 : decode cL_law 412 = .ok (.iconst 1, 1) := by decide +kernel
theorem dL_law_413 : decode cL_law 413 = .ok (.goto 4, 3) := by decide +kernel
theorem dL_law_416 : decode cL_law 416 = .ok (.iconst 0, 1) := by decide +kernel
theorem dL_law_417 : decode cL_law 417 = .ok (.invokevirtual 40, 3) := by decide +kernel
theorem dL_law_420 : decode cL_law 420 = .ok (.aload_n 2, 1) := by decide +kernel
theorem dL_law_421 : decode cL_law 421 = .ok (.aload_n 0, 1) := by decide +kernel
theorem dL_law_422 : decode cL_law 422 = .ok (.iload_n 3, 1) := by decide +kernel
theorem dL_law_423 : decode cL_law 423 = .ok (.iconst 1, 1) := by decide +kernel
theorem dL_law_424 : decode cL_law 424 = .ok (.iadd, 1) := by decide +kernel
theorem dL_law_425 : decode cL_law 425 = .ok (.iaload, 1) := by decide +kernel
theorem dL_law_426 : decode cL_law 426 = .ok (.aload_n 0, 1) := by decide +kernel
theorem dL_law_427 : decode cL_law 427 = .ok (.iload_n 3, 1) := by decide +kernel
theorem dL_law_428 : decode cL_law 428 = .ok (.iconst 2, 1) := by decide +kernel
theorem dL_law_429 : decode cL_law 429 = .ok (.iadd, 1) := by decide +kernel
theorem dL_law_430 : decode cL_law 430 = .ok (.iaload, 1) := by decide +kernel
theorem dL_law_431 : decode cL_law 431 = .ok (.aload_n 0, 1) := by decide +kernel
theorem dL_law_432 : decode cL_law 432 = .ok (.iload_n 3, 1) := by decide +kernel
theorem dL_law_433 : decode cL_law 433 = .ok (.iconst 3, 1) := by decide +kernel
theorem dL_law_434 : decode cL_law 434 = .ok (.iadd, 1) := by decide +kernel
theorem dL_law_435 : decode cL_law 435 = .ok (.iaload, 1) := by decide +kernel
theorem dL_law_436 : decode cL_law 436 = .ok (.ifCond .eq 7, 3) := by decide +kernel
theorem dL_law_439 : decode cL_law 439 = .ok (.iconst 1, 1) := by decide +kernel
theorem dL_law_440 : decode cL_law 440 = .ok (.goto 4, 3) := by decide +kernel
theorem dL_law_443 : decode cL_law 443 = .ok (.iconst 0, 1) := by decide +kernel
theorem dL_law_444 : decode cL_law 444 = .ok (.invokevirtual 44, 3) := by decide +kernel
theorem dL_law_447 : decode cL_law 447 = .ok (.if_icmp .eq 236, 3) := by decide +kernel
theorem dL_law_450 : decode cL_law 450 = .ok (.iconst 0, 1) := by decide +kernel
theorem dL_law_451 : decode cL_law 451 = .ok (.ireturn, 1) := by decide +kernel
theorem dL_law_452 : decode cL_law 452 = .ok (.aload_n 1, 1) := by decide +kernel
theorem dL_law_453 : decode cL_law 453 = .ok (.aload_n 0, 1) := by decide +kernel
theorem dL_law_454 : decode cL_law 454 = .ok (.iload_n 3, 1) := by decide +kernel
theorem dL_law_455 : decode cL_law 455 = .ok (.iconst 1, 1) := by decide +kernel
theorem dL_law_456 : decode cL_law 456 = .ok (.iadd, 1) := by decide +kernel
theorem dL_law_457 : decode cL_law 457 = .ok (.iaload, 1) := by decide +kernel
theorem dL_law_458 : decode cL_law 458 = .ok (.aload_n 0, 1) := by decide +kernel
theorem dL_law_459 : decode cL_law 459 = .ok (.iload_n 3, 1) := by decide +kernel
theorem dL_law_460 : decode cL_law 460 = .ok (.iconst 2, 1) := by decide +kernel
theorem dL_law_461 : decode cL_law 461 = .ok (.iadd, 1) := by decide +kernel
theorem dL_law_462 : decode cL_law 462 = .ok (.iaload, 1) := by decide +kernel
theorem dL_law_463 : decode cL_law 463 = .ok (.invokevirtual 45, 3) := by decide +kernel
theorem dL_law_466 : decode cL_law 466 = .ok (.aload_n 2, 1) := by decide +kernel
theorem dL_law_467 : decode cL_law 467 = .ok (.aload_n 0, 1) := by decide +kernel
theorem dL_law_468 : decode cL_law 468 = .ok (.iload_n 3, 1) := by decide +kernel
theorem dL_law_469 : decode cL_law 469 = .ok (.iconst 1, 1) := by decide +kernel
theorem dL_law_470 : decode cL_law 470 = .ok (.iadd, 1) := by decide +kernel
theorem dL_law_471 : decode cL_law 471 = .ok (.iaload, 1) := by decide +kernel
theorem dL_law_472 : decode cL_law 472 = .ok (.aload_n 0, 1) := by decide +kernel
theorem dL_law_473 : decode cL_law 473 = .ok (.iload_n 3, 1) := by decide +kernel
theorem dL_law_474 : decode cL_law 474 = .ok (.iconst 2, 1) := by decide +kernel
theorem dL_law_475 : decode cL_law 475 = .ok (.iadd, 1) := by decide +kernel
theorem dL_law_476 : decode cL_law 476 = .ok (.iaload, 1) := by decide +kernel
theorem dL_law_477 : decode cL_law 477 = .ok (.invokevirtual 48, 3) := by decide +kernel
theorem dL_law_480 : decode cL_law 480 = .ok (.if_icmp .eq 203, 3) := by decide +kernel
theorem dL_law_483 : decode cL_law 483 = .ok (.iconst 0, 1) := by decide +kernel
theorem dL_law_484 : decode cL_law 484 = .ok (.ireturn, 1) := by decide +kernel
theorem dL_law_485 : decode cL_law 485 = .ok (.aload_n 1, 1) := by decide +kernel
theorem dL_law_486 : decode cL_law 486 = .ok (.aload_n 0, 1) := by decide +kernel
theorem dL_law_487 : decode cL_law 487 = .ok (.iload_n 3, 1) := by decide +kernel
theorem dL_law_488 : decode cL_law 488 = .ok (.iconst 1, 1) := by decide +kernel
theorem dL_law_489 : decode cL_law 489 = .ok (.iadd, 1) := by decide +kernel
theorem dL_law_490 : decode cL_law 490 = .ok (.iaload, 1) := by decide +kernel
theorem dL_law_491 : decode cL_law 491 = .ok (.invokevirtual 49, 3) := by decide +kernel
theorem dL_law_494 : decode cL_law 494 = .ok (.aload_n 2, 1) := by decide +kernel
theorem dL_law_495 : decode cL_law 495 = .ok (.aload_n 0, 1) := by decide +kernel
theorem dL_law_496 : decode cL_law 496 = .ok (.iload_n 3, 1) := by decide +kernel
theorem dL_law_497 : decode cL_law 497 = .ok (.iconst 1, 1) := by decide +kernel
theorem dL_law_498 : decode cL_law 498 = .ok (.iadd, 1) := by decide +kernel
theorem dL_law_499 : decode cL_law 499 = .ok (.iaload, 1) := by decide +kernel
theorem dL_law_500 : decode cL_law 500 = .ok (.invokevirtual 53, 3) := by decide +kernel
theorem dL_law_503 : decode cL_law 503 = .ok (.if_icmp .eq 180, 3) := by decide +kernel
theorem dL_law_506 : decode cL_law 506 = .ok (.iconst 0, 1) := by decide +kernel
theorem dL_law_507 : decode cL_law 507 = .ok (.ireturn, 1) := by decide +kernel
theorem dL_law_508 : decode cL_law 508 = .ok (.aload_n 1, 1) := by decide +kernel
theorem dL_law_509 : decode cL_law 509 = .ok (.aload_n 0, 1) := by decide +kernel
theorem dL_law_510 : decode cL_law 510 = .ok (.iload_n 3, 1) := by decide +kernel
theorem dL_law_511 : decode cL_law 511 = .ok (.iconst 1, 1) := by decide +kernel
theorem dL_law_512 : decode cL_law 512 = .ok (.iadd, 1) := by decide +kernel
theorem dL_law_513 : decode cL_law 513 = .ok (.iaload, 1) := by decide +kernel
theorem dL_law_514 : decode cL_law 514 = .ok (.aload_n 0, 1) := by decide +kernel
theorem dL_law_515 : decode cL_law 515 = .ok (.iload_n 3, 1) := by decide +kernel
theorem dL_law_516 : decode cL_law 516 = .ok (.iconst 2, 1) := by decide +kernel
theorem dL_law_517 : decode cL_law 517 = .ok (.iadd, 1) := by decide +kernel
theorem dL_law_518 : decode cL_law 518 = .ok (.iaload, 1) := by decide +kernel
theorem dL_law_519 : decode cL_law 519 = .ok (.aload_n 0, 1) := by decide +kernel
theorem dL_law_520 : decode cL_law 520 = .ok (.iload_n 3, 1) := by decide +kernel
theorem dL_law_521 : decode cL_law 521 = .ok (.iconst 3, 1) := by decide +kernel
theorem dL_law_522 : decode cL_law 522 = .ok (.iadd, 1) := by decide +kernel
theorem dL_law_523 : decode cL_law 523 = .ok (.iaload, 1) := by decide +kernel
theorem dL_law_524 : decode cL_law 524 = .ok (.ifCond .eq 7, 3) := by decide +kernel
theorem dL_law_527 : decode cL_law 527 = .ok (.iconst 1, 1) := by decide +kernel
theorem dL_law_528 : decode cL_law 528 = .ok (.goto 4, 3) := by decide +kernel
theorem dL_law_531 : decode cL_law 531 = .ok (.iconst 0, 1) := by decide +kernel
theorem dL_law_532 : decode cL_law 532 = .ok (.invokevirtual 54, 3) := by decide +kernel
theorem dL_law_535 : decode cL_law 535 = .ok (.aload_n 2, 1) := by decide +kernel
theorem dL_law_536 : decode cL_law 536 = .ok (.aload_n 0, 1) := by decide +kernel
theorem dL_law_537 : decode cL_law 537 = .ok (.iload_n 3, 1) := by decide +kernel
theorem dL_law_538 : decode cL_law 538 = .ok (.iconst 1, 1) := by decide +kernel
theorem dL_law_539 : decode cL_law 539 = .ok (.iadd, 1) := by decide +kernel
theorem dL_law_540 : decode cL_law 540 = .ok (.iaload, 1) := by decide +kernel
theorem dL_law_541 : decode cL_law 541 = .ok (.aload_n 0, 1) := by decide +kernel
theorem dL_law_542 : decode cL_law 542 = .ok (.iload_n 3, 1) := by decide +kernel
theorem dL_law_543 : decode cL_law 543 = .ok (.iconst 2, 1) := by decide +kernel
theorem dL_law_544 : decode cL_law 544 = .ok (.iadd, 1) := by decide +kernel
theorem dL_law_545 : decode cL_law 545 = .ok (.iaload, 1) := by decide +kernel
theorem dL_law_546 : decode cL_law 546 = .ok (.aload_n 0, 1) := by decide +kernel
theorem dL_law_547 : decode cL_law 547 = .ok (.iload_n 3, 1) := by decide +kernel
theorem dL_law_548 : decode cL_law 548 = .ok (.iconst 3, 1) := by decide +kernel
theorem dL_law_549 : decode cL_law 549 = .ok (.iadd, 1) := by decide +kernel
theorem dL_law_550 : decode cL_law 550 = .ok (.iaload, 1) := by decide +kernel
theorem dL_law_551 : decode cL_law 551 = .ok (.ifCond .eq 7, 3) := by decide +kernel
theorem dL_law_554 : decode cL_law 554 = .ok (.iconst 1, 1) := by decide +kernel
theorem dL_law_555 : decode cL_law 555 = .ok (.goto 4, 3) := by decide +kernel
theorem dL_law_558 : decode cL_law 558 = .ok (.iconst 0, 1) := by decide +kernel
theorem dL_law_559 : decode cL_law 559 = .ok (.invokevirtual 58, 3) := by decide +kernel
theorem dL_law_562 : decode cL_law 562 = .ok (.if_icmp .eq 121, 3) := by decide +kernel
theorem dL_law_565 : decode cL_law 565 = .ok (.iconst 0, 1) := by decide +kernel
theorem dL_law_566 : decode cL_law 566 = .ok (.ireturn, 1) := by decide +kernel
theorem dL_law_567 : decode cL_law 567 = .ok (.aload_n 1, 1) := by decide +kernel
theorem dL_law_568 : decode cL_law 568 = .ok (.aload_n 0, 1) := by decide +kernel
theorem dL_law_569 : decode cL_law 569 = .ok (.iload_n 3, 1) := by decide +kernel
theorem dL_law_570 : decode cL_law 570 = .ok (.iconst 1, 1) := by decide +kernel
theorem dL_law_571 : decode cL_law 571 = .ok (.iadd, 1) := by decide +kernel
theorem dL_law_572 : decode cL_law 572 = .ok (.iaload, 1) := by decide +kernel
theorem dL_law_573 : decode cL_law 573 = .ok (.aload_n 0, 1) := by decide +kernel
theorem dL_law_574 : decode cL_law 574 = .ok (.iload_n 3, 1) := by decide +kernel
theorem dL_law_575 : decode cL_law 575 = .ok (.iconst 2, 1) := by decide +kernel
theorem dL_law_576 : decode cL_law 576 = .ok (.iadd, 1) := by decide +kernel
theorem dL_law_577 : decode cL_law 577 = .ok (.iaload, 1) := by decide +kernel
theorem dL_law_578 : decode cL_law 578 = .ok (.aload_n 0, 1) := by decide +kernel
theorem dL_law_579 : decode cL_law 579 = .ok (.iload_n 3, 1) := by decide +kernel
theorem dL_law_580 : decode cL_law 580 = .ok (.iconst 3, 1) := by decide +kernel
theorem dL_law_581 : decode cL_law 581 = .ok (.iadd, 1) := by decide +kernel
theorem dL_law_582 : decode cL_law 582 = .ok (.iaload, 1) := by decide +kernel
theorem dL_law_583 : decode cL_law 583 = .ok (.ifCond .eq 7, 3) := by decide +kernel
theorem dL_law_586 : decode cL_law 586 = .ok (.iconst 1, 1) := by decide +kernel
theorem dL_law_587 : decode cL_law 587 = .ok (.goto 4, 3) := by decide +kernel
theorem dL_law_590 : decode cL_law 590 = .ok (.iconst 0, 1) := by decide +kernel
theorem dL_law_591 : decode cL_law 591 = .ok (.invokevirtual 59, 3) := by decide +kernel
theorem dL_law_594 : decode cL_law 594 = .ok (.aload_n 2, 1) := by decide +kernel
theorem dL_law_595 : decode cL_law 595 = .ok (.aload_n 0, 1) := by decide +kernel
theorem dL_law_596 : decode cL_law 596 = .ok (.iload_n 3, 1) := by decide +kernel
theorem dL_law_597 : decode cL_law 597 = .ok (.iconst 1, 1) := by decide +kernel
theorem dL_law_598 : decode cL_law 598 = .ok (.iadd, 1) := by decide +kernel
theorem dL_law_599 : decode cL_law 599 = .ok (.iaload, 1) := by decide +kernel
theorem dL_law_600 : decode cL_law 600 = .ok (.aload_n 0, 1) := by decide +kernel
theorem dL_law_601 : decode cL_law 601 = .ok (.iload_n 3, 1) := by decide +kernel
theorem dL_law_602 : decode cL_law 602 = .ok (.iconst 2, 1) := by decide +kernel
theorem dL_law_603 : decode cL_law 603 = .ok (.iadd, 1) := by decide +kernel
theorem dL_law_604 : decode cL_law 604 = .ok (.iaload, 1) := by decide +kernel
theorem dL_law_605 : decode cL_law 605 = .ok (.aload_n 0, 1) := by decide +kernel
theorem dL_law_606 : decode cL_law 606 = .ok (.iload_n 3, 1) := by decide +kernel
theorem dL_law_607 : decode cL_law 607 = .ok (.iconst 3, 1) := by decide +kernel
theorem dL_law_608 : decode cL_law 608 = .ok (.iadd, 1) := by decide +kernel
theorem dL_law_609 : decode cL_law 609 = .ok (.iaload, 1) := by decide +kernel
theorem dL_law_610 : decode cL_law 610 = .ok (.ifCond .eq 7, 3) := by decide +kernel
theorem dL_law_613 : decode cL_law 613 = .ok (.iconst 1, 1) := by decide +kernel
theorem dL_law_614 : decode cL_law 614 = .ok (.goto 4, 3) := by decide +kernel
theorem dL_law_617 : decode cL_law 617 = .ok (.iconst 0, 1) := by decide +kernel
theorem dL_law_618 : decode cL_law 618 = .ok (.invokevirtual 63, 3) := by decide +kernel
theorem dL_law_621 : decode cL_law 621 = .ok (.lcmp, 1) := by decide +kernel
theorem dL_law_622 : decode cL_law 622 = .ok (.ifCond .eq 61, 3) := by decide +kernel
theorem dL_law_625 : decode cL_law 625 = .ok (.iconst 0, 1) := by decide +kernel
theorem dL_law_626 : decode cL_law 626 = .ok (.ireturn, 1) := by decide +kernel
theorem dL_law_627 : decode cL_law 627 = .ok (.aload_n 1, 1) := by decide +kernel
theorem dL_law_628 : decode cL_law 628 = .ok (.aload_n 0, 1) := by decide +kernel
theorem dL_law_629 : decode cL_law 629 = .ok (.iload_n 3, 1) := by decide +kernel
theorem dL_law_630 : decode cL_law 630 = .ok (.iconst 1, 1) := by decide +kernel
theorem dL_law_631 : decode cL_law 631 = .ok (.iadd, 1) := by decide +kernel
theorem dL_law_632 : decode cL_law 632 = .ok (.iaload, 1) := by decide +kernel
theorem dL_law_633 : decode cL_law 633 = .ok (.aload_n 0, 1) := by decide +kernel
theorem dL_law_634 : decode cL_law 634 = .ok (.iload_n 3, 1) := by decide +kernel
theorem dL_law_635 : decode cL_law 635 = .ok (.iconst 2, 1) := by decide +kernel
theorem dL_law_636 : decode cL_law 636 = .ok (.iadd, 1) := by decide +kernel
theorem dL_law_637 : decode cL_law 637 = .ok (.iaload, 1) := by decide +kernel
theorem dL_law_638 : decode cL_law 638 = .ok (.invokevirtual 64, 3) := by decide +kernel
theorem dL_law_641 : decode cL_law 641 = .ok (.aload_n 2, 1) := by decide +kernel
theorem dL_law_642 : decode cL_law 642 = .ok (.aload_n 0, 1) := by decide +kernel
theorem dL_law_643 : decode cL_law 643 = .ok (.iload_n 3, 1) := by decide +kernel
theorem dL_law_644 : decode cL_law 644 = .ok (.iconst 1, 1) := by decide +kernel
theorem dL_law_645 : decode cL_law 645 = .ok (.iadd, 1) := by decide +kernel
theorem dL_law_646 : decode cL_law 646 = .ok (.iaload, 1) := by decide +kernel
theorem dL_law_647 : decode cL_law 647 = .ok (.aload_n 0, 1) := by decide +kernel
theorem dL_law_648 : decode cL_law 648 = .ok (.iload_n 3, 1) := by decide +kernel
theorem dL_law_649 : decode cL_law 649 = .ok (.iconst 2, 1) := by decide +kernel
theorem dL_law_650 : decode cL_law 650 = .ok (.iadd, 1) := by decide +kernel
theorem dL_law_651 : decode cL_law 651 = .ok (.iaload, 1) := by decide +kernel
theorem dL_law_652 : decode cL_law 652 = .ok (.invokevirtual 67, 3) := by decide +kernel
theorem dL_law_655 : decode cL_law 655 = .ok (.if_icmp .eq 28, 3) := by decide +kernel
theorem dL_law_658 : decode cL_law 658 = .ok (.iconst 0, 1) := by decide +kernel
theorem dL_law_659 : decode cL_law 659 = .ok (.ireturn, 1) := by decide +kernel
theorem dL_law_660 : decode cL_law 660 = .ok (.aload_n 1, 1) := by decide +kernel
theorem dL_law_661 : decode cL_law 661 = .ok (.aload_n 0, 1) := by decide +kernel
theorem dL_law_662 : decode cL_law 662 = .ok (.iload_n 3, 1) := by decide +kernel
theorem dL_law_663 : decode cL_law 663 = .ok (.iconst 1, 1) := by decide +kernel
theorem dL_law_664 : decode cL_law 664 = .ok (.iadd, 1) := by decide +kernel
theorem dL_law_665 : decode cL_law 665 = .ok (.iaload, 1) := by decide +kernel
theorem dL_law_666 : decode cL_law 666 = .ok (.invokevirtual 68, 3) := by decide +kernel
theorem dL_law_669 : decode cL_law 669 = .ok (.aload_n 2, 1) := by decide +kernel
theorem dL_law_670 : decode cL_law 670 = .ok (.aload_n 0, 1) := by decide +kernel
theorem dL_law_671 : decode cL_law 671 = .ok (.iload_n 3, 1) := by decide +kernel
theorem dL_law_672 : decode cL_law 672 = .ok (.iconst 1, 1) := by decide +kernel
theorem dL_law_673 : decode cL_law 673 = .ok (.iadd, 1) := by decide +kernel
theorem dL_law_674 : decode cL_law 674 = .ok (.iaload, 1) := by decide +kernel
theorem dL_law_675 : decode cL_law 675 = .ok (.invokevirtual 71, 3) := by decide +kernel
theorem dL_law_678 : decode cL_law 678 = .ok (.if_icmp .eq 5, 3) := by decide +kernel
theorem dL_law_681 : decode cL_law 681 = .ok (.iconst 0, 1) := by decide +kernel
theorem dL_law_682 : decode cL_law 682 = .ok (.ireturn, 1) := by decide +kernel
theorem dL_law_683 : decode cL_law 683 = .ok (.iinc 3 5, 3) := by decide +kernel
theorem dL_law_686 : decode cL_law 686 = .ok (.goto (-668), 3) := by decide +kernel
theorem dL_law_689 : decode cL_law 689 = .ok (.iconst 1, 1) := by decide +kernel
theorem dL_law_690 : decode cL_law 690 = .ok (.ireturn, 1) := by decide +kernel
end
section
/-! ===== lN n to 2^64: shifts, and, or, masks, one bit ===== -/
theorem wb_tb (n : Nat) : (lN n).toBitVec = BitVec.ofNat 64 n := rfl
theorem wb_inj {a b : Int64} (h : a.toBitVec = b.toBitVec) : a = b := Int64.toBitVec_inj.mp h
theorem wb_tn {n : Nat} (h : n < 2 ^ 64) : (lN n).toBitVec.toNat = n := by rw [wb_tb, BitVec.toNat_ofNat, Nat.mod_eq_of_lt h]
theorem wb_of (x : Int64) : ∃ n, n < 2 ^ 64 ∧ x = lN n := ⟨x.toBitVec.toNat, x.toBitVec.isLt, wb_inj (by rw [wb_tb]; simp)⟩
theorem wb_of32 (x : Int32) : ∃ n, n < 2 ^ 32 ∧ x = nI n := ⟨x.toBitVec.toNat, x.toBitVec.isLt, Int32.toBitVec_inj.mp (by show _ = BitVec.ofNat 32 _; simp)⟩
theorem wb_c : ∀ k, k < 64 → ((nI k).toInt64 &&& 63) = lN k := by decide +kernel
theorem wb_cu : ∀ k, k < 64 → ((nI k).toInt64.toUInt64 &&& Int64.toUInt64 63) = UInt64.ofNat k := by decide +kernel
theorem wb_sm : ∀ k, k < 64 → (BitVec.ofNat 64 k).smod 64 = BitVec.ofNat 64 k := by decide +kernel
theorem wb_pw {a b : Nat} (h : a ≤ b) : 2 ^ b = 2 ^ a * 2 ^ (b - a) := by rw [← Nat.pow_add]; congr 1; omega
theorem wb_lt2 {a b : Nat} (h : a < b) : 2 ^ a < 2 ^ b := Nat.pow_lt_pow_right (by decide) h
theorem wb_mod (n : Nat) : lN n = lN (n % 2 ^ 64) := wb_inj (by rw [wb_tb, wb_tb]; apply BitVec.eq_of_toNat_eq; rw [BitVec.toNat_ofNat, BitVec.toNat_ofNat, Nat.mod_mod])
theorem wb_shr {n k : Nat} (hn : n < 2 ^ 64) (hk : k < 64) : ((lN n).toUInt64 >>> ((nI k).toInt64.toUInt64 &&& Int64.toUInt64 63)).toInt64 = lN (n / 2 ^ k) := by
  rw [wb_cu k hk]
  apply wb_inj
  apply BitVec.eq_of_toNat_eq
  show ((lN n).toUInt64 >>> UInt64.ofNat k).toNat = (BitVec.ofNat 64 _).toNat
  have h1 : (UInt64.ofNat k).toNat = k := by
    show (BitVec.ofNat 64 k).toNat = k
    rw [BitVec.toNat_ofNat, Nat.mod_eq_of_lt (by omega)]
  have h2 : (lN n).toUInt64.toNat = n := wb_tn hn
  rw [UInt64.toNat_shiftRight, h1, h2, Nat.mod_eq_of_lt hk, Nat.shiftRight_eq_div_pow, BitVec.toNat_ofNat, Nat.mod_eq_of_lt (Nat.lt_of_le_of_lt (Nat.div_le_self _ _) hn)]
theorem wb_shl (n : Nat) {k : Nat} (hk : k < 64) : lN n <<< ((nI k).toInt64 &&& 63) = lN (n * 2 ^ k) := by
  rw [wb_c k hk]
  apply wb_inj
  rw [Int64.toBitVec_shiftLeft, wb_tb, wb_tb, wb_tb, wb_sm k hk]
  apply BitVec.eq_of_toNat_eq
  rw [BitVec.shiftLeft_eq', BitVec.toNat_shiftLeft, BitVec.toNat_ofNat, BitVec.toNat_ofNat, BitVec.toNat_ofNat, Nat.mod_eq_of_lt (show k < 2 ^ 64 by omega), Nat.shiftLeft_eq, Nat.mul_mod, Nat.mod_mod, ← Nat.mul_mod]
theorem wb_and {a b : Nat} (ha : a < 2 ^ 64) (hb : b < 2 ^ 64) : lN a &&& lN b = lN (a &&& b) := by
  apply wb_inj
  rw [Int64.toBitVec_and, wb_tb, wb_tb, wb_tb]
  apply BitVec.eq_of_toNat_eq
  rw [BitVec.toNat_and, BitVec.toNat_ofNat, BitVec.toNat_ofNat, BitVec.toNat_ofNat, Nat.mod_eq_of_lt ha, Nat.mod_eq_of_lt hb, Nat.mod_eq_of_lt (Nat.and_lt_two_pow _ hb)]
theorem wb_or {a b : Nat} (ha : a < 2 ^ 64) (hb : b < 2 ^ 64) : lN a ||| lN b = lN (a ||| b) := by
  apply wb_inj
  rw [Int64.toBitVec_or, wb_tb, wb_tb, wb_tb]
  apply BitVec.eq_of_toNat_eq
  rw [BitVec.toNat_or, BitVec.toNat_ofNat, BitVec.toNat_ofNat, BitVec.toNat_ofNat, Nat.mod_eq_of_lt ha, Nat.mod_eq_of_lt hb, Nat.mod_eq_of_lt (Nat.or_lt_two_pow ha hb)]
theorem wb_mask {n k : Nat} (hn : n < 2 ^ 64) (hk : k < 64) : lN n &&& lN (2 ^ k - 1) = lN (n % 2 ^ k) := by
  rw [wb_and hn (by have := wb_lt2 hk; omega), Nat.and_two_pow_sub_one_eq_mod]
theorem wb_a1 {n : Nat} (hn : n < 2 ^ 64) : lN n &&& 1 = lN (n % 2) := wb_mask (k := 1) hn (by decide)
theorem wb_bit {n k : Nat} (hn : n < 2 ^ 64) (hk : k < 64) : ((lN n).toUInt64 >>> ((nI k).toInt64.toUInt64 &&& Int64.toUInt64 63)).toInt64 &&& 1 = lN (n / 2 ^ k % 2) := by
  rw [wb_shr hn hk, wb_a1 (Nat.lt_of_le_of_lt (Nat.div_le_self _ _) hn)]
theorem wb_xor {q k : Nat} (hk : k < 63) (h : 2 ^ k ≤ q) (h2 : q < 2 ^ (k + 1)) : lN q ^^^ lN (2 ^ k) = lN (q - 2 ^ k) := by
  obtain ⟨r, rfl⟩ : ∃ r, q = 2 ^ k + r := ⟨q - 2 ^ k, by omega⟩
  have hr : r < 2 ^ k := by rw [Nat.pow_succ] at h2; omega
  have hx : (2 ^ k + r) ^^^ 2 ^ k = r := by
    apply Nat.eq_of_testBit_eq
    intro i
    rw [Nat.testBit_xor, Nat.testBit_two_pow]
    rcases Nat.lt_trichotomy i k with h | h | h
    · rw [Nat.testBit_two_pow_add_gt h]
      simp [show ¬ k = i by omega]
    · subst h
      rw [Nat.testBit_two_pow_add_eq]
      simp
    · have a1 : 2 ^ (k + 1) ≤ 2 ^ i := Nat.pow_le_pow_right (by decide) h
      rw [Nat.testBit_lt_two_pow (show 2 ^ k + r < 2 ^ i by omega), Nat.testBit_lt_two_pow (show r < 2 ^ i by omega)]
      simp [show ¬ k = i by omega]
  have b1 := wb_lt2 (show k + 1 < 64 by omega)
  have b2 := wb_lt2 (show k < 64 by omega)
  apply wb_inj
  rw [Int64.toBitVec_xor, wb_tb, wb_tb, wb_tb]
  apply BitVec.eq_of_toNat_eq
  rw [BitVec.toNat_xor, BitVec.toNat_ofNat, BitVec.toNat_ofNat, BitVec.toNat_ofNat, Nat.mod_eq_of_lt (by omega : 2 ^ k + r < 2 ^ 64), Nat.mod_eq_of_lt b2, hx, Nat.add_sub_cancel_left, Nat.mod_eq_of_lt (by omega)]
/-! ===== lN: masks, 'or' of parts that don't overlap is a sum ===== -/
theorem u_tn {n : Nat} (h : n < 2 ^ 64) : (UInt64.ofNat n).toNat = n := Nat.mod_eq_of_lt h
theorem g_and {a b c : Nat} (ha : a < 2 ^ 64) (hb : b < 2 ^ 64) (hc : a &&& b = c) : lN a &&& lN b = lN c := by
  subst hc
  have h : UInt64.ofNat a &&& UInt64.ofNat b = UInt64.ofNat (a &&& b) := UInt64.toNat_inj.mp (by rw [UInt64.toNat_and, u_tn ha, u_tn hb, u_tn (Nat.and_lt_two_pow a hb)])
  have h2 := congrArg UInt64.toInt64 h
  exact h2
theorem g_and1 {a : Nat} (ha : a < 2 ^ 64) : lN a &&& 1 = lN (a % 2) := g_and (b := 1) ha (by decide) (Nat.and_two_pow_sub_one_eq_mod a 1)
theorem g_mask {a s p : Nat} (hp : 2 ^ s = p) (hs : s < 64) (ha : a < 2 ^ 64) : lN a &&& lN (p - 1) = lN (a % p) := by
  subst hp
  have := Nat.pow_lt_pow_right (show 1 < 2 by decide) hs
  exact g_and ha (by omega) (Nat.and_two_pow_sub_one_eq_mod a s)
theorem g_or {k p a b : Nat} (hp : 2 ^ k = p) (ha : a < p) (h : b * p + a < 2 ^ 64) : lN (b * p) ||| lN a = lN (b * p + a) := by
  subst hp
  have h1 : b * 2 ^ k ||| a = b * 2 ^ k + a := by rw [← Nat.shiftLeft_eq, Nat.shiftLeft_add_eq_or_of_lt ha]
  have h3 : UInt64.ofNat (b * 2 ^ k) ||| UInt64.ofNat a = UInt64.ofNat (b * 2 ^ k + a) := UInt64.toNat_inj.mp (by rw [UInt64.toNat_or, u_tn (by omega), u_tn (by omega), u_tn h, h1])
  have h2 := congrArg UInt64.toInt64 h3
  exact h2
theorem g_or' {k p a b : Nat} (hp : 2 ^ k = p) (ha : a < p) (h : a + b * p < 2 ^ 64) : lN a ||| lN (b * p) = lN (a + b * p) := by
  rw [Int64.or_comm, g_or hp ha (by omega), Nat.add_comm]
theorem g_ushr {a k p : Nat} {y : UInt64} (hy : y = UInt64.ofNat k) (hk : k < 64) (hp : 2 ^ k = p) (ha : a < 2 ^ 64) : ((lN a).toUInt64 >>> y).toInt64 = lN (a / p) := by
  subst hy hp
  have h : UInt64.ofNat a >>> UInt64.ofNat k = UInt64.ofNat (a / 2 ^ k) := UInt64.toNat_inj.mp (by rw [UInt64.toNat_shiftRight, u_tn ha, u_tn (by omega), u_tn (Nat.lt_of_le_of_lt (Nat.div_le_self _ _) ha), Nat.mod_eq_of_lt hk, Nat.shiftRight_eq_div_pow])
  have h2 := congrArg UInt64.toInt64 h
  exact h2
theorem g_shl {a k p : Nat} {y : Int64} (hy : y.toBitVec.smod 64 = BitVec.ofNat 64 k) (hk : k < 64) (hp : 2 ^ k = p) (ha : a < 2 ^ 64) : lN a <<< y = lN (a * p) := by
  subst hp
  apply Int64.toBitVec_inj.mp
  rw [Int64.toBitVec_shiftLeft, hy]
  apply BitVec.eq_of_toNat_eq
  have hb : (lN a).toBitVec.toNat = a := Nat.mod_eq_of_lt ha
  have hk' : (BitVec.ofNat 64 k).toNat = k := Nat.mod_eq_of_lt (by omega)
  have h : ((lN a).toBitVec <<< BitVec.ofNat 64 k).toNat = (a * 2 ^ k) % 2 ^ 64 := by simp only [BitVec.shiftLeft_eq', BitVec.toNat_shiftLeft, hb, hk', Nat.shiftLeft_eq]
  exact h
/-! MY BASE: heaps as maps; arrays of limbs as functions into Nat; contracts with an exact heap -/
def hput (H : Heap) (a : Nat) (x : Cell) : Heap := H.setIfInBounds a x
theorem hput_size (H : Heap) (a : Nat) (x : Cell) : (hput H a x).size = H.size := by simp [hput]
theorem hput_self {H : Heap} {a : Nat} (x : Cell) (h : a < H.size) : (hput H a x)[a]? = some x := by
  simp [hput, h]
theorem hput_ne {H : Heap} {a b : Nat} (x : Cell) (h : b ≠ a) : (hput H a x)[b]? = H[b]? := by
  unfold hput
  rw [Array.getElem?_setIfInBounds, if_neg (Ne.symm h)]
theorem hput_put (H : Heap) (a : Nat) (x y : Cell) : hput (hput H a x) a y = hput H a y := by
  simp [hput]
theorem hput_comm (H : Heap) {a b : Nat} (x y : Cell) (h : a ≠ b) : hput (hput H a x) b y = hput (hput H b y) a x := by
  apply Array.ext_getElem?
  intro i
  by_cases h1 : i = a
  · subst h1
    rw [hput_ne _ h]
    by_cases h2 : i < H.size
    · rw [hput_self _ h2, hput_self _ (by rw [hput_size]; exact h2)]
    · rw [Array.getElem?_eq_none (by rw [hput_size]; omega), Array.getElem?_eq_none (by rw [hput_size, hput_size]; omega)]
  · rw [hput_ne (H := hput H b y) _ h1]
    by_cases h3 : i = b
    · subst h3
      by_cases h2 : i < H.size
      · rw [hput_self _ h2, hput_self _ (by rw [hput_size]; exact h2)]
      · rw [Array.getElem?_eq_none (by rw [hput_size, hput_size]; omega), Array.getElem?_eq_none (by rw [hput_size]; omega)]
    · rw [hput_ne _ h3, hput_ne _ h1, hput_ne _ h3]
theorem hput_same {H : Heap} {a : Nat} {x : Cell} (h : H[a]? = some x) : hput H a x = H := by
  apply Array.ext_getElem?
  intro i
  by_cases h1 : i = a
  · subst h1
    rw [hput_self _ (Array.getElem?_eq_some_iff.mp h).1, h]
  · rw [hput_ne _ h1]
theorem hput_of {H H1 : Heap} {a : Nat} {x : Cell} (h : H1[a]? = some x) (hs : H1.size = H.size) (ho : ∀ q, q ≠ a → H1[q]? = H[q]?) : H1 = hput H a x := by
  apply Array.ext_getElem?
  intro i
  by_cases h1 : i = a
  · subst h1
    rw [h, hput_self _ (by rw [← hs]; exact (Array.getElem?_eq_some_iff.mp h).1)]
  · rw [hput_ne _ h1, ho i h1]
theorem lt_of_at {H : Heap} {a : Nat} {x : Cell} (h : H[a]? = some x) : a < H.size := (Array.getElem?_eq_some_iff.mp h).1
/-- a function changed at one place -/
def fup {α : Type} (f : Nat → α) (i : Nat) (x : α) : Nat → α := fun j => if j = i then x else f j
theorem fup_s {α : Type} (f : Nat → α) (i : Nat) (x : α) : fup f i x i = x := by simp [fup]
theorem fup_n {α : Type} (f : Nat → α) {i j : Nat} (x : α) (h : j ≠ i) : fup f i x j = f j := by simp [fup, h]
theorem fup_up {α : Type} (f : Nat → α) (i : Nat) (x y : α) : fup (fup f i x) i y = fup f i y := by
  funext j; unfold fup; split <;> rfl
abbrev gG : Type := va_G × (Nat → ClassId)
/-- the classes, and the array classes: long, boolean, byte, long[], int -/
abbrev tyG (G : gG) : List (ClassId × FieldType) := [(G.2 0, .long), (G.2 1, .boolean), (G.2 2, .byte), (G.2 3, .array .long), (G.2 4, .int)]
def KK (G : gG) (U : State) : Prop := va_K G.1 vwCl (tyG G) U
theorem KK.moved {G : gG} {u U : State} (hvm : u.vm.Alike U.vm) (h : KK G u) : KK G U := va_K.moved hvm h
def aJ (G : gG) (n : Nat) (f : Nat → Nat) : Cell := arrV (G.2 0) n (fun j => .long (lN (f j)))
def aZ (G : gG) (n : Nat) (f : Nat → Nat) : Cell := arrV (G.2 1) n (fun j => .int (nI (f j)))
def aB (G : gG) (n : Nat) (f : Nat → Nat) : Cell := arrV (G.2 2) n (fun j => .int (nI (f j)))
def aI (G : gG) (n : Nat) (f : Nat → Int32) : Cell := arrV (G.2 4) n (fun j => .int (f j))
def aR (G : gG) (n : Nat) (f : Nat → Nat) : Cell := arrV (G.2 3) n (fun j => .ref (f j))
theorem updV_J (f : Nat → Nat) (i x : Nat) : updV (fun j => Value.long (lN (f j))) i (.long (lN x)) = fun j => Value.long (lN (fup f i x j)) := by
  funext j; unfold updV fup; split <;> rfl
theorem updV_N (f : Nat → Nat) (i x : Nat) : updV (fun j => Value.int (nI (f j))) i (.int (nI x)) = fun j => Value.int (nI (fup f i x j)) := by
  funext j; unfold updV fup; split <;> rfl
theorem updV_I (f : Nat → Int32) (i : Nat) (x : Int32) : updV (fun j => Value.int (f j)) i (.int x) = fun j => Value.int (fup f i x j) := by
  funext j; unfold updV fup; split <;> rfl
/-- what a method answers, and the heap behind it -/
def QcI (P : Int32 → Heap → Prop) : Array Value → State → Outcome → State → Prop := fun _ _ o t => ∃ r, o = .returned (some (.int r)) ∧ P r t.heap
def QcL (P : Int64 → Heap → Prop) : Array Value → State → Outcome → State → Prop := fun _ _ o t => ∃ r, o = .returned (some (.long r)) ∧ P r t.heap
def QcV (P : Heap → Prop) : Array Value → State → Outcome → State → Prop := fun _ _ o t => o = .returned none ∧ P t.heap
/-- the start of a method: its arguments, the heap, the tables -/
def PcH (G : gG) (H : Heap) (As : List Value) : Array Value → State → Prop := va_Pc As (fun U => U.heap = H ∧ KK G U)
theorem PcH_blind (G : gG) (H : Heap) (As : List Value) : FrameBlind (PcH G H As) := fun a U g mk q => by
  obtain ⟨q0, q1, q2⟩ := q
  exact ⟨q0, q1, KK.moved (u := U) (U := U.calling g mk a) (Vm.Alike.refl U.vm) q2⟩
/-- the locations written so far are all from b0 on -/
def lcs (b0 : Nat) (locs : List Loc) : Prop := ∀ q ∈ locs, b0 ≤ q.base
theorem lcs_nil (b0 : Nat) : lcs b0 [] := fun _ h => by cases h
theorem lcs_add {b0 : Nat} {locs : List Loc} (h : lcs b0 locs) {a k : Nat} (ha : b0 ≤ a) : lcs b0 (locs ++ [⟨a, k⟩]) := by
  intro q hq
  rcases List.mem_append.mp hq with h1 | h1
  · exact h q h1
  · rw [List.mem_singleton.mp h1]; exact ha
theorem lcs_app {b0 : Nat} {locs L : List Loc} (h : lcs b0 locs) (h2 : ∀ q ∈ L, b0 ≤ q.base) : lcs b0 (locs ++ L) := by
  intro q hq
  rcases List.mem_append.mp hq with h1 | h1
  · exact h q h1
  · exact h2 q h1
abbrev fre (b0 : Nat) : Addr → Prop := fun q => b0 ≤ q
theorem nI_inj {a b : Nat} (ha : a < 2 ^ 31) (hb : b < 2 ^ 31) : nI a = nI b ↔ a = b := nI_eq ha hb
theorem nI_decI (x : Int32) : x + Int32.ofInt (-1) = x - 1 := by rw [Int32.sub_eq_add_neg]; rfl
theorem lN_ne0 {n : Nat} (h0 : 0 < n) (h : n < 2 ^ 63) : ¬ lN n = 0 := by
  intro q
  have := (pk_lEQ h (show 0 < 2 ^ 63 by decide)).mp (q.trans (show (0 : Int64) = lN 0 from rfl))
  omega
theorem m_maskN (a : Nat) : lN a &&& lN 4294967295 = lN (a % 4294967296) := by
  rw [wb_mod a]
  have h := wb_mask (n := a % 2 ^ 64) (k := 32) (Nat.mod_lt _ (by decide)) (by decide)
  rw [show (2 : Nat) ^ 32 - 1 = 4294967295 from rfl] at h
  rw [h, show (2 : Nat) ^ 32 = 4294967296 from rfl, Nat.mod_mod_of_dvd _ (by decide)]
theorem sub_lN {a b : Nat} (hb : b ≤ 18446744073709551616) : lN a - lN b = lN (a + 18446744073709551616 - b) := by
  have h1 : lN (a + 18446744073709551616 - b) + lN b = lN a := by
    rw [lN_add, show a + 18446744073709551616 - b + b = a + 18446744073709551616 by omega]
    exact (wb_mod _).trans ((congrArg lN (show (a + 18446744073709551616) % 2 ^ 64 = a % 2 ^ 64 by omega)).trans (wb_mod a).symm)
  rw [← h1]
  grind
theorem sub_mask {a b : Nat} (hb : b ≤ 4294967296) : lN a - lN b &&& lN 4294967295 = lN ((a + 4294967296 - b) % 4294967296) := by
  rw [sub_lN (by omega), m_maskN]
  exact congrArg lN (by omega)
theorem sub_sub_lN (a b c : Nat) : lN a - lN b - lN c = lN a - lN (b + c) := by
  rw [← lN_add]
  grind
theorem sub_ge0 {a b : Nat} (ha : a < 2 ^ 62) (hb : b < 2 ^ 62) : lN 0 ≤ lN a - lN b ↔ b ≤ a := by
  rw [Int64.le_iff_toInt_le, Int64.toInt_sub, pk_lT (by omega), pk_lT (by omega), pk_lT (by omega), Int.bmod_def]
  split <;> omega
theorem not_mask {a : Nat} (ha : a < 4294967296) : (lN a ^^^ (-1)) &&& lN 4294967295 = lN (4294967295 - a) := by
  have h1 : lN a ^^^ (-1) = lN (18446744073709551615 - a) := by
    apply wb_inj
    rw [Int64.toBitVec_xor, wb_tb, wb_tb, show (-1 : Int64).toBitVec = BitVec.allOnes 64 from rfl, BitVec.xor_allOnes]
    apply BitVec.eq_of_toNat_eq
    rw [BitVec.toNat_not, BitVec.toNat_ofNat, BitVec.toNat_ofNat]
    omega
  rw [h1, m_maskN]
  exact congrArg lN (by omega)
theorem lN_xor2 (a b : Nat) : lN a ^^^ lN b = lN (a ^^^ b) := by
  apply wb_inj
  rw [Int64.toBitVec_xor, wb_tb, wb_tb, wb_tb]
  apply BitVec.eq_of_getLsbD_eq
  intro i hi
  simp [hi]
theorem nI_i2b {a : Nat} (ha : a < 128) : (nI a).toInt8.toInt32 = nI a := by
  have : ∀ a, a < 128 → (nI a).toInt8.toInt32 = nI a := by decide +kernel
  exact this a ha
theorem nar_b {a : Nat} (ha : a < 128) : narrow .byte (.int (nI a)) = .int (nI a) := by
  have : ∀ a, a < 128 → narrow .byte (.int (nI a)) = .int (nI a) := by decide +kernel
  exact this a ha
theorem nar_z {a : Nat} (ha : a < 2) : narrow .boolean (.int (nI a)) = .int (nI a) := by
  have : ∀ a, a < 2 → narrow .boolean (.int (nI a)) = .int (nI a) := by decide +kernel
  exact this a ha
section RW
variable {p : Program} {l : Launch} {e : Env} {R : Room} {s : State} {m : MethodId} {args : Array Value} {below : List Frame} {meth : Method} {c : Code} {H : Heap} {locs : List Loc} {cells slots : Nat} {Q : State → Prop}
variable {cc : ByteArray} {pc : Nat} {ls : Array Slot} {rest : List Value}
-- ints
theorem m_iadd (hx : p.tables.exec = Jvm.exec) (hb : c.code = cc) {a b : Nat} (hdg : decode cc pc = .ok (.iadd, 1)) (k : W p l e R s m args below meth c H locs cells slots Q (F0 m (pc + 1) ls (.int (nI (a + b)) :: rest))) : W p l e R s m args below meth c H locs cells slots Q (F0 m pc ls (.int (nI b) :: .int (nI a) :: rest)) := lv_iadd hx hb hdg (by rw [nI_add]; exact k)
theorem m_isub (hx : p.tables.exec = Jvm.exec) (hb : c.code = cc) {a b : Nat} (h : b ≤ a) (hdg : decode cc pc = .ok (.isub, 1)) (k : W p l e R s m args below meth c H locs cells slots Q (F0 m (pc + 1) ls (.int (nI (a - b)) :: rest))) : W p l e R s m args below meth c H locs cells slots Q (F0 m pc ls (.int (nI b) :: .int (nI a) :: rest)) := lv_isub hx hb hdg (by rw [pk_sub h]; exact k)
theorem m_imul (hx : p.tables.exec = Jvm.exec) (hb : c.code = cc) {a b : Nat} (hdg : decode cc pc = .ok (.imul, 1)) (k : W p l e R s m args below meth c H locs cells slots Q (F0 m (pc + 1) ls (.int (nI (a * b)) :: rest))) : W p l e R s m args below meth c H locs cells slots Q (F0 m pc ls (.int (nI b) :: .int (nI a) :: rest)) := lv_imul hx hb hdg (by rw [pk_mul]; exact k)
theorem m_idiv (hx : p.tables.exec = Jvm.exec) (hb : c.code = cc) {a b : Nat} (ha : a < 2 ^ 31) (h0 : 0 < b) (hb2 : b < 2 ^ 31) (hdg : decode cc pc = .ok (.idiv, 1)) (k : W p l e R s m args below meth c H locs cells slots Q (F0 m (pc + 1) ls (.int (nI (a / b)) :: rest))) : W p l e R s m args below meth c H locs cells slots Q (F0 m pc ls (.int (nI b) :: .int (nI a) :: rest)) := lv_idiv hx hb hdg (nI_ne0 h0 hb2) (by rw [pk_div ha h0 hb2]; exact k)
theorem m_irem (hx : p.tables.exec = Jvm.exec) (hb : c.code = cc) {a b : Nat} (ha : a < 2 ^ 31) (h0 : 0 < b) (hb2 : b < 2 ^ 31) (hdg : decode cc pc = .ok (.irem, 1)) (k : W p l e R s m args below meth c H locs cells slots Q (F0 m (pc + 1) ls (.int (nI (a % b)) :: rest))) : W p l e R s m args below meth c H locs cells slots Q (F0 m pc ls (.int (nI b) :: .int (nI a) :: rest)) := lv_irem hx hb hdg (nI_ne0 h0 hb2) (by rw [pk_rem ha h0 hb2]; exact k)
theorem m_icmp_eq (hx : p.tables.exec = Jvm.exec) (hb : c.code = cc) {a b tgt : Nat} {off : Int} (ha : a < 2 ^ 31) (hb2 : b < 2 ^ 31) (hdg : decode cc pc = .ok (.if_icmp .eq off, 3)) (ht : (pc : Int) + off = (tgt : Int)) (kt : a = b → W p l e R s m args below meth c H locs cells slots Q (F0 m tgt ls rest)) (kf : a ≠ b → W p l e R s m args below meth c H locs cells slots Q (F0 m (pc + 3) ls rest)) : W p l e R s m args below meth c H locs cells slots Q (F0 m pc ls (.int (nI b) :: .int (nI a) :: rest)) := lv_icmp_eq hx hb hdg ht (fun h => kt ((nI_eq ha hb2).mp h)) (fun h => kf (fun z => h ((nI_eq ha hb2).mpr z)))
theorem m_icmp_ne (hx : p.tables.exec = Jvm.exec) (hb : c.code = cc) {a b tgt : Nat} {off : Int} (ha : a < 2 ^ 31) (hb2 : b < 2 ^ 31) (hdg : decode cc pc = .ok (.if_icmp .ne off, 3)) (ht : (pc : Int) + off = (tgt : Int)) (kt : a ≠ b → W p l e R s m args below meth c H locs cells slots Q (F0 m tgt ls rest)) (kf : a = b → W p l e R s m args below meth c H locs cells slots Q (F0 m (pc + 3) ls rest)) : W p l e R s m args below meth c H locs cells slots Q (F0 m pc ls (.int (nI b) :: .int (nI a) :: rest)) := lv_icmp_ne hx hb hdg ht (fun h => kt (fun z => h ((nI_eq ha hb2).mpr z))) (fun h => kf ((nI_eq ha hb2).mp h))
theorem m_icmp_lt (hx : p.tables.exec = Jvm.exec) (hb : c.code = cc) {a b tgt : Nat} {off : Int} (ha : a < 2 ^ 31) (hb2 : b < 2 ^ 31) (hdg : decode cc pc = .ok (.if_icmp .lt off, 3)) (ht : (pc : Int) + off = (tgt : Int)) (kt : a < b → W p l e R s m args below meth c H locs cells slots Q (F0 m tgt ls rest)) (kf : b ≤ a → W p l e R s m args below meth c H locs cells slots Q (F0 m (pc + 3) ls rest)) : W p l e R s m args below meth c H locs cells slots Q (F0 m pc ls (.int (nI b) :: .int (nI a) :: rest)) := lv_icmp_lt hx hb hdg ht (fun h => kt ((nI_ltI ha hb2).mp h)) (fun h => kf (Nat.not_lt.mp (fun z => h ((nI_ltI ha hb2).mpr z))))
theorem m_icmp_ge (hx : p.tables.exec = Jvm.exec) (hb : c.code = cc) {a b tgt : Nat} {off : Int} (ha : a < 2 ^ 31) (hb2 : b < 2 ^ 31) (hdg : decode cc pc = .ok (.if_icmp .ge off, 3)) (ht : (pc : Int) + off = (tgt : Int)) (kt : b ≤ a → W p l e R s m args below meth c H locs cells slots Q (F0 m tgt ls rest)) (kf : a < b → W p l e R s m args below meth c H locs cells slots Q (F0 m (pc + 3) ls rest)) : W p l e R s m args below meth c H locs cells slots Q (F0 m pc ls (.int (nI b) :: .int (nI a) :: rest)) := lv_icmp_ge hx hb hdg ht (fun h => kt ((nI_leI hb2 ha).mp h)) (fun h => kf (Nat.not_le.mp (fun z => h ((nI_leI hb2 ha).mpr z))))
theorem m_icmp_gt (hx : p.tables.exec = Jvm.exec) (hb : c.code = cc) {a b tgt : Nat} {off : Int} (ha : a < 2 ^ 31) (hb2 : b < 2 ^ 31) (hdg : decode cc pc = .ok (.if_icmp .gt off, 3)) (ht : (pc : Int) + off = (tgt : Int)) (kt : b < a → W p l e R s m args below meth c H locs cells slots Q (F0 m tgt ls rest)) (kf : a ≤ b → W p l e R s m args below meth c H locs cells slots Q (F0 m (pc + 3) ls rest)) : W p l e R s m args below meth c H locs cells slots Q (F0 m pc ls (.int (nI b) :: .int (nI a) :: rest)) := lv_icmp_gt hx hb hdg ht (fun h => kt ((nI_ltI hb2 ha).mp h)) (fun h => kf (Nat.not_lt.mp (fun z => h ((nI_ltI hb2 ha).mpr z))))
theorem m_icmp_le (hx : p.tables.exec = Jvm.exec) (hb : c.code = cc) {a b tgt : Nat} {off : Int} (ha : a < 2 ^ 31) (hb2 : b < 2 ^ 31) (hdg : decode cc pc = .ok (.if_icmp .le off, 3)) (ht : (pc : Int) + off = (tgt : Int)) (kt : a ≤ b → W p l e R s m args below meth c H locs cells slots Q (F0 m tgt ls rest)) (kf : b < a → W p l e R s m args below meth c H locs cells slots Q (F0 m (pc + 3) ls rest)) : W p l e R s m args below meth c H locs cells slots Q (F0 m pc ls (.int (nI b) :: .int (nI a) :: rest)) := lv_icmp_le hx hb hdg ht (fun h => kt ((nI_leI ha hb2).mp h)) (fun h => kf (Nat.not_le.mp (fun z => h ((nI_leI ha hb2).mpr z))))
theorem m_if_eq (hx : p.tables.exec = Jvm.exec) (hb : c.code = cc) {a tgt : Nat} {off : Int} (ha : a < 2 ^ 31) (hdg : decode cc pc = .ok (.ifCond .eq off, 3)) (ht : (pc : Int) + off = (tgt : Int)) (kt : a = 0 → W p l e R s m args below meth c H locs cells slots Q (F0 m tgt ls rest)) (kf : a ≠ 0 → W p l e R s m args below meth c H locs cells slots Q (F0 m (pc + 3) ls rest)) : W p l e R s m args below meth c H locs cells slots Q (F0 m pc ls (.int (nI a) :: rest)) := lv_if_eq hx hb hdg ht (fun h => kt ((nI_eq ha (by omega)).mp (h.trans nI_0.symm))) (fun h => kf (fun z => h (by rw [z, nI_0])))
theorem m_if_ne (hx : p.tables.exec = Jvm.exec) (hb : c.code = cc) {a tgt : Nat} {off : Int} (ha : a < 2 ^ 31) (hdg : decode cc pc = .ok (.ifCond .ne off, 3)) (ht : (pc : Int) + off = (tgt : Int)) (kt : a ≠ 0 → W p l e R s m args below meth c H locs cells slots Q (F0 m tgt ls rest)) (kf : a = 0 → W p l e R s m args below meth c H locs cells slots Q (F0 m (pc + 3) ls rest)) : W p l e R s m args below meth c H locs cells slots Q (F0 m pc ls (.int (nI a) :: rest)) := lv_if_ne hx hb hdg ht (fun h => kt (fun z => h (by rw [z, nI_0]))) (fun h => kf ((nI_eq ha (by omega)).mp (h.trans nI_0.symm)))
theorem m_ladd (hx : p.tables.exec = Jvm.exec) (hb : c.code = cc) {a b : Nat} (hdg : decode cc pc = .ok (.ladd, 1)) (k : W p l e R s m args below meth c H locs cells slots Q (F0 m (pc + 1) ls (.long (lN (a + b)) :: rest))) : W p l e R s m args below meth c H locs cells slots Q (F0 m pc ls (.long (lN (b)) :: .long (lN (a)) :: rest)) := lv_ladd hx hb hdg (by rw [lN_add]; exact k)
theorem m_lsub (hx : p.tables.exec = Jvm.exec) (hb : c.code = cc) {a b : Nat} (h : b ≤ a) (hdg : decode cc pc = .ok (.lsub, 1)) (k : W p l e R s m args below meth c H locs cells slots Q (F0 m (pc + 1) ls (.long (lN (a - b)) :: rest))) : W p l e R s m args below meth c H locs cells slots Q (F0 m pc ls (.long (lN (b)) :: .long (lN (a)) :: rest)) := lv_lsub hx hb hdg (by rw [lN_sub h]; exact k)
theorem m_lmul (hx : p.tables.exec = Jvm.exec) (hb : c.code = cc) {a b : Nat} (hdg : decode cc pc = .ok (.lmul, 1)) (k : W p l e R s m args below meth c H locs cells slots Q (F0 m (pc + 1) ls (.long (lN (a * b)) :: rest))) : W p l e R s m args below meth c H locs cells slots Q (F0 m pc ls (.long (lN (b)) :: .long (lN (a)) :: rest)) := lv_lmul hx hb hdg (by rw [lN_mul]; exact k)
theorem m_ldiv (hx : p.tables.exec = Jvm.exec) (hb : c.code = cc) {a b : Nat} (ha : a < 2 ^ 63) (h0 : 0 < b) (hb2 : b < 2 ^ 63) (hdg : decode cc pc = .ok (.ldiv, 1)) (k : W p l e R s m args below meth c H locs cells slots Q (F0 m (pc + 1) ls (.long (lN (a / b)) :: rest))) : W p l e R s m args below meth c H locs cells slots Q (F0 m pc ls (.long (lN (b)) :: .long (lN (a)) :: rest)) := lv_ldiv hx hb hdg (lN_ne0 h0 hb2) (by rw [pk_lDiv ha h0 hb2]; exact k)
theorem m_lrem (hx : p.tables.exec = Jvm.exec) (hb : c.code = cc) {a b : Nat} (ha : a < 2 ^ 63) (h0 : 0 < b) (hb2 : b < 2 ^ 63) (hdg : decode cc pc = .ok (.lrem, 1)) (k : W p l e R s m args below meth c H locs cells slots Q (F0 m (pc + 1) ls (.long (lN (a % b)) :: rest))) : W p l e R s m args below meth c H locs cells slots Q (F0 m pc ls (.long (lN (b)) :: .long (lN (a)) :: rest)) := lv_lrem hx hb hdg (lN_ne0 h0 hb2) (by rw [pk_lRem ha h0 hb2]; exact k)
theorem m_land (hx : p.tables.exec = Jvm.exec) (hb : c.code = cc) {a b : Nat} (ha : a < 2 ^ 64) (hb2 : b < 2 ^ 64) (hdg : decode cc pc = .ok (.land, 1)) (k : W p l e R s m args below meth c H locs cells slots Q (F0 m (pc + 1) ls (.long (lN (a &&& b)) :: rest))) : W p l e R s m args below meth c H locs cells slots Q (F0 m pc ls (.long (lN (b)) :: .long (lN (a)) :: rest)) := lv_land hx hb hdg (by rw [wb_and ha hb2]; exact k)
theorem m_lor (hx : p.tables.exec = Jvm.exec) (hb : c.code = cc) {a b : Nat} (ha : a < 2 ^ 64) (hb2 : b < 2 ^ 64) (hdg : decode cc pc = .ok (.lor, 1)) (k : W p l e R s m args below meth c H locs cells slots Q (F0 m (pc + 1) ls (.long (lN (a ||| b)) :: rest))) : W p l e R s m args below meth c H locs cells slots Q (F0 m pc ls (.long (lN (b)) :: .long (lN (a)) :: rest)) := lv_lor hx hb hdg (by rw [wb_or ha hb2]; exact k)
theorem m_lxor (hx : p.tables.exec = Jvm.exec) (hb : c.code = cc) {a b : Nat} (ha : a < 2 ^ 64) (hb2 : b < 2 ^ 64) (hdg : decode cc pc = .ok (.lxor, 1)) (k : W p l e R s m args below meth c H locs cells slots Q (F0 m (pc + 1) ls (.long (lN (a ^^^ b)) :: rest))) : W p l e R s m args below meth c H locs cells slots Q (F0 m pc ls (.long (lN (b)) :: .long (lN (a)) :: rest)) := lv_lxor hx hb hdg (by rw [lN_xor2]; exact k)
theorem m_mask (hx : p.tables.exec = Jvm.exec) (hb : c.code = cc) {a : Nat} (hdg : decode cc pc = .ok (.land, 1)) (k : W p l e R s m args below meth c H locs cells slots Q (F0 m (pc + 1) ls (.long (lN (a % 4294967296)) :: rest))) : W p l e R s m args below meth c H locs cells slots Q (F0 m pc ls (.long (lN (4294967295)) :: .long (lN (a)) :: rest)) := lv_land hx hb hdg (by rw [m_maskN]; exact k)
theorem m_lor32 (hx : p.tables.exec = Jvm.exec) (hb : c.code = cc) {a b : Nat} (ha : a < 4294967296) (h : b * 4294967296 + a < 2 ^ 64) (hdg : decode cc pc = .ok (.lor, 1)) (k : W p l e R s m args below meth c H locs cells slots Q (F0 m (pc + 1) ls (.long (lN (b * 4294967296 + a)) :: rest))) : W p l e R s m args below meth c H locs cells slots Q (F0 m pc ls (.long (lN (a)) :: .long (lN (b * 4294967296)) :: rest)) := lv_lor hx hb hdg (by rw [g_or (k := 32) (p := 4294967296) (by decide) ha h]; exact k)
theorem m_lushr (hx : p.tables.exec = Jvm.exec) (hb : c.code = cc) {a n : Nat} (ha : a < 2 ^ 64) (hn : n < 64) (hdg : decode cc pc = .ok (.lushr, 1)) (k : W p l e R s m args below meth c H locs cells slots Q (F0 m (pc + 1) ls (.long (lN (a / 2 ^ n)) :: rest))) : W p l e R s m args below meth c H locs cells slots Q (F0 m pc ls (.int (nI n) :: .long (lN (a)) :: rest)) := lv_lushr hx hb hdg (wb_shr ha hn) k
theorem m_lshl (hx : p.tables.exec = Jvm.exec) (hb : c.code = cc) {a n : Nat} (hn : n < 64) (hdg : decode cc pc = .ok (.lshl, 1)) (k : W p l e R s m args below meth c H locs cells slots Q (F0 m (pc + 1) ls (.long (lN (a * 2 ^ n)) :: rest))) : W p l e R s m args below meth c H locs cells slots Q (F0 m pc ls (.int (nI n) :: .long (lN (a)) :: rest)) := lv_lshl hx hb hdg (wb_shl a hn) k
theorem m_lushr32 (hx : p.tables.exec = Jvm.exec) (hb : c.code = cc) {a : Nat} (ha : a < 2 ^ 64) (hdg : decode cc pc = .ok (.lushr, 1)) (k : W p l e R s m args below meth c H locs cells slots Q (F0 m (pc + 1) ls (.long (lN (a / 4294967296)) :: rest))) : W p l e R s m args below meth c H locs cells slots Q (F0 m pc ls (.int (nI 32) :: .long (lN (a)) :: rest)) := lv_lushr hx hb hdg (by rw [wb_shr ha (by decide)]) k
theorem m_lshl32 (hx : p.tables.exec = Jvm.exec) (hb : c.code = cc) {a : Nat} (hdg : decode cc pc = .ok (.lshl, 1)) (k : W p l e R s m args below meth c H locs cells slots Q (F0 m (pc + 1) ls (.long (lN (a * 4294967296)) :: rest))) : W p l e R s m args below meth c H locs cells slots Q (F0 m pc ls (.int (nI 32) :: .long (lN (a)) :: rest)) := lv_lshl hx hb hdg (by rw [wb_shl a (by decide)]) k
theorem m_i2l (hx : p.tables.exec = Jvm.exec) (hb : c.code = cc) {a : Nat} (ha : a < 2 ^ 31) (hdg : decode cc pc = .ok (.i2l, 1)) (k : W p l e R s m args below meth c H locs cells slots Q (F0 m (pc + 1) ls (.long (lN (a)) :: rest))) : W p l e R s m args below meth c H locs cells slots Q (F0 m pc ls (.int (nI a) :: rest)) := lv_i2l hx hb hdg (nI_l ha) k
theorem m_l2i (hx : p.tables.exec = Jvm.exec) (hb : c.code = cc) {a : Nat} (hdg : decode cc pc = .ok (.l2i, 1)) (k : W p l e R s m args below meth c H locs cells slots Q (F0 m (pc + 1) ls (.int (nI a) :: rest))) : W p l e R s m args below meth c H locs cells slots Q (F0 m pc ls (.long (lN (a)) :: rest)) := lv_l2i hx hb hdg (lN_i a) k
theorem m_i2b (hx : p.tables.exec = Jvm.exec) (hb : c.code = cc) {a : Nat} (ha : a < 128) (hdg : decode cc pc = .ok (.i2b, 1)) (k : W p l e R s m args below meth c H locs cells slots Q (F0 m (pc + 1) ls (.int (nI a) :: rest))) : W p l e R s m args below meth c H locs cells slots Q (F0 m pc ls (.int (nI a) :: rest)) := lv_i2b hx hb hdg (nI_i2b ha) k
theorem m_iand255 (hx : p.tables.exec = Jvm.exec) (hb : c.code = cc) {a : Nat} (ha : a < 2 ^ 32) (hdg : decode cc pc = .ok (.iand, 1)) (k : W p l e R s m args below meth c H locs cells slots Q (F0 m (pc + 1) ls (.int (nI (a % 256)) :: rest))) : W p l e R s m args below meth c H locs cells slots Q (F0 m pc ls (.int (nI 255) :: .int (nI a) :: rest)) := lv_iand hx hb hdg (by rw [show nI 255 = (255 : Int32) from rfl, pk_andN ha 8 (by decide)]; exact k)
theorem m_lc_eq (hx : p.tables.exec = Jvm.exec) (hb : c.code = cc) {a b tgt : Nat} {off : Int} (ha : a < 2 ^ 63) (hb2 : b < 2 ^ 63) (hdg : decode cc pc = .ok (.lcmp, 1)) (hd2 : decode cc (pc + 1) = .ok (.ifCond .eq off, 3)) (ht : ((pc + 1 : Nat) : Int) + off = (tgt : Int)) (kt : a = b → W p l e R s m args below meth c H locs cells slots Q (F0 m tgt ls rest)) (kf : a ≠ b → W p l e R s m args below meth c H locs cells slots Q (F0 m (pc + 1 + 3) ls rest)) : W p l e R s m args below meth c H locs cells slots Q (F0 m pc ls (.long (lN b) :: .long (lN a) :: rest)) := W.lcmp hx hb hdg (lv_if_eq hx hb hd2 ht (fun h => kt ((pk_lEQ ha hb2).mp ((lg_cmp_eq _ _).mp h))) (fun h => kf (fun z => h ((lg_cmp_eq _ _).mpr (by rw [z])))))
theorem m_lc_ne (hx : p.tables.exec = Jvm.exec) (hb : c.code = cc) {a b tgt : Nat} {off : Int} (ha : a < 2 ^ 63) (hb2 : b < 2 ^ 63) (hdg : decode cc pc = .ok (.lcmp, 1)) (hd2 : decode cc (pc + 1) = .ok (.ifCond .ne off, 3)) (ht : ((pc + 1 : Nat) : Int) + off = (tgt : Int)) (kt : a ≠ b → W p l e R s m args below meth c H locs cells slots Q (F0 m tgt ls rest)) (kf : a = b → W p l e R s m args below meth c H locs cells slots Q (F0 m (pc + 1 + 3) ls rest)) : W p l e R s m args below meth c H locs cells slots Q (F0 m pc ls (.long (lN b) :: .long (lN a) :: rest)) := W.lcmp hx hb hdg (lv_if_ne hx hb hd2 ht (fun h => kt (fun z => h ((lg_cmp_eq _ _).mpr (by rw [z])))) (fun h => kf ((pk_lEQ ha hb2).mp ((lg_cmp_eq _ _).mp h))))
theorem m_lc_lt (hx : p.tables.exec = Jvm.exec) (hb : c.code = cc) {a b tgt : Nat} {off : Int} (ha : a < 2 ^ 63) (hb2 : b < 2 ^ 63) (hdg : decode cc pc = .ok (.lcmp, 1)) (hd2 : decode cc (pc + 1) = .ok (.ifCond .lt off, 3)) (ht : ((pc + 1 : Nat) : Int) + off = (tgt : Int)) (kt : a < b → W p l e R s m args below meth c H locs cells slots Q (F0 m tgt ls rest)) (kf : b ≤ a → W p l e R s m args below meth c H locs cells slots Q (F0 m (pc + 1 + 3) ls rest)) : W p l e R s m args below meth c H locs cells slots Q (F0 m pc ls (.long (lN b) :: .long (lN a) :: rest)) := W.lcmp hx hb hdg (lv_if_lt hx hb hd2 ht (fun h => kt ((pk_lLT ha hb2).mp ((lg_cmp_lt _ _).mp h))) (fun h => kf (Nat.not_lt.mp (fun z => h ((lg_cmp_lt _ _).mpr ((pk_lLT ha hb2).mpr z))))))
theorem m_lc_ge (hx : p.tables.exec = Jvm.exec) (hb : c.code = cc) {a b tgt : Nat} {off : Int} (ha : a < 2 ^ 63) (hb2 : b < 2 ^ 63) (hdg : decode cc pc = .ok (.lcmp, 1)) (hd2 : decode cc (pc + 1) = .ok (.ifCond .ge off, 3)) (ht : ((pc + 1 : Nat) : Int) + off = (tgt : Int)) (kt : b ≤ a → W p l e R s m args below meth c H locs cells slots Q (F0 m tgt ls rest)) (kf : a < b → W p l e R s m args below meth c H locs cells slots Q (F0 m (pc + 1 + 3) ls rest)) : W p l e R s m args below meth c H locs cells slots Q (F0 m pc ls (.long (lN b) :: .long (lN a) :: rest)) := W.lcmp hx hb hdg (lv_if_ge hx hb hd2 ht (fun h => kt ((pk_lLE hb2 ha).mp ((lg_cmp_ge _ _).mp h))) (fun h => kf (Nat.not_le.mp (fun z => h ((lg_cmp_ge _ _).mpr ((pk_lLE hb2 ha).mpr z))))))
theorem m_lc_gt (hx : p.tables.exec = Jvm.exec) (hb : c.code = cc) {a b tgt : Nat} {off : Int} (ha : a < 2 ^ 63) (hb2 : b < 2 ^ 63) (hdg : decode cc pc = .ok (.lcmp, 1)) (hd2 : decode cc (pc + 1) = .ok (.ifCond .gt off, 3)) (ht : ((pc + 1 : Nat) : Int) + off = (tgt : Int)) (kt : b < a → W p l e R s m args below meth c H locs cells slots Q (F0 m tgt ls rest)) (kf : a ≤ b → W p l e R s m args below meth c H locs cells slots Q (F0 m (pc + 1 + 3) ls rest)) : W p l e R s m args below meth c H locs cells slots Q (F0 m pc ls (.long (lN b) :: .long (lN a) :: rest)) := W.lcmp hx hb hdg (lv_if_gt hx hb hd2 ht (fun h => kt ((pk_lLT hb2 ha).mp ((lg_cmp_gt _ _).mp h))) (fun h => kf (Nat.not_lt.mp (fun z => h ((lg_cmp_gt _ _).mpr ((pk_lLT hb2 ha).mpr z))))))
theorem m_lc_le (hx : p.tables.exec = Jvm.exec) (hb : c.code = cc) {a b tgt : Nat} {off : Int} (ha : a < 2 ^ 63) (hb2 : b < 2 ^ 63) (hdg : decode cc pc = .ok (.lcmp, 1)) (hd2 : decode cc (pc + 1) = .ok (.ifCond .le off, 3)) (ht : ((pc + 1 : Nat) : Int) + off = (tgt : Int)) (kt : a ≤ b → W p l e R s m args below meth c H locs cells slots Q (F0 m tgt ls rest)) (kf : b < a → W p l e R s m args below meth c H locs cells slots Q (F0 m (pc + 1 + 3) ls rest)) : W p l e R s m args below meth c H locs cells slots Q (F0 m pc ls (.long (lN b) :: .long (lN a) :: rest)) := W.lcmp hx hb hdg (lv_if_le hx hb hd2 ht (fun h => kt ((pk_lLE ha hb2).mp ((lg_cmp_le _ _).mp h))) (fun h => kf (Nat.not_le.mp (fun z => h ((lg_cmp_le _ _).mpr ((pk_lLE ha hb2).mpr z))))))
theorem m_lr_lt (hx : p.tables.exec = Jvm.exec) (hb : c.code = cc) {x y : Int64} {tgt : Nat} {off : Int} (hdg : decode cc pc = .ok (.lcmp, 1)) (hd2 : decode cc (pc + 1) = .ok (.ifCond .lt off, 3)) (ht : ((pc + 1 : Nat) : Int) + off = (tgt : Int)) (kt : x < y → W p l e R s m args below meth c H locs cells slots Q (F0 m tgt ls rest)) (kf : ¬ (x < y) → W p l e R s m args below meth c H locs cells slots Q (F0 m (pc + 1 + 3) ls rest)) : W p l e R s m args below meth c H locs cells slots Q (F0 m pc ls (.long y :: .long x :: rest)) := W.lcmp hx hb hdg (lv_if_lt hx hb hd2 ht (fun h => kt ((lg_cmp_lt _ _).mp h)) (fun h => kf (fun z => h ((lg_cmp_lt _ _).mpr z))))
theorem m_lr_ge (hx : p.tables.exec = Jvm.exec) (hb : c.code = cc) {x y : Int64} {tgt : Nat} {off : Int} (hdg : decode cc pc = .ok (.lcmp, 1)) (hd2 : decode cc (pc + 1) = .ok (.ifCond .ge off, 3)) (ht : ((pc + 1 : Nat) : Int) + off = (tgt : Int)) (kt : y ≤ x → W p l e R s m args below meth c H locs cells slots Q (F0 m tgt ls rest)) (kf : ¬ (y ≤ x) → W p l e R s m args below meth c H locs cells slots Q (F0 m (pc + 1 + 3) ls rest)) : W p l e R s m args below meth c H locs cells slots Q (F0 m pc ls (.long y :: .long x :: rest)) := W.lcmp hx hb hdg (lv_if_ge hx hb hd2 ht (fun h => kt ((lg_cmp_ge _ _).mp h)) (fun h => kf (fun z => h ((lg_cmp_ge _ _).mpr z))))
theorem m_lr_gt (hx : p.tables.exec = Jvm.exec) (hb : c.code = cc) {x y : Int64} {tgt : Nat} {off : Int} (hdg : decode cc pc = .ok (.lcmp, 1)) (hd2 : decode cc (pc + 1) = .ok (.ifCond .gt off, 3)) (ht : ((pc + 1 : Nat) : Int) + off = (tgt : Int)) (kt : y < x → W p l e R s m args below meth c H locs cells slots Q (F0 m tgt ls rest)) (kf : ¬ (y < x) → W p l e R s m args below meth c H locs cells slots Q (F0 m (pc + 1 + 3) ls rest)) : W p l e R s m args below meth c H locs cells slots Q (F0 m pc ls (.long y :: .long x :: rest)) := W.lcmp hx hb hdg (lv_if_gt hx hb hd2 ht (fun h => kt ((lg_cmp_gt _ _).mp h)) (fun h => kf (fun z => h ((lg_cmp_gt _ _).mpr z))))
theorem m_lr_le (hx : p.tables.exec = Jvm.exec) (hb : c.code = cc) {x y : Int64} {tgt : Nat} {off : Int} (hdg : decode cc pc = .ok (.lcmp, 1)) (hd2 : decode cc (pc + 1) = .ok (.ifCond .le off, 3)) (ht : ((pc + 1 : Nat) : Int) + off = (tgt : Int)) (kt : x ≤ y → W p l e R s m args below meth c H locs cells slots Q (F0 m tgt ls rest)) (kf : ¬ (x ≤ y) → W p l e R s m args below meth c H locs cells slots Q (F0 m (pc + 1 + 3) ls rest)) : W p l e R s m args below meth c H locs cells slots Q (F0 m pc ls (.long y :: .long x :: rest)) := W.lcmp hx hb hdg (lv_if_le hx hb hd2 ht (fun h => kt ((lg_cmp_le _ _).mp h)) (fun h => kf (fun z => h ((lg_cmp_le _ _).mpr z))))
theorem m_lr_eq (hx : p.tables.exec = Jvm.exec) (hb : c.code = cc) {x y : Int64} {tgt : Nat} {off : Int} (hdg : decode cc pc = .ok (.lcmp, 1)) (hd2 : decode cc (pc + 1) = .ok (.ifCond .eq off, 3)) (ht : ((pc + 1 : Nat) : Int) + off = (tgt : Int)) (kt : x = y → W p l e R s m args below meth c H locs cells slots Q (F0 m tgt ls rest)) (kf : ¬ (x = y) → W p l e R s m args below meth c H locs cells slots Q (F0 m (pc + 1 + 3) ls rest)) : W p l e R s m args below meth c H locs cells slots Q (F0 m pc ls (.long y :: .long x :: rest)) := W.lcmp hx hb hdg (lv_if_eq hx hb hd2 ht (fun h => kt ((lg_cmp_eq _ _).mp h)) (fun h => kf (fun z => h ((lg_cmp_eq _ _).mpr z))))
theorem m_lald (hx : p.tables.exec = Jvm.exec) (hb : c.code = cc) {G : gG} (hK : KK G s) {a n i : Nat} {f : Nat → Nat} (ha : H[a]? = some (aJ G n f)) (hi : i < n) (hn : n < 2 ^ 31) (hdg : decode cc pc = .ok (.laload, 1)) (k : W p l e R s m args below meth c H locs cells slots Q (F0 m (pc + 1) ls (.long (lN (f i)) :: rest))) : W p l e R s m args below meth c H locs cells slots Q (F0 m pc ls (.int (nI i) :: .ref a :: rest)) := W.lald (v := .long (lN (f i))) hx hb ha ((hK.2 0 _ rfl).1 n (fun j => .long (lN (f j)))) (fun q => by cases q) (by show ¬ ((nI i) < 0 ∨ (arrV _ _ _).slots.size ≤ _); rw [arrV_size]; exact nI_in hi hn) (by show (arrV _ _ _).slots[_]? = _; rw [nI_clamp (Nat.lt_trans hi hn), arrV_read _ _ hi]) rfl rfl hdg k
theorem m_zald (hx : p.tables.exec = Jvm.exec) (hb : c.code = cc) {G : gG} (hK : KK G s) {a n i : Nat} {f : Nat → Nat} (ha : H[a]? = some (aZ G n f)) (hi : i < n) (hn : n < 2 ^ 31) (hdg : decode cc pc = .ok (.baload, 1)) (k : W p l e R s m args below meth c H locs cells slots Q (F0 m (pc + 1) ls (.int (nI (f i)) :: rest))) : W p l e R s m args below meth c H locs cells slots Q (F0 m pc ls (.int (nI i) :: .ref a :: rest)) := W.zald (v := .int (nI (f i))) hx hb ha ((hK.2 1 _ rfl).1 n (fun j => .int (nI (f j)))) (fun q => by cases q) (by show ¬ ((nI i) < 0 ∨ (arrV _ _ _).slots.size ≤ _); rw [arrV_size]; exact nI_in hi hn) (by show (arrV _ _ _).slots[_]? = _; rw [nI_clamp (Nat.lt_trans hi hn), arrV_read _ _ hi]) rfl rfl hdg k
theorem m_bald (hx : p.tables.exec = Jvm.exec) (hb : c.code = cc) {G : gG} (hK : KK G s) {a n i : Nat} {f : Nat → Nat} (ha : H[a]? = some (aB G n f)) (hi : i < n) (hn : n < 2 ^ 31) (hdg : decode cc pc = .ok (.baload, 1)) (k : W p l e R s m args below meth c H locs cells slots Q (F0 m (pc + 1) ls (.int (nI (f i)) :: rest))) : W p l e R s m args below meth c H locs cells slots Q (F0 m pc ls (.int (nI i) :: .ref a :: rest)) := W.bald (v := .int (nI (f i))) hx hb ha ((hK.2 2 _ rfl).1 n (fun j => .int (nI (f j)))) (fun q => by cases q) (by show ¬ ((nI i) < 0 ∨ (arrV _ _ _).slots.size ≤ _); rw [arrV_size]; exact nI_in hi hn) (by show (arrV _ _ _).slots[_]? = _; rw [nI_clamp (Nat.lt_trans hi hn), arrV_read _ _ hi]) rfl rfl hdg k
theorem m_aald (hx : p.tables.exec = Jvm.exec) (hb : c.code = cc) {G : gG} (hK : KK G s) {a n i : Nat} {f : Nat → Nat} (ha : H[a]? = some (aR G n f)) (hi : i < n) (hn : n < 2 ^ 31) (hdg : decode cc pc = .ok (.aaload, 1)) (k : W p l e R s m args below meth c H locs cells slots Q (F0 m (pc + 1) ls (.ref (f i) :: rest))) : W p l e R s m args below meth c H locs cells slots Q (F0 m pc ls (.int (nI i) :: .ref a :: rest)) := W.aald (v := .ref (f i)) hx hb ha ((hK.2 3 _ rfl).1 n (fun j => .ref (f j))) rfl (fun q => by cases q) (by show ¬ ((nI i) < 0 ∨ (arrV _ _ _).slots.size ≤ _); rw [arrV_size]; exact nI_in hi hn) (by show (arrV _ _ _).slots[_]? = _; rw [nI_clamp (Nat.lt_trans hi hn), arrV_read _ _ hi]) rfl rfl hdg k
theorem m_last (hx : p.tables.exec = Jvm.exec) (hb : c.code = cc) {G : gG} (hK : KK G s) {b0 a n i x : Nat} {f : Nat → Nat} (ha : H[a]? = some (aJ G n f)) (hi : i < n) (hn : n < 2 ^ 31) (hba : b0 ≤ a) (hLc : lcs b0 locs) (hdg : decode cc pc = .ok (.lastore, 1)) (k : ∀ locs : List Loc, lcs b0 locs → W p l e R s m args below meth c (hput H a (aJ G n (fup f i x))) locs cells slots Q (F0 m (pc + 1) ls rest)) : W p l e R s m args below meth c H locs cells slots Q (F0 m pc ls (.long (lN x) :: .int (nI i) :: .ref a :: rest)) := by
  refine W.last hx hb ha ((hK.2 0 _ rfl).1 n (fun j => .long (lN (f j)))) (fun q => by cases q) (by show ¬ ((nI i) < 0 ∨ (arrV _ _ _).slots.size ≤ _); rw [arrV_size]; exact nI_in hi hn) rfl rfl hdg fun H1 e1 z1 oq => ?_
  rw [nI_clamp (Nat.lt_trans hi hn)] at e1 ⊢
  have he : H1 = hput H a (aJ G n (fup f i x)) := hput_of (by rw [e1]; unfold aJ; rw [arrV_store, updV_J]) z1 oq
  rw [he]
  exact k _ (lcs_add hLc hba)
theorem m_bast (hx : p.tables.exec = Jvm.exec) (hb : c.code = cc) {G : gG} (hK : KK G s) {b0 a n i x : Nat} {f : Nat → Nat} (ha : H[a]? = some (aB G n f)) (hi : i < n) (hn : n < 2 ^ 31) (hx2 : x < 128) (hba : b0 ≤ a) (hLc : lcs b0 locs) (hdg : decode cc pc = .ok (.bastore, 1)) (k : ∀ locs : List Loc, lcs b0 locs → W p l e R s m args below meth c (hput H a (aB G n (fup f i x))) locs cells slots Q (F0 m (pc + 1) ls rest)) : W p l e R s m args below meth c H locs cells slots Q (F0 m pc ls (.int (nI x) :: .int (nI i) :: .ref a :: rest)) := by
  refine W.bast hx hb ha ((hK.2 2 _ rfl).1 n (fun j => .int (nI (f j)))) (fun q => by cases q) (by show ¬ ((nI i) < 0 ∨ (arrV _ _ _).slots.size ≤ _); rw [arrV_size]; exact nI_in hi hn) rfl rfl hdg fun H1 e1 z1 oq => ?_
  rw [nI_clamp (Nat.lt_trans hi hn)] at e1 ⊢
  rw [nar_b hx2] at e1
  have he : H1 = hput H a (aB G n (fup f i x)) := hput_of (by rw [e1]; unfold aB; rw [arrV_store, updV_N]) z1 oq
  rw [he]
  exact k _ (lcs_add hLc hba)
theorem m_zast (hx : p.tables.exec = Jvm.exec) (hb : c.code = cc) {G : gG} (hK : KK G s) {b0 a n i x : Nat} {f : Nat → Nat} (ha : H[a]? = some (aZ G n f)) (hi : i < n) (hn : n < 2 ^ 31) (hx2 : x < 2) (hba : b0 ≤ a) (hLc : lcs b0 locs) (hdg : decode cc pc = .ok (.bastore, 1)) (k : ∀ locs : List Loc, lcs b0 locs → W p l e R s m args below meth c (hput H a (aZ G n (fup f i x))) locs cells slots Q (F0 m (pc + 1) ls rest)) : W p l e R s m args below meth c H locs cells slots Q (F0 m pc ls (.int (nI x) :: .int (nI i) :: .ref a :: rest)) := by
  refine W.zast hx hb ha ((hK.2 1 _ rfl).1 n (fun j => .int (nI (f j)))) (fun q => by cases q) (by show ¬ ((nI i) < 0 ∨ (arrV _ _ _).slots.size ≤ _); rw [arrV_size]; exact nI_in hi hn) rfl rfl hdg fun H1 e1 z1 oq => ?_
  rw [nI_clamp (Nat.lt_trans hi hn)] at e1 ⊢
  rw [nar_z hx2] at e1
  have he : H1 = hput H a (aZ G n (fup f i x)) := hput_of (by rw [e1]; unfold aZ; rw [arrV_store, updV_N]) z1 oq
  rw [he]
  exact k _ (lcs_add hLc hba)
theorem m_alenJ (hx : p.tables.exec = Jvm.exec) (hb : c.code = cc) {G : gG} (hK : KK G s) {a n : Nat} {f : Nat → Nat} (ha : H[a]? = some (aJ G n f)) (hdg : decode cc pc = .ok (.arraylength, 1)) (k : W p l e R s m args below meth c H locs cells slots Q (F0 m (pc + 1) ls (.int (nI n) :: rest))) : W p l e R s m args below meth c H locs cells slots Q (F0 m pc ls (.ref a :: rest)) := W.alen (n := nI n) hx hb ha ((hK.2 0 _ rfl).1 n (fun j => .long (lN (f j)))) (by unfold aJ; rw [arrV_size]; rfl) rfl rfl hdg k
theorem m_alenZ (hx : p.tables.exec = Jvm.exec) (hb : c.code = cc) {G : gG} (hK : KK G s) {a n : Nat} {f : Nat → Nat} (ha : H[a]? = some (aZ G n f)) (hdg : decode cc pc = .ok (.arraylength, 1)) (k : W p l e R s m args below meth c H locs cells slots Q (F0 m (pc + 1) ls (.int (nI n) :: rest))) : W p l e R s m args below meth c H locs cells slots Q (F0 m pc ls (.ref a :: rest)) := W.alen (n := nI n) hx hb ha ((hK.2 1 _ rfl).1 n (fun j => .int (nI (f j)))) (by unfold aZ; rw [arrV_size]; rfl) rfl rfl hdg k
theorem m_alenB (hx : p.tables.exec = Jvm.exec) (hb : c.code = cc) {G : gG} (hK : KK G s) {a n : Nat} {f : Nat → Nat} (ha : H[a]? = some (aB G n f)) (hdg : decode cc pc = .ok (.arraylength, 1)) (k : W p l e R s m args below meth c H locs cells slots Q (F0 m (pc + 1) ls (.int (nI n) :: rest))) : W p l e R s m args below meth c H locs cells slots Q (F0 m pc ls (.ref a :: rest)) := W.alen (n := nI n) hx hb ha ((hK.2 2 _ rfl).1 n (fun j => .int (nI (f j)))) (by unfold aB; rw [arrV_size]; rfl) rfl rfl hdg k
theorem mc_i {P : Int32 → Heap → Prop} {a : Array Value} {b0 mc ms : Nat} {st0 : List Value} (hr : va_Run p l e R s m args below meth c H locs cells slots mc ms (F0 m pc ls st0) rest (QcI P a) (fre b0)) (hLc : lcs b0 locs) (kk : ∀ (r : Int32) (H1 : Heap) (locs : List Loc), P r H1 → lcs b0 locs → W p l e R s m args below meth c H1 locs (cells + mc) (slots + ms) Q (F0 m (pc + 3) ls (.int r :: rest))) : W p l e R s m args below meth c H locs cells slots Q (F0 m pc ls st0) := by
  intro T hT X
  obtain ⟨v, st₀, t, T', L, h0, X', hL, e1, e2, ⟨r, hv, hp⟩, st⟩ := hr T hT X
  cases hv
  obtain ⟨t2, a1, b1⟩ := kk r T'.heap (locs ++ L) (by rw [e1]; exact hp) (lcs_app hLc hL) T' rfl X'
  exact ⟨t2, st t2 a1, b1⟩
theorem mc_l {P : Int64 → Heap → Prop} {a : Array Value} {b0 mc ms : Nat} {st0 : List Value} (hr : va_Run p l e R s m args below meth c H locs cells slots mc ms (F0 m pc ls st0) rest (QcL P a) (fre b0)) (hLc : lcs b0 locs) (kk : ∀ (r : Int64) (H1 : Heap) (locs : List Loc), P r H1 → lcs b0 locs → W p l e R s m args below meth c H1 locs (cells + mc) (slots + ms) Q (F0 m (pc + 3) ls (.long r :: rest))) : W p l e R s m args below meth c H locs cells slots Q (F0 m pc ls st0) := by
  intro T hT X
  obtain ⟨v, st₀, t, T', L, h0, X', hL, e1, e2, ⟨r, hv, hp⟩, st⟩ := hr T hT X
  cases hv
  obtain ⟨t2, a1, b1⟩ := kk r T'.heap (locs ++ L) (by rw [e1]; exact hp) (lcs_app hLc hL) T' rfl X'
  exact ⟨t2, st t2 a1, b1⟩
theorem mc_v {P : Heap → Prop} {a : Array Value} {b0 mc ms : Nat} {st0 : List Value} (hr : va_Run p l e R s m args below meth c H locs cells slots mc ms (F0 m pc ls st0) rest (QcV P a) (fre b0)) (hLc : lcs b0 locs) (kk : ∀ (H1 : Heap) (locs : List Loc), P H1 → lcs b0 locs → W p l e R s m args below meth c H1 locs (cells + mc) (slots + ms) Q (F0 m (pc + 3) ls rest)) : W p l e R s m args below meth c H locs cells slots Q (F0 m pc ls st0) := by
  intro T hT X
  obtain ⟨v, st₀, t, T', L, h0, X', hL, e1, e2, ⟨hv, hp⟩, st⟩ := hr T hT X
  cases hv
  obtain ⟨t2, a1, b1⟩ := kk T'.heap (locs ++ L) (by rw [e1]; exact hp) (lcs_app hLc hL) T' rfl X'
  exact ⟨t2, st t2 a1, b1⟩
theorem mc_i0 {P : Int32 → Heap → Prop} {a : Array Value} {b0 : Nat} {st0 : List Value} (hr : va_Run p l e R s m args below meth c H locs cells slots 0 0 (F0 m pc ls st0) rest (QcI P a) (fre b0)) (hLc : lcs b0 locs) (kk : ∀ (r : Int32) (H1 : Heap) (locs : List Loc), P r H1 → lcs b0 locs → W p l e R s m args below meth c H1 locs cells slots Q (F0 m (pc + 3) ls (.int r :: rest))) : W p l e R s m args below meth c H locs cells slots Q (F0 m pc ls st0) := mc_i hr hLc kk
theorem mc_l0 {P : Int64 → Heap → Prop} {a : Array Value} {b0 : Nat} {st0 : List Value} (hr : va_Run p l e R s m args below meth c H locs cells slots 0 0 (F0 m pc ls st0) rest (QcL P a) (fre b0)) (hLc : lcs b0 locs) (kk : ∀ (r : Int64) (H1 : Heap) (locs : List Loc), P r H1 → lcs b0 locs → W p l e R s m args below meth c H1 locs cells slots Q (F0 m (pc + 3) ls (.long r :: rest))) : W p l e R s m args below meth c H locs cells slots Q (F0 m pc ls st0) := mc_l hr hLc kk
theorem mc_v0 {P : Heap → Prop} {a : Array Value} {b0 : Nat} {st0 : List Value} (hr : va_Run p l e R s m args below meth c H locs cells slots 0 0 (F0 m pc ls st0) rest (QcV P a) (fre b0)) (hLc : lcs b0 locs) (kk : ∀ (H1 : Heap) (locs : List Loc), P H1 → lcs b0 locs → W p l e R s m args below meth c H1 locs cells slots Q (F0 m (pc + 3) ls rest)) : W p l e R s m args below meth c H locs cells slots Q (F0 m pc ls st0) := mc_v hr hLc kk
theorem mp_S {G : gG} {As : List Value} (hK : KK G s) : PreS s H (PcH G H As) As := ⟨PcH_blind G H As, fun U hU hW => ⟨rfl, hU, KK.moved hW.alike hK⟩⟩
theorem m_iret (hx : p.tables.exec = Jvm.exec) (hb : c.code = cc) {P : Int32 → Heap → Prop} {b0 : Nat} {v : Int32} (hr : meth.sig.returnType = some .int) (hlocks : meth.locks = false) (hLc : lcs b0 locs) (hdg : decode cc pc = .ok (.ireturn, 1)) (hp : P v H) : W p l e R s m args below meth c H locs cells slots (MQ below (QcI P) args s cells slots (fre b0)) (F0 m pc ls [.int v]) := W.iret hx hb hr (fun t ht _ => ⟨v, rfl, by rw [ht]; exact hp⟩) hLc hdg hlocks
theorem m_zret (hx : p.tables.exec = Jvm.exec) (hb : c.code = cc) {P : Int32 → Heap → Prop} {b0 : Nat} {v : Int32} (hr : meth.sig.returnType = some .boolean) (hlocks : meth.locks = false) (hLc : lcs b0 locs) (hn : v = 0 ∨ v = 1) (hdg : decode cc pc = .ok (.ireturn, 1)) (hp : P v H) : W p l e R s m args below meth c H locs cells slots (MQ below (QcI P) args s cells slots (fre b0)) (F0 m pc ls [.int v]) := W.zret hx hb hr (by rcases hn with rfl | rfl <;> decide) (fun t ht _ => ⟨v, rfl, by rw [ht]; exact hp⟩) hLc hdg hlocks
theorem m_lret (hx : p.tables.exec = Jvm.exec) (hb : c.code = cc) {P : Int64 → Heap → Prop} {b0 : Nat} {v : Int64} (hr : meth.sig.returnType = some .long) (hlocks : meth.locks = false) (hLc : lcs b0 locs) (hdg : decode cc pc = .ok (.lreturn, 1)) (hp : P v H) : W p l e R s m args below meth c H locs cells slots (MQ below (QcL P) args s cells slots (fre b0)) (F0 m pc ls [.long v]) := W.lret hx hb hr (fun t ht _ => ⟨v, rfl, by rw [ht]; exact hp⟩) hLc hdg hlocks
theorem m_vret (hx : p.tables.exec = Jvm.exec) (hb : c.code = cc) {P : Heap → Prop} {b0 : Nat} (hr : meth.sig.returnType = none) (hlocks : meth.locks = false) (hLc : lcs b0 locs) (hdg : decode cc pc = .ok (.return_, 1)) (hp : P H) : W p l e R s m args below meth c H locs cells slots (MQ below (QcV P) args s cells slots (fre b0)) (F0 m pc ls []) := W.vret hx hb hr (fun t ht _ => ⟨rfl, by rw [ht]; exact hp⟩) hLc hdg hlocks
/-- what stands fixed through a method's body -/
def FxM (p : Program) (s : State) (m : MethodId) (args : Array Value) (meth : Method) (c : Code) (G : gG) (cc : ByteArray) (maxL : Nat) (ret : Option FieldType) (own : String) (ws : List Cond) : Prop :=
  p.tables.exec = Jvm.exec ∧ c.code = cc ∧ meth.sig.returnType = ret ∧ c.maxLocals = maxL ∧ s.vm.findClass own = some m.cls ∧ (∀ w ∈ ws, w.before args s = true) ∧ meth.locks = false ∧ KK G s
theorem m_enter {y : MethodName} {ws ws' : List Cond} {rm : Room} {Qc : Array Value → State → Outcome → State → Prop} {mc ms : Nat} {free : Addr → Prop} {maxL : Nat} {ret : Option FieldType} {G : gG} {H : Heap} {As : List Value} {own : String}
    (hy : plainName y.cls = true) (ho : y.cls = own) (hw : ws = Cond.code y cc maxL ret :: ws') (hlen : (lg_sl As).length ≤ maxL)
    (body : ∀ (p : Program) (e : Env) (s : State) (m : MethodId) (below : List Frame) (meth : Method) (c : Code) (ls : Array Slot), FxM p s m As.toArray meth c G cc maxL ret own ws → meth.name = y.name → s.heap = H → lv_has ls maxL (lv_args 0 As) →
      W p l e rm s m As.toArray below meth c H [] 0 0 (MQ below Qc As.toArray s mc ms free) (F0 m 0 ls [])) : Met l y ws rm (PcH G H As) Qc mc ms free := by
  refine Met.ofW (cc := cc) (maxL := maxL) (ret := ret) hy hw ?_
  intro p e s m args below meth c s₁ B hml hv
  subst ho
  obtain ⟨rfl, hH, hK⟩ := hv
  have hl := lv_entry As (n := maxL) hlen
  rw [lg_entry_eq, hH]
  exact body p e s m below meth c _ ⟨B.exec, B.bytes, B.returns, hml, findClass_of_methodNamed B.named, atoms_spec (ws := ws) B.pre, B.notSynchronized, hK⟩ (name_of_methodNamed B.named B.method).1 hH hl
end RW
section RW2
variable {p : Program} {l : Launch} {e : Env} {R : Room} {s : State} {m : MethodId} {args : Array Value} {below : List Frame} {meth : Method} {c : Code} {H : Heap} {locs : List Loc} {cells slots : Nat} {Q : State → Prop}
variable {cc : ByteArray} {pc : Nat} {ls : Array Slot} {rest : List Value}
theorem aJ_congr (G : gG) {n : Nat} {f g : Nat → Nat} (h : ∀ j, j < n → f j = g j) : aJ G n f = aJ G n g := by
  unfold aJ arrV
  congr 1
  apply Array.ext
  · simp
  · intro i h1 h2
    have hi : i < n := by simpa using h1
    simp [h i hi]
theorem s_u32 : ∀ n, n < 32 → (((nI n).toUInt32 &&& Int32.toUInt32 31).toBitVec % 32).toNat = n := by decide +kernel
theorem m_iushr (hx : p.tables.exec = Jvm.exec) (hb : c.code = cc) {a n : Nat} (ha : a < 2 ^ 32) (hn : n < 32) (hdg : decode cc pc = .ok (.iushr, 1)) (k : W p l e R s m args below meth c H locs cells slots Q (F0 m (pc + 1) ls (.int (nI (a / 2 ^ n)) :: rest))) : W p l e R s m args below meth c H locs cells slots Q (F0 m pc ls (.int (nI n) :: .int (nI a) :: rest)) := lv_iushr hx hb hdg (pk_ushrN ha (nI n) n (s_u32 n hn)) k
theorem m_copyJ (hx : p.tables.exec = Jvm.exec) (hb : c.code = cc) (hml : c.maxLocals = ls.size) {own : String} {index : Nat} (hown : s.vm.findClass own = some m.cls) (hlink : (Cond.methodLink own index arraycopyName).before args s = true) (hnat : (Cond.native arraycopyName).before args s = true) (hstat : (Cond.static arraycopyName).before args s = true) (hini : (Cond.initialized "java/lang/System").before args s = true)
    {G : gG} (hK : KK G s) {b0 a0 a n0 n1 n : Nat} {f g : Nat → Nat} (ha0 : H[a0]? = some (aJ G n0 f)) (ha1 : H[a]? = some (aJ G n1 g)) (hn0 : n ≤ n0) (hn1 : n ≤ n1) (hn : n < 2 ^ 31) (hba : b0 ≤ a) (hLc : lcs b0 locs)
    (hframes : 1 ≤ R.frames) (hlocals : (rest.map fun v => v.category).sum + (nativeFrameWords "java/lang/System" "arraycopy" 5 + 11) ≤ R.locals) (hdg : decode cc pc = .ok (.invokestatic index, 3))
    (kk : ∀ locs : List Loc, lcs b0 locs → W p l e R s m args below meth c (hput H a (aJ G n1 (fun j => if j < n then f j else g j))) locs cells slots Q (F0 m (pc + 3) ls rest)) : W p l e R s m args below meth c H locs cells slots Q (F0 m pc ls (.int (nI n) :: .int (nI 0) :: .ref a :: .int (nI 0) :: .ref a0 :: rest)) := by
  intro T hT X
  have hc0 : H[a0]? = some (vp_cell (G.2 0) (n0, .inr (.inl (fun j => lN (f j))))) := ha0
  have hc1 : H[a]? = some (vp_cell (G.2 0) (n1, .inr (.inl (fun j => lN (g j))))) := ha1
  obtain ⟨-, k0, hk0, cm0, hkk0⟩ := (hK.2 0 _ rfl).1 n0 (fun j => .long (lN (f j)))
  have z0 : ¬ nI 0 < 0 := by decide
  have hnn : ¬ nI n < 0 := nI_pos hn
  have c0 : (nI 0).toNatClampNeg = 0 := by decide
  have cn : (nI n).toNatClampNeg = n := nI_clamp hn
  obtain ⟨vm', X', step⟩ := X.arraycopy hx hown hlink hnat hstat hini (src := a0) (dst := a) (cs := vp_cell (G.2 0) (n0, .inr (.inl (fun j => lN (f j))))) (cd := vp_cell (G.2 0) (n1, .inr (.inl (fun j => lN (g j))))) (srcPos := nI 0) (destPos := nI 0) (n := nI n) (by rw [hT]; exact hc0) (by rw [hT]; exact hc1)
    (fun _ h => by cases h) (fun _ h => by cases h) (fun h => by cases h) (fun h => by cases h) hk0 hk0 hkk0 hkk0 (by simp [refKind]) z0 z0 hnn
    (by rw [nI_toInt hn, nI_toInt (by decide)]; show ¬ _ > ((arrV (G.2 0) n0 (fun j => .long (lN (f j)))).slots.size : Int); rw [arrV_size]; omega)
    (by rw [nI_toInt hn, nI_toInt (by decide)]; show ¬ _ > ((arrV (G.2 0) n1 (fun j => .long (lN (g j)))).slots.size : Int); rw [arrV_size]; omega)
    (fun vm₁ _ i hi => by
      rw [cn] at hi
      have e : (vp_cell (G.2 0) (n0, .inr (.inl (fun j => lN (f j))))).slots.getD ((nI 0).toNatClampNeg + i) .null = .long (lN (f i)) := by
        show (arrV (G.2 0) n0 (fun j => .long (lN (f j)))).slots.getD _ _ = _
        rw [c0, Nat.zero_add, Array.getD_eq_getD_getElem?, arrV_read _ _ (by omega)]
        rfl
      refine ⟨?_, ?_⟩
      · rw [e]; rfl
      · rw [e]; exact trivial)
    (g := F0 m pc ls (.int (nI n) :: .int (nI 0) :: .ref a :: .int (nI 0) :: .ref a0 :: rest)) rfl (by rw [hml]) (rest := rest) rfl (by rw [hb]; exact hdg) hframes (by show 2 * 0 + _ + _ ≤ _; omega)
  have e1 : copied (vp_cell (G.2 0) (n0, .inr (.inl (fun j => lN (f j))))) (vp_cell (G.2 0) (n1, .inr (.inl (fun j => lN (g j))))) (nI 0) (nI 0) (nI n) = aJ G n1 (fun j => if j < n then f j else g j) := by
    refine (va_copied (fun z => .long z) (G.2 0) (G.2 0) (fun j => lN (f j)) (fun j => lN (g j)) (n1 := n1) (by rw [c0, cn]; omega)).trans ?_
    unfold aJ
    congr 1
    funext j
    rw [c0, cn]
    unfold va_cpy
    by_cases hj : j < n
    · simp [hj]
    · simp [hj]
  rw [e1] at X' step
  obtain ⟨t, a1, b1⟩ := kk _ (lcs_app hLc (fun q hq => by
      obtain ⟨z, -, hz⟩ := List.mem_map.mp hq
      rw [← hz]
      exact hba)) _ (by rw [← hT]; rfl) X'
  exact ⟨t, step t a1, b1⟩
end RW2
end
section
/-! NUMBERS AS ROWS OF LIMBS of 32 bits, the lowest first: vl f n is the number of the first n limbs -/
def vl (f : Nat → Nat) : Nat → Nat
  | 0 => 0
  | n + 1 => vl f n + f n * 4294967296 ^ n
/-- limbs are limbs -/
def lim (f : Nat → Nat) (n : Nat) : Prop := ∀ j, j < n → f j < 4294967296
theorem lim_le {f : Nat → Nat} {n k : Nat} (h : lim f n) (hk : k ≤ n) : lim f k := fun j hj => h j (Nat.lt_of_lt_of_le hj hk)
theorem lim_fup {f : Nat → Nat} {n i x : Nat} (h : lim f n) (hx : x < 4294967296) : lim (fup f i x) n := by
  intro j hj
  unfold fup
  split
  · exact hx
  · exact h j hj
theorem vl_succ (f : Nat → Nat) (n : Nat) : vl f (n + 1) = vl f n + f n * 4294967296 ^ n := rfl
theorem vl_congr {f g : Nat → Nat} : ∀ {n : Nat}, (∀ j, j < n → f j = g j) → vl f n = vl g n
  | 0, _ => rfl
  | n + 1, h => by rw [vl_succ, vl_succ, vl_congr (fun j hj => h j (by omega)), h n (by omega)]
theorem powB_pos (n : Nat) : 0 < 4294967296 ^ n := Nat.pow_pos (by decide)
theorem vl_lt {f : Nat → Nat} : ∀ {n : Nat}, lim f n → vl f n < 4294967296 ^ n
  | 0, _ => by show 0 < 4294967296 ^ 0; decide
  | n + 1, h => by
    have h1 := vl_lt (lim_le h (Nat.le_succ n))
    have h2 : f n * 4294967296 ^ n ≤ 4294967295 * 4294967296 ^ n := Nat.mul_le_mul_right _ (by have := h n (by omega); omega)
    rw [vl_succ, Nat.pow_succ]
    generalize 4294967296 ^ n = P at *
    omega
theorem vl_fup_ge (f : Nat → Nat) (x : Nat) {n i : Nat} (h : n ≤ i) : vl (fup f i x) n = vl f n := vl_congr (fun j hj => fup_n f x (by omega))
theorem vl_fup {f : Nat → Nat} {i : Nat} (x : Nat) : ∀ {n : Nat}, i < n → vl (fup f i x) n + f i * 4294967296 ^ i = vl f n + x * 4294967296 ^ i
  | 0, h => absurd h (by omega)
  | n + 1, h => by
    rw [vl_succ, vl_succ]
    by_cases hi : i = n
    · subst hi
      rw [vl_fup_ge f x (Nat.le_refl i), fup_s]
      omega
    · have := vl_fup (f := f) x (show i < n by omega)
      rw [fup_n f x (by omega)]
      omega
theorem vl_ext {f : Nat → Nat} {n : Nat} : ∀ {k : Nat}, n ≤ k → (∀ j, n ≤ j → j < k → f j = 0) → vl f k = vl f n
  | 0, h, _ => by rw [show n = 0 by omega]
  | k + 1, h, h0 => by
    by_cases hk : n = k + 1
    · rw [hk]
    · rw [vl_succ, h0 k (by omega) (by omega), vl_ext (n := n) (k := k) (by omega) (fun j h1 h2 => h0 j h1 (by omega))]
      simp
theorem vl_zero_iff {f : Nat → Nat} : ∀ {n : Nat}, vl f n = 0 ↔ ∀ j, j < n → f j = 0
  | 0 => ⟨fun _ j hj => absurd hj (by omega), fun _ => rfl⟩
  | n + 1 => by
    rw [vl_succ]
    have hP := powB_pos n
    constructor
    · intro h j hj
      have h1 : vl f n = 0 := by omega
      have h2 : f n * 4294967296 ^ n = 0 := by omega
      by_cases hjn : j = n
      · subst hjn
        rcases Nat.mul_eq_zero.mp h2 with h3 | h3
        · exact h3
        · omega
      · exact vl_zero_iff.mp h1 j (by omega)
    · intro h
      rw [vl_zero_iff.mpr (fun j hj => h j (by omega)), h n (by omega)]
      simp
theorem vl_split (f : Nat → Nat) (k : Nat) : ∀ (m : Nat), vl f (k + m) = vl f k + vl (fun j => f (k + j)) m * 4294967296 ^ k
  | 0 => by simp [vl]
  | m + 1 => by
    rw [← Nat.add_assoc, vl_succ, vl_succ, vl_split f k m, Nat.add_mul, Nat.pow_add, Nat.mul_assoc, Nat.mul_comm (4294967296 ^ m), Nat.add_assoc]
theorem vl_top {f g : Nat → Nat} {n : Nat} (hf : lim f n) (h : f n < g n) : vl f (n + 1) < vl g (n + 1) := by
  have h1 := vl_lt hf
  have h2 : (f n + 1) * 4294967296 ^ n ≤ g n * 4294967296 ^ n := Nat.mul_le_mul_right _ h
  rw [vl_succ, vl_succ]
  rw [Nat.add_mul] at h2
  omega
theorem vl_get {f : Nat → Nat} {n : Nat} (hf : lim f n) {j : Nat} (hj : j < n) : vl f n / 4294967296 ^ j % 4294967296 = f j := by
  have e : n = j + (n - j - 1 + 1) := by omega
  have h1 : vl f j < 4294967296 ^ j := vl_lt (lim_le hf (by omega))
  have hs : ∀ m, vl (fun i => f (j + i)) (m + 1) = f j + 4294967296 * vl (fun i => f (j + 1 + i)) m := by
    intro m
    have := vl_split (fun i => f (j + i)) 1 m
    rw [Nat.add_comm 1 m] at this
    rw [this]
    simp only [vl, Nat.add_zero, Nat.pow_zero, Nat.pow_one, Nat.mul_one, Nat.zero_add]
    rw [Nat.mul_comm]
    congr 2
    exact vl_congr (fun i _ => by rw [Nat.add_assoc])
  rw [e, vl_split f j, hs, Nat.add_mul_div_right _ _ (powB_pos j), Nat.div_eq_of_lt h1, Nat.zero_add, Nat.add_mul_mod_self_left]
  exact Nat.mod_eq_of_lt (hf j hj)
theorem vl_inj {f g : Nat → Nat} {n : Nat} (hf : lim f n) (hg : lim g n) (h : vl f n = vl g n) : ∀ j, j < n → f j = g j := by
  intro j hj
  rw [← vl_get hf hj, ← vl_get hg hj, h]
theorem vl_ge_top {f : Nat → Nat} {n : Nat} (h : f n ≠ 0) : 4294967296 ^ n ≤ vl f (n + 1) := by
  rw [vl_succ]
  have : 1 * 4294967296 ^ n ≤ f n * 4294967296 ^ n := Nat.mul_le_mul_right _ (by omega)
  omega
/-- a total laid down: its low limb here, the rest carried -/
theorem carry_st (t P : Nat) : t % 4294967296 * P + t / 4294967296 * (P * 4294967296) = t * P := by
  rw [Nat.mul_comm P, ← Nat.mul_assoc, Nat.mul_comm (t / 4294967296), ← Nat.add_mul, Nat.mod_add_div]
/-- how many limbs there are up to the highest that is not 0 -/
def us (f : Nat → Nat) : Nat → Nat
  | 0 => 0
  | n + 1 => if f n = 0 then us f n else n + 1
theorem us_le (f : Nat → Nat) : ∀ n, us f n ≤ n
  | 0 => Nat.le_refl 0
  | n + 1 => by
    unfold us
    split
    · exact Nat.le_succ_of_le (us_le f n)
    · exact Nat.le_refl _
theorem us_hi (f : Nat → Nat) : ∀ n j, us f n ≤ j → j < n → f j = 0
  | 0, j, _, h => absurd h (by omega)
  | n + 1, j, h1, h2 => by
    unfold us at h1
    split at h1
    · next h0 =>
      by_cases hj : j = n
      · rw [hj]; exact h0
      · exact us_hi f n j h1 (by omega)
    · omega
theorem us_top (f : Nat → Nat) : ∀ n, us f n ≠ 0 → f (us f n - 1) ≠ 0
  | 0, h => absurd rfl h
  | n + 1, h => by
    unfold us at h ⊢
    split at h
    · next h0 => rw [if_pos h0]; exact us_top f n h
    · next h0 => rw [if_neg h0]; exact h0
theorem vl_us (f : Nat → Nat) (n : Nat) : vl f n = vl f (us f n) := vl_ext (us_le f n) (fun j h1 h2 => us_hi f n j h1 h2)
theorem us_0 (f : Nat → Nat) (n : Nat) : us f n = 0 ↔ vl f n = 0 := by
  constructor
  · intro h; rw [vl_us, h]; rfl
  · intro h
    by_cases h0 : us f n = 0
    · exact h0
    · have h1 := us_top f n h0
      have h2 := us_le f n
      exact absurd (vl_zero_iff.mp h _ (by omega)) h1
theorem us_le_iff {f : Nat → Nat} {n : Nat} (hf : lim f n) (k : Nat) : us f n ≤ k ↔ vl f n < 4294967296 ^ k := by
  constructor
  · intro h
    rw [vl_us]
    exact Nat.lt_of_lt_of_le (vl_lt (lim_le hf (us_le f n))) (Nat.pow_le_pow_right (by decide) h)
  · intro h
    by_cases hk : us f n ≤ k
    · exact hk
    · have h1 := us_top f n (by omega)
      have h2 := vl_ge_top h1
      rw [show us f n - 1 + 1 = us f n by omega, ← vl_us] at h2
      have h3 : 4294967296 ^ k ≤ 4294967296 ^ (us f n - 1) := Nat.pow_le_pow_right (by decide) (by omega)
      omega
theorem us_eq {f g : Nat → Nat} : ∀ {n : Nat}, (∀ j, j < n → f j = g j) → us f n = us g n
  | 0, _ => rfl
  | n + 1, h => by
    unfold us
    rw [h n (by omega), us_eq (fun j hj => h j (by omega))]
/-- a limb, 0 where the row has ended -/
def lat (n : Nat) (f : Nat → Nat) (k : Nat) : Nat := if k < n then f k else 0
theorem lat_lt {n : Nat} {f : Nat → Nat} {k : Nat} (h : k < n) : lat n f k = f k := by simp [lat, h]
theorem lat_ge {n : Nat} {f : Nat → Nat} {k : Nat} (h : n ≤ k) : lat n f k = 0 := by simp [lat, Nat.not_lt.mpr h]
theorem lim_lat {n : Nat} {f : Nat → Nat} (h : lim f n) (k : Nat) : lim (lat n f) k := by
  intro j _
  unfold lat
  split
  · next h1 => exact h j h1
  · decide
theorem lat_lim {n : Nat} {f : Nat → Nat} (h : lim f n) (k : Nat) : lat n f k < 4294967296 := lim_lat h (k + 1) k (by omega)
theorem vl_lat {n : Nat} {f : Nat → Nat} {k : Nat} (h : n ≤ k) : vl (lat n f) k = vl f n := by
  rw [vl_ext (n := n) h (fun j h1 _ => lat_ge h1)]
  exact vl_congr (fun j hj => lat_lt hj)
theorem vl_lat_le {n : Nat} {f : Nat → Nat} {k : Nat} (h : k ≤ n) : vl (lat n f) k = vl f k := vl_congr (fun j hj => lat_lt (by omega))
def latI (n : Nat) (f : Nat → Nat) (z : Int) : Nat := if 0 ≤ z ∧ z < n then f z.toNat else 0
theorem latI_nat (n : Nat) (f : Nat → Nat) (k : Nat) : latI n f (k : Int) = lat n f k := by
  unfold latI lat
  by_cases h : k < n
  · rw [if_pos ⟨by omega, by omega⟩, if_pos h]; rfl
  · rw [if_neg (by omega), if_neg h]
theorem latI_neg (n : Nat) (f : Nat → Nat) {z : Int} (h : z < 0) : latI n f z = 0 := by
  unfold latI
  rw [if_neg (by omega)]
theorem latI_lim {n : Nat} {f : Nat → Nat} (h : lim f n) (z : Int) : latI n f z < 4294967296 := by
  unfold latI
  split
  · next h1 => exact h _ (by omega)
  · decide
theorem lim_succ {g : Nat → Nat} {i x : Nat} (hg : lim g i) (hx : x < 4294967296) : lim (fup g i x) (i + 1) := by
  intro j hj
  by_cases h : j = i
  · rw [h, fup_s]; exact hx
  · rw [fup_n _ _ h]; exact hg j (by omega)
theorem fup_eq {g E : Nat → Nat} {i x : Nat} (h : ∀ j, j < i → g j = E j) (hx : x = E i) : ∀ j, j < i + 1 → fup g i x j = E j := by
  intro j hj
  by_cases e : j = i
  · rw [e, fup_s]; exact hx
  · rw [fup_n _ _ e]; exact h j (by omega)
theorem us_s0 {f : Nat → Nat} {k : Nat} (h : f k = 0) : us f (k + 1) = us f k := by
  rw [us, if_pos h]
theorem us_s1 {f : Nat → Nat} {k : Nat} (h : f k ≠ 0) : us f (k + 1) = k + 1 := by
  rw [us, if_neg h]
end
section
/-! ONE STEP OF EACH LOOP over limbs, as numbers -/
def ordP (r : Int32) (x y : Nat) : Prop := (x < y ∧ r = -1) ∨ (x = y ∧ r = 0) ∨ (y < x ∧ r = 1)
theorem vl_hi {f g : Nat → Nat} {k : Nat} : ∀ {n : Nat}, k ≤ n → (∀ j, k ≤ j → j < n → f j = g j) → vl f n + vl g k = vl g n + vl f k
  | 0, h, _ => by rw [show k = 0 by omega, Nat.add_comm]
  | n + 1, h, he => by
    by_cases hk : k = n + 1
    · rw [hk]; omega
    · have h1 := vl_hi (f := f) (g := g) (k := k) (n := n) (by omega) (fun j h1 h2 => he j h1 (by omega))
      rw [vl_succ, vl_succ, he n (by omega) (by omega)]
      omega
theorem ord_lt {f g : Nat → Nat} {q n : Nat} (hq : q + 1 ≤ n) (hf : lim f n) (he : ∀ j, q + 1 ≤ j → j < n → f j = g j) (h : f q < g q) : vl f n < vl g n := by
  have h1 := vl_top (n := q) (lim_le hf (by omega)) h
  have h2 := vl_hi (f := f) (g := g) hq he
  omega
theorem inc_step {f g : Nat → Nat} {n i : Nat} (hg : lim g n) (hi : i < n) (hv : vl g n + 4294967296 ^ i = vl f n + 1) (h : (g i + 1) % 4294967296 = 0) : vl (fup g i ((g i + 1) % 4294967296)) n + 4294967296 ^ (i + 1) = vl f n + 1 := by
  have h1 := vl_fup (f := g) ((g i + 1) % 4294967296) hi
  have h2 : g i = 4294967295 := by have := hg i hi; omega
  rw [h] at h1 ⊢
  rw [h2] at h1
  rw [Nat.pow_succ]
  omega
theorem inc_exit {f g : Nat → Nat} {n i : Nat} (hg : lim g n) (hi : i < n) (hv : vl g n + 4294967296 ^ i = vl f n + 1) (h : (g i + 1) % 4294967296 ≠ 0) : vl (fup g i ((g i + 1) % 4294967296)) n = (vl f n + 1) % 4294967296 ^ n := by
  have h1 := vl_fup (f := g) ((g i + 1) % 4294967296) hi
  have h3 := vl_lt (lim_fup (i := i) hg (Nat.mod_lt (g i + 1) (show 0 < 4294967296 by decide)))
  have h2 : (g i + 1) % 4294967296 = g i + 1 := by have := hg i hi; omega
  rw [h2] at h1 h3 ⊢
  rw [Nat.add_mul] at h1
  rw [← hv, Nat.mod_eq_of_lt (by omega)]
  omega
theorem inc_end {f g : Nat → Nat} {n : Nat} (h0 : ∀ j, j < n → g j = 0) (hv : vl g n + 4294967296 ^ n = vl f n + 1) : vl g n = (vl f n + 1) % 4294967296 ^ n := by
  rw [vl_zero_iff.mpr h0] at hv ⊢
  rw [← hv, Nat.zero_add, Nat.mod_self]
theorem dec_step {f g : Nat → Nat} {n i : Nat} (hg : lim g n) (hi : i < n) (hv : vl g n + 1 = vl f n + 4294967296 ^ i) (h : (g i + 4294967296 - 1) % 4294967296 = 4294967295) : g i = 0 ∧ vl (fup g i ((g i + 4294967296 - 1) % 4294967296)) n + 1 = vl f n + 4294967296 ^ (i + 1) := by
  have h1 := vl_fup (f := g) ((g i + 4294967296 - 1) % 4294967296) hi
  have h2 : g i = 0 := by have := hg i hi; omega
  rw [h] at h1 ⊢
  rw [h2] at h1
  rw [Nat.pow_succ]
  exact ⟨h2, by omega⟩
theorem dec_exit {f g : Nat → Nat} {n i : Nat} (hg : lim g n) (hi : i < n) (hv : vl g n + 1 = vl f n + 4294967296 ^ i) (h : (g i + 4294967296 - 1) % 4294967296 ≠ 4294967295) : vl (fup g i ((g i + 4294967296 - 1) % 4294967296)) n + 1 = vl f n := by
  have h1 := vl_fup (f := g) ((g i + 4294967296 - 1) % 4294967296) hi
  have h2 : (g i + 4294967296 - 1) % 4294967296 + 1 = g i := by have := hg i hi; omega
  have h4 := congrArg (fun z => z * 4294967296 ^ i) h2
  simp only [Nat.add_mul] at h4
  omega
theorem neg_step {f g : Nat → Nat} {i : Nat} (hf : f i < 4294967296) (hg : g i = f i) (hv : vl g i + vl f i + 1 = 4294967296 ^ i) : vl (fup g i (4294967295 - g i)) (i + 1) + vl f (i + 1) + 1 = 4294967296 ^ (i + 1) := by
  rw [vl_succ, vl_succ, vl_fup_ge g _ (Nat.le_refl i), fup_s, Nat.pow_succ, hg]
  have h4 := congrArg (fun z => z * 4294967296 ^ i) (show 4294967295 - f i + f i = 4294967295 by omega)
  simp only [Nat.add_mul] at h4
  omega
theorem add_step {A D h : Nat → Nat} {i c : Nat} (hv : vl h i + c * 4294967296 ^ i = vl A i + vl D i) : vl (fup h i ((A i + D i + c) % 4294967296)) (i + 1) + (A i + D i + c) / 4294967296 * 4294967296 ^ (i + 1) = vl A (i + 1) + vl D (i + 1) := by
  have h1 := carry_st (A i + D i + c) (4294967296 ^ i)
  rw [Nat.add_mul, Nat.add_mul] at h1
  rw [vl_succ, vl_succ, vl_succ, vl_fup_ge h _ (Nat.le_refl i), fup_s, Nat.pow_succ]
  omega
theorem sub_step1 {A D h : Nat → Nat} {i c : Nat} (hA : A i < 4294967296) (hD : D i + c ≤ 4294967296) (hc : A i < D i + c) (hv : vl h i + vl D i = vl A i + c * 4294967296 ^ i) : vl (fup h i ((A i + 4294967296 - (D i + c)) % 4294967296)) (i + 1) + vl D (i + 1) = vl A (i + 1) + 1 * 4294967296 ^ (i + 1) := by
  rw [vl_succ, vl_succ, vl_succ, vl_fup_ge h _ (Nat.le_refl i), fup_s, Nat.pow_succ]
  have h2 : (A i + 4294967296 - (D i + c)) % 4294967296 + D i + c = A i + 4294967296 := by omega
  have h4 := congrArg (fun z => z * 4294967296 ^ i) h2
  simp only [Nat.add_mul] at h4
  omega
theorem sub_step0 {A D h : Nat → Nat} {i c : Nat} (hA : A i < 4294967296) (hc : D i + c ≤ A i) (hv : vl h i + vl D i = vl A i + c * 4294967296 ^ i) : vl (fup h i ((A i + 4294967296 - (D i + c)) % 4294967296)) (i + 1) + vl D (i + 1) = vl A (i + 1) + 0 * 4294967296 ^ (i + 1) := by
  rw [vl_succ, vl_succ, vl_succ, vl_fup_ge h _ (Nat.le_refl i), fup_s, Nat.pow_succ]
  have h2 : (A i + 4294967296 - (D i + c)) % 4294967296 + D i + c = A i := by omega
  have h4 := congrArg (fun z => z * 4294967296 ^ i) h2
  simp only [Nat.add_mul] at h4
  omega
/-- row times a factor and more -/
theorem mad_step {f g : Nat → Nat} {i c x q : Nat} (hg : g i = f i) (hv : vl g i + c * 4294967296 ^ i = vl f i * x + q) : vl (fup g i ((g i * x + c) % 4294967296)) (i + 1) + (g i * x + c) / 4294967296 * 4294967296 ^ (i + 1) = vl f (i + 1) * x + q := by
  have h1 := carry_st (g i * x + c) (4294967296 ^ i)
  have h5 : f i * 4294967296 ^ i * x = f i * x * 4294967296 ^ i := by rw [Nat.mul_assoc, Nat.mul_comm (4294967296 ^ i), ← Nat.mul_assoc]
  rw [vl_succ, vl_succ, vl_fup_ge g _ (Nat.le_refl i), fup_s, Nat.pow_succ, Nat.add_mul, h5]
  rw [hg] at h1 ⊢
  rw [Nat.add_mul] at h1
  omega
theorem mul_lt_B2 {a b c d : Nat} (ha : a < 4294967296) (hb : b < 4294967296) (hc : c < 4294967296) (hd : d < 4294967296) : a * b + c + d < 18446744073709551616 := by
  have h1 : a * b ≤ 4294967295 * 4294967295 := Nat.mul_le_mul (by omega) (by omega)
  omega
theorem mul_div_B {a b c d : Nat} (ha : a < 4294967296) (hb : b < 4294967296) (hc : c < 4294967296) (hd : d < 4294967296) : (a * b + c + d) / 4294967296 < 4294967296 := by
  have := mul_lt_B2 ha hb hc hd
  omega
/-- the digits of V are the row -/
theorem vl_digits {h : Nat → Nat} {V : Nat} : ∀ {k : Nat}, (∀ i, i < k → h i = V / 4294967296 ^ i % 4294967296) → vl h k = V % 4294967296 ^ k
  | 0, _ => by simp [vl, Nat.mod_one]
  | k + 1, hd => by
    rw [vl_succ, vl_digits (k := k) (fun i hi => hd i (by omega)), hd k (by omega), Nat.pow_succ, Nat.mod_mul, Nat.mul_comm (4294967296 ^ k)]
theorem lim_digits {h : Nat → Nat} {V k : Nat} (hd : ∀ i, i < k → h i = V / 4294967296 ^ i % 4294967296) : lim h k := by
  intro i hi
  rw [hd i hi]
  exact Nat.mod_lt _ (by decide)
theorem dbs_lt {z d x : Nat} (hz : z < d) (hx : x < 4294967296) : (z * 4294967296 + x) / d < 4294967296 := by
  rw [Nat.div_lt_iff_lt_mul (by omega)]
  have h : (z + 1) * 4294967296 ≤ d * 4294967296 := Nat.mul_le_mul_right _ hz
  rw [Nat.mul_comm 4294967296 d]
  omega
theorem dbs_step {f g : Nat → Nat} {u k z d : Nat} (hk : k < u) (hg : g k = f k) (hv : vl f u + d * vl g (k + 1) = d * vl g u + z * 4294967296 ^ (k + 1) + vl f (k + 1)) :
    vl f u + d * vl (fup g k ((z * 4294967296 + g k) / d)) k = d * vl (fup g k ((z * 4294967296 + g k) / d)) u + (z * 4294967296 + g k) % d * 4294967296 ^ k + vl f k := by
  have h1 := congrArg (fun q => d * q) (vl_fup (f := g) ((z * 4294967296 + g k) / d) hk)
  have h2 := congrArg (fun q => q * 4294967296 ^ k) (Nat.div_add_mod (z * 4294967296 + g k) d)
  simp only [Nat.mul_add, Nat.add_mul] at h1 h2
  rw [vl_succ, vl_succ, Nat.mul_add, Nat.pow_succ] at hv
  rw [vl_fup_ge g _ (Nat.le_refl k)]
  rw [← hg] at hv
  have h3 : d * ((z * 4294967296 + g k) / d) * 4294967296 ^ k = d * ((z * 4294967296 + g k) / d * 4294967296 ^ k) := Nat.mul_assoc _ _ _
  have h4 : z * 4294967296 * 4294967296 ^ k = z * (4294967296 ^ k * 4294967296) := by rw [Nat.mul_assoc, Nat.mul_comm (4294967296 ^ k)]
  omega
theorem gs_le {u1 u0 v : Nat} (h0 : u0 < 4294967296) (h : u1 < v) : (u1 * 4294967296 + u0) / 2 ^ 1 / v * 2 ^ 1 * v ≤ u1 * 4294967296 + u0 := by
  rw [Nat.pow_one]
  generalize u1 * 4294967296 + u0 = x
  have h1 := Nat.div_mul_le_self (x / 2) v
  have h2 : x / 2 / v * 2 * v = 2 * (x / 2 / v * v) := by rw [Nat.mul_comm (x / 2 / v) 2, Nat.mul_assoc]
  omega
theorem gs_rem {x v : Nat} (hv : 0 < v) : x - x / 2 ^ 1 / v * 2 ^ 1 * v < 2 * v ∧ x / 2 ^ 1 / v * 2 ^ 1 * v ≤ x := by
  rw [Nat.pow_one]
  have h1 := Nat.div_add_mod (x / 2) v
  have h3 := Nat.mod_lt (x / 2) hv
  have h2 : x / 2 / v * 2 * v = 2 * (v * (x / 2 / v)) := by rw [Nat.mul_comm (x / 2 / v) 2, Nat.mul_assoc, Nat.mul_comm (x / 2 / v)]
  omega
theorem gs_lt {u1 u0 v : Nat} (h0 : u0 < 4294967296) (hv : v < 4294967296) (h : u1 < v) : u1 * 4294967296 + u0 - (u1 * 4294967296 + u0) / 2 ^ 1 / v * 2 ^ 1 * v < 8589934592 := by
  have := (gs_rem (x := u1 * 4294967296 + u0) (v := v) (by omega)).1
  omega
theorem gs_eq0 {x v : Nat} (hv : 0 < v) (h : x - x / 2 ^ 1 / v * 2 ^ 1 * v < v) : x / 2 ^ 1 / v * 2 ^ 1 = x / v := by
  have h1 := (gs_rem (x := x) hv).2
  symm
  apply Nat.div_eq_of_lt_le
  · exact h1
  · rw [Nat.add_mul, Nat.one_mul]
    omega
theorem gs_eq1 {x v : Nat} (hv : 0 < v) (h : v ≤ x - x / 2 ^ 1 / v * 2 ^ 1 * v) : x / 2 ^ 1 / v * 2 ^ 1 + 1 = x / v := by
  have h1 := gs_rem (x := x) hv
  symm
  apply Nat.div_eq_of_lt_le
  · rw [Nat.add_mul, Nat.one_mul]; omega
  · rw [Nat.add_mul, Nat.add_mul, Nat.one_mul]; omega
/-- a row seen from place p on -/
def shf (f : Nat → Nat) (p : Nat) : Nat → Nat := fun j => f (p + j)
theorem shf_fup (f : Nat → Nat) (p i x : Nat) : shf (fup f (p + i) x) p = fup (shf f p) i x := by
  funext j
  unfold shf fup
  by_cases h : j = i
  · rw [if_pos (by omega), if_pos h]
  · rw [if_neg (by omega), if_neg h]
theorem lim_shf {f : Nat → Nat} {n p k : Nat} (h : lim f n) (hk : p + k ≤ n) : lim (shf f p) k := fun j hj => h (p + j) (by omega)
/-- product taken off: the low limb of the product is x, the difference is masked -/
theorem sp_step1 {u v h : Nat → Nat} {i c q : Nat} (hu : u i < 4294967296) (hc : u i < (v i * q + c) % 4294967296) (hv : vl h i + q * vl v i = vl u i + c * 4294967296 ^ i) : vl (fup h i ((u i + 4294967296 - (v i * q + c) % 4294967296) % 4294967296)) (i + 1) + q * vl v (i + 1) = vl u (i + 1) + ((v i * q + c) / 4294967296 + 1) * 4294967296 ^ (i + 1) := by
  have hx : (v i * q + c) % 4294967296 < 4294967296 := Nat.mod_lt _ (by decide)
  have h2 : (u i + 4294967296 - (v i * q + c) % 4294967296) % 4294967296 + (v i * q + c) % 4294967296 = u i + 4294967296 := by omega
  have h4 := congrArg (fun z => z * 4294967296 ^ i) h2
  have h1 := carry_st (v i * q + c) (4294967296 ^ i)
  have h5 : q * (v i * 4294967296 ^ i) = v i * q * 4294967296 ^ i := by rw [← Nat.mul_assoc, Nat.mul_comm q]
  simp only [Nat.add_mul] at h4 h1
  rw [vl_succ, vl_succ, vl_succ, vl_fup_ge h _ (Nat.le_refl i), fup_s, Nat.pow_succ, Nat.mul_add, Nat.add_mul, Nat.one_mul, h5]
  omega
theorem sp_step0 {u v h : Nat → Nat} {i c q : Nat} (hu : u i < 4294967296) (hc : (v i * q + c) % 4294967296 ≤ u i) (hv : vl h i + q * vl v i = vl u i + c * 4294967296 ^ i) : vl (fup h i ((u i + 4294967296 - (v i * q + c) % 4294967296) % 4294967296)) (i + 1) + q * vl v (i + 1) = vl u (i + 1) + ((v i * q + c) / 4294967296 + 0) * 4294967296 ^ (i + 1) := by
  have hx : (v i * q + c) % 4294967296 < 4294967296 := Nat.mod_lt _ (by decide)
  have h2 : (u i + 4294967296 - (v i * q + c) % 4294967296) % 4294967296 + (v i * q + c) % 4294967296 = u i := by omega
  have h4 := congrArg (fun z => z * 4294967296 ^ i) h2
  have h1 := carry_st (v i * q + c) (4294967296 ^ i)
  have h5 : q * (v i * 4294967296 ^ i) = v i * q * 4294967296 ^ i := by rw [← Nat.mul_assoc, Nat.mul_comm q]
  simp only [Nat.add_mul] at h4 h1
  rw [Nat.add_zero ((v i * q + c) / 4294967296), vl_succ, vl_succ, vl_succ, vl_fup_ge h _ (Nat.le_refl i), fup_s, Nat.pow_succ, Nat.mul_add, h5]
  omega
theorem sp_end1 {u h : Nat → Nat} {i c Y : Nat} (hu : u i < 4294967296) (hcB : c ≤ 4294967296) (hc : u i < c) (hv : vl h i + Y = vl u i + c * 4294967296 ^ i) : vl (fup h i ((u i + 4294967296 - c) % 4294967296)) (i + 1) + Y = vl u (i + 1) + 4294967296 ^ (i + 1) := by
  have h2 : (u i + 4294967296 - c) % 4294967296 + c = u i + 4294967296 := by omega
  have h4 := congrArg (fun z => z * 4294967296 ^ i) h2
  simp only [Nat.add_mul] at h4
  rw [vl_succ, vl_succ, vl_fup_ge h _ (Nat.le_refl i), fup_s, Nat.pow_succ]
  omega
theorem sp_end0 {u h : Nat → Nat} {i c Y : Nat} (hu : u i < 4294967296) (hc : c ≤ u i) (hv : vl h i + Y = vl u i + c * 4294967296 ^ i) : vl (fup h i ((u i + 4294967296 - c) % 4294967296)) (i + 1) + Y = vl u (i + 1) := by
  have h2 : (u i + 4294967296 - c) % 4294967296 + c = u i := by omega
  have h4 := congrArg (fun z => z * 4294967296 ^ i) h2
  simp only [Nat.add_mul] at h4
  rw [vl_succ, vl_succ, vl_fup_ge h _ (Nat.le_refl i), fup_s]
  omega
theorem sp_lt {v q c : Nat} (hv : v < 4294967296) (hq : q < 4294967296) (hc : c ≤ 4294967296) : v * q + c < 18446744073709551616 ∧ (v * q + c) / 4294967296 < 4294967296 := by
  have h1 : v * q ≤ 4294967295 * 4294967295 := Nat.mul_le_mul (by omega) (by omega)
  omega
theorem knuth {u v : Nat → Nat} {m : Nat} (hm : 1 ≤ m) (hu : lim u (m + 1)) (hv : lim v m) (ht : 2147483648 ≤ v (m - 1)) (hlt : vl u (m + 1) < vl v m * 4294967296) {qh : Nat} (hq : qh = if v (m - 1) ≤ u m then 4294967295 else (u m * 4294967296 + u (m - 1)) / v (m - 1)) :
    qh < 4294967296 ∧ vl u (m + 1) / vl v m ≤ qh ∧ qh ≤ vl u (m + 1) / vl v m + 2 := by
  obtain ⟨k, rfl⟩ : ∃ k, m = k + 1 := ⟨m - 1, by omega⟩
  rw [Nat.add_sub_cancel] at ht hq
  have hP := powB_pos k
  have hL := vl_lt (lim_le hu (show k ≤ k + 1 + 1 by omega))
  have hL2 := vl_lt (lim_le hv (show k ≤ k + 1 by omega))
  have hU : vl u (k + 1 + 1) = vl u k + (u (k + 1) * 4294967296 + u k) * 4294967296 ^ k := by
    rw [vl_succ, vl_succ, Nat.pow_succ, Nat.add_mul, Nat.mul_assoc, Nat.mul_comm 4294967296]
    omega
  have hV : vl v (k + 1) = vl v k + v k * 4294967296 ^ k := vl_succ v k
  have hVpos : 0 < vl v (k + 1) := by
    have : 1 * 4294967296 ^ k ≤ v k * 4294967296 ^ k := Nat.mul_le_mul_right _ (by omega)
    omega
  have hqB : qh < 4294967296 := by
    rw [hq]
    split
    · decide
    · next h => exact dbs_lt (by omega) (hu k (by omega))
  have hqv : qh * v k ≤ u (k + 1) * 4294967296 + u k := by
    rw [hq]
    split
    · next h =>
      have h1 : 4294967295 * v k ≤ 4294967295 * u (k + 1) := Nat.mul_le_mul_left _ h
      omega
    · exact Nat.div_mul_le_self _ _
  refine ⟨hqB, ?_, ?_⟩
  · apply Nat.le_of_lt_succ
    rw [Nat.div_lt_iff_lt_mul hVpos]
    by_cases h : v k ≤ u (k + 1)
    · rw [if_pos h] at hq
      rw [hq, Nat.mul_comm]
      exact hlt
    · rw [if_neg h] at hq
      have h1 : u (k + 1) * 4294967296 + u k < v k * (qh + 1) := by
        rw [hq]; exact Nat.lt_mul_div_succ _ (by omega)
      have h2 : (u (k + 1) * 4294967296 + u k + 1) * 4294967296 ^ k ≤ v k * (qh + 1) * 4294967296 ^ k := Nat.mul_le_mul_right _ h1
      have h3 : v k * (qh + 1) * 4294967296 ^ k ≤ (qh + 1) * vl v (k + 1) := by
        rw [hV, Nat.mul_add (qh + 1), Nat.mul_comm (v k), Nat.mul_assoc]
        omega
      rw [Nat.add_mul, Nat.one_mul] at h2
      show vl u (k + 1 + 1) < (qh + 1) * vl v (k + 1)
      omega
  · rw [← Nat.not_lt]
    intro hbad
    have h5 := Nat.lt_mul_div_succ (vl u (k + 1 + 1)) hVpos
    generalize hqq : vl u (k + 1 + 1) / vl v (k + 1) = q at hbad h5
    have h6 : (q + 3) * vl v (k + 1) ≤ qh * vl v (k + 1) := Nat.mul_le_mul_right _ (by omega)
    have h1 : qh * vl v (k + 1) = qh * vl v k + qh * v k * 4294967296 ^ k := by rw [hV, Nat.mul_add, Nat.mul_assoc]
    have h2 : qh * v k * 4294967296 ^ k ≤ (u (k + 1) * 4294967296 + u k) * 4294967296 ^ k := Nat.mul_le_mul_right _ hqv
    have h3 : qh * vl v k ≤ 4294967295 * 4294967296 ^ k := Nat.mul_le_mul (by omega) (by omega)
    have h7 : 2147483648 * 4294967296 ^ k ≤ v k * 4294967296 ^ k := Nat.mul_le_mul_right _ ht
    rw [Nat.add_mul] at h6
    rw [Nat.mul_add, Nat.mul_one, Nat.mul_comm (vl v (k + 1)) q] at h5
    omega
theorem ab_end1 {u h : Nat → Nat} {i c Y : Nat} (hu : u i < 4294967296) (hcB : c ≤ 1) (hc : 4294967295 < u i + c) (hv : vl h i + c * 4294967296 ^ i = vl u i + Y) : vl (fup h i ((u i + c) % 4294967296)) (i + 1) + 4294967296 ^ (i + 1) = vl u (i + 1) + Y := by
  have h2 : (u i + c) % 4294967296 + 4294967296 = u i + c := by omega
  have h4 := congrArg (fun z => z * 4294967296 ^ i) h2
  simp only [Nat.add_mul] at h4
  rw [vl_succ, vl_succ, vl_fup_ge h _ (Nat.le_refl i), fup_s, Nat.pow_succ]
  omega
theorem ab_end0 {u h : Nat → Nat} {i c Y : Nat} (hc : u i + c ≤ 4294967295) (hv : vl h i + c * 4294967296 ^ i = vl u i + Y) : vl (fup h i ((u i + c) % 4294967296)) (i + 1) = vl u (i + 1) + Y := by
  have h2 : (u i + c) % 4294967296 = u i + c := by omega
  have h4 := congrArg (fun z => z * 4294967296 ^ i) h2
  simp only [Nat.add_mul] at h4
  rw [vl_succ, vl_succ, vl_fup_ge h _ (Nat.le_refl i), fup_s]
  omega
theorem to_done {U V q U' : Nat} (hV : 0 < V) (h : U' + q * V = U) (hq : U / V ≤ q) : q = U / V ∧ U' = U % V := by
  have h1 : q ≤ U / V := (Nat.le_div_iff_mul_le hV).mpr (by omega)
  have h2 : q = U / V := by omega
  refine ⟨h2, ?_⟩
  have h3 := Nat.div_add_mod U V
  rw [← h2, Nat.mul_comm] at h3
  omega
theorem to_le {U V q : Nat} (hV : 0 < V) (h : U < q * V) : U / V + 1 ≤ q := (Nat.div_lt_iff_lt_mul hV).mpr h
theorem to_back {U V q U1 U2 T : Nat} (h : U1 + q * V = U + T) (h2 : U2 + T = U1 + V) (hq : 1 ≤ q) : U2 + (q - 1) * V = U := by
  obtain ⟨k, rfl⟩ : ∃ k, q = k + 1 := ⟨q - 1, by omega⟩
  rw [Nat.add_mul, Nat.one_mul] at h
  rw [Nat.add_sub_cancel]
  omega
theorem to_more {U V q U1 U2 T : Nat} (h : U1 + q * V = U + T) (h2 : U2 = U1 + V) (hq : 1 ≤ q) : U2 + (q - 1) * V = U + T := by
  obtain ⟨k, rfl⟩ : ∃ k, q = k + 1 := ⟨q - 1, by omega⟩
  rw [Nat.add_mul, Nat.one_mul] at h
  rw [Nat.add_sub_cancel]
  omega
theorem vl_getL {f : Nat → Nat} {n : Nat} (hf : lim f n) (j : Nat) : vl f n / 4294967296 ^ j % 4294967296 = lat n f j := by
  by_cases hj : j < n
  · rw [lat_lt hj, vl_get hf hj]
  · rw [lat_ge (by omega), Nat.div_eq_of_lt (Nat.lt_of_lt_of_le (vl_lt hf) (Nat.pow_le_pow_right (by decide) (by omega)))]
theorem B_pow2 {p : Nat} (hp : p ≤ 32) : 4294967296 = 2 ^ (32 - p) * 2 ^ p := by
  rw [← Nat.pow_add, show 32 - p + p = 32 by omega]
theorem two_s (s : Nat) : 2 ^ s = 4294967296 ^ (s / 32) * 2 ^ (s % 32) := by
  rw [show 4294967296 = 2 ^ 32 from rfl, ← Nat.pow_mul, ← Nat.pow_add, Nat.div_add_mod]
/-- one limb of a row moved up -/
theorem up_limb {f : Nat → Nat} {n : Nat} (hf : lim f n) (s i : Nat) : vl f n * 2 ^ s / 4294967296 ^ i % 4294967296 = (latI n f ((i : Int) - ((s / 32 : Nat) : Int)) * 2 ^ (s % 32) + latI n f ((i : Int) - ((s / 32 : Nat) : Int) - 1) / 2 ^ (32 - s % 32)) % 4294967296 := by
  have hp : s % 32 < 32 := Nat.mod_lt _ (by decide)
  rw [two_s s]
  generalize s / 32 = L at *
  generalize s % 32 = p at *
  rw [Nat.mul_comm (4294967296 ^ L), ← Nat.mul_assoc]
  by_cases hi : i < L
  · rw [latI_neg n f (by omega), latI_neg n f (by omega), Nat.zero_mul, Nat.zero_div]
    rw [show L = i + (L - i - 1 + 1) by omega, Nat.pow_add, Nat.mul_comm (4294967296 ^ i), ← Nat.mul_assoc, Nat.mul_div_cancel _ (powB_pos i), Nat.pow_succ, ← Nat.mul_assoc, Nat.mul_mod_left]
  · obtain ⟨t, rfl⟩ : ∃ t, i = L + t := ⟨i - L, by omega⟩
    rw [Nat.pow_add, ← Nat.div_div_eq_div_mul, Nat.mul_div_cancel _ (powB_pos L)]
    rw [show ((L + t : Nat) : Int) - (L : Int) = (t : Int) by omega, latI_nat]
    cases t with
    | zero =>
      rw [latI_neg n f (by omega), Nat.zero_div, Nat.add_zero, Nat.pow_zero, Nat.div_one, Nat.mul_mod, ← vl_getL hf 0, Nat.pow_zero, Nat.div_one]
      conv => rhs; rw [Nat.mul_mod]
      rw [Nat.mod_mod]
    | succ t =>
      rw [show ((t + 1 : Nat) : Int) - 1 = (t : Int) by omega, latI_nat]
      have h1 : vl f n * 2 ^ p / 4294967296 ^ (t + 1) = vl f n / 4294967296 ^ t / 2 ^ (32 - p) := by
        rw [Nat.pow_succ]
        conv => lhs; rw [show 4294967296 ^ t * 4294967296 = 4294967296 ^ t * (2 ^ (32 - p) * 2 ^ p) from congrArg (fun z => 4294967296 ^ t * z) (B_pow2 (by omega))]
        rw [← Nat.mul_assoc, Nat.mul_div_mul_right _ _ (Nat.pow_pos (by decide)), Nat.div_div_eq_div_mul]
      rw [h1]
      have h2 := vl_getL hf t
      have h3 := vl_getL hf (t + 1)
      rw [Nat.pow_succ, ← Nat.div_div_eq_div_mul] at h3
      generalize vl f n / 4294967296 ^ t = w at h2 h3 ⊢
      rw [← h2, ← h3]
      have h4 : w / 2 ^ (32 - p) = w % 4294967296 / 2 ^ (32 - p) + 2 ^ p * (w / 4294967296) := by
        conv => lhs; rw [← Nat.mod_add_div w 4294967296]
        conv => lhs; rw [show 4294967296 * (w / 4294967296) = 2 ^ (32 - p) * (2 ^ p * (w / 4294967296)) by rw [← Nat.mul_assoc, ← B_pow2 (by omega)]]
        rw [Nat.add_mul_div_left _ _ (Nat.pow_pos (by decide))]
      rw [h4, Nat.add_comm, Nat.add_mod, Nat.mul_comm (2 ^ p), Nat.mul_mod]
      conv => rhs; rw [Nat.add_mod, Nat.mul_mod, Nat.mod_mod]
theorem dn_limb {f : Nat → Nat} {n : Nat} (hf : lim f n) (s i : Nat) : vl f n / 2 ^ s / 4294967296 ^ i % 4294967296 = (lat n f (i + s / 32 + 1) * 2 ^ (32 - s % 32) + lat n f (i + s / 32) / 2 ^ (s % 32)) % 4294967296 := by
  have hp : s % 32 < 32 := Nat.mod_lt _ (by decide)
  rw [two_s s]
  generalize s / 32 = L at *
  generalize s % 32 = p at *
  have h1 : vl f n / (4294967296 ^ L * 2 ^ p) / 4294967296 ^ i = vl f n / 4294967296 ^ (i + L) / 2 ^ p := by
    rw [Nat.div_div_eq_div_mul, Nat.div_div_eq_div_mul, Nat.pow_add]
    congr 1
    rw [Nat.mul_comm (4294967296 ^ i), Nat.mul_assoc, Nat.mul_assoc, Nat.mul_comm (2 ^ p)]
  rw [h1]
  have h2 := vl_getL hf (i + L)
  have h3 := vl_getL hf (i + L + 1)
  rw [Nat.pow_succ, ← Nat.div_div_eq_div_mul] at h3
  generalize vl f n / 4294967296 ^ (i + L) = w at h2 h3 ⊢
  rw [← h2, ← h3]
  have h4 : w / 2 ^ p = w % 4294967296 / 2 ^ p + 2 ^ (32 - p) * (w / 4294967296) := by
    conv => lhs; rw [← Nat.mod_add_div w 4294967296]
    conv => lhs; rw [show 4294967296 * (w / 4294967296) = 2 ^ p * (2 ^ (32 - p) * (w / 4294967296)) by rw [← Nat.mul_assoc, Nat.mul_comm (2 ^ p), ← B_pow2 (by omega)]]
    rw [Nat.add_mul_div_left _ _ (Nat.pow_pos (by decide))]
  rw [h4, Nat.add_comm, Nat.add_mod, Nat.mul_comm (2 ^ (32 - p)), Nat.mul_mod]
  conv => rhs; rw [Nat.add_mod, Nat.mul_mod, Nat.mod_mod]
/-- parts that do not overlap: 'or' is a sum -/
theorem or_sum {a b p : Nat} (hb : b < 2 ^ p) : a * 2 ^ p ||| b = a * 2 ^ p + b := by
  rw [Nat.mul_comm, Nat.two_pow_add_eq_or_of_lt hb]
theorem div_lt_pow {x p : Nat} (hx : x < 4294967296) (hp : p ≤ 32) : x / 2 ^ (32 - p) < 2 ^ p := by
  rw [Nat.div_lt_iff_lt_mul (Nat.pow_pos (by decide)), Nat.mul_comm, ← B_pow2 hp]
  exact hx
theorem div_lt_pow2 {x p : Nat} (hx : x < 4294967296) (hp : p ≤ 32) : x / 2 ^ p < 2 ^ (32 - p) := by
  rw [Nat.div_lt_iff_lt_mul (Nat.pow_pos (by decide)), ← B_pow2 hp]
  exact hx
theorem mul_pow_lt {x p : Nat} (hx : x < 4294967296) (hp : p ≤ 32) : x * 2 ^ p < 18446744073709551616 := by
  have h1 : 2 ^ p ≤ 2 ^ 32 := Nat.pow_le_pow_right (by decide) hp
  have h2 : x * 2 ^ p ≤ 4294967295 * 2 ^ 32 := Nat.mul_le_mul (by omega) h1
  omega
/-- one column of a product -/
theorem mul_step {f g t : Nat → Nat} {i j c bu Z : Nat} (hij : i + j < 32) (hv : vl t 32 + c * 4294967296 ^ (i + j) = Z + f i * 4294967296 ^ i * vl g j) :
    vl (fup t (i + j) ((f i * g j + t (i + j) + c) % 4294967296)) 32 + (f i * g j + t (i + j) + c) / 4294967296 * 4294967296 ^ (i + (j + 1)) = Z + f i * 4294967296 ^ i * vl g (j + 1) := by
  have h1 := carry_st (f i * g j + t (i + j) + c) (4294967296 ^ (i + j))
  have h2 := vl_fup (f := t) ((f i * g j + t (i + j) + c) % 4294967296) hij
  have h3 : f i * 4294967296 ^ i * (g j * 4294967296 ^ j) = f i * g j * 4294967296 ^ (i + j) := by
    rw [Nat.pow_add, Nat.mul_assoc, Nat.mul_assoc, Nat.mul_left_comm (4294967296 ^ i)]
  simp only [Nat.add_mul] at h1
  rw [vl_succ g j, Nat.mul_add, h3, ← Nat.add_assoc i j 1, Nat.pow_succ]
  omega
theorem mul_row {f g t : Nat → Nat} {i bu c : Nat} (hib : i + bu < 32) (h0 : t (i + bu) = 0) (hv : vl t 32 + c * 4294967296 ^ (i + bu) = vl f i * vl g bu + f i * 4294967296 ^ i * vl g bu) : vl (fup t (i + bu) c) 32 = vl f (i + 1) * vl g bu := by
  have h2 := vl_fup (f := t) c hib
  rw [h0] at h2
  rw [vl_succ f i, Nat.add_mul]
  omega
theorem sub1_toInt {a b : Nat} (ha : a < 2 ^ 29) (hb : b < 2 ^ 29) : (nI a - nI b - nI 1).toInt = (a : Int) - b - 1 := by
  have h : nI a - nI b - nI 1 = nI a - nI (b + 1) := by rw [← nI_add]; grind
  rw [h, pk_sub_toInt (by omega) (by omega)]
  omega
end
section
/-! WHAT THE JDK'S COUNTS OF ZEROS rest on -/
theorem nI_decK {n : Nat} {z : Int} (k : Nat) (hz : Int32.ofInt z = -nI k) (h : k ≤ n) : nI n + Int32.ofInt z = nI (n - k) := by
  rw [hz, ← Int32.sub_eq_add_neg, pk_sub h]
theorem nI_gt0 {x : Nat} (h0 : 0 < x) (h : x < 2 ^ 31) : 0 < nI x := by
  rw [← nI_0]; exact nI_lt h0 h
theorem nI_neg {x : Nat} (h0 : 2 ^ 31 ≤ x) (h : x < 2 ^ 32) : ¬ 0 < nI x := by
  rw [Int32.lt_iff_toInt_lt, Int32.toInt_zero]
  have h1 : (nI x).toInt = (x : Int) - 2 ^ 32 := by
    show (Int32.ofNat x).toInt = _
    rw [Int32.toInt_ofNat', show Int32.size = 4294967296 from rfl, Int.bmod_def]
    split <;> omega
  omega
theorem nI_nez {x : Nat} (h0 : 0 < x) (h : x < 2 ^ 32) : ¬ nI x = 0 := by
  intro h1
  have h2 := congrArg (fun z : Int32 => z.toBitVec.toNat) h1
  simp only [pk_tn h] at h2
  have h3 : (0 : Int32).toBitVec.toNat = 0 := rfl
  omega
theorem nlz_step {x y n k : Nat} (hn : n ≤ 31) (hk : k ≤ n) (hy : y = x / 2 ^ (31 - n)) : y / 2 ^ k = x / 2 ^ (31 - (n - k)) := by
  rw [hy, Nat.div_div_eq_div_mul, ← Nat.pow_add]
  congr 2
  omega
theorem nlz_pos {y k : Nat} (h : 2 ^ k ≤ y) : 0 < y / 2 ^ k := Nat.div_pos h (Nat.pow_pos (by decide))
theorem nlz_eq {n y : Nat} (hn : n ≤ 31) (hyb : y < 4) (hy0 : 0 < y) : n - y / 2 ^ 1 = 31 - (31 - n + y / 2) := by omega
theorem nlz_end {x y n : Nat} (hn : n ≤ 31) (hy : y = x / 2 ^ (31 - n)) (hyb : y < 4) (hy0 : 0 < y) (hnk : 1 ≤ n) : 31 - n + y / 2 ≤ 31 ∧ 2 ^ (31 - n + y / 2) ≤ x ∧ x < 2 ^ (31 - n + y / 2 + 1) := by
  have hP : 0 < 2 ^ (31 - n) := Nat.pow_pos (by decide)
  have h1 := Nat.div_add_mod x (2 ^ (31 - n))
  have h2 := Nat.mod_lt x hP
  rw [← hy] at h1
  refine ⟨by omega, ?_, ?_⟩
  · rw [Nat.pow_add]
    rcases (show y = 1 ∨ y = 2 ∨ y = 3 by omega) with rfl | rfl | rfl <;> simp <;> omega
  · rw [Nat.pow_succ, Nat.pow_add]
    rcases (show y = 1 ∨ y = 2 ∨ y = 3 by omega) with rfl | rfl | rfl <;> simp <;> omega
/-- how many bits a number has -/
def isBL (b V : Nat) : Prop := V < 2 ^ b ∧ (b = 0 ∨ 2 ^ (b - 1) ≤ V)
theorem bl_top {f : Nat → Nat} {n k : Nat} (hf : lim f n) (h0 : us f n ≠ 0) (hk : k ≤ 31) (h1 : 2 ^ k ≤ f (us f n - 1)) (h2 : f (us f n - 1) < 2 ^ (k + 1)) : isBL ((us f n - 1) * 32 + k + 1) (vl f n) := by
  have hu := us_le f n
  rw [vl_us]
  obtain ⟨u, hu2⟩ : ∃ u, us f n = u + 1 := ⟨us f n - 1, by omega⟩
  rw [hu2] at hu h1 h2 ⊢
  rw [Nat.add_sub_cancel] at h1 h2 ⊢
  have hl := vl_lt (lim_le hf (show u ≤ n by omega))
  have hp : 2 ^ (u * 32 + k) = 4294967296 ^ u * 2 ^ k := by rw [Nat.pow_add, Nat.mul_comm u 32, Nat.pow_mul]
  refine ⟨?_, Or.inr ?_⟩
  · rw [Nat.pow_succ, hp, vl_succ]
    have h3 : (f u + 1) * 4294967296 ^ u ≤ 2 ^ (k + 1) * 4294967296 ^ u := Nat.mul_le_mul_right _ h2
    rw [Nat.add_mul, Nat.one_mul, Nat.pow_succ, Nat.mul_assoc, Nat.mul_comm 2, ← Nat.mul_assoc, Nat.mul_comm (2 ^ k)] at h3
    omega
  · rw [Nat.add_sub_cancel, hp, vl_succ]
    have h3 : 2 ^ k * 4294967296 ^ u ≤ f u * 4294967296 ^ u := Nat.mul_le_mul_right _ h1
    rw [Nat.mul_comm] at h3
    omega
/-- how many zero bits stand below: t of x -/
def isTZ (t x : Nat) : Prop := x % 2 ^ t = 0 ∧ x / 2 ^ t % 2 = 1
theorem tz_ex : ∀ {x : Nat}, 0 < x → ∃ t, isTZ t x := by
  intro x
  induction x using Nat.strongRecOn with
  | _ x ih =>
    intro hx
    by_cases h : x % 2 = 1
    · exact ⟨0, by simp [Nat.mod_one], by simpa using h⟩
    · obtain ⟨t, h1, h2⟩ := ih (x / 2) (by omega) (by omega)
      refine ⟨t + 1, ?_, ?_⟩
      · rw [Nat.pow_succ, Nat.mul_comm, Nat.mod_mul, h1]; omega
      · rw [Nat.pow_succ, Nat.mul_comm, ← Nat.div_div_eq_div_mul]; exact h2
theorem tz_lt {t x k : Nat} (h : isTZ t x) (hx : x < 2 ^ k) : t < k := by
  rcases Nat.lt_or_ge t k with h1 | h1
  · exact h1
  · have h2 : x < 2 ^ t := Nat.lt_of_lt_of_le hx (Nat.pow_le_pow_right (by decide) h1)
    have h3 := h.2
    rw [Nat.div_eq_of_lt h2] at h3
    omega
theorem tz_mask {t x : Nat} (h : isTZ t x) (hx : x < 2 ^ 32) : (nI x ^^^ (-1)) &&& (nI x - 1) = nI (2 ^ t - 1) := by
  obtain ⟨h1, h2⟩ := h
  have ht : 0 < 2 ^ t := Nat.pow_pos (by decide)
  have e1 : x = 2 ^ t * (2 * (x / 2 ^ t / 2) + 1) := by
    have h3 := Nat.div_add_mod x (2 ^ t)
    rw [h1, Nat.add_zero] at h3
    rw [show 2 * (x / 2 ^ t / 2) + 1 = x / 2 ^ t by omega, h3]
  generalize x / 2 ^ t / 2 = k at e1
  have e2 : x - 1 = 2 ^ t * (2 * k) + (2 ^ t - 1) := by
    rw [e1, Nat.mul_add, Nat.mul_one]; omega
  have hx0 : 1 ≤ x := by rw [e1]; exact Nat.mul_pos ht (by omega)
  rw [show nI x - 1 = nI (x - 1) from pk_sub (b := 1) hx0]
  apply Int32.toBitVec_inj.1
  rw [Int32.toBitVec_and, Int32.toBitVec_xor, show (-1 : Int32).toBitVec = BitVec.allOnes 32 from rfl]
  show (BitVec.ofNat 32 x ^^^ BitVec.allOnes 32) &&& BitVec.ofNat 32 (x - 1) = BitVec.ofNat 32 (2 ^ t - 1)
  apply BitVec.eq_of_getLsbD_eq
  intro i hi
  rw [BitVec.getLsbD_and, BitVec.getLsbD_xor, BitVec.getLsbD_ofNat, BitVec.getLsbD_ofNat, BitVec.getLsbD_ofNat, BitVec.getLsbD_allOnes]
  simp only [hi, decide_true, Bool.true_and]
  rw [e2, Nat.testBit_two_pow_mul_add _ (by omega), Nat.testBit_two_pow_sub_one]
  conv => lhs; rw [e1]
  rw [Nat.testBit_two_pow_mul]
  rcases Nat.lt_trichotomy i t with h3 | h3 | h3
  · simp [h3, Nat.not_le.mpr h3, Nat.testBit_two_pow_sub_one]
  · subst h3
    simp
  · obtain ⟨d, rfl⟩ : ∃ d, i = t + (d + 1) := ⟨i - t - 1, by omega⟩
    have h4 : ¬ t + (d + 1) < t := by omega
    have h5 : t ≤ t + (d + 1) := by omega
    simp only [h4, h5, if_false, decide_true, decide_false, Bool.true_and, Nat.add_sub_cancel_left, Nat.testBit_succ]
    rw [show (2 * k + 1) / 2 = k by omega, show 2 * k / 2 = k by omega]
    cases k.testBit d <;> rfl
theorem pw_lt {w : Nat} (h : w ≤ 31) : 2 ^ w - 1 < 2 ^ 32 := by
  have : 2 ^ w ≤ 2 ^ 31 := Nat.pow_le_pow_right (by decide) h
  omega
theorem pw_lt31 {w : Nat} (h : w ≤ 31) : 2 ^ w - 1 < 2 ^ 31 := by
  have : 2 ^ w ≤ 2 ^ 31 := Nat.pow_le_pow_right (by decide) h
  have : 0 < 2 ^ w := Nat.pow_pos (by decide)
  omega
theorem pw_le2 {w : Nat} (h : 1 ≤ w) : 2 ≤ 2 ^ w := by
  have h1 : 2 ^ 1 ≤ 2 ^ w := Nat.pow_le_pow_right (by decide) h
  simpa using h1
theorem pw_le {w k : Nat} (hk : 1 ≤ k) (h : 2 ^ w - 1 ≤ 2 ^ k) : w ≤ k := by
  rcases Nat.lt_or_ge k w with h1 | h1
  · have h2 : 2 ^ (k + 1) ≤ 2 ^ w := Nat.pow_le_pow_right (by decide) h1
    have h3 := pw_le2 hk
    rw [Nat.pow_succ] at h2
    generalize 2 ^ k = a at *
    generalize 2 ^ w = b at *
    omega
  · exact h1
theorem pw_ge {w k : Nat} (h : 2 ^ k < 2 ^ w - 1) : k < w := by
  rcases Nat.lt_or_ge k w with h1 | h1
  · exact h1
  · have h2 : 2 ^ w ≤ 2 ^ k := Nat.pow_le_pow_right (by decide) h1
    generalize 2 ^ k = a at *
    generalize 2 ^ w = b at *
    omega
theorem pw_div {w k : Nat} (h : k ≤ w) : (2 ^ w - 1) / 2 ^ k = 2 ^ (w - k) - 1 := by
  have hk : 0 < 2 ^ k := Nat.pow_pos (by decide)
  have hw : 0 < 2 ^ (w - k) := Nat.pow_pos (by decide)
  have e : 2 ^ w = 2 ^ (w - k) * 2 ^ k := by rw [← Nat.pow_add, show w - k + k = w by omega]
  rw [e]
  apply Nat.div_eq_of_lt_le
  · rw [Nat.sub_mul]; omega
  · rw [show 2 ^ (w - k) - 1 + 1 = 2 ^ (w - k) by omega]
    have : 0 < 2 ^ (w - k) * 2 ^ k := Nat.mul_pos hw hk
    omega
theorem ntz_end {w n t : Nat} (hw1 : 1 ≤ w) (hw : w ≤ 2) (h : n + w = t + 1) : n + (2 ^ w - 1) / 2 ^ 1 = t := by
  rcases (show w = 1 ∨ w = 2 by omega) with rfl | rfl
  · simp; omega
  · simp; omega
theorem tz_vl {f : Nat → Nat} {n i t : Nat} (hi : i < n) (h0 : ∀ j, j < i → f j = 0) (hf : f i < 4294967296) (ht : isTZ t (f i)) : isTZ (i * 32 + t) (vl f n) := by
  have htl := tz_lt (k := 32) ht hf
  obtain ⟨h1, h2⟩ := ht
  obtain ⟨q, hq⟩ : ∃ q, vl f n = 4294967296 ^ i * (f i + 4294967296 * q) := by
    obtain ⟨d, rfl⟩ : ∃ d, n = i + 1 + d := ⟨n - i - 1, by omega⟩
    refine ⟨vl (fun j => f (i + 1 + j)) d, ?_⟩
    rw [vl_split, vl_succ, vl_zero_iff.mpr h0, Nat.zero_add, Nat.pow_succ, Nat.mul_add, Nat.mul_comm (f i), Nat.mul_comm (vl _ d), Nat.mul_assoc]
  have hp : 2 ^ (i * 32 + t) = 4294967296 ^ i * 2 ^ t := by rw [Nat.pow_add, Nat.mul_comm i 32, Nat.pow_mul]
  have hB : 4294967296 = 2 ^ t * (2 ^ (32 - t - 1) * 2) := by rw [← Nat.pow_succ, ← Nat.pow_add, show t + (32 - t - 1 + 1) = 32 by omega]
  have hpt : 0 < 2 ^ t := Nat.pow_pos (by decide)
  unfold isTZ
  rw [hq, hp]
  constructor
  · rw [Nat.mul_mod_mul_left]
    have e : f i + 4294967296 * q = f i + 2 ^ t * (2 ^ (32 - t - 1) * 2 * q) := by
      conv => lhs; rw [hB]
      rw [Nat.mul_assoc]
    rw [e, Nat.add_mul_mod_self_left, h1, Nat.mul_zero]
  · rw [Nat.mul_div_mul_left _ _ (powB_pos i)]
    have e : f i + 4294967296 * q = f i + 2 ^ t * (2 * (2 ^ (32 - t - 1) * q)) := by
      conv => lhs; rw [hB]
      rw [Nat.mul_assoc, Nat.mul_comm (2 ^ (32 - t - 1)) 2, Nat.mul_assoc]
    rw [e, Nat.add_mul_div_left _ _ hpt, Nat.add_mul_mod_self_left, h2]
end
section
set_option maxRecDepth 100000 in
set_option maxHeartbeats 4000000 in
theorem fill_6 {p : Program} {l : Launch} {e : Env} {s : State} {m : MethodId} {args : Array Value} {below : List Frame} {meth : Method} {c : Code} {G : gG} {b0 : Nat} {H : Heap} {a n x : Nat} {f : Nat → Nat} (hF : FxM p s m args meth c G cJ7_fill_d0a16 5 none RJ7 wsJ7_fill_d0a16) (ht : H[a]? = some (aJ G n f)) (hn : n < 2 ^ 31) (hbt : b0 ≤ a) : ∀ (q : Nat) (i : Nat) (g : Nat → Nat), i + q = n → (∀ j, j < i → g j = x) → ∀ (locs : List Loc) (ls : Array Slot), lcs b0 locs → lv_has ls 5 [(0, .ref a), (1, .long (lN x)), (3, .int (nI i)), (4, .int (nI n))] → W p l e ({ frames := 0, cells := 0, slots := 0, locals := 0 } : Room) s m args below meth c (hput H a (aJ G n g)) locs 0 0 (MQ below (QcV (fun H1 => H1 = hput H a (aJ G n (fun _ => x)))) args s 0 0 (fre b0)) (F0 m 6 ls []) := by
  obtain ⟨hx, hb, hr, hml, hown, hts, hlocks, hK⟩ := id hF
  intro q
  induction q with
  | zero =>
    intro i g hi hg locs ls hLc hl
    refine lv_iload_n hx hb dJ7_fill_d0a16_6 rfl (lv_at hl 2 rfl) ?_
    refine lv_iload hx hb dJ7_fill_d0a16_7 (lv_at hl 3 rfl) ?_
    refine lv_icmp_ge (tgt := 22) hx hb dJ7_fill_d0a16_9 (by decide) (fun _ => ?_) (fun h => absurd (nI_le (by omega) (by omega)) h)
    exact m_vret hx hb hr hlocks hLc dJ7_fill_d0a16_22 (congrArg (hput H a) (aJ_congr G (fun j hj => hg j (by omega))))
  | succ q ih =>
    intro i g hi hg locs ls hLc hl
    refine lv_iload_n hx hb dJ7_fill_d0a16_6 rfl (lv_at hl 2 rfl) ?_
    refine lv_iload hx hb dJ7_fill_d0a16_7 (lv_at hl 3 rfl) ?_
    refine lv_icmp_ge (tgt := 22) hx hb dJ7_fill_d0a16_9 (by decide) (fun h => absurd h (nI_ge (by omega) (by omega))) (fun _ => ?_)
    refine lv_aload_n hx hb dJ7_fill_d0a16_12 rfl (lv_at hl 0 rfl) ?_
    refine lv_iload_n hx hb dJ7_fill_d0a16_13 rfl (lv_at hl 2 rfl) ?_
    refine lv_lload_n hx hb dJ7_fill_d0a16_14 rfl (lv_at hl 1 rfl) ?_
    refine m_last (n := n) (f := g) (b0 := b0) hx hb hK (hput_self _ (lt_of_at ht)) (by omega) (hn) (hbt) hLc dJ7_fill_d0a16_15 (fun locs hLc => ?_)
    rw [hput_put]
    refine lv_iinc (v := nI (i + 1)) (lv' := [(3, .int (nI (i + 1))), (0, .ref a), (1, .long (lN x)), (4, .int (nI n))]) hx hb dJ7_fill_d0a16_16 hl (k := 2) rfl (nI_add i 1) (by decide) rfl (fun ls hl => ?_)
    refine lv_goto (tgt := 6) hx hb dJ7_fill_d0a16_19 (by decide) ?_
    exact ih (i + 1) _ (by omega) (fup_eq hg rfl) _ _ hLc (lv_sub hl [1, 2, 0, 3] rfl)
set_option maxRecDepth 100000 in
set_option maxHeartbeats 4000000 in
theorem c_J7_fill_d0a16 (l : Launch) (G : gG) (b0 : Nat) (H : Heap) {a n x : Nat} {f : Nat → Nat} (ht : H[a]? = some (aJ G n f)) (hn : n < 2 ^ 31) (hbt : b0 ≤ a) : Met l yJ7_fill_d0a16 wsJ7_fill_d0a16 ({ frames := 0, cells := 0, slots := 0, locals := 0 } : Room) (PcH G H [.ref a, .long (lN x)]) (QcV (fun H1 => H1 = hput H a (aJ G n (fun _ => x)))) 0 0 (fre b0) := by
  refine m_enter (cc := cJ7_fill_d0a16) (maxL := 5) (ret := none) (own := RJ7) (by decide) rfl rfl (Nat.le_of_ble_eq_true rfl) ?_
  intro p e s m below meth c ls hF hnm hH hl
  have hl : lv_has ls 5 [(0, .ref a), (1, .long (lN x))] := hl
  have hLc : lcs b0 [] := lcs_nil b0
  obtain ⟨hx, hb, hr, hml, hown, hts, hlocks, hK⟩ := id hF
  refine lv_iconst (v := nI 0) hx hb dJ7_fill_d0a16_0 (by decide) ?_
  refine lv_istore_n (lv' := [(3, .int (nI 0)), (0, .ref a), (1, .long (lN x))]) hx hb dJ7_fill_d0a16_1 rfl hl (by decide) rfl (fun ls hl => ?_)
  refine lv_aload_n hx hb dJ7_fill_d0a16_2 rfl (lv_at hl 1 rfl) ?_
  refine m_alenJ (n := n) (f := f) hx hb hK (ht) dJ7_fill_d0a16_3 ?_
  refine lv_istore (lv' := [(4, .int (nI n)), (3, .int (nI 0)), (0, .ref a), (1, .long (lN x))]) hx hb dJ7_fill_d0a16_4 hl (by decide) rfl (fun ls hl => ?_)
  have hl := lv_sub (l' := [(0, .ref a), (1, .long (lN x)), (3, .int (nI 0)), (4, .int (nI n))]) hl [2, 3, 1, 0] rfl
  have hh := fill_6 (l := l) (e := e) (below := below) hF ht hn hbt n 0 f (by omega) (fun j hj => absurd hj (by omega)) _ _ hLc hl
  rw [hput_same ht] at hh
  exact hh

set_option maxRecDepth 100000 in
set_option maxHeartbeats 4000000 in
theorem nlz_73 {p : Program} {l : Launch} {e : Env} {s : State} {m : MethodId} {args : Array Value} {below : List Frame} {meth : Method} {c : Code} {G : gG} {b0 : Nat} {H : Heap} {x y n : Nat} (hF : FxM p s m args meth c G cJ6_numberOfLeadingZeros_0f7a4 2 (some .int) RJ6 wsJ6_numberOfLeadingZeros_0f7a4) (hn : n ≤ 31) (hy : y = x / 2 ^ (31 - n)) (hy0 : 0 < y) (hyb : y < 4) (hnk : 1 ≤ n) : ∀ (locs : List Loc) (ls : Array Slot), lcs b0 locs → lv_has ls 2 [(0, .int (nI y)), (1, .int (nI n))] → W p l e ({ frames := 0, cells := 0, slots := 0, locals := 0 } : Room) s m args below meth c H locs 0 0 (MQ below (QcI (fun r H1 => (∃ k, r = nI (31 - k) ∧ k ≤ 31 ∧ 2 ^ k ≤ x ∧ x < 2 ^ (k + 1)) ∧ H = H1)) args s 0 0 (fre b0)) (F0 m 73 ls []) := by
  obtain ⟨hx, hb, hr, hml, hown, hts, hlocks, hK⟩ := id hF
  intro locs ls hLc hl
  refine lv_iload_n hx hb dJ6_numberOfLeadingZeros_0f7a4_73 rfl (lv_at hl 1 rfl) ?_
  refine lv_iload_n hx hb dJ6_numberOfLeadingZeros_0f7a4_74 rfl (lv_at hl 0 rfl) ?_
  refine lv_iconst (v := nI 1) hx hb dJ6_numberOfLeadingZeros_0f7a4_75 (by decide) ?_
  refine m_iushr hx hb (by omega) (by decide) dJ6_numberOfLeadingZeros_0f7a4_76 ?_
  refine m_isub (a := n) (b := y / 2 ^ 1) hx hb (by omega) dJ6_numberOfLeadingZeros_0f7a4_77 ?_
  exact m_iret hx hb hr hlocks hLc dJ6_numberOfLeadingZeros_0f7a4_78 (⟨⟨31 - n + y / 2, by rw [nlz_eq hn hyb hy0], nlz_end hn hy hyb hy0 hnk⟩, rfl⟩)
set_option maxRecDepth 100000 in
set_option maxHeartbeats 4000000 in
theorem nlz_61 {p : Program} {l : Launch} {e : Env} {s : State} {m : MethodId} {args : Array Value} {below : List Frame} {meth : Method} {c : Code} {G : gG} {b0 : Nat} {H : Heap} {x y n : Nat} (hF : FxM p s m args meth c G cJ6_numberOfLeadingZeros_0f7a4 2 (some .int) RJ6 wsJ6_numberOfLeadingZeros_0f7a4) (hn : n ≤ 31) (hy : y = x / 2 ^ (31 - n)) (hy0 : 0 < y) (hyb : y < 16) (hnk : 3 ≤ n) : ∀ (locs : List Loc) (ls : Array Slot), lcs b0 locs → lv_has ls 2 [(0, .int (nI y)), (1, .int (nI n))] → W p l e ({ frames := 0, cells := 0, slots := 0, locals := 0 } : Room) s m args below meth c H locs 0 0 (MQ below (QcI (fun r H1 => (∃ k, r = nI (31 - k) ∧ k ≤ 31 ∧ 2 ^ k ≤ x ∧ x < 2 ^ (k + 1)) ∧ H = H1)) args s 0 0 (fre b0)) (F0 m 61 ls []) := by
  obtain ⟨hx, hb, hr, hml, hown, hts, hlocks, hK⟩ := id hF
  intro locs ls hLc hl
  refine lv_iload_n hx hb dJ6_numberOfLeadingZeros_0f7a4_61 rfl (lv_at hl 0 rfl) ?_
  refine lv_iconst (v := nI 4) hx hb dJ6_numberOfLeadingZeros_0f7a4_62 (by decide) ?_
  refine m_icmp_lt (tgt := 73) hx hb (by omega) (by decide) dJ6_numberOfLeadingZeros_0f7a4_63 (by decide) (fun c63 => ?_) (fun c63 => ?_)
  · skip
    exact nlz_73 hF hn hy hy0 (by omega) (by omega) _ _ hLc (lv_sub hl [0, 1] rfl)
  · skip
    refine lv_iinc (v := nI (n - 2)) (lv' := [(1, .int (nI (n - 2))), (0, .int (nI y))]) hx hb dJ6_numberOfLeadingZeros_0f7a4_66 hl (k := 1) rfl (nI_decK 2 rfl (by omega)) (by decide) rfl (fun ls hl => ?_)
    refine lv_iload_n hx hb dJ6_numberOfLeadingZeros_0f7a4_69 rfl (lv_at hl 1 rfl) ?_
    refine lv_iconst (v := nI 2) hx hb dJ6_numberOfLeadingZeros_0f7a4_70 (by decide) ?_
    refine m_iushr hx hb (by omega) (by decide) dJ6_numberOfLeadingZeros_0f7a4_71 ?_
    refine lv_istore_n (lv' := [(0, .int (nI (y / 2 ^ 2))), (1, .int (nI (n - 2)))]) hx hb dJ6_numberOfLeadingZeros_0f7a4_72 rfl hl (by decide) rfl (fun ls hl => ?_)
    exact nlz_73 hF (by omega) (nlz_step hn (by omega) hy) (nlz_pos (by omega)) (by omega) (by omega) _ _ hLc (lv_sub hl [0, 1] rfl)
set_option maxRecDepth 100000 in
set_option maxHeartbeats 4000000 in
theorem nlz_48 {p : Program} {l : Launch} {e : Env} {s : State} {m : MethodId} {args : Array Value} {below : List Frame} {meth : Method} {c : Code} {G : gG} {b0 : Nat} {H : Heap} {x y n : Nat} (hF : FxM p s m args meth c G cJ6_numberOfLeadingZeros_0f7a4 2 (some .int) RJ6 wsJ6_numberOfLeadingZeros_0f7a4) (hn : n ≤ 31) (hy : y = x / 2 ^ (31 - n)) (hy0 : 0 < y) (hyb : y < 256) (hnk : 7 ≤ n) : ∀ (locs : List Loc) (ls : Array Slot), lcs b0 locs → lv_has ls 2 [(0, .int (nI y)), (1, .int (nI n))] → W p l e ({ frames := 0, cells := 0, slots := 0, locals := 0 } : Room) s m args below meth c H locs 0 0 (MQ below (QcI (fun r H1 => (∃ k, r = nI (31 - k) ∧ k ≤ 31 ∧ 2 ^ k ≤ x ∧ x < 2 ^ (k + 1)) ∧ H = H1)) args s 0 0 (fre b0)) (F0 m 48 ls []) := by
  obtain ⟨hx, hb, hr, hml, hown, hts, hlocks, hK⟩ := id hF
  intro locs ls hLc hl
  refine lv_iload_n hx hb dJ6_numberOfLeadingZeros_0f7a4_48 rfl (lv_at hl 0 rfl) ?_
  refine lv_bipush (v := nI 16) hx hb dJ6_numberOfLeadingZeros_0f7a4_49 (by decide) ?_
  refine m_icmp_lt (tgt := 61) hx hb (by omega) (by decide) dJ6_numberOfLeadingZeros_0f7a4_51 (by decide) (fun c51 => ?_) (fun c51 => ?_)
  · skip
    exact nlz_61 hF hn hy hy0 (by omega) (by omega) _ _ hLc (lv_sub hl [0, 1] rfl)
  · skip
    refine lv_iinc (v := nI (n - 4)) (lv' := [(1, .int (nI (n - 4))), (0, .int (nI y))]) hx hb dJ6_numberOfLeadingZeros_0f7a4_54 hl (k := 1) rfl (nI_decK 4 rfl (by omega)) (by decide) rfl (fun ls hl => ?_)
    refine lv_iload_n hx hb dJ6_numberOfLeadingZeros_0f7a4_57 rfl (lv_at hl 1 rfl) ?_
    refine lv_iconst (v := nI 4) hx hb dJ6_numberOfLeadingZeros_0f7a4_58 (by decide) ?_
    refine m_iushr hx hb (by omega) (by decide) dJ6_numberOfLeadingZeros_0f7a4_59 ?_
    refine lv_istore_n (lv' := [(0, .int (nI (y / 2 ^ 4))), (1, .int (nI (n - 4)))]) hx hb dJ6_numberOfLeadingZeros_0f7a4_60 rfl hl (by decide) rfl (fun ls hl => ?_)
    exact nlz_61 hF (by omega) (nlz_step hn (by omega) hy) (nlz_pos (by omega)) (by omega) (by omega) _ _ hLc (lv_sub hl [0, 1] rfl)
set_option maxRecDepth 100000 in
set_option maxHeartbeats 4000000 in
theorem nlz_33 {p : Program} {l : Launch} {e : Env} {s : State} {m : MethodId} {args : Array Value} {below : List Frame} {meth : Method} {c : Code} {G : gG} {b0 : Nat} {H : Heap} {x y n : Nat} (hF : FxM p s m args meth c G cJ6_numberOfLeadingZeros_0f7a4 2 (some .int) RJ6 wsJ6_numberOfLeadingZeros_0f7a4) (hn : n ≤ 31) (hy : y = x / 2 ^ (31 - n)) (hy0 : 0 < y) (hyb : y < 65536) (hnk : 15 ≤ n) : ∀ (locs : List Loc) (ls : Array Slot), lcs b0 locs → lv_has ls 2 [(0, .int (nI y)), (1, .int (nI n))] → W p l e ({ frames := 0, cells := 0, slots := 0, locals := 0 } : Room) s m args below meth c H locs 0 0 (MQ below (QcI (fun r H1 => (∃ k, r = nI (31 - k) ∧ k ≤ 31 ∧ 2 ^ k ≤ x ∧ x < 2 ^ (k + 1)) ∧ H = H1)) args s 0 0 (fre b0)) (F0 m 33 ls []) := by
  obtain ⟨hx, hb, hr, hml, hown, hts, hlocks, hK⟩ := id hF
  intro locs ls hLc hl
  refine lv_iload_n hx hb dJ6_numberOfLeadingZeros_0f7a4_33 rfl (lv_at hl 0 rfl) ?_
  refine lv_sipush (v := nI 256) hx hb dJ6_numberOfLeadingZeros_0f7a4_34 (by decide) ?_
  refine m_icmp_lt (tgt := 48) hx hb (by omega) (by decide) dJ6_numberOfLeadingZeros_0f7a4_37 (by decide) (fun c37 => ?_) (fun c37 => ?_)
  · skip
    exact nlz_48 hF hn hy hy0 (by omega) (by omega) _ _ hLc (lv_sub hl [0, 1] rfl)
  · skip
    refine lv_iinc (v := nI (n - 8)) (lv' := [(1, .int (nI (n - 8))), (0, .int (nI y))]) hx hb dJ6_numberOfLeadingZeros_0f7a4_40 hl (k := 1) rfl (nI_decK 8 rfl (by omega)) (by decide) rfl (fun ls hl => ?_)
    refine lv_iload_n hx hb dJ6_numberOfLeadingZeros_0f7a4_43 rfl (lv_at hl 1 rfl) ?_
    refine lv_bipush (v := nI 8) hx hb dJ6_numberOfLeadingZeros_0f7a4_44 (by decide) ?_
    refine m_iushr hx hb (by omega) (by decide) dJ6_numberOfLeadingZeros_0f7a4_46 ?_
    refine lv_istore_n (lv' := [(0, .int (nI (y / 2 ^ 8))), (1, .int (nI (n - 8)))]) hx hb dJ6_numberOfLeadingZeros_0f7a4_47 rfl hl (by decide) rfl (fun ls hl => ?_)
    exact nlz_48 hF (by omega) (nlz_step hn (by omega) hy) (nlz_pos (by omega)) (by omega) (by omega) _ _ hLc (lv_sub hl [0, 1] rfl)
set_option maxRecDepth 100000 in
set_option maxHeartbeats 4000000 in
theorem c_J6_numberOfLeadingZeros_0f7a4 (l : Launch) (G : gG) (b0 : Nat) (H : Heap) {x : Nat} (hx0 : 0 < x) (hx1 : x < 2 ^ 32) : Met l yJ6_numberOfLeadingZeros_0f7a4 wsJ6_numberOfLeadingZeros_0f7a4 ({ frames := 0, cells := 0, slots := 0, locals := 0 } : Room) (PcH G H [.int (nI x)]) (QcI (fun r H1 => (∃ k, r = nI (31 - k) ∧ k ≤ 31 ∧ 2 ^ k ≤ x ∧ x < 2 ^ (k + 1)) ∧ H = H1)) 0 0 (fre b0) := by
  refine m_enter (cc := cJ6_numberOfLeadingZeros_0f7a4) (maxL := 2) (ret := (some .int)) (own := RJ6) (by decide) rfl rfl (Nat.le_of_ble_eq_true rfl) ?_
  intro p e s m below meth c ls hF hnm hH hl
  have hl : lv_has ls 2 [(0, .int (nI x))] := hl
  have hLc : lcs b0 [] := lcs_nil b0
  obtain ⟨hx, hb, hr, hml, hown, hts, hlocks, hK⟩ := id hF
  by_cases hz : x < 2 ^ 31
  · skip
    refine lv_iload_n hx hb dJ6_numberOfLeadingZeros_0f7a4_0 rfl (lv_at hl 0 rfl) ?_
    refine lv_if_gt (tgt := 15) hx hb dJ6_numberOfLeadingZeros_0f7a4_1 (by decide) (fun _ => ?_) (fun h => absurd (nI_gt0 hx0 hz) h)
    refine lv_bipush (v := nI 31) hx hb dJ6_numberOfLeadingZeros_0f7a4_15 (by decide) ?_
    refine lv_istore_n (lv' := [(1, .int (nI 31)), (0, .int (nI x))]) hx hb dJ6_numberOfLeadingZeros_0f7a4_17 rfl hl (by decide) rfl (fun ls hl => ?_)
    refine lv_iload_n hx hb dJ6_numberOfLeadingZeros_0f7a4_18 rfl (lv_at hl 1 rfl) ?_
    refine lv_ldcw (v := nI 65536) hx hb hown (hts (.constant RJ6 264 (nI 65536)) (by decide +kernel)) dJ6_numberOfLeadingZeros_0f7a4_19 ?_
    refine m_icmp_lt (tgt := 33) hx hb (by omega) (by decide) dJ6_numberOfLeadingZeros_0f7a4_22 (by decide) (fun c22 => ?_) (fun c22 => ?_)
    · skip
      exact nlz_33 hF (by omega) (by simp) hx0 (by omega) (by omega) _ _ hLc (lv_sub hl [1, 0] rfl)
    · skip
      refine lv_iinc (v := nI 15) (lv' := [(1, .int (nI 15)), (0, .int (nI x))]) hx hb dJ6_numberOfLeadingZeros_0f7a4_25 hl (k := 0) rfl (by decide) (by decide) rfl (fun ls hl => ?_)
      refine lv_iload_n hx hb dJ6_numberOfLeadingZeros_0f7a4_28 rfl (lv_at hl 1 rfl) ?_
      refine lv_bipush (v := nI 16) hx hb dJ6_numberOfLeadingZeros_0f7a4_29 (by decide) ?_
      refine m_iushr hx hb (by omega) (by decide) dJ6_numberOfLeadingZeros_0f7a4_31 ?_
      refine lv_istore_n (lv' := [(0, .int (nI (x / 2 ^ 16))), (1, .int (nI 15))]) hx hb dJ6_numberOfLeadingZeros_0f7a4_32 rfl hl (by decide) rfl (fun ls hl => ?_)
      exact nlz_33 hF (by omega) (by simp) (nlz_pos (by omega)) (by omega) (by omega) _ _ hLc (lv_sub hl [0, 1] rfl)
  · skip
    refine lv_iload_n hx hb dJ6_numberOfLeadingZeros_0f7a4_0 rfl (lv_at hl 0 rfl) ?_
    refine lv_if_gt (tgt := 15) hx hb dJ6_numberOfLeadingZeros_0f7a4_1 (by decide) (fun h => absurd h (nI_neg (by omega) hx1)) (fun _ => ?_)
    refine lv_iload_n hx hb dJ6_numberOfLeadingZeros_0f7a4_4 rfl (lv_at hl 0 rfl) ?_
    refine lv_if_ne (tgt := 13) hx hb dJ6_numberOfLeadingZeros_0f7a4_5 (by decide) (fun _ => ?_) (fun h => absurd h (nI_nez hx0 hx1))
    refine lv_iconst (v := nI 0) hx hb dJ6_numberOfLeadingZeros_0f7a4_13 (by decide) ?_
    exact m_iret hx hb hr hlocks hLc dJ6_numberOfLeadingZeros_0f7a4_14 (⟨⟨31, rfl, by omega, by omega, by omega⟩, rfl⟩)

set_option maxRecDepth 100000 in
set_option maxHeartbeats 4000000 in
theorem c_J13_numberOfLeadingZeros_95d88 (l : Launch) (G : gG) (b0 : Nat) (H : Heap) {x : Nat} (hx0 : 0 < x) (hx1 : x < 2 ^ 32) : Met l yJ13_numberOfLeadingZeros_95d88 wsJ13_numberOfLeadingZeros_95d88 ({ frames := 1, cells := 0, slots := 0, locals := 21 } : Room) (PcH G H [.long (lN x)]) (QcI (fun r H1 => (∃ k, r = nI (32 + (31 - k)) ∧ k ≤ 31 ∧ 2 ^ k ≤ x ∧ x < 2 ^ (k + 1)) ∧ H = H1)) 0 0 (fre b0) := by
  refine m_enter (cc := cJ13_numberOfLeadingZeros_95d88) (maxL := 3) (ret := (some .int)) (own := RJ13) (by decide) rfl rfl (Nat.le_of_ble_eq_true rfl) ?_
  intro p e s m below meth c ls hF hnm hH hl
  have hl : lv_has ls 3 [(0, .long (lN x))] := hl
  have hLc : lcs b0 [] := lcs_nil b0
  obtain ⟨hx, hb, hr, hml, hown, hts, hlocks, hK⟩ := id hF
  refine lv_lload_n hx hb dJ13_numberOfLeadingZeros_95d88_0 rfl (lv_at hl 0 rfl) ?_
  refine lv_bipush (v := nI 32) hx hb dJ13_numberOfLeadingZeros_95d88_1 (by decide) ?_
  refine m_lushr32 hx hb (by omega) dJ13_numberOfLeadingZeros_95d88_3 ?_
  rw [show x / 4294967296 = 0 by omega]
  refine m_l2i hx hb dJ13_numberOfLeadingZeros_95d88_4 ?_
  refine lv_istore_n (lv' := [(2, .int (nI 0)), (0, .long (lN x))]) hx hb dJ13_numberOfLeadingZeros_95d88_5 rfl hl (by decide) rfl (fun ls hl => ?_)
  refine lv_iload_n hx hb dJ13_numberOfLeadingZeros_95d88_6 rfl (lv_at hl 0 rfl) ?_
  refine m_if_ne (tgt := 21) hx hb (by decide) dJ13_numberOfLeadingZeros_95d88_7 (by decide) (fun h => absurd h (by decide)) (fun _ => ?_)
  refine lv_bipush (v := nI 32) hx hb dJ13_numberOfLeadingZeros_95d88_10 (by decide) ?_
  refine lv_lload_n hx hb dJ13_numberOfLeadingZeros_95d88_12 rfl (lv_at hl 1 rfl) ?_
  refine m_l2i hx hb dJ13_numberOfLeadingZeros_95d88_13 ?_
  refine mc_i0 (va_runS (As := [.int (nI x)]) (rest := [.int (nI 32)]) ⟨hx, hb, hml, hown, hts⟩ (c_J6_numberOfLeadingZeros_0f7a4 l G b0 H hx0 hx1) (va_cwS 1 hts gJ13_numberOfLeadingZeros_95d88_J6_numberOfLeadingZeros_0f7a4 rfl rfl rfl (by decide +kernel) ⟨Nat.le_of_ble_eq_true rfl, Nat.le_of_ble_eq_true rfl⟩) (mp_S hK) rfl rfl hl.1 rfl (lv_room (Nat.le_of_ble_eq_true rfl)) dJ13_numberOfLeadingZeros_95d88_14 ⟨Nat.le_of_ble_eq_true rfl, Nat.le_of_ble_eq_true rfl⟩) hLc (fun r H1 locs hP hLc => ?_)
  obtain ⟨⟨k, rfl, hk⟩, rfl⟩ := hP
  refine m_iadd (a := 32) (b := 31 - k) hx hb dJ13_numberOfLeadingZeros_95d88_17 ?_
  refine lv_goto (tgt := 25) hx hb dJ13_numberOfLeadingZeros_95d88_18 (by decide) ?_
  exact m_iret hx hb hr hlocks hLc dJ13_numberOfLeadingZeros_95d88_25 (⟨⟨k, rfl, hk⟩, rfl⟩)

set_option maxRecDepth 100000 in
set_option maxHeartbeats 4000000 in
theorem ntz_74 {p : Program} {l : Launch} {e : Env} {s : State} {m : MethodId} {args : Array Value} {below : List Frame} {meth : Method} {c : Code} {G : gG} {b0 : Nat} {H : Heap} {x t w n : Nat} (hF : FxM p s m args meth c G cJ6_numberOfTrailingZeros_0f7a4 2 (some .int) RJ6 wsJ6_numberOfTrailingZeros_0f7a4) (hw1 : 1 ≤ w) (hnw : n + w = t + 1) (ht2 : t ≤ 31) (hw : w ≤ 2) : ∀ (locs : List Loc) (ls : Array Slot), lcs b0 locs → lv_has ls 2 [(0, .int (nI (2 ^ w - 1))), (1, .int (nI n))] → W p l e ({ frames := 0, cells := 0, slots := 0, locals := 0 } : Room) s m args below meth c H locs 0 0 (MQ below (QcI (fun r H1 => r = nI t ∧ H = H1)) args s 0 0 (fre b0)) (F0 m 74 ls []) := by
  obtain ⟨hx, hb, hr, hml, hown, hts, hlocks, hK⟩ := id hF
  intro locs ls hLc hl
  refine lv_iload_n hx hb dJ6_numberOfTrailingZeros_0f7a4_74 rfl (lv_at hl 1 rfl) ?_
  refine lv_iload_n hx hb dJ6_numberOfTrailingZeros_0f7a4_75 rfl (lv_at hl 0 rfl) ?_
  refine lv_iconst (v := nI 1) hx hb dJ6_numberOfTrailingZeros_0f7a4_76 (by decide) ?_
  refine m_iushr hx hb (pw_lt (by omega)) (by decide) dJ6_numberOfTrailingZeros_0f7a4_77 ?_
  refine m_iadd (a := n) (b := (2 ^ w - 1) / 2 ^ 1) hx hb dJ6_numberOfTrailingZeros_0f7a4_78 ?_
  exact m_iret hx hb hr hlocks hLc dJ6_numberOfTrailingZeros_0f7a4_79 (⟨congrArg nI (ntz_end hw1 hw hnw), rfl⟩)
set_option maxRecDepth 100000 in
set_option maxHeartbeats 4000000 in
theorem ntz_62 {p : Program} {l : Launch} {e : Env} {s : State} {m : MethodId} {args : Array Value} {below : List Frame} {meth : Method} {c : Code} {G : gG} {b0 : Nat} {H : Heap} {x t w n : Nat} (hF : FxM p s m args meth c G cJ6_numberOfTrailingZeros_0f7a4 2 (some .int) RJ6 wsJ6_numberOfTrailingZeros_0f7a4) (hw1 : 1 ≤ w) (hnw : n + w = t + 1) (ht2 : t ≤ 31) (hw : w ≤ 4) : ∀ (locs : List Loc) (ls : Array Slot), lcs b0 locs → lv_has ls 2 [(0, .int (nI (2 ^ w - 1))), (1, .int (nI n))] → W p l e ({ frames := 0, cells := 0, slots := 0, locals := 0 } : Room) s m args below meth c H locs 0 0 (MQ below (QcI (fun r H1 => r = nI t ∧ H = H1)) args s 0 0 (fre b0)) (F0 m 62 ls []) := by
  obtain ⟨hx, hb, hr, hml, hown, hts, hlocks, hK⟩ := id hF
  intro locs ls hLc hl
  refine lv_iload_n hx hb dJ6_numberOfTrailingZeros_0f7a4_62 rfl (lv_at hl 0 rfl) ?_
  refine lv_iconst (v := nI 4) hx hb dJ6_numberOfTrailingZeros_0f7a4_63 (by decide) ?_
  refine m_icmp_le (tgt := 74) hx hb (pw_lt31 (by omega)) (by decide) dJ6_numberOfTrailingZeros_0f7a4_64 (by decide) (fun c64 => ?_) (fun c64 => ?_)
  · skip
    exact ntz_74 (x := x) hF hw1 hnw ht2 (pw_le (k := 2) (by decide) (by omega)) _ _ hLc (lv_sub hl [0, 1] rfl)
  · skip
    refine lv_iinc (v := nI (n + 2)) (lv' := [(1, .int (nI (n + 2))), (0, .int (nI (2 ^ w - 1)))]) hx hb dJ6_numberOfTrailingZeros_0f7a4_67 hl (k := 1) rfl (nI_add n 2) (by decide) rfl (fun ls hl => ?_)
    refine lv_iload_n hx hb dJ6_numberOfTrailingZeros_0f7a4_70 rfl (lv_at hl 1 rfl) ?_
    refine lv_iconst (v := nI 2) hx hb dJ6_numberOfTrailingZeros_0f7a4_71 (by decide) ?_
    refine m_iushr hx hb (pw_lt (by omega)) (by decide) dJ6_numberOfTrailingZeros_0f7a4_72 ?_
    rw [pw_div (Nat.le_of_lt (pw_ge (k := 2) (w := w) (by omega)))]
    refine lv_istore_n (lv' := [(0, .int (nI (2 ^ (w - 2) - 1))), (1, .int (nI (n + 2)))]) hx hb dJ6_numberOfTrailingZeros_0f7a4_73 rfl hl (by decide) rfl (fun ls hl => ?_)
    exact ntz_74 (x := x) hF (by have := pw_ge (k := 2) (w := w) (by omega); omega) (by have := pw_ge (k := 2) (w := w) (by omega); omega) ht2 (by omega) _ _ hLc (lv_sub hl [0, 1] rfl)
set_option maxRecDepth 100000 in
set_option maxHeartbeats 4000000 in
theorem ntz_49 {p : Program} {l : Launch} {e : Env} {s : State} {m : MethodId} {args : Array Value} {below : List Frame} {meth : Method} {c : Code} {G : gG} {b0 : Nat} {H : Heap} {x t w n : Nat} (hF : FxM p s m args meth c G cJ6_numberOfTrailingZeros_0f7a4 2 (some .int) RJ6 wsJ6_numberOfTrailingZeros_0f7a4) (hw1 : 1 ≤ w) (hnw : n + w = t + 1) (ht2 : t ≤ 31) (hw : w ≤ 8) : ∀ (locs : List Loc) (ls : Array Slot), lcs b0 locs → lv_has ls 2 [(0, .int (nI (2 ^ w - 1))), (1, .int (nI n))] → W p l e ({ frames := 0, cells := 0, slots := 0, locals := 0 } : Room) s m args below meth c H locs 0 0 (MQ below (QcI (fun r H1 => r = nI t ∧ H = H1)) args s 0 0 (fre b0)) (F0 m 49 ls []) := by
  obtain ⟨hx, hb, hr, hml, hown, hts, hlocks, hK⟩ := id hF
  intro locs ls hLc hl
  refine lv_iload_n hx hb dJ6_numberOfTrailingZeros_0f7a4_49 rfl (lv_at hl 0 rfl) ?_
  refine lv_bipush (v := nI 16) hx hb dJ6_numberOfTrailingZeros_0f7a4_50 (by decide) ?_
  refine m_icmp_le (tgt := 62) hx hb (pw_lt31 (by omega)) (by decide) dJ6_numberOfTrailingZeros_0f7a4_52 (by decide) (fun c52 => ?_) (fun c52 => ?_)
  · skip
    exact ntz_62 (x := x) hF hw1 hnw ht2 (pw_le (k := 4) (by decide) (by omega)) _ _ hLc (lv_sub hl [0, 1] rfl)
  · skip
    refine lv_iinc (v := nI (n + 4)) (lv' := [(1, .int (nI (n + 4))), (0, .int (nI (2 ^ w - 1)))]) hx hb dJ6_numberOfTrailingZeros_0f7a4_55 hl (k := 1) rfl (nI_add n 4) (by decide) rfl (fun ls hl => ?_)
    refine lv_iload_n hx hb dJ6_numberOfTrailingZeros_0f7a4_58 rfl (lv_at hl 1 rfl) ?_
    refine lv_iconst (v := nI 4) hx hb dJ6_numberOfTrailingZeros_0f7a4_59 (by decide) ?_
    refine m_iushr hx hb (pw_lt (by omega)) (by decide) dJ6_numberOfTrailingZeros_0f7a4_60 ?_
    rw [pw_div (Nat.le_of_lt (pw_ge (k := 4) (w := w) (by omega)))]
    refine lv_istore_n (lv' := [(0, .int (nI (2 ^ (w - 4) - 1))), (1, .int (nI (n + 4)))]) hx hb dJ6_numberOfTrailingZeros_0f7a4_61 rfl hl (by decide) rfl (fun ls hl => ?_)
    exact ntz_62 (x := x) hF (by have := pw_ge (k := 4) (w := w) (by omega); omega) (by have := pw_ge (k := 4) (w := w) (by omega); omega) ht2 (by omega) _ _ hLc (lv_sub hl [0, 1] rfl)
set_option maxRecDepth 100000 in
set_option maxHeartbeats 4000000 in
theorem ntz_34 {p : Program} {l : Launch} {e : Env} {s : State} {m : MethodId} {args : Array Value} {below : List Frame} {meth : Method} {c : Code} {G : gG} {b0 : Nat} {H : Heap} {x t w n : Nat} (hF : FxM p s m args meth c G cJ6_numberOfTrailingZeros_0f7a4 2 (some .int) RJ6 wsJ6_numberOfTrailingZeros_0f7a4) (hw1 : 1 ≤ w) (hnw : n + w = t + 1) (ht2 : t ≤ 31) (hw : w ≤ 16) : ∀ (locs : List Loc) (ls : Array Slot), lcs b0 locs → lv_has ls 2 [(0, .int (nI (2 ^ w - 1))), (1, .int (nI n))] → W p l e ({ frames := 0, cells := 0, slots := 0, locals := 0 } : Room) s m args below meth c H locs 0 0 (MQ below (QcI (fun r H1 => r = nI t ∧ H = H1)) args s 0 0 (fre b0)) (F0 m 34 ls []) := by
  obtain ⟨hx, hb, hr, hml, hown, hts, hlocks, hK⟩ := id hF
  intro locs ls hLc hl
  refine lv_iload_n hx hb dJ6_numberOfTrailingZeros_0f7a4_34 rfl (lv_at hl 0 rfl) ?_
  refine lv_sipush (v := nI 256) hx hb dJ6_numberOfTrailingZeros_0f7a4_35 (by decide) ?_
  refine m_icmp_le (tgt := 49) hx hb (pw_lt31 (by omega)) (by decide) dJ6_numberOfTrailingZeros_0f7a4_38 (by decide) (fun c38 => ?_) (fun c38 => ?_)
  · skip
    exact ntz_49 (x := x) hF hw1 hnw ht2 (pw_le (k := 8) (by decide) (by omega)) _ _ hLc (lv_sub hl [0, 1] rfl)
  · skip
    refine lv_iinc (v := nI (n + 8)) (lv' := [(1, .int (nI (n + 8))), (0, .int (nI (2 ^ w - 1)))]) hx hb dJ6_numberOfTrailingZeros_0f7a4_41 hl (k := 1) rfl (nI_add n 8) (by decide) rfl (fun ls hl => ?_)
    refine lv_iload_n hx hb dJ6_numberOfTrailingZeros_0f7a4_44 rfl (lv_at hl 1 rfl) ?_
    refine lv_bipush (v := nI 8) hx hb dJ6_numberOfTrailingZeros_0f7a4_45 (by decide) ?_
    refine m_iushr hx hb (pw_lt (by omega)) (by decide) dJ6_numberOfTrailingZeros_0f7a4_47 ?_
    rw [pw_div (Nat.le_of_lt (pw_ge (k := 8) (w := w) (by omega)))]
    refine lv_istore_n (lv' := [(0, .int (nI (2 ^ (w - 8) - 1))), (1, .int (nI (n + 8)))]) hx hb dJ6_numberOfTrailingZeros_0f7a4_48 rfl hl (by decide) rfl (fun ls hl => ?_)
    exact ntz_49 (x := x) hF (by have := pw_ge (k := 8) (w := w) (by omega); omega) (by have := pw_ge (k := 8) (w := w) (by omega); omega) ht2 (by omega) _ _ hLc (lv_sub hl [0, 1] rfl)
set_option maxRecDepth 100000 in
set_option maxHeartbeats 4000000 in
theorem c_J6_numberOfTrailingZeros_0f7a4 (l : Launch) (G : gG) (b0 : Nat) (H : Heap) {x t : Nat} (hx1 : x < 2 ^ 32) (ht : isTZ t x) : Met l yJ6_numberOfTrailingZeros_0f7a4 wsJ6_numberOfTrailingZeros_0f7a4 ({ frames := 0, cells := 0, slots := 0, locals := 0 } : Room) (PcH G H [.int (nI x)]) (QcI (fun r H1 => r = nI t ∧ H = H1)) 0 0 (fre b0) := by
  refine m_enter (cc := cJ6_numberOfTrailingZeros_0f7a4) (maxL := 2) (ret := (some .int)) (own := RJ6) (by decide) rfl rfl (Nat.le_of_ble_eq_true rfl) ?_
  intro p e s m below meth c ls hF hnm hH hl
  have hl : lv_has ls 2 [(0, .int (nI x))] := hl
  have hLc : lcs b0 [] := lcs_nil b0
  obtain ⟨hx, hb, hr, hml, hown, hts, hlocks, hK⟩ := id hF
  have htl := tz_lt ht hx1
  by_cases hz : t = 0
  · subst hz
    refine lv_iload_n hx hb dJ6_numberOfTrailingZeros_0f7a4_0 rfl (lv_at hl 0 rfl) ?_
    refine lv_iconst (v := -1) hx hb dJ6_numberOfTrailingZeros_0f7a4_1 (by decide) ?_
    refine lv_ixor hx hb dJ6_numberOfTrailingZeros_0f7a4_2 ?_
    refine lv_iload_n hx hb dJ6_numberOfTrailingZeros_0f7a4_3 rfl (lv_at hl 0 rfl) ?_
    refine lv_iconst (v := 1) hx hb dJ6_numberOfTrailingZeros_0f7a4_4 (by decide) ?_
    refine lv_isub hx hb dJ6_numberOfTrailingZeros_0f7a4_5 ?_
    refine lv_iand hx hb dJ6_numberOfTrailingZeros_0f7a4_6 ?_
    rw [tz_mask ht hx1]
    refine lv_istore_n (lv' := [(0, .int (nI (2 ^ 0 - 1)))]) hx hb dJ6_numberOfTrailingZeros_0f7a4_7 rfl hl (by decide) rfl (fun ls hl => ?_)
    refine lv_iload_n hx hb dJ6_numberOfTrailingZeros_0f7a4_8 rfl (lv_at hl 0 rfl) ?_
    refine lv_if_gt (tgt := 17) hx hb dJ6_numberOfTrailingZeros_0f7a4_9 (by decide) (fun h => absurd h (by decide)) (fun _ => ?_)
    refine lv_iload_n hx hb dJ6_numberOfTrailingZeros_0f7a4_12 rfl (lv_at hl 0 rfl) ?_
    refine lv_bipush (v := nI 32) hx hb dJ6_numberOfTrailingZeros_0f7a4_13 (by decide) ?_
    refine lv_iand hx hb dJ6_numberOfTrailingZeros_0f7a4_15 ?_
    exact m_iret hx hb hr hlocks hLc dJ6_numberOfTrailingZeros_0f7a4_16 (⟨by decide, rfl⟩)
  · skip
    refine lv_iload_n hx hb dJ6_numberOfTrailingZeros_0f7a4_0 rfl (lv_at hl 0 rfl) ?_
    refine lv_iconst (v := -1) hx hb dJ6_numberOfTrailingZeros_0f7a4_1 (by decide) ?_
    refine lv_ixor hx hb dJ6_numberOfTrailingZeros_0f7a4_2 ?_
    refine lv_iload_n hx hb dJ6_numberOfTrailingZeros_0f7a4_3 rfl (lv_at hl 0 rfl) ?_
    refine lv_iconst (v := 1) hx hb dJ6_numberOfTrailingZeros_0f7a4_4 (by decide) ?_
    refine lv_isub hx hb dJ6_numberOfTrailingZeros_0f7a4_5 ?_
    refine lv_iand hx hb dJ6_numberOfTrailingZeros_0f7a4_6 ?_
    rw [tz_mask ht hx1]
    refine lv_istore_n (lv' := [(0, .int (nI (2 ^ t - 1)))]) hx hb dJ6_numberOfTrailingZeros_0f7a4_7 rfl hl (by decide) rfl (fun ls hl => ?_)
    refine lv_iload_n hx hb dJ6_numberOfTrailingZeros_0f7a4_8 rfl (lv_at hl 0 rfl) ?_
    refine lv_if_gt (tgt := 17) hx hb dJ6_numberOfTrailingZeros_0f7a4_9 (by decide) (fun _ => ?_) (fun h => absurd (nI_gt0 (by have := pw_le2 (show 1 ≤ t by omega); omega) (pw_lt31 (by omega))) h)
    refine lv_iconst (v := nI 1) hx hb dJ6_numberOfTrailingZeros_0f7a4_17 (by decide) ?_
    refine lv_istore_n (lv' := [(1, .int (nI 1)), (0, .int (nI (2 ^ t - 1)))]) hx hb dJ6_numberOfTrailingZeros_0f7a4_18 rfl hl (by decide) rfl (fun ls hl => ?_)
    refine lv_iload_n hx hb dJ6_numberOfTrailingZeros_0f7a4_19 rfl (lv_at hl 1 rfl) ?_
    refine lv_ldcw (v := nI 65536) hx hb hown (hts (.constant RJ6 264 (nI 65536)) (by decide +kernel)) dJ6_numberOfTrailingZeros_0f7a4_20 ?_
    refine m_icmp_le (tgt := 34) hx hb (pw_lt31 (by omega)) (by decide) dJ6_numberOfTrailingZeros_0f7a4_23 (by decide) (fun c23 => ?_) (fun c23 => ?_)
    · skip
      exact ntz_34 (x := x) hF (by omega) (by omega) (by omega) (pw_le (k := 16) (by decide) (by omega)) _ _ hLc (lv_sub hl [1, 0] rfl)
    · skip
      refine lv_iinc (v := nI (1 + 16)) (lv' := [(1, .int (nI (1 + 16))), (0, .int (nI (2 ^ t - 1)))]) hx hb dJ6_numberOfTrailingZeros_0f7a4_26 hl (k := 0) rfl (nI_add 1 16) (by decide) rfl (fun ls hl => ?_)
      refine lv_iload_n hx hb dJ6_numberOfTrailingZeros_0f7a4_29 rfl (lv_at hl 1 rfl) ?_
      refine lv_bipush (v := nI 16) hx hb dJ6_numberOfTrailingZeros_0f7a4_30 (by decide) ?_
      refine m_iushr hx hb (pw_lt (by omega)) (by decide) dJ6_numberOfTrailingZeros_0f7a4_32 ?_
      rw [pw_div (Nat.le_of_lt (pw_ge (k := 16) (w := t) (by omega)))]
      refine lv_istore_n (lv' := [(0, .int (nI (2 ^ (t - 16) - 1))), (1, .int (nI (1 + 16)))]) hx hb dJ6_numberOfTrailingZeros_0f7a4_33 rfl hl (by decide) rfl (fun ls hl => ?_)
      exact ntz_34 (x := x) hF (by have := pw_ge (k := 16) (w := t) (by omega); omega) (by have := pw_ge (k := 16) (w := t) (by omega); omega) (by omega) (by omega) _ _ hLc (lv_sub hl [0, 1] rfl)

set_option maxRecDepth 100000 in
set_option maxHeartbeats 4000000 in
theorem c_J13_numberOfTrailingZeros_95d88 (l : Launch) (G : gG) (b0 : Nat) (H : Heap) {x t : Nat} (hx0 : 0 < x) (hx1 : x < 2 ^ 32) (ht : isTZ t x) : Met l yJ13_numberOfTrailingZeros_95d88 wsJ13_numberOfTrailingZeros_95d88 ({ frames := 1, cells := 0, slots := 0, locals := 21 } : Room) (PcH G H [.long (lN x)]) (QcI (fun r H1 => r = nI t ∧ H = H1)) 0 0 (fre b0) := by
  refine m_enter (cc := cJ13_numberOfTrailingZeros_95d88) (maxL := 3) (ret := (some .int)) (own := RJ13) (by decide) rfl rfl (Nat.le_of_ble_eq_true rfl) ?_
  intro p e s m below meth c ls hF hnm hH hl
  have hl : lv_has ls 3 [(0, .long (lN x))] := hl
  have hLc : lcs b0 [] := lcs_nil b0
  obtain ⟨hx, hb, hr, hml, hown, hts, hlocks, hK⟩ := id hF
  refine lv_lload_n hx hb dJ13_numberOfTrailingZeros_95d88_0 rfl (lv_at hl 0 rfl) ?_
  refine m_l2i hx hb dJ13_numberOfTrailingZeros_95d88_1 ?_
  refine lv_istore_n (lv' := [(2, .int (nI x)), (0, .long (lN x))]) hx hb dJ13_numberOfTrailingZeros_95d88_2 rfl hl (by decide) rfl (fun ls hl => ?_)
  refine lv_iload_n hx hb dJ13_numberOfTrailingZeros_95d88_3 rfl (lv_at hl 0 rfl) ?_
  refine lv_if_ne (tgt := 21) hx hb dJ13_numberOfTrailingZeros_95d88_4 (by decide) (fun _ => ?_) (fun h => absurd h (nI_nez hx0 hx1))
  refine lv_iload_n hx hb dJ13_numberOfTrailingZeros_95d88_21 rfl (lv_at hl 0 rfl) ?_
  refine mc_i0 (va_runS (As := [.int (nI x)]) (rest := []) ⟨hx, hb, hml, hown, hts⟩ (c_J6_numberOfTrailingZeros_0f7a4 l G b0 H hx1 ht) (va_cwS 1 hts gJ13_numberOfTrailingZeros_95d88_J6_numberOfTrailingZeros_0f7a4 rfl rfl rfl (by decide +kernel) ⟨Nat.le_of_ble_eq_true rfl, Nat.le_of_ble_eq_true rfl⟩) (mp_S hK) rfl rfl hl.1 rfl (lv_room (Nat.le_of_ble_eq_true rfl)) dJ13_numberOfTrailingZeros_95d88_22 ⟨Nat.le_of_ble_eq_true rfl, Nat.le_of_ble_eq_true rfl⟩) hLc (fun r H1 locs hP hLc => ?_)
  obtain ⟨rfl, rfl⟩ := hP
  exact m_iret hx hb hr hlocks hLc dJ13_numberOfTrailingZeros_95d88_25 (⟨rfl, rfl⟩)
end
section
set_option maxRecDepth 100000 in
set_option maxHeartbeats 4000000 in
theorem c_X0_limbAt (l : Launch) (G : gG) (b0 : Nat) (H : Heap) {a n : Nat} {f : Nat → Nat} (ha : H[a]? = some (aJ G n f)) (hn : n < 2 ^ 31) (x : Int32) : Met l yX0_limbAt wsX0_limbAt ({ frames := 0, cells := 0, slots := 0, locals := 0 } : Room) (PcH G H [.ref a, .int x]) (QcL (fun r H1 => r = lN (latI n f x.toInt) ∧ H = H1)) 0 0 (fre b0) := by
  refine m_enter (cc := cX0_limbAt) (maxL := 2) (ret := (some .long)) (own := RX0) (by decide) rfl rfl (Nat.le_of_ble_eq_true rfl) ?_
  intro p e s m below meth c ls hF hnm hH hl
  have hl : lv_has ls 2 [(0, .ref a), (1, .int x)] := hl
  have hLc : lcs b0 [] := lcs_nil b0
  obtain ⟨hx, hb, hr, hml, hown, hts, hlocks, hK⟩ := id hF
  by_cases hz : x < 0
  · have hz2 : x.toInt < 0 := by rw [Int32.lt_iff_toInt_lt, Int32.toInt_zero] at hz; exact hz
    refine lv_iload_n hx hb dX0_limbAt_0 rfl (lv_at hl 1 rfl) ?_
    refine lv_if_lt (tgt := 16) hx hb dX0_limbAt_1 (by decide) (fun _ => ?_) (fun h => absurd (hz) h)
    refine lv_lconst (v := lN 0) hx hb dX0_limbAt_16 (by decide) ?_
    exact m_lret hx hb hr hlocks hLc dX0_limbAt_17 (⟨by rw [latI_neg n f hz2], rfl⟩)
  · obtain ⟨i, hi, rfl⟩ := nI_of hz
    rw [nI_toInt hi, latI_nat]
    refine lv_iload_n hx hb dX0_limbAt_0 rfl (lv_at hl 1 rfl) ?_
    refine lv_if_lt (tgt := 16) hx hb dX0_limbAt_1 (by decide) (fun h => absurd h (hz)) (fun _ => ?_)
    refine lv_iload_n hx hb dX0_limbAt_4 rfl (lv_at hl 1 rfl) ?_
    refine lv_aload_n hx hb dX0_limbAt_5 rfl (lv_at hl 0 rfl) ?_
    refine m_alenJ (n := n) (f := f) hx hb hK (ha) dX0_limbAt_6 ?_
    refine m_icmp_ge (tgt := 16) hx hb (by omega) (by omega) dX0_limbAt_7 (by decide) (fun c7 => ?_) (fun c7 => ?_)
    · skip
      refine lv_lconst (v := lN 0) hx hb dX0_limbAt_16 (by decide) ?_
      exact m_lret hx hb hr hlocks hLc dX0_limbAt_17 (⟨by rw [lat_ge c7], rfl⟩)
    · skip
      refine lv_aload_n hx hb dX0_limbAt_10 rfl (lv_at hl 0 rfl) ?_
      refine lv_iload_n hx hb dX0_limbAt_11 rfl (lv_at hl 1 rfl) ?_
      refine m_lald (n := n) (f := f) hx hb hK (ha) (c7) (hn) dX0_limbAt_12 ?_
      refine lv_goto (tgt := 17) hx hb dX0_limbAt_13 (by decide) ?_
      exact m_lret hx hb hr hlocks hLc dX0_limbAt_17 (⟨by rw [lat_lt c7], rfl⟩)

set_option maxRecDepth 100000 in
set_option maxHeartbeats 4000000 in
theorem used_5 {p : Program} {l : Launch} {e : Env} {s : State} {m : MethodId} {args : Array Value} {below : List Frame} {meth : Method} {c : Code} {G : gG} {b0 : Nat} {H : Heap} {a n : Nat} {f : Nat → Nat} (hF : FxM p s m args meth c G cX0_used 2 (some .int) RX0 wsX0_used) (ha : H[a]? = some (aJ G n f)) (hn : n < 2 ^ 31) (hf : lim f n) : ∀ (k : Nat) , k ≤ n → us f n = us f k → ∀ (locs : List Loc) (ls : Array Slot), lcs b0 locs → lv_has ls 2 [(0, .ref a), (1, .int (nI k - 1))] → W p l e ({ frames := 0, cells := 0, slots := 0, locals := 0 } : Room) s m args below meth c H locs 0 0 (MQ below (QcI (fun r H1 => r = nI (us f n) ∧ H = H1)) args s 0 0 (fre b0)) (F0 m 5 ls []) := by
  obtain ⟨hx, hb, hr, hml, hown, hts, hlocks, hK⟩ := id hF
  intro k
  induction k with
  | zero =>
    intro hk hu locs ls hLc hl
    refine lv_iload_n hx hb dX0_used_5 rfl (lv_at hl 1 rfl) ?_
    refine lv_if_lt (tgt := 27) hx hb dX0_used_6 (by decide) (fun _ => ?_) (fun h => absurd (by decide) h)
    refine lv_iconst (v := nI 0) hx hb dX0_used_27 (by decide) ?_
    exact m_iret hx hb hr hlocks hLc dX0_used_28 (⟨by rw [hu]; rfl, rfl⟩)
  | succ k ih =>
    intro hk hu locs ls hLc hl
    rw [nI_pred] at hl
    have hfk := hf k (by omega)
    refine lv_iload_n hx hb dX0_used_5 rfl (lv_at hl 1 rfl) ?_
    refine lv_if_lt (tgt := 27) hx hb dX0_used_6 (by decide) (fun h => absurd h (nI_pos (by omega))) (fun _ => ?_)
    refine lv_aload_n hx hb dX0_used_9 rfl (lv_at hl 0 rfl) ?_
    refine lv_iload_n hx hb dX0_used_10 rfl (lv_at hl 1 rfl) ?_
    refine m_lald (n := n) (f := f) hx hb hK (ha) (by omega) (hn) dX0_used_11 ?_
    refine lv_lconst (v := lN 0) hx hb dX0_used_12 (by decide) ?_
    refine m_lc_eq (tgt := 21) hx hb (by omega) (by omega) dX0_used_13 dX0_used_14 (by decide) (fun c13 => ?_) (fun c13 => ?_)
    · skip
      have hu2 : us f n = us f k := by rw [hu]; exact us_s0 c13
      refine lv_iinc (v := nI k - 1) (lv' := [(1, .int (nI k - 1)), (0, .ref a)]) hx hb dX0_used_21 hl (k := 1) rfl (nI_decI _) (by decide) rfl (fun ls hl => ?_)
      refine lv_goto (tgt := 5) hx hb dX0_used_24 (by decide) ?_
      exact ih (by omega) hu2 _ _ hLc (lv_sub hl [1, 0] rfl)
    · skip
      refine lv_iload_n hx hb dX0_used_17 rfl (lv_at hl 1 rfl) ?_
      refine lv_iconst (v := nI 1) hx hb dX0_used_18 (by decide) ?_
      refine m_iadd (a := k) (b := 1) hx hb dX0_used_19 ?_
      exact m_iret hx hb hr hlocks hLc dX0_used_20 (⟨by rw [hu, us_s1 c13], rfl⟩)
set_option maxRecDepth 100000 in
set_option maxHeartbeats 4000000 in
theorem c_X0_used (l : Launch) (G : gG) (b0 : Nat) (H : Heap) {a n : Nat} {f : Nat → Nat} (ha : H[a]? = some (aJ G n f)) (hn : n < 2 ^ 31) (hf : lim f n) : Met l yX0_used wsX0_used ({ frames := 0, cells := 0, slots := 0, locals := 0 } : Room) (PcH G H [.ref a]) (QcI (fun r H1 => r = nI (us f n) ∧ H = H1)) 0 0 (fre b0) := by
  refine m_enter (cc := cX0_used) (maxL := 2) (ret := (some .int)) (own := RX0) (by decide) rfl rfl (Nat.le_of_ble_eq_true rfl) ?_
  intro p e s m below meth c ls hF hnm hH hl
  have hl : lv_has ls 2 [(0, .ref a)] := hl
  have hLc : lcs b0 [] := lcs_nil b0
  obtain ⟨hx, hb, hr, hml, hown, hts, hlocks, hK⟩ := id hF
  refine lv_aload_n hx hb dX0_used_0 rfl (lv_at hl 0 rfl) ?_
  refine m_alenJ (n := n) (f := f) hx hb hK (ha) dX0_used_1 ?_
  refine lv_iconst (v := 1) hx hb dX0_used_2 (by decide) ?_
  refine lv_isub hx hb dX0_used_3 ?_
  refine lv_istore_n (lv' := [(1, .int (nI n - 1)), (0, .ref a)]) hx hb dX0_used_4 rfl hl (by decide) rfl (fun ls hl => ?_)
  exact used_5 hF ha hn hf n (Nat.le_refl n) rfl _ _ hLc (lv_sub hl [1, 0] rfl)

set_option maxRecDepth 100000 in
set_option maxHeartbeats 4000000 in
theorem order_3 {p : Program} {l : Launch} {e : Env} {s : State} {m : MethodId} {args : Array Value} {below : List Frame} {meth : Method} {c : Code} {G : gG} {b0 : Nat} {H : Heap} {a b n k : Nat} {f g : Nat → Nat} (hF : FxM p s m args meth c G cX0_order 3 (some .int) RX0 wsX0_order) (ha : H[a]? = some (aJ G n f)) (hb0 : H[b]? = some (aJ G k g)) (hn : n < 2 ^ 31) (hk : k < 2 ^ 31) (hf : lim f n) (hg : lim g k) : ∀ (q : Nat) , q ≤ 16 → (∀ j, q ≤ j → j < 16 → lat n f j = lat k g j) → ∀ (locs : List Loc) (ls : Array Slot), lcs b0 locs → lv_has ls 3 [(0, .ref a), (1, .ref b), (2, .int (nI q - 1))] → W p l e ({ frames := 1, cells := 0, slots := 0, locals := 21 } : Room) s m args below meth c H locs 0 0 (MQ below (QcI (fun r H1 => ordP r (vl (lat n f) 16) (vl (lat k g) 16) ∧ H = H1)) args s 0 0 (fre b0)) (F0 m 3 ls []) := by
  obtain ⟨hx, hb, hr, hml, hown, hts, hlocks, hK⟩ := id hF
  intro q
  induction q with
  | zero =>
    intro hq he locs ls hLc hl
    refine lv_iload_n hx hb dX0_order_3 rfl (lv_at hl 2 rfl) ?_
    refine lv_if_lt (tgt := 47) hx hb dX0_order_4 (by decide) (fun _ => ?_) (fun h => absurd (by decide) h)
    refine lv_iconst (v := nI 0) hx hb dX0_order_47 (by decide) ?_
    exact m_iret hx hb hr hlocks hLc dX0_order_48 (⟨Or.inr (Or.inl ⟨vl_congr (fun j hj => he j (by omega) hj), nI_0⟩), rfl⟩)
  | succ q ih =>
    intro hq he locs ls hLc hl
    rw [nI_pred] at hl
    have h1 := lat_lim hf q
    have h2 := lat_lim hg q
    refine lv_iload_n hx hb dX0_order_3 rfl (lv_at hl 2 rfl) ?_
    refine lv_if_lt (tgt := 47) hx hb dX0_order_4 (by decide) (fun h => absurd h (nI_pos (by omega))) (fun _ => ?_)
    refine lv_aload_n hx hb dX0_order_7 rfl (lv_at hl 0 rfl) ?_
    refine lv_iload_n hx hb dX0_order_8 rfl (lv_at hl 2 rfl) ?_
    refine mc_l0 (va_runS (As := [.ref a, .int (nI q)]) (rest := []) ⟨hx, hb, hml, hown, hts⟩ (c_X0_limbAt l G b0 H (ha) hn (nI q)) (va_cwS 2 hts gX0_order_X0_limbAt rfl rfl rfl (by decide +kernel) ⟨Nat.le_of_ble_eq_true rfl, Nat.le_of_ble_eq_true rfl⟩) (mp_S hK) rfl rfl hl.1 rfl (lv_room (Nat.le_of_ble_eq_true rfl)) dX0_order_9 ⟨Nat.le_of_ble_eq_true rfl, Nat.le_of_ble_eq_true rfl⟩) hLc (fun r H1 locs hP hLc => ?_)
    obtain ⟨rfl, rfl⟩ := hP
    rw [nI_toInt (by omega), latI_nat]
    refine lv_aload_n hx hb dX0_order_12 rfl (lv_at hl 1 rfl) ?_
    refine lv_iload_n hx hb dX0_order_13 rfl (lv_at hl 2 rfl) ?_
    refine mc_l0 (va_runS (As := [.ref b, .int (nI q)]) (rest := [.long (lN (lat n f q))]) ⟨hx, hb, hml, hown, hts⟩ (c_X0_limbAt l G b0 H (hb0) hk (nI q)) (va_cwS 2 hts gX0_order_X0_limbAt rfl rfl rfl (by decide +kernel) ⟨Nat.le_of_ble_eq_true rfl, Nat.le_of_ble_eq_true rfl⟩) (mp_S hK) rfl rfl hl.1 rfl (lv_room (Nat.le_of_ble_eq_true rfl)) dX0_order_14 ⟨Nat.le_of_ble_eq_true rfl, Nat.le_of_ble_eq_true rfl⟩) hLc (fun r H1 locs hP hLc => ?_)
    obtain ⟨rfl, rfl⟩ := hP
    rw [nI_toInt (by omega), latI_nat]
    refine m_lc_eq (tgt := 41) hx hb (by omega) (by omega) dX0_order_17 dX0_order_18 (by decide) (fun c17 => ?_) (fun c17 => ?_)
    · skip
      have he2 : ∀ j, q ≤ j → j < 16 → lat n f j = lat k g j := fun j h3 h4 => (Nat.eq_or_lt_of_le h3).elim (fun h5 => by rw [← h5]; exact c17) (fun h5 => he j h5 h4)
      refine lv_iinc (v := nI q - 1) (lv' := [(2, .int (nI q - 1)), (0, .ref a), (1, .ref b)]) hx hb dX0_order_41 hl (k := 2) rfl (nI_decI _) (by decide) rfl (fun ls hl => ?_)
      refine lv_goto (tgt := 3) hx hb dX0_order_44 (by decide) ?_
      exact ih (by omega) he2 _ _ hLc (lv_sub hl [1, 2, 0] rfl)
    · skip
      refine lv_aload_n hx hb dX0_order_21 rfl (lv_at hl 0 rfl) ?_
      refine lv_iload_n hx hb dX0_order_22 rfl (lv_at hl 2 rfl) ?_
      refine mc_l0 (va_runS (As := [.ref a, .int (nI q)]) (rest := []) ⟨hx, hb, hml, hown, hts⟩ (c_X0_limbAt l G b0 H (ha) hn (nI q)) (va_cwS 2 hts gX0_order_X0_limbAt rfl rfl rfl (by decide +kernel) ⟨Nat.le_of_ble_eq_true rfl, Nat.le_of_ble_eq_true rfl⟩) (mp_S hK) rfl rfl hl.1 rfl (lv_room (Nat.le_of_ble_eq_true rfl)) dX0_order_23 ⟨Nat.le_of_ble_eq_true rfl, Nat.le_of_ble_eq_true rfl⟩) hLc (fun r H1 locs hP hLc => ?_)
      obtain ⟨rfl, rfl⟩ := hP
      rw [nI_toInt (by omega), latI_nat]
      refine lv_aload_n hx hb dX0_order_26 rfl (lv_at hl 1 rfl) ?_
      refine lv_iload_n hx hb dX0_order_27 rfl (lv_at hl 2 rfl) ?_
      refine mc_l0 (va_runS (As := [.ref b, .int (nI q)]) (rest := [.long (lN (lat n f q))]) ⟨hx, hb, hml, hown, hts⟩ (c_X0_limbAt l G b0 H (hb0) hk (nI q)) (va_cwS 2 hts gX0_order_X0_limbAt rfl rfl rfl (by decide +kernel) ⟨Nat.le_of_ble_eq_true rfl, Nat.le_of_ble_eq_true rfl⟩) (mp_S hK) rfl rfl hl.1 rfl (lv_room (Nat.le_of_ble_eq_true rfl)) dX0_order_28 ⟨Nat.le_of_ble_eq_true rfl, Nat.le_of_ble_eq_true rfl⟩) hLc (fun r H1 locs hP hLc => ?_)
      obtain ⟨rfl, rfl⟩ := hP
      rw [nI_toInt (by omega), latI_nat]
      refine m_lc_ge (tgt := 39) hx hb (by omega) (by omega) dX0_order_31 dX0_order_32 (by decide) (fun c31 => ?_) (fun c31 => ?_)
      · skip
        refine lv_iconst (v := nI 1) hx hb dX0_order_39 (by decide) ?_
        exact m_iret hx hb hr hlocks hLc dX0_order_40 (⟨Or.inr (Or.inr ⟨ord_lt (by omega) (lim_lat hg 16) (fun j h3 h4 => (he j h3 h4).symm) (by omega), rfl⟩), rfl⟩)
      · skip
        refine lv_iconst (v := -1) hx hb dX0_order_35 (by decide) ?_
        refine lv_goto (tgt := 40) hx hb dX0_order_36 (by decide) ?_
        exact m_iret hx hb hr hlocks hLc dX0_order_40 (⟨Or.inl ⟨ord_lt (by omega) (lim_lat hf 16) he c31, rfl⟩, rfl⟩)
set_option maxRecDepth 100000 in
set_option maxHeartbeats 4000000 in
theorem c_X0_order (l : Launch) (G : gG) (b0 : Nat) (H : Heap) {a b n k : Nat} {f g : Nat → Nat} (ha : H[a]? = some (aJ G n f)) (hb0 : H[b]? = some (aJ G k g)) (hn : n < 2 ^ 31) (hk : k < 2 ^ 31) (hf : lim f n) (hg : lim g k) : Met l yX0_order wsX0_order ({ frames := 1, cells := 0, slots := 0, locals := 21 } : Room) (PcH G H [.ref a, .ref b]) (QcI (fun r H1 => ordP r (vl (lat n f) 16) (vl (lat k g) 16) ∧ H = H1)) 0 0 (fre b0) := by
  refine m_enter (cc := cX0_order) (maxL := 3) (ret := (some .int)) (own := RX0) (by decide) rfl rfl (Nat.le_of_ble_eq_true rfl) ?_
  intro p e s m below meth c ls hF hnm hH hl
  have hl : lv_has ls 3 [(0, .ref a), (1, .ref b)] := hl
  have hLc : lcs b0 [] := lcs_nil b0
  obtain ⟨hx, hb, hr, hml, hown, hts, hlocks, hK⟩ := id hF
  refine lv_bipush (v := 15) hx hb dX0_order_0 (by decide) ?_
  refine lv_istore_n (lv' := [(2, .int 15), (0, .ref a), (1, .ref b)]) hx hb dX0_order_2 rfl hl (by decide) rfl (fun ls hl => ?_)
  have hl : lv_has ls 3 [(2, .int (nI 16 - 1)), (0, .ref a), (1, .ref b)] := hl
  exact order_3 hF ha hb0 hn hk hf hg 16 (Nat.le_refl 16) (fun j h1 h2 => absurd h2 (by omega)) _ _ hLc (lv_sub hl [1, 2, 0] rfl)

set_option maxRecDepth 100000 in
set_option maxHeartbeats 4000000 in
theorem copy_2 {p : Program} {l : Launch} {e : Env} {s : State} {m : MethodId} {args : Array Value} {below : List Frame} {meth : Method} {c : Code} {G : gG} {b0 : Nat} {H : Heap} {a b n k : Nat} {f : Nat → Nat} (hF : FxM p s m args meth c G cX0_copy 3 none RX0 wsX0_copy) (ha : H[a]? = some (aJ G n f)) {g0 : Nat → Nat} (hb0 : H[b]? = some (aJ G k g0)) (hn : n < 2 ^ 31) (hk : k < 2 ^ 31) (hab : a ≠ b) (hbb : b0 ≤ b) : ∀ (q : Nat) (i : Nat) (g : Nat → Nat), i + q = k → (∀ j, j < i → g j = lat n f j) → ∀ (locs : List Loc) (ls : Array Slot), lcs b0 locs → lv_has ls 3 [(0, .ref a), (1, .ref b), (2, .int (nI i))] → W p l e ({ frames := 1, cells := 0, slots := 0, locals := 21 } : Room) s m args below meth c (hput H b (aJ G k g)) locs 0 0 (MQ below (QcV (fun H1 => ∃ g2 : Nat → Nat, (∀ j, j < k → g2 j = lat n f j) ∧ H1 = hput H b (aJ G k g2))) args s 0 0 (fre b0)) (F0 m 2 ls []) := by
  obtain ⟨hx, hb, hr, hml, hown, hts, hlocks, hK⟩ := id hF
  intro q
  induction q with
  | zero =>
    intro i g hi hg locs ls hLc hl
    refine lv_iload_n hx hb dX0_copy_2 rfl (lv_at hl 2 rfl) ?_
    refine lv_aload_n hx hb dX0_copy_3 rfl (lv_at hl 1 rfl) ?_
    refine m_alenJ (n := k) (f := g) hx hb hK (hput_self _ (lt_of_at hb0)) dX0_copy_4 ?_
    refine lv_icmp_ge (tgt := 22) hx hb dX0_copy_5 (by decide) (fun _ => ?_) (fun h => absurd (nI_le (by omega) (by omega)) h)
    exact m_vret hx hb hr hlocks hLc dX0_copy_22 (⟨g, fun j hj => hg j (by omega), rfl⟩)
  | succ q ih =>
    intro i g hi hg locs ls hLc hl
    refine lv_iload_n hx hb dX0_copy_2 rfl (lv_at hl 2 rfl) ?_
    refine lv_aload_n hx hb dX0_copy_3 rfl (lv_at hl 1 rfl) ?_
    refine m_alenJ (n := k) (f := g) hx hb hK (hput_self _ (lt_of_at hb0)) dX0_copy_4 ?_
    refine lv_icmp_ge (tgt := 22) hx hb dX0_copy_5 (by decide) (fun h => absurd h (nI_ge (by omega) hk)) (fun _ => ?_)
    refine lv_aload_n hx hb dX0_copy_8 rfl (lv_at hl 1 rfl) ?_
    refine lv_iload_n hx hb dX0_copy_9 rfl (lv_at hl 2 rfl) ?_
    refine lv_aload_n hx hb dX0_copy_10 rfl (lv_at hl 0 rfl) ?_
    refine lv_iload_n hx hb dX0_copy_11 rfl (lv_at hl 2 rfl) ?_
    refine mc_l0 (va_runS (As := [.ref a, .int (nI i)]) (rest := [.int (nI i), .ref b]) ⟨hx, hb, hml, hown, hts⟩ (c_X0_limbAt l G b0 (hput H b (aJ G k g)) ((hput_ne _ hab).trans ha) hn (nI i)) (va_cwS 2 hts gX0_copy_X0_limbAt rfl rfl rfl (by decide +kernel) ⟨Nat.le_of_ble_eq_true rfl, Nat.le_of_ble_eq_true rfl⟩) (mp_S hK) rfl rfl hl.1 rfl (lv_room (Nat.le_of_ble_eq_true rfl)) dX0_copy_12 ⟨Nat.le_of_ble_eq_true rfl, Nat.le_of_ble_eq_true rfl⟩) hLc (fun r H1 locs hP hLc => ?_)
    obtain ⟨rfl, rfl⟩ := hP
    rw [nI_toInt (by omega), latI_nat]
    refine m_last (n := k) (f := g) (b0 := b0) hx hb hK (hput_self _ (lt_of_at hb0)) (by omega) (hk) (hbb) hLc dX0_copy_15 (fun locs hLc => ?_)
    rw [hput_put]
    refine lv_iinc (v := nI (i + 1)) (lv' := [(2, .int (nI (i + 1))), (0, .ref a), (1, .ref b)]) hx hb dX0_copy_16 hl (k := 2) rfl (nI_add i 1) (by decide) rfl (fun ls hl => ?_)
    refine lv_goto (tgt := 2) hx hb dX0_copy_19 (by decide) ?_
    exact ih (i + 1) _ (by omega) (fup_eq hg rfl) _ _ hLc (lv_sub hl [1, 2, 0] rfl)
set_option maxRecDepth 100000 in
set_option maxHeartbeats 4000000 in
theorem c_X0_copy (l : Launch) (G : gG) (b0 : Nat) (H : Heap) {a b n k : Nat} {f : Nat → Nat} (ha : H[a]? = some (aJ G n f)) {g0 : Nat → Nat} (hb0 : H[b]? = some (aJ G k g0)) (hn : n < 2 ^ 31) (hk : k < 2 ^ 31) (hab : a ≠ b) (hbb : b0 ≤ b) : Met l yX0_copy wsX0_copy ({ frames := 1, cells := 0, slots := 0, locals := 21 } : Room) (PcH G H [.ref a, .ref b]) (QcV (fun H1 => ∃ g2 : Nat → Nat, (∀ j, j < k → g2 j = lat n f j) ∧ H1 = hput H b (aJ G k g2))) 0 0 (fre b0) := by
  refine m_enter (cc := cX0_copy) (maxL := 3) (ret := none) (own := RX0) (by decide) rfl rfl (Nat.le_of_ble_eq_true rfl) ?_
  intro p e s m below meth c ls hF hnm hH hl
  have hl : lv_has ls 3 [(0, .ref a), (1, .ref b)] := hl
  have hLc : lcs b0 [] := lcs_nil b0
  obtain ⟨hx, hb, hr, hml, hown, hts, hlocks, hK⟩ := id hF
  refine lv_iconst (v := nI 0) hx hb dX0_copy_0 (by decide) ?_
  refine lv_istore_n (lv' := [(2, .int (nI 0)), (0, .ref a), (1, .ref b)]) hx hb dX0_copy_1 rfl hl (by decide) rfl (fun ls hl => ?_)
  have hl := lv_sub (l' := [(0, .ref a), (1, .ref b), (2, .int (nI 0))]) hl [1, 2, 0] rfl
  have hh := copy_2 (l := l) (e := e) (below := below) hF ha hb0 hn hk hab hbb k 0 g0 (by omega) (fun j hj => absurd hj (by omega)) _ _ hLc hl
  rw [hput_same hb0] at hh
  exact hh

set_option maxRecDepth 100000 in
set_option maxHeartbeats 4000000 in
theorem increase_2 {p : Program} {l : Launch} {e : Env} {s : State} {m : MethodId} {args : Array Value} {below : List Frame} {meth : Method} {c : Code} {G : gG} {b0 : Nat} {H : Heap} {a n : Nat} {f : Nat → Nat} (hF : FxM p s m args meth c G cX0_increase 2 none RX0 wsX0_increase) (ht : H[a]? = some (aJ G n f)) (hn : n < 2 ^ 31) (hf : lim f n) (hbt : b0 ≤ a) : ∀ (q : Nat) (i : Nat) (g : Nat → Nat), i + q = n → lim g n → (∀ j, j < i → g j = 0) → vl g n + 4294967296 ^ i = vl f n + 1 → ∀ (locs : List Loc) (ls : Array Slot), lcs b0 locs → lv_has ls 2 [(0, .ref a), (1, .int (nI i))] → W p l e ({ frames := 0, cells := 0, slots := 0, locals := 0 } : Room) s m args below meth c (hput H a (aJ G n g)) locs 0 0 (MQ below (QcV (fun H1 => ∃ g : Nat → Nat, lim g n ∧ vl g n = (vl f n + 1) % 4294967296 ^ n ∧ H1 = hput H a (aJ G n g))) args s 0 0 (fre b0)) (F0 m 2 ls []) := by
  obtain ⟨hx, hb, hr, hml, hown, hts, hlocks, hK⟩ := id hF
  intro q
  induction q with
  | zero =>
    intro i g hi hg h0 hv locs ls hLc hl
    refine lv_iload_n hx hb dX0_increase_2 rfl (lv_at hl 1 rfl) ?_
    refine lv_aload_n hx hb dX0_increase_3 rfl (lv_at hl 0 rfl) ?_
    refine m_alenJ (n := n) (f := g) hx hb hK (hput_self _ (lt_of_at ht)) dX0_increase_4 ?_
    refine lv_icmp_ge (tgt := 35) hx hb dX0_increase_5 (by decide) (fun _ => ?_) (fun h => absurd (nI_le (by omega) (by omega)) h)
    exact m_vret hx hb hr hlocks hLc dX0_increase_35 (⟨g, hg, inc_end (fun j hj => h0 j (by omega)) (by rw [← hv, show i = n by omega]), rfl⟩)
  | succ q ih =>
    intro i g hi hg h0 hv locs ls hLc hl
    have hin : i < n := by omega
    have hgi := hg i hin
    have hxl : (g i + 1) % 4294967296 < 4294967296 := Nat.mod_lt _ (by decide)
    refine lv_iload_n hx hb dX0_increase_2 rfl (lv_at hl 1 rfl) ?_
    refine lv_aload_n hx hb dX0_increase_3 rfl (lv_at hl 0 rfl) ?_
    refine m_alenJ (n := n) (f := g) hx hb hK (hput_self _ (lt_of_at ht)) dX0_increase_4 ?_
    refine lv_icmp_ge (tgt := 35) hx hb dX0_increase_5 (by decide) (fun h => absurd h (nI_ge (by omega) (by omega))) (fun _ => ?_)
    refine lv_aload_n hx hb dX0_increase_8 rfl (lv_at hl 0 rfl) ?_
    refine lv_iload_n hx hb dX0_increase_9 rfl (lv_at hl 1 rfl) ?_
    refine lv_aload_n hx hb dX0_increase_10 rfl (lv_at hl 0 rfl) ?_
    refine lv_iload_n hx hb dX0_increase_11 rfl (lv_at hl 1 rfl) ?_
    refine m_lald (n := n) (f := g) hx hb hK (hput_self _ (lt_of_at ht)) (by omega) (hn) dX0_increase_12 ?_
    refine lv_lconst (v := lN 1) hx hb dX0_increase_13 (by decide) ?_
    refine m_ladd hx hb dX0_increase_14 ?_
    refine lv_ldc2 (v := lN 4294967295) hx hb hown (hts (.constantLong RX0 28 (lN 4294967295)) (by decide +kernel)) dX0_increase_15 ?_
    refine m_mask hx hb dX0_increase_18 ?_
    refine m_last (n := n) (f := g) (b0 := b0) hx hb hK (hput_self _ (lt_of_at ht)) (by omega) (hn) (hbt) hLc dX0_increase_19 (fun locs hLc => ?_)
    rw [hput_put]
    refine lv_aload_n hx hb dX0_increase_20 rfl (lv_at hl 0 rfl) ?_
    refine lv_iload_n hx hb dX0_increase_21 rfl (lv_at hl 1 rfl) ?_
    refine m_lald (n := n) (f := fup g i (((g i) + 1) % 4294967296)) hx hb hK (hput_self _ (lt_of_at ht)) (by omega) (hn) dX0_increase_22 ?_
    rw [fup_s]
    refine lv_lconst (v := lN 0) hx hb dX0_increase_23 (by decide) ?_
    refine m_lc_eq (tgt := 29) hx hb (by omega) (by omega) dX0_increase_24 dX0_increase_25 (by decide) (fun c24 => ?_) (fun c24 => ?_)
    · skip
      refine lv_iinc (v := nI (i + 1)) (lv' := [(1, .int (nI (i + 1))), (0, .ref a)]) hx hb dX0_increase_29 hl (k := 1) rfl (nI_add i 1) (by decide) rfl (fun ls hl => ?_)
      refine lv_goto (tgt := 2) hx hb dX0_increase_32 (by decide) ?_
      exact ih (i + 1) _ (by omega) (lim_fup hg hxl) (fun j hj => if h : j = i then (by rw [h, fup_s]; exact c24) else (by rw [fup_n _ _ h]; exact h0 j (by omega))) (inc_step hg hin hv c24) _ _ hLc (lv_sub hl [1, 0] rfl)
    · skip
      exact m_vret hx hb hr hlocks hLc dX0_increase_28 (⟨_, lim_fup hg hxl, inc_exit hg hin hv c24, rfl⟩)
set_option maxRecDepth 100000 in
set_option maxHeartbeats 4000000 in
theorem c_X0_increase (l : Launch) (G : gG) (b0 : Nat) (H : Heap) {a n : Nat} {f : Nat → Nat} (ht : H[a]? = some (aJ G n f)) (hn : n < 2 ^ 31) (hf : lim f n) (hbt : b0 ≤ a) : Met l yX0_increase wsX0_increase ({ frames := 0, cells := 0, slots := 0, locals := 0 } : Room) (PcH G H [.ref a]) (QcV (fun H1 => ∃ g : Nat → Nat, lim g n ∧ vl g n = (vl f n + 1) % 4294967296 ^ n ∧ H1 = hput H a (aJ G n g))) 0 0 (fre b0) := by
  refine m_enter (cc := cX0_increase) (maxL := 2) (ret := none) (own := RX0) (by decide) rfl rfl (Nat.le_of_ble_eq_true rfl) ?_
  intro p e s m below meth c ls hF hnm hH hl
  have hl : lv_has ls 2 [(0, .ref a)] := hl
  have hLc : lcs b0 [] := lcs_nil b0
  obtain ⟨hx, hb, hr, hml, hown, hts, hlocks, hK⟩ := id hF
  refine lv_iconst (v := nI 0) hx hb dX0_increase_0 (by decide) ?_
  refine lv_istore_n (lv' := [(1, .int (nI 0)), (0, .ref a)]) hx hb dX0_increase_1 rfl hl (by decide) rfl (fun ls hl => ?_)
  have hl := lv_sub (l' := [(0, .ref a), (1, .int (nI 0))]) hl [1, 0] rfl
  have hh := increase_2 (l := l) (e := e) (below := below) hF ht hn hf hbt n 0 f (by omega) hf (fun j hj => absurd hj (by omega)) (by rw [Nat.pow_zero]) _ _ hLc hl
  rw [hput_same ht] at hh
  exact hh

set_option maxRecDepth 100000 in
set_option maxHeartbeats 4000000 in
theorem decrease_2 {p : Program} {l : Launch} {e : Env} {s : State} {m : MethodId} {args : Array Value} {below : List Frame} {meth : Method} {c : Code} {G : gG} {b0 : Nat} {H : Heap} {a n : Nat} {f : Nat → Nat} (hF : FxM p s m args meth c G cX0_decrease 2 none RX0 wsX0_decrease) (ht : H[a]? = some (aJ G n f)) (hn : n < 2 ^ 31) (hf : lim f n) (hbt : b0 ≤ a) (hv0 : 0 < vl f n) : ∀ (q : Nat) (i : Nat) (g : Nat → Nat), i + q = n → lim g n → (∀ j, j < i → f j = 0) → (∀ j, i ≤ j → g j = f j) → vl g n + 1 = vl f n + 4294967296 ^ i → ∀ (locs : List Loc) (ls : Array Slot), lcs b0 locs → lv_has ls 2 [(0, .ref a), (1, .int (nI i))] → W p l e ({ frames := 0, cells := 0, slots := 0, locals := 0 } : Room) s m args below meth c (hput H a (aJ G n g)) locs 0 0 (MQ below (QcV (fun H1 => ∃ g : Nat → Nat, lim g n ∧ vl g n + 1 = vl f n ∧ H1 = hput H a (aJ G n g))) args s 0 0 (fre b0)) (F0 m 2 ls []) := by
  obtain ⟨hx, hb, hr, hml, hown, hts, hlocks, hK⟩ := id hF
  intro q
  induction q with
  | zero =>
    intro i g hi hg h0 hs hv locs ls hLc hl
    exact absurd ((vl_zero_iff (f := f) (n := n)).mpr (fun j hj => h0 j (by omega))) (by omega)
  | succ q ih =>
    intro i g hi hg h0 hs hv locs ls hLc hl
    have hin : i < n := by omega
    have hgi := hg i hin
    have hxl : (g i + 4294967296 - 1) % 4294967296 < 4294967296 := Nat.mod_lt _ (by decide)
    refine lv_iload_n hx hb dX0_decrease_2 rfl (lv_at hl 1 rfl) ?_
    refine lv_aload_n hx hb dX0_decrease_3 rfl (lv_at hl 0 rfl) ?_
    refine m_alenJ (n := n) (f := g) hx hb hK (hput_self _ (lt_of_at ht)) dX0_decrease_4 ?_
    refine lv_icmp_ge (tgt := 37) hx hb dX0_decrease_5 (by decide) (fun h => absurd h (nI_ge (by omega) (by omega))) (fun _ => ?_)
    refine lv_aload_n hx hb dX0_decrease_8 rfl (lv_at hl 0 rfl) ?_
    refine lv_iload_n hx hb dX0_decrease_9 rfl (lv_at hl 1 rfl) ?_
    refine lv_aload_n hx hb dX0_decrease_10 rfl (lv_at hl 0 rfl) ?_
    refine lv_iload_n hx hb dX0_decrease_11 rfl (lv_at hl 1 rfl) ?_
    refine m_lald (n := n) (f := g) hx hb hK (hput_self _ (lt_of_at ht)) (by omega) (hn) dX0_decrease_12 ?_
    refine lv_lconst (v := lN 1) hx hb dX0_decrease_13 (by decide) ?_
    refine lv_lsub hx hb dX0_decrease_14 ?_
    refine lv_ldc2 (v := lN 4294967295) hx hb hown (hts (.constantLong RX0 28 (lN 4294967295)) (by decide +kernel)) dX0_decrease_15 ?_
    refine lv_land hx hb dX0_decrease_18 ?_
    rw [sub_mask (by decide)]
    refine m_last (n := n) (f := g) (b0 := b0) hx hb hK (hput_self _ (lt_of_at ht)) (by omega) (hn) (hbt) hLc dX0_decrease_19 (fun locs hLc => ?_)
    rw [hput_put]
    refine lv_aload_n hx hb dX0_decrease_20 rfl (lv_at hl 0 rfl) ?_
    refine lv_iload_n hx hb dX0_decrease_21 rfl (lv_at hl 1 rfl) ?_
    refine m_lald (n := n) (f := fup g i ((g i + 4294967296 - 1) % 4294967296)) hx hb hK (hput_self _ (lt_of_at ht)) (by omega) (hn) dX0_decrease_22 ?_
    rw [fup_s]
    refine lv_ldc2 (v := lN 4294967295) hx hb hown (hts (.constantLong RX0 28 (lN 4294967295)) (by decide +kernel)) dX0_decrease_23 ?_
    refine m_lc_eq (tgt := 31) hx hb (by omega) (by omega) dX0_decrease_26 dX0_decrease_27 (by decide) (fun c26 => ?_) (fun c26 => ?_)
    · skip
      refine lv_iinc (v := nI (i + 1)) (lv' := [(1, .int (nI (i + 1))), (0, .ref a)]) hx hb dX0_decrease_31 hl (k := 1) rfl (nI_add i 1) (by decide) rfl (fun ls hl => ?_)
      refine lv_goto (tgt := 2) hx hb dX0_decrease_34 (by decide) ?_
      exact ih (i + 1) _ (by omega) (lim_fup hg hxl) (fun j hj => if h : j = i then (by rw [h, ← hs i (Nat.le_refl i)]; exact (dec_step hg hin hv c26).1) else h0 j (by omega)) (fun j hj => by rw [fup_n _ _ (by omega)]; exact hs j (by omega)) (dec_step hg hin hv c26).2 _ _ hLc (lv_sub hl [1, 0] rfl)
    · skip
      exact m_vret hx hb hr hlocks hLc dX0_decrease_30 (⟨_, lim_fup hg hxl, dec_exit hg hin hv c26, rfl⟩)
set_option maxRecDepth 100000 in
set_option maxHeartbeats 4000000 in
theorem c_X0_decrease (l : Launch) (G : gG) (b0 : Nat) (H : Heap) {a n : Nat} {f : Nat → Nat} (ht : H[a]? = some (aJ G n f)) (hn : n < 2 ^ 31) (hf : lim f n) (hbt : b0 ≤ a) (hv0 : 0 < vl f n) : Met l yX0_decrease wsX0_decrease ({ frames := 0, cells := 0, slots := 0, locals := 0 } : Room) (PcH G H [.ref a]) (QcV (fun H1 => ∃ g : Nat → Nat, lim g n ∧ vl g n + 1 = vl f n ∧ H1 = hput H a (aJ G n g))) 0 0 (fre b0) := by
  refine m_enter (cc := cX0_decrease) (maxL := 2) (ret := none) (own := RX0) (by decide) rfl rfl (Nat.le_of_ble_eq_true rfl) ?_
  intro p e s m below meth c ls hF hnm hH hl
  have hl : lv_has ls 2 [(0, .ref a)] := hl
  have hLc : lcs b0 [] := lcs_nil b0
  obtain ⟨hx, hb, hr, hml, hown, hts, hlocks, hK⟩ := id hF
  refine lv_iconst (v := nI 0) hx hb dX0_decrease_0 (by decide) ?_
  refine lv_istore_n (lv' := [(1, .int (nI 0)), (0, .ref a)]) hx hb dX0_decrease_1 rfl hl (by decide) rfl (fun ls hl => ?_)
  have hl := lv_sub (l' := [(0, .ref a), (1, .int (nI 0))]) hl [1, 0] rfl
  have hh := decrease_2 (l := l) (e := e) (below := below) hF ht hn hf hbt hv0 n 0 f (by omega) hf (fun j hj => absurd hj (by omega)) (fun j _ => rfl) (by rw [Nat.pow_zero]) _ _ hLc hl
  rw [hput_same ht] at hh
  exact hh

set_option maxRecDepth 100000 in
set_option maxHeartbeats 4000000 in
theorem negate_2 {p : Program} {l : Launch} {e : Env} {s : State} {m : MethodId} {args : Array Value} {below : List Frame} {meth : Method} {c : Code} {G : gG} {b0 : Nat} {H : Heap} {a n : Nat} {f : Nat → Nat} (hF : FxM p s m args meth c G cX0_negate 2 none RX0 wsX0_negate) (ht : H[a]? = some (aJ G n f)) (hn : n < 2 ^ 31) (hf : lim f n) (hbt : b0 ≤ a) : ∀ (q : Nat) (i : Nat) (g : Nat → Nat), i + q = n → lim g n → (∀ j, i ≤ j → g j = f j) → vl g i + vl f i + 1 = 4294967296 ^ i → ∀ (locs : List Loc) (ls : Array Slot), lcs b0 locs → lv_has ls 2 [(0, .ref a), (1, .int (nI i))] → W p l e ({ frames := 1, cells := 0, slots := 0, locals := 21 } : Room) s m args below meth c (hput H a (aJ G n g)) locs 0 0 (MQ below (QcV (fun H1 => ∃ g : Nat → Nat, lim g n ∧ vl g n = (4294967296 ^ n - vl f n) % 4294967296 ^ n ∧ H1 = hput H a (aJ G n g))) args s 0 0 (fre b0)) (F0 m 2 ls []) := by
  obtain ⟨hx, hb, hr, hml, hown, hts, hlocks, hK⟩ := id hF
  intro q
  induction q with
  | zero =>
    intro i g hi hg hs hv locs ls hLc hl
    have hin : i = n := by omega
    rw [hin] at hv
    refine lv_iload_n hx hb dX0_negate_2 rfl (lv_at hl 1 rfl) ?_
    refine lv_aload_n hx hb dX0_negate_3 rfl (lv_at hl 0 rfl) ?_
    refine m_alenJ (n := n) (f := g) hx hb hK (hput_self _ (lt_of_at ht)) dX0_negate_4 ?_
    refine lv_icmp_ge (tgt := 28) hx hb dX0_negate_5 (by decide) (fun _ => ?_) (fun h => absurd (nI_le (by omega) (by omega)) h)
    refine lv_aload_n hx hb dX0_negate_28 rfl (lv_at hl 0 rfl) ?_
    refine mc_v0 (va_runS (As := [.ref a]) (rest := []) ⟨hx, hb, hml, hown, hts⟩ (c_X0_increase l G b0 (hput H a (aJ G n g)) (hput_self _ (lt_of_at ht)) hn hg hbt) (va_cwS 1 hts gX0_negate_X0_increase rfl rfl rfl (by decide +kernel) ⟨Nat.le_of_ble_eq_true rfl, Nat.le_of_ble_eq_true rfl⟩) (mp_S hK) rfl rfl hl.1 rfl (lv_room (Nat.le_of_ble_eq_true rfl)) dX0_negate_29 ⟨Nat.le_of_ble_eq_true rfl, Nat.le_of_ble_eq_true rfl⟩) hLc (fun H1 locs hP hLc => ?_)
    obtain ⟨g2, hg2, hv2, rfl⟩ := hP
    rw [hput_put]
    exact m_vret hx hb hr hlocks hLc dX0_negate_32 (⟨g2, hg2, by rw [hv2, show vl g n + 1 = 4294967296 ^ n - vl f n by omega], rfl⟩)
  | succ q ih =>
    intro i g hi hg hs hv locs ls hLc hl
    have hin : i < n := by omega
    have hgi := hg i hin
    refine lv_iload_n hx hb dX0_negate_2 rfl (lv_at hl 1 rfl) ?_
    refine lv_aload_n hx hb dX0_negate_3 rfl (lv_at hl 0 rfl) ?_
    refine m_alenJ (n := n) (f := g) hx hb hK (hput_self _ (lt_of_at ht)) dX0_negate_4 ?_
    refine lv_icmp_ge (tgt := 28) hx hb dX0_negate_5 (by decide) (fun h => absurd h (nI_ge (by omega) (by omega))) (fun _ => ?_)
    refine lv_aload_n hx hb dX0_negate_8 rfl (lv_at hl 0 rfl) ?_
    refine lv_iload_n hx hb dX0_negate_9 rfl (lv_at hl 1 rfl) ?_
    refine lv_aload_n hx hb dX0_negate_10 rfl (lv_at hl 0 rfl) ?_
    refine lv_iload_n hx hb dX0_negate_11 rfl (lv_at hl 1 rfl) ?_
    refine m_lald (n := n) (f := g) hx hb hK (hput_self _ (lt_of_at ht)) (by omega) (hn) dX0_negate_12 ?_
    refine lv_ldc2 (v := -1) hx hb hown (hts (.constantLong RX0 30 (-1)) (by decide +kernel)) dX0_negate_13 ?_
    refine lv_lxor hx hb dX0_negate_16 ?_
    refine lv_ldc2 (v := lN 4294967295) hx hb hown (hts (.constantLong RX0 28 (lN 4294967295)) (by decide +kernel)) dX0_negate_17 ?_
    refine lv_land hx hb dX0_negate_20 ?_
    rw [not_mask hgi]
    refine m_last (n := n) (f := g) (b0 := b0) hx hb hK (hput_self _ (lt_of_at ht)) (by omega) (hn) (hbt) hLc dX0_negate_21 (fun locs hLc => ?_)
    rw [hput_put]
    refine lv_iinc (v := nI (i + 1)) (lv' := [(1, .int (nI (i + 1))), (0, .ref a)]) hx hb dX0_negate_22 hl (k := 1) rfl (nI_add i 1) (by decide) rfl (fun ls hl => ?_)
    refine lv_goto (tgt := 2) hx hb dX0_negate_25 (by decide) ?_
    exact ih (i + 1) _ (by omega) (lim_fup hg (by omega)) (fun j hj => by rw [fup_n _ _ (by omega)]; exact hs j (by omega)) (neg_step (hf i hin) (hs i (Nat.le_refl i)) hv) _ _ hLc (lv_sub hl [1, 0] rfl)
set_option maxRecDepth 100000 in
set_option maxHeartbeats 4000000 in
theorem c_X0_negate (l : Launch) (G : gG) (b0 : Nat) (H : Heap) {a n : Nat} {f : Nat → Nat} (ht : H[a]? = some (aJ G n f)) (hn : n < 2 ^ 31) (hf : lim f n) (hbt : b0 ≤ a) : Met l yX0_negate wsX0_negate ({ frames := 1, cells := 0, slots := 0, locals := 21 } : Room) (PcH G H [.ref a]) (QcV (fun H1 => ∃ g : Nat → Nat, lim g n ∧ vl g n = (4294967296 ^ n - vl f n) % 4294967296 ^ n ∧ H1 = hput H a (aJ G n g))) 0 0 (fre b0) := by
  refine m_enter (cc := cX0_negate) (maxL := 2) (ret := none) (own := RX0) (by decide) rfl rfl (Nat.le_of_ble_eq_true rfl) ?_
  intro p e s m below meth c ls hF hnm hH hl
  have hl : lv_has ls 2 [(0, .ref a)] := hl
  have hLc : lcs b0 [] := lcs_nil b0
  obtain ⟨hx, hb, hr, hml, hown, hts, hlocks, hK⟩ := id hF
  refine lv_iconst (v := nI 0) hx hb dX0_negate_0 (by decide) ?_
  refine lv_istore_n (lv' := [(1, .int (nI 0)), (0, .ref a)]) hx hb dX0_negate_1 rfl hl (by decide) rfl (fun ls hl => ?_)
  have hl := lv_sub (l' := [(0, .ref a), (1, .int (nI 0))]) hl [1, 0] rfl
  have hh := negate_2 (l := l) (e := e) (below := below) hF ht hn hf hbt n 0 f (by omega) hf (fun j _ => rfl) rfl _ _ hLc hl
  rw [hput_same ht] at hh
  exact hh

set_option maxRecDepth 100000 in
set_option maxHeartbeats 4000000 in
theorem add_5 {p : Program} {l : Launch} {e : Env} {s : State} {m : MethodId} {args : Array Value} {below : List Frame} {meth : Method} {c : Code} {G : gG} {b0 : Nat} {H : Heap} {a b t n1 n2 n : Nat} {f1 f2 f : Nat → Nat} (hF : FxM p s m args meth c G cX0_add 8 none RX0 wsX0_add) (ha : H[a]? = some (aJ G n1 f1)) (hb0 : H[b]? = some (aJ G n2 f2)) (ht : H[t]? = some (aJ G n f)) (hn1 : n1 < 2 ^ 31) (hn2 : n2 < 2 ^ 31) (hn : n < 2 ^ 31) (hf1 : lim f1 n1) (hf2 : lim f2 n2) (hat : a ≠ t) (hbn : b ≠ t) (hbt : b0 ≤ t) : ∀ (q : Nat) (i c1 : Nat) (g : Nat → Nat), i + q = n → lim g i → c1 ≤ 1 → vl g i + c1 * 4294967296 ^ i = vl (lat n1 f1) i + vl (lat n2 f2) i → ∀ (locs : List Loc) (ls : Array Slot), lcs b0 locs → lv_has ls 8 [(0, .ref a), (1, .ref b), (2, .ref t), (3, .long (lN c1)), (5, .int (nI i))] → W p l e ({ frames := 1, cells := 0, slots := 0, locals := 21 } : Room) s m args below meth c (hput H t (aJ G n g)) locs 0 0 (MQ below (QcV (fun H1 => ∃ (g : Nat → Nat) (c1 : Nat), lim g n ∧ vl g n + c1 * 4294967296 ^ n = vl (lat n1 f1) n + vl (lat n2 f2) n ∧ H1 = hput H t (aJ G n g))) args s 0 0 (fre b0)) (F0 m 5 ls []) := by
  obtain ⟨hx, hb, hr, hml, hown, hts, hlocks, hK⟩ := id hF
  intro q
  induction q with
  | zero =>
    intro i c1 g hi hg hc hv locs ls hLc hl
    have hin : i = n := by omega
    rw [hin] at hv hg
    refine lv_iload hx hb dX0_add_5 (lv_at hl 4 rfl) ?_
    refine lv_aload_n hx hb dX0_add_7 rfl (lv_at hl 2 rfl) ?_
    refine m_alenJ (n := n) (f := g) hx hb hK (hput_self _ (lt_of_at ht)) dX0_add_8 ?_
    refine lv_icmp_ge (tgt := 51) hx hb dX0_add_9 (by decide) (fun _ => ?_) (fun h => absurd (nI_le (by omega) (by omega)) h)
    exact m_vret hx hb hr hlocks hLc dX0_add_51 (⟨g, c1, hg, hv, rfl⟩)
  | succ q ih =>
    intro i c1 g hi hg hc hv locs ls hLc hl
    have hin : i < n := by omega
    have h1 := lat_lim hf1 i
    have h2 := lat_lim hf2 i
    have hxl : (lat n1 f1 i + lat n2 f2 i + c1) % 4294967296 < 4294967296 := Nat.mod_lt _ (by decide)
    refine lv_iload hx hb dX0_add_5 (lv_at hl 4 rfl) ?_
    refine lv_aload_n hx hb dX0_add_7 rfl (lv_at hl 2 rfl) ?_
    refine m_alenJ (n := n) (f := g) hx hb hK (hput_self _ (lt_of_at ht)) dX0_add_8 ?_
    refine lv_icmp_ge (tgt := 51) hx hb dX0_add_9 (by decide) (fun h => absurd h (nI_ge (by omega) (by omega))) (fun _ => ?_)
    refine lv_aload_n hx hb dX0_add_12 rfl (lv_at hl 0 rfl) ?_
    refine lv_iload hx hb dX0_add_13 (lv_at hl 4 rfl) ?_
    refine mc_l0 (va_runS (As := [.ref a, .int (nI i)]) (rest := []) ⟨hx, hb, hml, hown, hts⟩ (c_X0_limbAt l G b0 (hput H t (aJ G n g)) ((hput_ne _ hat).trans ha) hn1 (nI i)) (va_cwS 2 hts gX0_add_X0_limbAt rfl rfl rfl (by decide +kernel) ⟨Nat.le_of_ble_eq_true rfl, Nat.le_of_ble_eq_true rfl⟩) (mp_S hK) rfl rfl hl.1 rfl (lv_room (Nat.le_of_ble_eq_true rfl)) dX0_add_15 ⟨Nat.le_of_ble_eq_true rfl, Nat.le_of_ble_eq_true rfl⟩) hLc (fun r H1 locs hP hLc => ?_)
    obtain ⟨rfl, rfl⟩ := hP
    rw [nI_toInt (by omega), latI_nat]
    refine lv_aload_n hx hb dX0_add_18 rfl (lv_at hl 1 rfl) ?_
    refine lv_iload hx hb dX0_add_19 (lv_at hl 4 rfl) ?_
    refine mc_l0 (va_runS (As := [.ref b, .int (nI i)]) (rest := [.long (lN (lat n1 f1 i))]) ⟨hx, hb, hml, hown, hts⟩ (c_X0_limbAt l G b0 (hput H t (aJ G n g)) ((hput_ne _ hbn).trans hb0) hn2 (nI i)) (va_cwS 2 hts gX0_add_X0_limbAt rfl rfl rfl (by decide +kernel) ⟨Nat.le_of_ble_eq_true rfl, Nat.le_of_ble_eq_true rfl⟩) (mp_S hK) rfl rfl hl.1 rfl (lv_room (Nat.le_of_ble_eq_true rfl)) dX0_add_21 ⟨Nat.le_of_ble_eq_true rfl, Nat.le_of_ble_eq_true rfl⟩) hLc (fun r H1 locs hP hLc => ?_)
    obtain ⟨rfl, rfl⟩ := hP
    rw [nI_toInt (by omega), latI_nat]
    refine m_ladd hx hb dX0_add_24 ?_
    refine lv_lload_n hx hb dX0_add_25 rfl (lv_at hl 3 rfl) ?_
    refine m_ladd hx hb dX0_add_26 ?_
    refine lv_lstore (lv' := [(6, .long (lN (((lat n1 f1 i) + (lat n2 f2 i)) + c1))), (0, .ref a), (1, .ref b), (2, .ref t), (3, .long (lN c1)), (5, .int (nI i))]) hx hb dX0_add_27 hl (by decide) rfl (fun ls hl => ?_)
    refine lv_aload_n hx hb dX0_add_29 rfl (lv_at hl 3 rfl) ?_
    refine lv_iload hx hb dX0_add_30 (lv_at hl 5 rfl) ?_
    refine lv_lload hx hb dX0_add_32 (lv_at hl 0 rfl) ?_
    refine lv_ldc2 (v := lN 4294967295) hx hb hown (hts (.constantLong RX0 28 (lN 4294967295)) (by decide +kernel)) dX0_add_34 ?_
    refine m_mask hx hb dX0_add_37 ?_
    refine m_last (n := n) (f := g) (b0 := b0) hx hb hK (hput_self _ (lt_of_at ht)) (by omega) (hn) (hbt) hLc dX0_add_38 (fun locs hLc => ?_)
    rw [hput_put]
    refine lv_lload hx hb dX0_add_39 (lv_at hl 0 rfl) ?_
    refine lv_bipush (v := nI 32) hx hb dX0_add_41 (by decide) ?_
    refine m_lushr32 hx hb (by omega) dX0_add_43 ?_
    refine lv_lstore_n (lv' := [(3, .long (lN ((((lat n1 f1 i) + (lat n2 f2 i)) + c1) / 4294967296))), (6, .long (lN (((lat n1 f1 i) + (lat n2 f2 i)) + c1))), (0, .ref a), (1, .ref b), (2, .ref t), (5, .int (nI i))]) hx hb dX0_add_44 rfl hl (by decide) rfl (fun ls hl => ?_)
    refine lv_iinc (v := nI (i + 1)) (lv' := [(5, .int (nI (i + 1))), (3, .long (lN ((((lat n1 f1 i) + (lat n2 f2 i)) + c1) / 4294967296))), (6, .long (lN (((lat n1 f1 i) + (lat n2 f2 i)) + c1))), (0, .ref a), (1, .ref b), (2, .ref t)]) hx hb dX0_add_45 hl (k := 5) rfl (nI_add i 1) (by decide) rfl (fun ls hl => ?_)
    refine lv_goto (tgt := 5) hx hb dX0_add_48 (by decide) ?_
    exact ih (i + 1) _ _ (by omega) (lim_succ hg hxl) (by omega) (add_step hv) _ _ hLc (lv_sub hl [3, 4, 5, 1, 0] rfl)
set_option maxRecDepth 100000 in
set_option maxHeartbeats 4000000 in
theorem c_X0_add (l : Launch) (G : gG) (b0 : Nat) (H : Heap) {a b t n1 n2 n : Nat} {f1 f2 f : Nat → Nat} (ha : H[a]? = some (aJ G n1 f1)) (hb0 : H[b]? = some (aJ G n2 f2)) (ht : H[t]? = some (aJ G n f)) (hn1 : n1 < 2 ^ 31) (hn2 : n2 < 2 ^ 31) (hn : n < 2 ^ 31) (hf1 : lim f1 n1) (hf2 : lim f2 n2) (hat : a ≠ t) (hbn : b ≠ t) (hbt : b0 ≤ t) : Met l yX0_add wsX0_add ({ frames := 1, cells := 0, slots := 0, locals := 21 } : Room) (PcH G H [.ref a, .ref b, .ref t]) (QcV (fun H1 => ∃ (g : Nat → Nat) (c1 : Nat), lim g n ∧ vl g n + c1 * 4294967296 ^ n = vl (lat n1 f1) n + vl (lat n2 f2) n ∧ H1 = hput H t (aJ G n g))) 0 0 (fre b0) := by
  refine m_enter (cc := cX0_add) (maxL := 8) (ret := none) (own := RX0) (by decide) rfl rfl (Nat.le_of_ble_eq_true rfl) ?_
  intro p e s m below meth c ls hF hnm hH hl
  have hl : lv_has ls 8 [(0, .ref a), (1, .ref b), (2, .ref t)] := hl
  have hLc : lcs b0 [] := lcs_nil b0
  obtain ⟨hx, hb, hr, hml, hown, hts, hlocks, hK⟩ := id hF
  refine lv_lconst (v := lN 0) hx hb dX0_add_0 (by decide) ?_
  refine lv_lstore_n (lv' := [(3, .long (lN 0)), (0, .ref a), (1, .ref b), (2, .ref t)]) hx hb dX0_add_1 rfl hl (by decide) rfl (fun ls hl => ?_)
  refine lv_iconst (v := nI 0) hx hb dX0_add_2 (by decide) ?_
  refine lv_istore (lv' := [(5, .int (nI 0)), (3, .long (lN 0)), (0, .ref a), (1, .ref b), (2, .ref t)]) hx hb dX0_add_3 hl (by decide) rfl (fun ls hl => ?_)
  have hl := lv_sub (l' := [(0, .ref a), (1, .ref b), (2, .ref t), (3, .long (lN 0)), (5, .int (nI 0))]) hl [2, 3, 4, 1, 0] rfl
  have hh := add_5 (l := l) (e := e) (below := below) hF ha hb0 ht hn1 hn2 hn hf1 hf2 hat hbn hbt n 0 0 f (by omega) (fun j hj => absurd hj (by omega)) (by omega) rfl _ _ hLc hl
  rw [hput_same ht] at hh
  exact hh

set_option maxRecDepth 100000 in
set_option maxHeartbeats 4000000 in
theorem subtract_5 {p : Program} {l : Launch} {e : Env} {s : State} {m : MethodId} {args : Array Value} {below : List Frame} {meth : Method} {c : Code} {G : gG} {b0 : Nat} {H : Heap} {a b t n1 n2 n : Nat} {f1 f2 f : Nat → Nat} (hF : FxM p s m args meth c G cX0_subtract 8 none RX0 wsX0_subtract) (ha : H[a]? = some (aJ G n1 f1)) (hb0 : H[b]? = some (aJ G n2 f2)) (ht : H[t]? = some (aJ G n f)) (hn1 : n1 < 2 ^ 31) (hn2 : n2 < 2 ^ 31) (hn : n < 2 ^ 31) (hf1 : lim f1 n1) (hf2 : lim f2 n2) (hat : a ≠ t) (hbn : b ≠ t) (hbt : b0 ≤ t) : ∀ (q : Nat) (i c1 : Nat) (g : Nat → Nat), i + q = n → lim g i → c1 ≤ 1 → vl g i + vl (lat n2 f2) i = vl (lat n1 f1) i + c1 * 4294967296 ^ i → ∀ (locs : List Loc) (ls : Array Slot), lcs b0 locs → lv_has ls 8 [(0, .ref a), (1, .ref b), (2, .ref t), (3, .long (lN c1)), (5, .int (nI i))] → W p l e ({ frames := 1, cells := 0, slots := 0, locals := 21 } : Room) s m args below meth c (hput H t (aJ G n g)) locs 0 0 (MQ below (QcV (fun H1 => ∃ (g : Nat → Nat) (c1 : Nat), lim g n ∧ vl g n + vl (lat n2 f2) n = vl (lat n1 f1) n + c1 * 4294967296 ^ n ∧ H1 = hput H t (aJ G n g))) args s 0 0 (fre b0)) (F0 m 5 ls []) := by
  obtain ⟨hx, hb, hr, hml, hown, hts, hlocks, hK⟩ := id hF
  intro q
  induction q with
  | zero =>
    intro i c1 g hi hg hc hv locs ls hLc hl
    have hin : i = n := by omega
    rw [hin] at hv hg
    refine lv_iload hx hb dX0_subtract_5 (lv_at hl 4 rfl) ?_
    refine lv_aload_n hx hb dX0_subtract_7 rfl (lv_at hl 2 rfl) ?_
    refine m_alenJ (n := n) (f := g) hx hb hK (hput_self _ (lt_of_at ht)) dX0_subtract_8 ?_
    refine lv_icmp_ge (tgt := 58) hx hb dX0_subtract_9 (by decide) (fun _ => ?_) (fun h => absurd (nI_le (by omega) (by omega)) h)
    exact m_vret hx hb hr hlocks hLc dX0_subtract_58 (⟨g, c1, hg, hv, rfl⟩)
  | succ q ih =>
    intro i c1 g hi hg hc hv locs ls hLc hl
    have hin : i < n := by omega
    have h1 := lat_lim hf1 i
    have h2 := lat_lim hf2 i
    have hxl : (lat n1 f1 i + 4294967296 - (lat n2 f2 i + c1)) % 4294967296 < 4294967296 := Nat.mod_lt _ (by decide)
    refine lv_iload hx hb dX0_subtract_5 (lv_at hl 4 rfl) ?_
    refine lv_aload_n hx hb dX0_subtract_7 rfl (lv_at hl 2 rfl) ?_
    refine m_alenJ (n := n) (f := g) hx hb hK (hput_self _ (lt_of_at ht)) dX0_subtract_8 ?_
    refine lv_icmp_ge (tgt := 58) hx hb dX0_subtract_9 (by decide) (fun h => absurd h (nI_ge (by omega) (by omega))) (fun _ => ?_)
    refine lv_aload_n hx hb dX0_subtract_12 rfl (lv_at hl 0 rfl) ?_
    refine lv_iload hx hb dX0_subtract_13 (lv_at hl 4 rfl) ?_
    refine mc_l0 (va_runS (As := [.ref a, .int (nI i)]) (rest := []) ⟨hx, hb, hml, hown, hts⟩ (c_X0_limbAt l G b0 (hput H t (aJ G n g)) ((hput_ne _ hat).trans ha) hn1 (nI i)) (va_cwS 2 hts gX0_subtract_X0_limbAt rfl rfl rfl (by decide +kernel) ⟨Nat.le_of_ble_eq_true rfl, Nat.le_of_ble_eq_true rfl⟩) (mp_S hK) rfl rfl hl.1 rfl (lv_room (Nat.le_of_ble_eq_true rfl)) dX0_subtract_15 ⟨Nat.le_of_ble_eq_true rfl, Nat.le_of_ble_eq_true rfl⟩) hLc (fun r H1 locs hP hLc => ?_)
    obtain ⟨rfl, rfl⟩ := hP
    rw [nI_toInt (by omega), latI_nat]
    refine lv_aload_n hx hb dX0_subtract_18 rfl (lv_at hl 1 rfl) ?_
    refine lv_iload hx hb dX0_subtract_19 (lv_at hl 4 rfl) ?_
    refine mc_l0 (va_runS (As := [.ref b, .int (nI i)]) (rest := [.long (lN (lat n1 f1 i))]) ⟨hx, hb, hml, hown, hts⟩ (c_X0_limbAt l G b0 (hput H t (aJ G n g)) ((hput_ne _ hbn).trans hb0) hn2 (nI i)) (va_cwS 2 hts gX0_subtract_X0_limbAt rfl rfl rfl (by decide +kernel) ⟨Nat.le_of_ble_eq_true rfl, Nat.le_of_ble_eq_true rfl⟩) (mp_S hK) rfl rfl hl.1 rfl (lv_room (Nat.le_of_ble_eq_true rfl)) dX0_subtract_21 ⟨Nat.le_of_ble_eq_true rfl, Nat.le_of_ble_eq_true rfl⟩) hLc (fun r H1 locs hP hLc => ?_)
    obtain ⟨rfl, rfl⟩ := hP
    rw [nI_toInt (by omega), latI_nat]
    refine lv_lsub hx hb dX0_subtract_24 ?_
    refine lv_lload_n hx hb dX0_subtract_25 rfl (lv_at hl 3 rfl) ?_
    refine lv_lsub hx hb dX0_subtract_26 ?_
    rw [sub_sub_lN]
    refine lv_lstore (lv' := [(6, .long (lN (lat n1 f1 i) - lN (lat n2 f2 i + c1))), (0, .ref a), (1, .ref b), (2, .ref t), (3, .long (lN c1)), (5, .int (nI i))]) hx hb dX0_subtract_27 hl (by decide) rfl (fun ls hl => ?_)
    refine lv_aload_n hx hb dX0_subtract_29 rfl (lv_at hl 3 rfl) ?_
    refine lv_iload hx hb dX0_subtract_30 (lv_at hl 5 rfl) ?_
    refine lv_lload hx hb dX0_subtract_32 (lv_at hl 0 rfl) ?_
    refine lv_ldc2 (v := lN 4294967295) hx hb hown (hts (.constantLong RX0 28 (lN 4294967295)) (by decide +kernel)) dX0_subtract_34 ?_
    refine lv_land hx hb dX0_subtract_37 ?_
    rw [sub_mask (by omega)]
    refine m_last (n := n) (f := g) (b0 := b0) hx hb hK (hput_self _ (lt_of_at ht)) (by omega) (hn) (hbt) hLc dX0_subtract_38 (fun locs hLc => ?_)
    rw [hput_put]
    refine lv_lload hx hb dX0_subtract_39 (lv_at hl 0 rfl) ?_
    refine lv_lconst (v := lN 0) hx hb dX0_subtract_41 (by decide) ?_
    refine m_lr_ge (tgt := 50) hx hb dX0_subtract_42 dX0_subtract_43 (by decide) (fun c42 => ?_) (fun c42 => ?_)
    · skip
      have c42 := (sub_ge0 (by omega) (by omega)).mp c42
      refine lv_lconst (v := lN 0) hx hb dX0_subtract_50 (by decide) ?_
      refine lv_lstore_n (lv' := [(3, .long (lN 0)), (6, .long (lN (lat n1 f1 i) - lN (lat n2 f2 i + c1))), (0, .ref a), (1, .ref b), (2, .ref t), (5, .int (nI i))]) hx hb dX0_subtract_51 rfl hl (by decide) rfl (fun ls hl => ?_)
      refine lv_iinc (v := nI (i + 1)) (lv' := [(5, .int (nI (i + 1))), (3, .long (lN 0)), (6, .long (lN (lat n1 f1 i) - lN (lat n2 f2 i + c1))), (0, .ref a), (1, .ref b), (2, .ref t)]) hx hb dX0_subtract_52 hl (k := 5) rfl (nI_add i 1) (by decide) rfl (fun ls hl => ?_)
      refine lv_goto (tgt := 5) hx hb dX0_subtract_55 (by decide) ?_
      exact ih (i + 1) _ _ (by omega) (lim_succ hg hxl) (by omega) (sub_step0 h1 c42 hv) _ _ hLc (lv_sub hl [3, 4, 5, 1, 0] rfl)
    · skip
      have c42 : ¬ (lat n2 f2 i + c1 ≤ lat n1 f1 i) := fun z => c42 ((sub_ge0 (by omega) (by omega)).mpr z)
      refine lv_lconst (v := lN 1) hx hb dX0_subtract_46 (by decide) ?_
      refine lv_goto (tgt := 51) hx hb dX0_subtract_47 (by decide) ?_
      refine lv_lstore_n (lv' := [(3, .long (lN 1)), (6, .long (lN (lat n1 f1 i) - lN (lat n2 f2 i + c1))), (0, .ref a), (1, .ref b), (2, .ref t), (5, .int (nI i))]) hx hb dX0_subtract_51 rfl hl (by decide) rfl (fun ls hl => ?_)
      refine lv_iinc (v := nI (i + 1)) (lv' := [(5, .int (nI (i + 1))), (3, .long (lN 1)), (6, .long (lN (lat n1 f1 i) - lN (lat n2 f2 i + c1))), (0, .ref a), (1, .ref b), (2, .ref t)]) hx hb dX0_subtract_52 hl (k := 5) rfl (nI_add i 1) (by decide) rfl (fun ls hl => ?_)
      refine lv_goto (tgt := 5) hx hb dX0_subtract_55 (by decide) ?_
      exact ih (i + 1) _ _ (by omega) (lim_succ hg hxl) (by omega) (sub_step1 h1 (by omega) (by omega) hv) _ _ hLc (lv_sub hl [3, 4, 5, 1, 0] rfl)
set_option maxRecDepth 100000 in
set_option maxHeartbeats 4000000 in
theorem c_X0_subtract (l : Launch) (G : gG) (b0 : Nat) (H : Heap) {a b t n1 n2 n : Nat} {f1 f2 f : Nat → Nat} (ha : H[a]? = some (aJ G n1 f1)) (hb0 : H[b]? = some (aJ G n2 f2)) (ht : H[t]? = some (aJ G n f)) (hn1 : n1 < 2 ^ 31) (hn2 : n2 < 2 ^ 31) (hn : n < 2 ^ 31) (hf1 : lim f1 n1) (hf2 : lim f2 n2) (hat : a ≠ t) (hbn : b ≠ t) (hbt : b0 ≤ t) : Met l yX0_subtract wsX0_subtract ({ frames := 1, cells := 0, slots := 0, locals := 21 } : Room) (PcH G H [.ref a, .ref b, .ref t]) (QcV (fun H1 => ∃ (g : Nat → Nat) (c1 : Nat), lim g n ∧ vl g n + vl (lat n2 f2) n = vl (lat n1 f1) n + c1 * 4294967296 ^ n ∧ H1 = hput H t (aJ G n g))) 0 0 (fre b0) := by
  refine m_enter (cc := cX0_subtract) (maxL := 8) (ret := none) (own := RX0) (by decide) rfl rfl (Nat.le_of_ble_eq_true rfl) ?_
  intro p e s m below meth c ls hF hnm hH hl
  have hl : lv_has ls 8 [(0, .ref a), (1, .ref b), (2, .ref t)] := hl
  have hLc : lcs b0 [] := lcs_nil b0
  obtain ⟨hx, hb, hr, hml, hown, hts, hlocks, hK⟩ := id hF
  refine lv_lconst (v := lN 0) hx hb dX0_subtract_0 (by decide) ?_
  refine lv_lstore_n (lv' := [(3, .long (lN 0)), (0, .ref a), (1, .ref b), (2, .ref t)]) hx hb dX0_subtract_1 rfl hl (by decide) rfl (fun ls hl => ?_)
  refine lv_iconst (v := nI 0) hx hb dX0_subtract_2 (by decide) ?_
  refine lv_istore (lv' := [(5, .int (nI 0)), (3, .long (lN 0)), (0, .ref a), (1, .ref b), (2, .ref t)]) hx hb dX0_subtract_3 hl (by decide) rfl (fun ls hl => ?_)
  have hl := lv_sub (l' := [(0, .ref a), (1, .ref b), (2, .ref t), (3, .long (lN 0)), (5, .int (nI 0))]) hl [2, 3, 4, 1, 0] rfl
  have hh := subtract_5 (l := l) (e := e) (below := below) hF ha hb0 ht hn1 hn2 hn hf1 hf2 hat hbn hbt n 0 0 f (by omega) (fun j hj => absurd hj (by omega)) (by omega) rfl _ _ hLc hl
  rw [hput_same ht] at hh
  exact hh
end
section
set_option maxRecDepth 100000 in
set_option maxHeartbeats 4000000 in
theorem multiplyAndAdd_6 {p : Program} {l : Launch} {e : Env} {s : State} {m : MethodId} {args : Array Value} {below : List Frame} {meth : Method} {c : Code} {G : gG} {b0 : Nat} {H : Heap} {a n x y : Nat} {f : Nat → Nat} (hF : FxM p s m args meth c G cX0_multiplyAndAdd 10 none RX0 wsX0_multiplyAndAdd) (ht : H[a]? = some (aJ G n f)) (hn : n < 2 ^ 31) (hf : lim f n) (hbt : b0 ≤ a) (hx0 : x < 4294967296) (hy0 : y < 4294967296) : ∀ (q : Nat) (i c1 : Nat) (g : Nat → Nat), i + q = n → lim g n → (∀ j, i ≤ j → g j = f j) → c1 < 4294967296 → vl g i + c1 * 4294967296 ^ i = vl f i * x + y → ∀ (locs : List Loc) (ls : Array Slot), lcs b0 locs → lv_has ls 10 [(0, .ref a), (1, .long (lN x)), (3, .long (lN y)), (5, .long (lN c1)), (7, .int (nI i))] → W p l e ({ frames := 0, cells := 0, slots := 0, locals := 0 } : Room) s m args below meth c (hput H a (aJ G n g)) locs 0 0 (MQ below (QcV (fun H1 => ∃ (g : Nat → Nat) (c1 : Nat), lim g n ∧ vl g n + c1 * 4294967296 ^ n = vl f n * x + y ∧ H1 = hput H a (aJ G n g))) args s 0 0 (fre b0)) (F0 m 6 ls []) := by
  obtain ⟨hx, hb, hr, hml, hown, hts, hlocks, hK⟩ := id hF
  intro q
  induction q with
  | zero =>
    intro i c1 g hi hg hs hc hv locs ls hLc hl
    have hin : i = n := by omega
    rw [hin] at hv
    refine lv_iload hx hb dX0_multiplyAndAdd_6 (lv_at hl 4 rfl) ?_
    refine lv_aload_n hx hb dX0_multiplyAndAdd_8 rfl (lv_at hl 0 rfl) ?_
    refine m_alenJ (n := n) (f := g) hx hb hK (hput_self _ (lt_of_at ht)) dX0_multiplyAndAdd_9 ?_
    refine lv_icmp_ge (tgt := 47) hx hb dX0_multiplyAndAdd_10 (by decide) (fun _ => ?_) (fun h => absurd (nI_le (by omega) (by omega)) h)
    exact m_vret hx hb hr hlocks hLc dX0_multiplyAndAdd_47 (⟨g, c1, hg, hv, rfl⟩)
  | succ q ih =>
    intro i c1 g hi hg hs hc hv locs ls hLc hl
    have hin : i < n := by omega
    have hgi := hg i hin
    have hM := mul_lt_B2 hgi hx0 hc (show 0 < 4294967296 by decide)
    have hQ := mul_div_B hgi hx0 hc (show 0 < 4294967296 by decide)
    have hxl : (g i * x + c1) % 4294967296 < 4294967296 := Nat.mod_lt _ (by decide)
    refine lv_iload hx hb dX0_multiplyAndAdd_6 (lv_at hl 4 rfl) ?_
    refine lv_aload_n hx hb dX0_multiplyAndAdd_8 rfl (lv_at hl 0 rfl) ?_
    refine m_alenJ (n := n) (f := g) hx hb hK (hput_self _ (lt_of_at ht)) dX0_multiplyAndAdd_9 ?_
    refine lv_icmp_ge (tgt := 47) hx hb dX0_multiplyAndAdd_10 (by decide) (fun h => absurd h (nI_ge (by omega) (by omega))) (fun _ => ?_)
    refine lv_aload_n hx hb dX0_multiplyAndAdd_13 rfl (lv_at hl 0 rfl) ?_
    refine lv_iload hx hb dX0_multiplyAndAdd_14 (lv_at hl 4 rfl) ?_
    refine m_lald (n := n) (f := g) hx hb hK (hput_self _ (lt_of_at ht)) (by omega) (hn) dX0_multiplyAndAdd_16 ?_
    refine lv_lload_n hx hb dX0_multiplyAndAdd_17 rfl (lv_at hl 1 rfl) ?_
    refine m_lmul hx hb dX0_multiplyAndAdd_18 ?_
    refine lv_lload hx hb dX0_multiplyAndAdd_19 (lv_at hl 3 rfl) ?_
    refine m_ladd hx hb dX0_multiplyAndAdd_21 ?_
    refine lv_lstore (lv' := [(8, .long (lN (((g i) * x) + c1))), (0, .ref a), (1, .long (lN x)), (3, .long (lN y)), (5, .long (lN c1)), (7, .int (nI i))]) hx hb dX0_multiplyAndAdd_22 hl (by decide) rfl (fun ls hl => ?_)
    refine lv_aload_n hx hb dX0_multiplyAndAdd_24 rfl (lv_at hl 1 rfl) ?_
    refine lv_iload hx hb dX0_multiplyAndAdd_25 (lv_at hl 5 rfl) ?_
    refine lv_lload hx hb dX0_multiplyAndAdd_27 (lv_at hl 0 rfl) ?_
    refine lv_ldc2 (v := lN 4294967295) hx hb hown (hts (.constantLong RX0 28 (lN 4294967295)) (by decide +kernel)) dX0_multiplyAndAdd_29 ?_
    refine m_mask hx hb dX0_multiplyAndAdd_32 ?_
    refine m_last (n := n) (f := g) (b0 := b0) hx hb hK (hput_self _ (lt_of_at ht)) (by omega) (hn) (hbt) hLc dX0_multiplyAndAdd_33 (fun locs hLc => ?_)
    rw [hput_put]
    refine lv_lload hx hb dX0_multiplyAndAdd_34 (lv_at hl 0 rfl) ?_
    refine lv_bipush (v := nI 32) hx hb dX0_multiplyAndAdd_36 (by decide) ?_
    refine m_lushr32 hx hb (by omega) dX0_multiplyAndAdd_38 ?_
    refine lv_lstore (lv' := [(5, .long (lN ((((g i) * x) + c1) / 4294967296))), (8, .long (lN (((g i) * x) + c1))), (0, .ref a), (1, .long (lN x)), (3, .long (lN y)), (7, .int (nI i))]) hx hb dX0_multiplyAndAdd_39 hl (by decide) rfl (fun ls hl => ?_)
    refine lv_iinc (v := nI (i + 1)) (lv' := [(7, .int (nI (i + 1))), (5, .long (lN ((((g i) * x) + c1) / 4294967296))), (8, .long (lN (((g i) * x) + c1))), (0, .ref a), (1, .long (lN x)), (3, .long (lN y))]) hx hb dX0_multiplyAndAdd_41 hl (k := 5) rfl (nI_add i 1) (by decide) rfl (fun ls hl => ?_)
    refine lv_goto (tgt := 6) hx hb dX0_multiplyAndAdd_44 (by decide) ?_
    exact ih (i + 1) _ _ (by omega) (lim_fup hg hxl) (fun j hj => by rw [fup_n _ _ (by omega)]; exact hs j (by omega)) hQ (mad_step (hs i (Nat.le_refl i)) hv) _ _ hLc (lv_sub hl [3, 4, 5, 1, 0] rfl)
set_option maxRecDepth 100000 in
set_option maxHeartbeats 4000000 in
theorem c_X0_multiplyAndAdd (l : Launch) (G : gG) (b0 : Nat) (H : Heap) {a n x y : Nat} {f : Nat → Nat} (ht : H[a]? = some (aJ G n f)) (hn : n < 2 ^ 31) (hf : lim f n) (hbt : b0 ≤ a) (hx0 : x < 4294967296) (hy0 : y < 4294967296) : Met l yX0_multiplyAndAdd wsX0_multiplyAndAdd ({ frames := 0, cells := 0, slots := 0, locals := 0 } : Room) (PcH G H [.ref a, .long (lN x), .long (lN y)]) (QcV (fun H1 => ∃ (g : Nat → Nat) (c1 : Nat), lim g n ∧ vl g n + c1 * 4294967296 ^ n = vl f n * x + y ∧ H1 = hput H a (aJ G n g))) 0 0 (fre b0) := by
  refine m_enter (cc := cX0_multiplyAndAdd) (maxL := 10) (ret := none) (own := RX0) (by decide) rfl rfl (Nat.le_of_ble_eq_true rfl) ?_
  intro p e s m below meth c ls hF hnm hH hl
  have hl : lv_has ls 10 [(0, .ref a), (1, .long (lN x)), (3, .long (lN y))] := hl
  have hLc : lcs b0 [] := lcs_nil b0
  obtain ⟨hx, hb, hr, hml, hown, hts, hlocks, hK⟩ := id hF
  refine lv_lload_n hx hb dX0_multiplyAndAdd_0 rfl (lv_at hl 2 rfl) ?_
  refine lv_lstore (lv' := [(5, .long (lN y)), (0, .ref a), (1, .long (lN x)), (3, .long (lN y))]) hx hb dX0_multiplyAndAdd_1 hl (by decide) rfl (fun ls hl => ?_)
  refine lv_iconst (v := nI 0) hx hb dX0_multiplyAndAdd_3 (by decide) ?_
  refine lv_istore (lv' := [(7, .int (nI 0)), (5, .long (lN y)), (0, .ref a), (1, .long (lN x)), (3, .long (lN y))]) hx hb dX0_multiplyAndAdd_4 hl (by decide) rfl (fun ls hl => ?_)
  have hl := lv_sub (l' := [(0, .ref a), (1, .long (lN x)), (3, .long (lN y)), (5, .long (lN y)), (7, .int (nI 0))]) hl [2, 3, 4, 1, 0] rfl
  have hh := multiplyAndAdd_6 (l := l) (e := e) (below := below) hF ht hn hf hbt hx0 hy0 n 0 y f (by omega) hf (fun j _ => rfl) hy0 (by simp [vl]) _ _ hLc hl
  rw [hput_same ht] at hh
  exact hh

set_option maxRecDepth 100000 in
set_option maxHeartbeats 4000000 in
theorem divideBySmall_31 {p : Program} {l : Launch} {e : Env} {s : State} {m : MethodId} {args : Array Value} {below : List Frame} {meth : Method} {c : Code} {G : gG} {b0 : Nat} {H : Heap} {a n u d : Nat} {f : Nat → Nat} (hF : FxM p s m args meth c G cX0_divideBySmall 9 (some .long) RX0 wsX0_divideBySmall) (ht : H[a]? = some (aJ G n f)) (hn : n < 2 ^ 31) (hf : lim f n) (hbt : b0 ≤ a) (hd1 : 1 ≤ d) (hd2 : d ≤ 2147483648) (hu : u ≤ n) : ∀ (k : Nat) (z : Nat) (g : Nat → Nat), k ≤ u → z < d → lim g n → (∀ j, j < k → g j = f j) → (∀ j, u ≤ j → g j = f j) → vl f u + d * vl g k = d * vl g u + z * 4294967296 ^ k + vl f k → ∀ (locs : List Loc) (ls : Array Slot), lcs b0 locs → lv_has ls 9 [(0, .ref a), (1, .int (nI u)), (2, .long (lN d)), (4, .long (lN z)), (6, .int (nI k - 1))] → W p l e ({ frames := 0, cells := 0, slots := 0, locals := 0 } : Room) s m args below meth c (hput H a (aJ G n g)) locs 0 0 (MQ below (QcL (fun r H1 => ∃ (g : Nat → Nat) (z : Nat), r = lN z ∧ z < d ∧ lim g n ∧ vl f u = d * vl g u + z ∧ (∀ j, u ≤ j → g j = f j) ∧ H1 = hput H a (aJ G n g))) args s 0 0 (fre b0)) (F0 m 31 ls []) := by
  obtain ⟨hx, hb, hr, hml, hown, hts, hlocks, hK⟩ := id hF
  intro k
  induction k with
  | zero =>
    intro z g hk hz hg hs hh hv locs ls hLc hl
    refine lv_iload hx hb dX0_divideBySmall_31 (lv_at hl 4 rfl) ?_
    refine lv_if_lt (tgt := 68) hx hb dX0_divideBySmall_33 (by decide) (fun _ => ?_) (fun h => absurd (by decide) h)
    refine lv_lload hx hb dX0_divideBySmall_68 (lv_at hl 3 rfl) ?_
    exact m_lret hx hb hr hlocks hLc dX0_divideBySmall_70 (⟨g, z, rfl, hz, hg, by simp [vl] at hv; omega, hh, rfl⟩)
  | succ k ih =>
    intro z g hk hz hg hs hh hv locs ls hLc hl
    rw [nI_pred] at hl
    have hgk := hg k (by omega)
    have hq : (z * 4294967296 + g k) / d < 4294967296 := dbs_lt hz hgk
    refine lv_iload hx hb dX0_divideBySmall_31 (lv_at hl 4 rfl) ?_
    refine lv_if_lt (tgt := 68) hx hb dX0_divideBySmall_33 (by decide) (fun h => absurd h (nI_pos (by omega))) (fun _ => ?_)
    refine lv_lload hx hb dX0_divideBySmall_36 (lv_at hl 3 rfl) ?_
    refine lv_bipush (v := nI 32) hx hb dX0_divideBySmall_38 (by decide) ?_
    refine m_lshl32 hx hb dX0_divideBySmall_40 ?_
    refine lv_aload_n hx hb dX0_divideBySmall_41 rfl (lv_at hl 0 rfl) ?_
    refine lv_iload hx hb dX0_divideBySmall_42 (lv_at hl 4 rfl) ?_
    refine m_lald (n := n) (f := g) hx hb hK (hput_self _ (lt_of_at ht)) (by omega) (hn) dX0_divideBySmall_44 ?_
    refine m_lor32 hx hb (by omega) (by omega) dX0_divideBySmall_45 ?_
    refine lv_lstore (lv' := [(7, .long (lN (z * 4294967296 + (g k)))), (0, .ref a), (1, .int (nI u)), (2, .long (lN d)), (4, .long (lN z)), (6, .int (nI k))]) hx hb dX0_divideBySmall_46 hl (by decide) rfl (fun ls hl => ?_)
    refine lv_aload_n hx hb dX0_divideBySmall_48 rfl (lv_at hl 1 rfl) ?_
    refine lv_iload hx hb dX0_divideBySmall_49 (lv_at hl 5 rfl) ?_
    refine lv_lload hx hb dX0_divideBySmall_51 (lv_at hl 0 rfl) ?_
    refine lv_lload_n hx hb dX0_divideBySmall_53 rfl (lv_at hl 3 rfl) ?_
    refine m_ldiv hx hb (by omega) (by omega) (by omega) dX0_divideBySmall_54 ?_
    refine m_last (n := n) (f := g) (b0 := b0) hx hb hK (hput_self _ (lt_of_at ht)) (by omega) (hn) (hbt) hLc dX0_divideBySmall_55 (fun locs hLc => ?_)
    rw [hput_put]
    refine lv_lload hx hb dX0_divideBySmall_56 (lv_at hl 0 rfl) ?_
    refine lv_lload_n hx hb dX0_divideBySmall_58 rfl (lv_at hl 3 rfl) ?_
    refine m_lrem hx hb (by omega) (by omega) (by omega) dX0_divideBySmall_59 ?_
    refine lv_lstore (lv' := [(4, .long (lN ((z * 4294967296 + (g k)) % d))), (7, .long (lN (z * 4294967296 + (g k)))), (0, .ref a), (1, .int (nI u)), (2, .long (lN d)), (6, .int (nI k))]) hx hb dX0_divideBySmall_60 hl (by decide) rfl (fun ls hl => ?_)
    refine lv_iinc (v := nI k - 1) (lv' := [(6, .int (nI k - 1)), (4, .long (lN ((z * 4294967296 + (g k)) % d))), (7, .long (lN (z * 4294967296 + (g k)))), (0, .ref a), (1, .int (nI u)), (2, .long (lN d))]) hx hb dX0_divideBySmall_62 hl (k := 5) rfl (nI_decI _) (by decide) rfl (fun ls hl => ?_)
    refine lv_goto (tgt := 31) hx hb dX0_divideBySmall_65 (by decide) ?_
    exact ih _ _ (by omega) (Nat.mod_lt _ (by omega)) (lim_fup hg hq) (fun j hj => by rw [fup_n _ _ (by omega)]; exact hs j (by omega)) (fun j hj => by rw [fup_n _ _ (by omega)]; exact hh j hj) (dbs_step (by omega) (hs k (by omega)) hv) _ _ hLc (lv_sub hl [3, 4, 5, 1, 0] rfl)
set_option maxRecDepth 100000 in
set_option maxHeartbeats 4000000 in
theorem c_X0_divideBySmall (l : Launch) (G : gG) (b0 : Nat) (H : Heap) {a n u d : Nat} {f : Nat → Nat} (ht : H[a]? = some (aJ G n f)) (hn : n < 2 ^ 31) (hf : lim f n) (hbt : b0 ≤ a) (hd1 : 1 ≤ d) (hd2 : d ≤ 2147483648) (hu : u ≤ n) : Met l yX0_divideBySmall wsX0_divideBySmall ({ frames := 0, cells := 0, slots := 0, locals := 0 } : Room) (PcH G H [.ref a, .int (nI u), .long (lN d)]) (QcL (fun r H1 => ∃ (g : Nat → Nat) (z : Nat), r = lN z ∧ z < d ∧ lim g n ∧ vl f u = d * vl g u + z ∧ (∀ j, u ≤ j → g j = f j) ∧ H1 = hput H a (aJ G n g))) 0 0 (fre b0) := by
  refine m_enter (cc := cX0_divideBySmall) (maxL := 9) (ret := (some .long)) (own := RX0) (by decide) rfl rfl (Nat.le_of_ble_eq_true rfl) ?_
  intro p e s m below meth c ls hF hnm hH hl
  have hl : lv_has ls 9 [(0, .ref a), (1, .int (nI u)), (2, .long (lN d))] := hl
  have hLc : lcs b0 [] := lcs_nil b0
  obtain ⟨hx, hb, hr, hml, hown, hts, hlocks, hK⟩ := id hF
  refine lv_lconst (v := lN 0) hx hb dX0_divideBySmall_0 (by decide) ?_
  refine lv_lstore (lv' := [(4, .long (lN 0)), (0, .ref a), (1, .int (nI u)), (2, .long (lN d))]) hx hb dX0_divideBySmall_1 hl (by decide) rfl (fun ls hl => ?_)
  refine lv_lload_n hx hb dX0_divideBySmall_3 rfl (lv_at hl 3 rfl) ?_
  refine lv_lconst (v := lN 1) hx hb dX0_divideBySmall_4 (by decide) ?_
  refine m_lc_lt (tgt := 23) hx hb (by omega) (by omega) dX0_divideBySmall_5 dX0_divideBySmall_6 (by decide) (fun h => absurd h (by omega)) (fun _ => ?_)
  refine lv_lload_n hx hb dX0_divideBySmall_9 rfl (lv_at hl 3 rfl) ?_
  refine lv_ldc2 (v := lN 2147483648) hx hb hown (hts (.constantLong RX0 42 (lN 2147483648)) (by decide +kernel)) dX0_divideBySmall_10 ?_
  refine m_lc_gt (tgt := 23) hx hb (by omega) (by omega) dX0_divideBySmall_13 dX0_divideBySmall_14 (by decide) (fun h => absurd h (by omega)) (fun _ => ?_)
  refine lv_iload_n hx hb dX0_divideBySmall_17 rfl (lv_at hl 2 rfl) ?_
  refine lv_aload_n hx hb dX0_divideBySmall_18 rfl (lv_at hl 1 rfl) ?_
  refine m_alenJ (n := n) (f := f) hx hb hK (ht) dX0_divideBySmall_19 ?_
  refine m_icmp_le (tgt := 26) hx hb (by omega) (by omega) dX0_divideBySmall_20 (by decide) (fun _ => ?_) (fun h => absurd h (by omega))
  refine lv_iload_n hx hb dX0_divideBySmall_26 rfl (lv_at hl 2 rfl) ?_
  refine lv_iconst (v := 1) hx hb dX0_divideBySmall_27 (by decide) ?_
  refine lv_isub hx hb dX0_divideBySmall_28 ?_
  refine lv_istore (lv' := [(6, .int (nI u - 1)), (4, .long (lN 0)), (0, .ref a), (1, .int (nI u)), (2, .long (lN d))]) hx hb dX0_divideBySmall_29 hl (by decide) rfl (fun ls hl => ?_)
  have hl := lv_sub (l' := [(0, .ref a), (1, .int (nI u)), (2, .long (lN d)), (4, .long (lN 0)), (6, .int (nI u - 1))]) hl [2, 3, 4, 1, 0] rfl
  have hh := divideBySmall_31 (l := l) (e := e) (below := below) hF ht hn hf hbt hd1 hd2 hu u 0 f (Nat.le_refl u) (by omega) hf (fun j _ => rfl) (fun j _ => rfl) (by omega) _ _ hLc hl
  rw [hput_same ht] at hh
  exact hh

set_option maxRecDepth 100000 in
set_option maxHeartbeats 4000000 in
theorem c_X0_guess (l : Launch) (G : gG) (b0 : Nat) (H : Heap) {u1 u0 v : Nat} (h1 : u1 < 4294967296) (h0 : u0 < 4294967296) (hv : v < 4294967296) : Met l yX0_guess wsX0_guess ({ frames := 0, cells := 0, slots := 0, locals := 0 } : Room) (PcH G H [.long (lN u1), .long (lN u0), .long (lN v)]) (QcL (fun r H1 => r = lN (if v ≤ u1 then 4294967295 else (u1 * 4294967296 + u0) / v) ∧ H = H1)) 0 0 (fre b0) := by
  refine m_enter (cc := cX0_guess) (maxL := 10) (ret := (some .long)) (own := RX0) (by decide) rfl rfl (Nat.le_of_ble_eq_true rfl) ?_
  intro p e s m below meth c ls hF hnm hH hl
  have hl : lv_has ls 10 [(0, .long (lN u1)), (2, .long (lN u0)), (4, .long (lN v))] := hl
  have hLc : lcs b0 [] := lcs_nil b0
  obtain ⟨hx, hb, hr, hml, hown, hts, hlocks, hK⟩ := id hF
  refine lv_lload_n hx hb dX0_guess_0 rfl (lv_at hl 0 rfl) ?_
  refine lv_lload hx hb dX0_guess_1 (lv_at hl 2 rfl) ?_
  refine m_lc_lt (tgt := 11) hx hb (by omega) (by omega) dX0_guess_3 dX0_guess_4 (by decide) (fun c3 => ?_) (fun c3 => ?_)
  · skip
    have hl1 := gs_le (u0 := u0) h0 c3
    have hl2 := gs_lt (u0 := u0) h0 hv c3
    refine lv_lload_n hx hb dX0_guess_11 rfl (lv_at hl 0 rfl) ?_
    refine lv_bipush (v := nI 32) hx hb dX0_guess_12 (by decide) ?_
    refine m_lshl32 hx hb dX0_guess_14 ?_
    refine lv_lload_n hx hb dX0_guess_15 rfl (lv_at hl 1 rfl) ?_
    refine m_lor32 hx hb (by omega) (by omega) dX0_guess_16 ?_
    refine lv_lstore (lv' := [(6, .long (lN (u1 * 4294967296 + u0))), (0, .long (lN u1)), (2, .long (lN u0)), (4, .long (lN v))]) hx hb dX0_guess_17 hl (by decide) rfl (fun ls hl => ?_)
    refine lv_lload hx hb dX0_guess_19 (lv_at hl 0 rfl) ?_
    refine lv_iconst (v := nI 1) hx hb dX0_guess_21 (by decide) ?_
    refine m_lushr hx hb (by omega) (by decide) dX0_guess_22 ?_
    refine lv_lload hx hb dX0_guess_23 (lv_at hl 3 rfl) ?_
    refine m_ldiv hx hb (by omega) (by omega) (by omega) dX0_guess_25 ?_
    refine lv_iconst (v := nI 1) hx hb dX0_guess_26 (by decide) ?_
    refine m_lshl hx hb (by decide) dX0_guess_27 ?_
    refine lv_lstore (lv' := [(8, .long (lN ((((u1 * 4294967296 + u0) / 2 ^ 1) / v) * 2 ^ 1))), (6, .long (lN (u1 * 4294967296 + u0))), (0, .long (lN u1)), (2, .long (lN u0)), (4, .long (lN v))]) hx hb dX0_guess_28 hl (by decide) rfl (fun ls hl => ?_)
    refine lv_lload hx hb dX0_guess_30 (lv_at hl 1 rfl) ?_
    refine lv_lload hx hb dX0_guess_32 (lv_at hl 0 rfl) ?_
    refine lv_lload hx hb dX0_guess_34 (lv_at hl 4 rfl) ?_
    refine m_lmul hx hb dX0_guess_36 ?_
    refine m_lsub hx hb (by simpa using hl1) dX0_guess_37 ?_
    refine lv_lload hx hb dX0_guess_38 (lv_at hl 4 rfl) ?_
    refine m_lc_lt (tgt := 51) hx hb (by simp at hl2 ⊢; omega) (by omega) dX0_guess_40 dX0_guess_41 (by decide) (fun c40 => ?_) (fun c40 => ?_)
    · skip
      refine lv_lload hx hb dX0_guess_51 (lv_at hl 0 rfl) ?_
      exact m_lret hx hb hr hlocks hLc dX0_guess_53 (⟨by rw [if_neg (by omega)]; exact congrArg lN (gs_eq0 (by omega) c40), rfl⟩)
    · skip
      refine lv_lload hx hb dX0_guess_44 (lv_at hl 0 rfl) ?_
      refine lv_lconst (v := lN 1) hx hb dX0_guess_46 (by decide) ?_
      refine m_ladd hx hb dX0_guess_47 ?_
      refine lv_goto (tgt := 53) hx hb dX0_guess_48 (by decide) ?_
      exact m_lret hx hb hr hlocks hLc dX0_guess_53 (⟨by rw [if_neg (by omega)]; exact congrArg lN (gs_eq1 (by omega) c40), rfl⟩)
  · skip
    refine lv_ldc2 (v := lN 4294967295) hx hb hown (hts (.constantLong RX0 28 (lN 4294967295)) (by decide +kernel)) dX0_guess_7 ?_
    exact m_lret hx hb hr hlocks hLc dX0_guess_10 (⟨by rw [if_pos c3], rfl⟩)

set_option maxRecDepth 100000 in
set_option maxHeartbeats 4000000 in
theorem subtractProduct_6 {p : Program} {l : Launch} {e : Env} {s : State} {m : MethodId} {args : Array Value} {below : List Frame} {meth : Method} {c : Code} {G : gG} {b0 : Nat} {H : Heap} {a b n n2 ln p0 q : Nat} {f v : Nat → Nat} (hF : FxM p s m args meth c G cX0_subtractProduct 13 (some .boolean) RX0 wsX0_subtractProduct) (ht : H[a]? = some (aJ G n f)) (hb0 : H[b]? = some (aJ G n2 v)) (hn : n < 2 ^ 31) (hn2 : n2 < 2 ^ 31) (hf : lim f n) (hv : lim v n2) (hbt : b0 ≤ a) (hba : b ≠ a) (hpm : p0 + ln < n) (hmn : ln ≤ n2) (hq : q < 4294967296) : ∀ (w : Nat) (i c1 : Nat) (g : Nat → Nat), i + w = ln → lim g n → (∀ j, j < p0 ∨ p0 + i ≤ j → g j = f j) → c1 ≤ 4294967296 → vl (shf g p0) i + q * vl v i = vl (shf f p0) i + c1 * 4294967296 ^ i → ∀ (locs : List Loc) (ls : Array Slot), lcs b0 locs → lv_has ls 13 [(0, .ref a), (1, .ref b), (2, .int (nI ln)), (3, .int (nI p0)), (4, .long (lN q)), (6, .long (lN c1)), (8, .int (nI i))] → W p l e ({ frames := 0, cells := 0, slots := 0, locals := 0 } : Room) s m args below meth c (hput H a (aJ G n g)) locs 0 0 (MQ below (QcI (fun r H1 => ∃ g : Nat → Nat, lim g n ∧ (∀ j, j < p0 ∨ p0 + ln < j → g j = f j) ∧ ((r = nI 0 ∧ vl (shf g p0) (ln + 1) + q * vl v ln = vl (shf f p0) (ln + 1)) ∨ (r = nI 1 ∧ vl (shf g p0) (ln + 1) + q * vl v ln = vl (shf f p0) (ln + 1) + 4294967296 ^ (ln + 1))) ∧ H1 = hput H a (aJ G n g))) args s 0 0 (fre b0)) (F0 m 6 ls []) := by
  obtain ⟨hx, hb, hr, hml, hown, hts, hlocks, hK⟩ := id hF
  intro w
  induction w with
  | zero =>
    intro i c1 g hi hg hs hc hv1 locs ls hLc hl
    have him : i = ln := by omega
    rw [him] at hs hv1
    have hgi := hg (p0 + ln) (by omega)
    have hxl : (g (p0 + ln) + 4294967296 - c1) % 4294967296 < 4294967296 := Nat.mod_lt _ (by decide)
    have hgf : g (p0 + ln) = shf f p0 ln := hs _ (Or.inr (by omega))
    have hfi : shf f p0 ln < 4294967296 := hf _ (by omega)
    refine lv_iload hx hb dX0_subtractProduct_6 (lv_at hl 6 rfl) ?_
    refine lv_iload_n hx hb dX0_subtractProduct_8 rfl (lv_at hl 2 rfl) ?_
    refine lv_icmp_ge (tgt := 78) hx hb dX0_subtractProduct_9 (by decide) (fun _ => ?_) (fun h => absurd (nI_le (by omega) (by omega)) h)
    refine lv_aload_n hx hb dX0_subtractProduct_78 rfl (lv_at hl 0 rfl) ?_
    refine lv_iload_n hx hb dX0_subtractProduct_79 rfl (lv_at hl 3 rfl) ?_
    refine lv_iload_n hx hb dX0_subtractProduct_80 rfl (lv_at hl 2 rfl) ?_
    refine m_iadd (a := p0) (b := ln) hx hb dX0_subtractProduct_81 ?_
    refine m_lald (n := n) (f := g) hx hb hK (hput_self _ (lt_of_at ht)) (by omega) (hn) dX0_subtractProduct_82 ?_
    refine lv_lload hx hb dX0_subtractProduct_83 (lv_at hl 5 rfl) ?_
    refine lv_lsub hx hb dX0_subtractProduct_85 ?_
    refine lv_lstore (lv' := [(8, .long (lN (g (p0 + ln)) - lN c1)), (0, .ref a), (1, .ref b), (2, .int (nI ln)), (3, .int (nI p0)), (4, .long (lN q)), (6, .long (lN c1))]) hx hb dX0_subtractProduct_86 hl (by decide) rfl (fun ls hl => ?_)
    refine lv_aload_n hx hb dX0_subtractProduct_88 rfl (lv_at hl 1 rfl) ?_
    refine lv_iload_n hx hb dX0_subtractProduct_89 rfl (lv_at hl 4 rfl) ?_
    refine lv_iload_n hx hb dX0_subtractProduct_90 rfl (lv_at hl 3 rfl) ?_
    refine m_iadd (a := p0) (b := ln) hx hb dX0_subtractProduct_91 ?_
    refine lv_lload hx hb dX0_subtractProduct_92 (lv_at hl 0 rfl) ?_
    refine lv_ldc2 (v := lN 4294967295) hx hb hown (hts (.constantLong RX0 28 (lN 4294967295)) (by decide +kernel)) dX0_subtractProduct_94 ?_
    refine lv_land hx hb dX0_subtractProduct_97 ?_
    rw [sub_mask hc]
    refine m_last (n := n) (f := g) (b0 := b0) hx hb hK (hput_self _ (lt_of_at ht)) (by omega) (hn) (hbt) hLc dX0_subtractProduct_98 (fun locs hLc => ?_)
    rw [hput_put]
    refine lv_lload hx hb dX0_subtractProduct_99 (lv_at hl 0 rfl) ?_
    refine lv_lconst (v := lN 0) hx hb dX0_subtractProduct_101 (by decide) ?_
    refine m_lr_ge (tgt := 110) hx hb dX0_subtractProduct_102 dX0_subtractProduct_103 (by decide) (fun c102 => ?_) (fun c102 => ?_)
    · skip
      have c102 := (sub_ge0 (by omega) (by omega)).mp c102
      refine lv_iconst (v := nI 0) hx hb dX0_subtractProduct_110 (by decide) ?_
      exact m_zret hx hb hr hlocks hLc (by decide) dX0_subtractProduct_111 (⟨_, lim_fup hg hxl, fun j hj => by rw [fup_n _ _ (by omega)]; exact hs j (by omega), Or.inl ⟨rfl, by rw [shf_fup, hgf]; exact sp_end0 hfi (by omega) hv1⟩, rfl⟩)
    · skip
      have c102 : ¬ (c1 ≤ g (p0 + ln)) := fun z => c102 ((sub_ge0 (by omega) (by omega)).mpr z)
      refine lv_iconst (v := nI 1) hx hb dX0_subtractProduct_106 (by decide) ?_
      refine lv_goto (tgt := 111) hx hb dX0_subtractProduct_107 (by decide) ?_
      exact m_zret hx hb hr hlocks hLc (by decide) dX0_subtractProduct_111 (⟨_, lim_fup hg hxl, fun j hj => by rw [fup_n _ _ (by omega)]; exact hs j (by omega), Or.inr ⟨rfl, by rw [shf_fup, hgf]; exact sp_end1 hfi hc (by omega) hv1⟩, rfl⟩)
  | succ w ih =>
    intro i c1 g hi hg hs hc hv1 locs ls hLc hl
    have hin : i < ln := by omega
    have hgi := hg (p0 + i) (by omega)
    have hvi := hv i (by omega)
    have hL := sp_lt hvi hq hc
    have hML : (v i * q + c1) % 4294967296 < 4294967296 := Nat.mod_lt _ (by decide)
    have hxl : (g (p0 + i) + 4294967296 - (v i * q + c1) % 4294967296) % 4294967296 < 4294967296 := Nat.mod_lt _ (by decide)
    have hgf : g (p0 + i) = shf f p0 i := hs _ (Or.inr (by omega))
    have hfi : shf f p0 i < 4294967296 := hf _ (by omega)
    refine lv_iload hx hb dX0_subtractProduct_6 (lv_at hl 6 rfl) ?_
    refine lv_iload_n hx hb dX0_subtractProduct_8 rfl (lv_at hl 2 rfl) ?_
    refine lv_icmp_ge (tgt := 78) hx hb dX0_subtractProduct_9 (by decide) (fun h => absurd h (nI_ge (by omega) (by omega))) (fun _ => ?_)
    refine lv_aload_n hx hb dX0_subtractProduct_12 rfl (lv_at hl 1 rfl) ?_
    refine lv_iload hx hb dX0_subtractProduct_13 (lv_at hl 6 rfl) ?_
    refine m_lald (n := n2) (f := v) hx hb hK ((hput_ne _ hba).trans hb0) (by omega) (hn2) dX0_subtractProduct_15 ?_
    refine lv_lload hx hb dX0_subtractProduct_16 (lv_at hl 4 rfl) ?_
    refine m_lmul hx hb dX0_subtractProduct_18 ?_
    refine lv_lload hx hb dX0_subtractProduct_19 (lv_at hl 5 rfl) ?_
    refine m_ladd hx hb dX0_subtractProduct_21 ?_
    refine lv_lstore (lv' := [(9, .long (lN (((v i) * q) + c1))), (0, .ref a), (1, .ref b), (2, .int (nI ln)), (3, .int (nI p0)), (4, .long (lN q)), (6, .long (lN c1)), (8, .int (nI i))]) hx hb dX0_subtractProduct_22 hl (by decide) rfl (fun ls hl => ?_)
    refine lv_aload_n hx hb dX0_subtractProduct_24 rfl (lv_at hl 1 rfl) ?_
    refine lv_iload_n hx hb dX0_subtractProduct_25 rfl (lv_at hl 4 rfl) ?_
    refine lv_iload hx hb dX0_subtractProduct_26 (lv_at hl 7 rfl) ?_
    refine m_iadd (a := p0) (b := i) hx hb dX0_subtractProduct_28 ?_
    refine m_lald (n := n) (f := g) hx hb hK (hput_self _ (lt_of_at ht)) (by omega) (hn) dX0_subtractProduct_29 ?_
    refine lv_lload hx hb dX0_subtractProduct_30 (lv_at hl 0 rfl) ?_
    refine lv_ldc2 (v := lN 4294967295) hx hb hown (hts (.constantLong RX0 28 (lN 4294967295)) (by decide +kernel)) dX0_subtractProduct_32 ?_
    refine m_mask hx hb dX0_subtractProduct_35 ?_
    refine lv_lsub hx hb dX0_subtractProduct_36 ?_
    refine lv_lstore (lv' := [(11, .long (lN (g (p0 + i)) - lN ((((v i) * q) + c1) % 4294967296))), (9, .long (lN (((v i) * q) + c1))), (0, .ref a), (1, .ref b), (2, .int (nI ln)), (3, .int (nI p0)), (4, .long (lN q)), (6, .long (lN c1)), (8, .int (nI i))]) hx hb dX0_subtractProduct_37 hl (by decide) rfl (fun ls hl => ?_)
    refine lv_aload_n hx hb dX0_subtractProduct_39 rfl (lv_at hl 2 rfl) ?_
    refine lv_iload_n hx hb dX0_subtractProduct_40 rfl (lv_at hl 5 rfl) ?_
    refine lv_iload hx hb dX0_subtractProduct_41 (lv_at hl 8 rfl) ?_
    refine m_iadd (a := p0) (b := i) hx hb dX0_subtractProduct_43 ?_
    refine lv_lload hx hb dX0_subtractProduct_44 (lv_at hl 0 rfl) ?_
    refine lv_ldc2 (v := lN 4294967295) hx hb hown (hts (.constantLong RX0 28 (lN 4294967295)) (by decide +kernel)) dX0_subtractProduct_46 ?_
    refine lv_land hx hb dX0_subtractProduct_49 ?_
    rw [sub_mask (by omega)]
    refine m_last (n := n) (f := g) (b0 := b0) hx hb hK (hput_self _ (lt_of_at ht)) (by omega) (hn) (hbt) hLc dX0_subtractProduct_50 (fun locs hLc => ?_)
    rw [hput_put]
    refine lv_lload hx hb dX0_subtractProduct_51 (lv_at hl 1 rfl) ?_
    refine lv_bipush (v := nI 32) hx hb dX0_subtractProduct_53 (by decide) ?_
    refine m_lushr32 hx hb (by omega) dX0_subtractProduct_55 ?_
    refine lv_lload hx hb dX0_subtractProduct_56 (lv_at hl 0 rfl) ?_
    refine lv_lconst (v := lN 0) hx hb dX0_subtractProduct_58 (by decide) ?_
    refine m_lr_ge (tgt := 67) hx hb dX0_subtractProduct_59 dX0_subtractProduct_60 (by decide) (fun c59 => ?_) (fun c59 => ?_)
    · skip
      have c59 := (sub_ge0 (by omega) (by omega)).mp c59
      refine lv_iconst (v := nI 0) hx hb dX0_subtractProduct_67 (by decide) ?_
      refine m_i2l hx hb (by decide) dX0_subtractProduct_68 ?_
      refine m_ladd hx hb dX0_subtractProduct_69 ?_
      refine lv_lstore (lv' := [(6, .long (lN (((((v i) * q) + c1) / 4294967296) + 0))), (11, .long (lN (g (p0 + i)) - lN ((((v i) * q) + c1) % 4294967296))), (9, .long (lN (((v i) * q) + c1))), (0, .ref a), (1, .ref b), (2, .int (nI ln)), (3, .int (nI p0)), (4, .long (lN q)), (8, .int (nI i))]) hx hb dX0_subtractProduct_70 hl (by decide) rfl (fun ls hl => ?_)
      refine lv_iinc (v := nI (i + 1)) (lv' := [(8, .int (nI (i + 1))), (6, .long (lN (((((v i) * q) + c1) / 4294967296) + 0))), (11, .long (lN (g (p0 + i)) - lN ((((v i) * q) + c1) % 4294967296))), (9, .long (lN (((v i) * q) + c1))), (0, .ref a), (1, .ref b), (2, .int (nI ln)), (3, .int (nI p0)), (4, .long (lN q))]) hx hb dX0_subtractProduct_72 hl (k := 8) rfl (nI_add i 1) (by decide) rfl (fun ls hl => ?_)
      refine lv_goto (tgt := 6) hx hb dX0_subtractProduct_75 (by decide) ?_
      exact ih (i + 1) _ _ (by omega) (lim_fup hg hxl) (fun j hj => by rw [fup_n _ _ (by omega)]; exact hs j (by omega)) (by omega) (by rw [shf_fup, hgf]; exact sp_step0 hfi (by omega) hv1) _ _ hLc (lv_sub hl [4, 5, 6, 7, 8, 1, 0] rfl)
    · skip
      have c59 : ¬ ((v i * q + c1) % 4294967296 ≤ g (p0 + i)) := fun z => c59 ((sub_ge0 (by omega) (by omega)).mpr z)
      refine lv_iconst (v := nI 1) hx hb dX0_subtractProduct_63 (by decide) ?_
      refine lv_goto (tgt := 68) hx hb dX0_subtractProduct_64 (by decide) ?_
      refine m_i2l hx hb (by decide) dX0_subtractProduct_68 ?_
      refine m_ladd hx hb dX0_subtractProduct_69 ?_
      refine lv_lstore (lv' := [(6, .long (lN (((((v i) * q) + c1) / 4294967296) + 1))), (11, .long (lN (g (p0 + i)) - lN ((((v i) * q) + c1) % 4294967296))), (9, .long (lN (((v i) * q) + c1))), (0, .ref a), (1, .ref b), (2, .int (nI ln)), (3, .int (nI p0)), (4, .long (lN q)), (8, .int (nI i))]) hx hb dX0_subtractProduct_70 hl (by decide) rfl (fun ls hl => ?_)
      refine lv_iinc (v := nI (i + 1)) (lv' := [(8, .int (nI (i + 1))), (6, .long (lN (((((v i) * q) + c1) / 4294967296) + 1))), (11, .long (lN (g (p0 + i)) - lN ((((v i) * q) + c1) % 4294967296))), (9, .long (lN (((v i) * q) + c1))), (0, .ref a), (1, .ref b), (2, .int (nI ln)), (3, .int (nI p0)), (4, .long (lN q))]) hx hb dX0_subtractProduct_72 hl (k := 8) rfl (nI_add i 1) (by decide) rfl (fun ls hl => ?_)
      refine lv_goto (tgt := 6) hx hb dX0_subtractProduct_75 (by decide) ?_
      exact ih (i + 1) _ _ (by omega) (lim_fup hg hxl) (fun j hj => by rw [fup_n _ _ (by omega)]; exact hs j (by omega)) (by omega) (by rw [shf_fup, hgf]; exact sp_step1 hfi (by omega) hv1) _ _ hLc (lv_sub hl [4, 5, 6, 7, 8, 1, 0] rfl)
set_option maxRecDepth 100000 in
set_option maxHeartbeats 4000000 in
theorem c_X0_subtractProduct (l : Launch) (G : gG) (b0 : Nat) (H : Heap) {a b n n2 ln p0 q : Nat} {f v : Nat → Nat} (ht : H[a]? = some (aJ G n f)) (hb0 : H[b]? = some (aJ G n2 v)) (hn : n < 2 ^ 31) (hn2 : n2 < 2 ^ 31) (hf : lim f n) (hv : lim v n2) (hbt : b0 ≤ a) (hba : b ≠ a) (hpm : p0 + ln < n) (hmn : ln ≤ n2) (hq : q < 4294967296) : Met l yX0_subtractProduct wsX0_subtractProduct ({ frames := 0, cells := 0, slots := 0, locals := 0 } : Room) (PcH G H [.ref a, .ref b, .int (nI ln), .int (nI p0), .long (lN q)]) (QcI (fun r H1 => ∃ g : Nat → Nat, lim g n ∧ (∀ j, j < p0 ∨ p0 + ln < j → g j = f j) ∧ ((r = nI 0 ∧ vl (shf g p0) (ln + 1) + q * vl v ln = vl (shf f p0) (ln + 1)) ∨ (r = nI 1 ∧ vl (shf g p0) (ln + 1) + q * vl v ln = vl (shf f p0) (ln + 1) + 4294967296 ^ (ln + 1))) ∧ H1 = hput H a (aJ G n g))) 0 0 (fre b0) := by
  refine m_enter (cc := cX0_subtractProduct) (maxL := 13) (ret := (some .boolean)) (own := RX0) (by decide) rfl rfl (Nat.le_of_ble_eq_true rfl) ?_
  intro p e s m below meth c ls hF hnm hH hl
  have hl : lv_has ls 13 [(0, .ref a), (1, .ref b), (2, .int (nI ln)), (3, .int (nI p0)), (4, .long (lN q))] := hl
  have hLc : lcs b0 [] := lcs_nil b0
  obtain ⟨hx, hb, hr, hml, hown, hts, hlocks, hK⟩ := id hF
  refine lv_lconst (v := lN 0) hx hb dX0_subtractProduct_0 (by decide) ?_
  refine lv_lstore (lv' := [(6, .long (lN 0)), (0, .ref a), (1, .ref b), (2, .int (nI ln)), (3, .int (nI p0)), (4, .long (lN q))]) hx hb dX0_subtractProduct_1 hl (by decide) rfl (fun ls hl => ?_)
  refine lv_iconst (v := nI 0) hx hb dX0_subtractProduct_3 (by decide) ?_
  refine lv_istore (lv' := [(8, .int (nI 0)), (6, .long (lN 0)), (0, .ref a), (1, .ref b), (2, .int (nI ln)), (3, .int (nI p0)), (4, .long (lN q))]) hx hb dX0_subtractProduct_4 hl (by decide) rfl (fun ls hl => ?_)
  have hl := lv_sub (l' := [(0, .ref a), (1, .ref b), (2, .int (nI ln)), (3, .int (nI p0)), (4, .long (lN q)), (6, .long (lN 0)), (8, .int (nI 0))]) hl [2, 3, 4, 5, 6, 1, 0] rfl
  have hh := subtractProduct_6 (l := l) (e := e) (below := below) hF ht hb0 hn hn2 hf hv hbt hba hpm hmn hq ln 0 0 f (by omega) hf (fun j _ => rfl) (by omega) (by simp [vl]) _ _ hLc hl
  rw [hput_same ht] at hh
  exact hh

set_option maxRecDepth 100000 in
set_option maxHeartbeats 4000000 in
theorem addBack_6 {p : Program} {l : Launch} {e : Env} {s : State} {m : MethodId} {args : Array Value} {below : List Frame} {meth : Method} {c : Code} {G : gG} {b0 : Nat} {H : Heap} {a b n n2 ln p0 : Nat} {f v : Nat → Nat} (hF : FxM p s m args meth c G cX0_addBack 9 (some .boolean) RX0 wsX0_addBack) (ht : H[a]? = some (aJ G n f)) (hb0 : H[b]? = some (aJ G n2 v)) (hn : n < 2 ^ 31) (hn2 : n2 < 2 ^ 31) (hf : lim f n) (hv : lim v n2) (hbt : b0 ≤ a) (hba : b ≠ a) (hpm : p0 + ln < n) (hmn : ln ≤ n2) : ∀ (w : Nat) (i c1 : Nat) (g : Nat → Nat), i + w = ln → lim g n → (∀ j, j < p0 ∨ p0 + i ≤ j → g j = f j) → c1 ≤ 1 → vl (shf g p0) i + c1 * 4294967296 ^ i = vl (shf f p0) i + vl v i → ∀ (locs : List Loc) (ls : Array Slot), lcs b0 locs → lv_has ls 9 [(0, .ref a), (1, .ref b), (2, .int (nI ln)), (3, .int (nI p0)), (4, .long (lN c1)), (6, .int (nI i))] → W p l e ({ frames := 0, cells := 0, slots := 0, locals := 0 } : Room) s m args below meth c (hput H a (aJ G n g)) locs 0 0 (MQ below (QcI (fun r H1 => ∃ g : Nat → Nat, lim g n ∧ (∀ j, j < p0 ∨ p0 + ln < j → g j = f j) ∧ ((r = nI 0 ∧ vl (shf g p0) (ln + 1) = vl (shf f p0) (ln + 1) + vl v ln) ∨ (r = nI 1 ∧ vl (shf g p0) (ln + 1) + 4294967296 ^ (ln + 1) = vl (shf f p0) (ln + 1) + vl v ln)) ∧ H1 = hput H a (aJ G n g))) args s 0 0 (fre b0)) (F0 m 6 ls []) := by
  obtain ⟨hx, hb, hr, hml, hown, hts, hlocks, hK⟩ := id hF
  intro w
  induction w with
  | zero =>
    intro i c1 g hi hg hs hc hv1 locs ls hLc hl
    have him : i = ln := by omega
    rw [him] at hs hv1
    have hgi := hg (p0 + ln) (by omega)
    have hxl : (g (p0 + ln) + c1) % 4294967296 < 4294967296 := Nat.mod_lt _ (by decide)
    have hgf : g (p0 + ln) = shf f p0 ln := hs _ (Or.inr (by omega))
    have hfi : shf f p0 ln < 4294967296 := hf _ (by omega)
    refine lv_iload hx hb dX0_addBack_6 (lv_at hl 5 rfl) ?_
    refine lv_iload_n hx hb dX0_addBack_8 rfl (lv_at hl 2 rfl) ?_
    refine lv_icmp_ge (tgt := 53) hx hb dX0_addBack_9 (by decide) (fun _ => ?_) (fun h => absurd (nI_le (by omega) (by omega)) h)
    refine lv_aload_n hx hb dX0_addBack_53 rfl (lv_at hl 0 rfl) ?_
    refine lv_iload_n hx hb dX0_addBack_54 rfl (lv_at hl 3 rfl) ?_
    refine lv_iload_n hx hb dX0_addBack_55 rfl (lv_at hl 2 rfl) ?_
    refine m_iadd (a := p0) (b := ln) hx hb dX0_addBack_56 ?_
    refine m_lald (n := n) (f := g) hx hb hK (hput_self _ (lt_of_at ht)) (by omega) (hn) dX0_addBack_57 ?_
    refine lv_lload hx hb dX0_addBack_58 (lv_at hl 4 rfl) ?_
    refine m_ladd hx hb dX0_addBack_60 ?_
    refine lv_lstore (lv' := [(6, .long (lN ((g (p0 + ln)) + c1))), (0, .ref a), (1, .ref b), (2, .int (nI ln)), (3, .int (nI p0)), (4, .long (lN c1))]) hx hb dX0_addBack_61 hl (by decide) rfl (fun ls hl => ?_)
    refine lv_aload_n hx hb dX0_addBack_63 rfl (lv_at hl 1 rfl) ?_
    refine lv_iload_n hx hb dX0_addBack_64 rfl (lv_at hl 4 rfl) ?_
    refine lv_iload_n hx hb dX0_addBack_65 rfl (lv_at hl 3 rfl) ?_
    refine m_iadd (a := p0) (b := ln) hx hb dX0_addBack_66 ?_
    refine lv_lload hx hb dX0_addBack_67 (lv_at hl 0 rfl) ?_
    refine lv_ldc2 (v := lN 4294967295) hx hb hown (hts (.constantLong RX0 28 (lN 4294967295)) (by decide +kernel)) dX0_addBack_69 ?_
    refine m_mask hx hb dX0_addBack_72 ?_
    refine m_last (n := n) (f := g) (b0 := b0) hx hb hK (hput_self _ (lt_of_at ht)) (by omega) (hn) (hbt) hLc dX0_addBack_73 (fun locs hLc => ?_)
    rw [hput_put]
    refine lv_lload hx hb dX0_addBack_74 (lv_at hl 0 rfl) ?_
    refine lv_ldc2 (v := lN 4294967295) hx hb hown (hts (.constantLong RX0 28 (lN 4294967295)) (by decide +kernel)) dX0_addBack_76 ?_
    refine m_lc_le (tgt := 87) hx hb (by omega) (by omega) dX0_addBack_79 dX0_addBack_80 (by decide) (fun c79 => ?_) (fun c79 => ?_)
    · skip
      refine lv_iconst (v := nI 0) hx hb dX0_addBack_87 (by decide) ?_
      exact m_zret hx hb hr hlocks hLc (by decide) dX0_addBack_88 (⟨_, lim_fup hg hxl, fun j hj => by rw [fup_n _ _ (by omega)]; exact hs j (by omega), Or.inl ⟨rfl, by rw [shf_fup, hgf]; exact ab_end0 (by omega) hv1⟩, rfl⟩)
    · skip
      refine lv_iconst (v := nI 1) hx hb dX0_addBack_83 (by decide) ?_
      refine lv_goto (tgt := 88) hx hb dX0_addBack_84 (by decide) ?_
      exact m_zret hx hb hr hlocks hLc (by decide) dX0_addBack_88 (⟨_, lim_fup hg hxl, fun j hj => by rw [fup_n _ _ (by omega)]; exact hs j (by omega), Or.inr ⟨rfl, by rw [shf_fup, hgf]; exact ab_end1 hfi hc (by omega) hv1⟩, rfl⟩)
  | succ w ih =>
    intro i c1 g hi hg hs hc hv1 locs ls hLc hl
    have hin : i < ln := by omega
    have hgi := hg (p0 + i) (by omega)
    have hvi := hv i (by omega)
    have hxl : (g (p0 + i) + v i + c1) % 4294967296 < 4294967296 := Nat.mod_lt _ (by decide)
    have hgf : g (p0 + i) = shf f p0 i := hs _ (Or.inr (by omega))
    have hfi : shf f p0 i < 4294967296 := hf _ (by omega)
    refine lv_iload hx hb dX0_addBack_6 (lv_at hl 5 rfl) ?_
    refine lv_iload_n hx hb dX0_addBack_8 rfl (lv_at hl 2 rfl) ?_
    refine lv_icmp_ge (tgt := 53) hx hb dX0_addBack_9 (by decide) (fun h => absurd h (nI_ge (by omega) (by omega))) (fun _ => ?_)
    refine lv_aload_n hx hb dX0_addBack_12 rfl (lv_at hl 0 rfl) ?_
    refine lv_iload_n hx hb dX0_addBack_13 rfl (lv_at hl 3 rfl) ?_
    refine lv_iload hx hb dX0_addBack_14 (lv_at hl 5 rfl) ?_
    refine m_iadd (a := p0) (b := i) hx hb dX0_addBack_16 ?_
    refine m_lald (n := n) (f := g) hx hb hK (hput_self _ (lt_of_at ht)) (by omega) (hn) dX0_addBack_17 ?_
    refine lv_aload_n hx hb dX0_addBack_18 rfl (lv_at hl 1 rfl) ?_
    refine lv_iload hx hb dX0_addBack_19 (lv_at hl 5 rfl) ?_
    refine m_lald (n := n2) (f := v) hx hb hK ((hput_ne _ hba).trans hb0) (by omega) (hn2) dX0_addBack_21 ?_
    refine m_ladd hx hb dX0_addBack_22 ?_
    refine lv_lload hx hb dX0_addBack_23 (lv_at hl 4 rfl) ?_
    refine m_ladd hx hb dX0_addBack_25 ?_
    refine lv_lstore (lv' := [(7, .long (lN (((g (p0 + i)) + (v i)) + c1))), (0, .ref a), (1, .ref b), (2, .int (nI ln)), (3, .int (nI p0)), (4, .long (lN c1)), (6, .int (nI i))]) hx hb dX0_addBack_26 hl (by decide) rfl (fun ls hl => ?_)
    refine lv_aload_n hx hb dX0_addBack_28 rfl (lv_at hl 1 rfl) ?_
    refine lv_iload_n hx hb dX0_addBack_29 rfl (lv_at hl 4 rfl) ?_
    refine lv_iload hx hb dX0_addBack_30 (lv_at hl 6 rfl) ?_
    refine m_iadd (a := p0) (b := i) hx hb dX0_addBack_32 ?_
    refine lv_lload hx hb dX0_addBack_33 (lv_at hl 0 rfl) ?_
    refine lv_ldc2 (v := lN 4294967295) hx hb hown (hts (.constantLong RX0 28 (lN 4294967295)) (by decide +kernel)) dX0_addBack_35 ?_
    refine m_mask hx hb dX0_addBack_38 ?_
    refine m_last (n := n) (f := g) (b0 := b0) hx hb hK (hput_self _ (lt_of_at ht)) (by omega) (hn) (hbt) hLc dX0_addBack_39 (fun locs hLc => ?_)
    rw [hput_put]
    refine lv_lload hx hb dX0_addBack_40 (lv_at hl 0 rfl) ?_
    refine lv_bipush (v := nI 32) hx hb dX0_addBack_42 (by decide) ?_
    refine m_lushr32 hx hb (by omega) dX0_addBack_44 ?_
    refine lv_lstore (lv' := [(4, .long (lN ((((g (p0 + i)) + (v i)) + c1) / 4294967296))), (7, .long (lN (((g (p0 + i)) + (v i)) + c1))), (0, .ref a), (1, .ref b), (2, .int (nI ln)), (3, .int (nI p0)), (6, .int (nI i))]) hx hb dX0_addBack_45 hl (by decide) rfl (fun ls hl => ?_)
    refine lv_iinc (v := nI (i + 1)) (lv' := [(6, .int (nI (i + 1))), (4, .long (lN ((((g (p0 + i)) + (v i)) + c1) / 4294967296))), (7, .long (lN (((g (p0 + i)) + (v i)) + c1))), (0, .ref a), (1, .ref b), (2, .int (nI ln)), (3, .int (nI p0))]) hx hb dX0_addBack_47 hl (k := 6) rfl (nI_add i 1) (by decide) rfl (fun ls hl => ?_)
    refine lv_goto (tgt := 6) hx hb dX0_addBack_50 (by decide) ?_
    exact ih (i + 1) _ _ (by omega) (lim_fup hg hxl) (fun j hj => by rw [fup_n _ _ (by omega)]; exact hs j (by omega)) (by omega) (by rw [shf_fup, hgf]; exact add_step hv1) _ _ hLc (lv_sub hl [3, 4, 5, 6, 1, 0] rfl)
set_option maxRecDepth 100000 in
set_option maxHeartbeats 4000000 in
theorem c_X0_addBack (l : Launch) (G : gG) (b0 : Nat) (H : Heap) {a b n n2 ln p0 : Nat} {f v : Nat → Nat} (ht : H[a]? = some (aJ G n f)) (hb0 : H[b]? = some (aJ G n2 v)) (hn : n < 2 ^ 31) (hn2 : n2 < 2 ^ 31) (hf : lim f n) (hv : lim v n2) (hbt : b0 ≤ a) (hba : b ≠ a) (hpm : p0 + ln < n) (hmn : ln ≤ n2) : Met l yX0_addBack wsX0_addBack ({ frames := 0, cells := 0, slots := 0, locals := 0 } : Room) (PcH G H [.ref a, .ref b, .int (nI ln), .int (nI p0)]) (QcI (fun r H1 => ∃ g : Nat → Nat, lim g n ∧ (∀ j, j < p0 ∨ p0 + ln < j → g j = f j) ∧ ((r = nI 0 ∧ vl (shf g p0) (ln + 1) = vl (shf f p0) (ln + 1) + vl v ln) ∨ (r = nI 1 ∧ vl (shf g p0) (ln + 1) + 4294967296 ^ (ln + 1) = vl (shf f p0) (ln + 1) + vl v ln)) ∧ H1 = hput H a (aJ G n g))) 0 0 (fre b0) := by
  refine m_enter (cc := cX0_addBack) (maxL := 9) (ret := (some .boolean)) (own := RX0) (by decide) rfl rfl (Nat.le_of_ble_eq_true rfl) ?_
  intro p e s m below meth c ls hF hnm hH hl
  have hl : lv_has ls 9 [(0, .ref a), (1, .ref b), (2, .int (nI ln)), (3, .int (nI p0))] := hl
  have hLc : lcs b0 [] := lcs_nil b0
  obtain ⟨hx, hb, hr, hml, hown, hts, hlocks, hK⟩ := id hF
  refine lv_lconst (v := lN 0) hx hb dX0_addBack_0 (by decide) ?_
  refine lv_lstore (lv' := [(4, .long (lN 0)), (0, .ref a), (1, .ref b), (2, .int (nI ln)), (3, .int (nI p0))]) hx hb dX0_addBack_1 hl (by decide) rfl (fun ls hl => ?_)
  refine lv_iconst (v := nI 0) hx hb dX0_addBack_3 (by decide) ?_
  refine lv_istore (lv' := [(6, .int (nI 0)), (4, .long (lN 0)), (0, .ref a), (1, .ref b), (2, .int (nI ln)), (3, .int (nI p0))]) hx hb dX0_addBack_4 hl (by decide) rfl (fun ls hl => ?_)
  have hl := lv_sub (l' := [(0, .ref a), (1, .ref b), (2, .int (nI ln)), (3, .int (nI p0)), (4, .long (lN 0)), (6, .int (nI 0))]) hl [2, 3, 4, 5, 1, 0] rfl
  have hh := addBack_6 (l := l) (e := e) (below := below) hF ht hb0 hn hn2 hf hv hbt hba hpm hmn ln 0 0 f (by omega) hf (fun j _ => rfl) (by omega) (by simp [vl]) _ _ hLc hl
  rw [hput_same ht] at hh
  exact hh

set_option maxRecDepth 100000 in
set_option maxHeartbeats 4000000 in
theorem c_X0_takeOut (l : Launch) (G : gG) (b0 : Nat) (H : Heap) {a b n n2 ln p0 : Nat} {f v : Nat → Nat} (ht : H[a]? = some (aJ G n f)) (hb0 : H[b]? = some (aJ G n2 v)) (hn : n < 2 ^ 31) (hn2 : n2 < 2 ^ 31) (hf : lim f n) (hv : lim v n2) (hbt : b0 ≤ a) (hba : b ≠ a) (hpm : p0 + ln < n) (hmn : ln ≤ n2) (hm1 : 1 ≤ ln) (htop : 2147483648 ≤ v (ln - 1)) (hlt : vl (shf f p0) (ln + 1) < vl v ln * 4294967296) : Met l yX0_takeOut wsX0_takeOut ({ frames := 1, cells := 0, slots := 0, locals := 32 } : Room) (PcH G H [.ref a, .ref b, .int (nI ln), .int (nI p0)]) (QcL (fun r H1 => r = lN (vl (shf f p0) (ln + 1) / vl v ln) ∧ ∃ g : Nat → Nat, lim g n ∧ (∀ j, j < p0 ∨ p0 + ln < j → g j = f j) ∧ vl (shf g p0) (ln + 1) = vl (shf f p0) (ln + 1) % vl v ln ∧ H1 = hput H a (aJ G n g))) 0 0 (fre b0) := by
  refine m_enter (cc := cX0_takeOut) (maxL := 9) (ret := (some .long)) (own := RX0) (by decide) rfl rfl (Nat.le_of_ble_eq_true rfl) ?_
  intro p e s m below meth c ls hF hnm hH hl
  have hl : lv_has ls 9 [(0, .ref a), (1, .ref b), (2, .int (nI ln)), (3, .int (nI p0))] := hl
  have hLc : lcs b0 [] := lcs_nil b0
  obtain ⟨hx, hb, hr, hml, hown, hts, hlocks, hK⟩ := id hF
  have hVp : 0 < vl v ln := (Nat.eq_zero_or_pos (vl v ln)).elim (fun h => by rw [h] at hlt; omega) (fun h => h)
  refine lv_iload_n hx hb dX0_takeOut_0 rfl (lv_at hl 3 rfl) ?_
  refine lv_iload_n hx hb dX0_takeOut_1 rfl (lv_at hl 2 rfl) ?_
  refine m_iadd (a := p0) (b := ln) hx hb dX0_takeOut_2 ?_
  refine lv_istore (lv' := [(4, .int (nI (p0 + ln))), (0, .ref a), (1, .ref b), (2, .int (nI ln)), (3, .int (nI p0))]) hx hb dX0_takeOut_3 hl (by decide) rfl (fun ls hl => ?_)
  refine lv_iload_n hx hb dX0_takeOut_5 rfl (lv_at hl 3 rfl) ?_
  refine lv_iconst (v := nI 1) hx hb dX0_takeOut_6 (by decide) ?_
  refine m_icmp_lt (tgt := 27) hx hb (by omega) (by omega) dX0_takeOut_7 (by decide) (fun h => absurd h (by omega)) (fun _ => ?_)
  refine lv_iload_n hx hb dX0_takeOut_10 rfl (lv_at hl 3 rfl) ?_
  refine lv_aload_n hx hb dX0_takeOut_11 rfl (lv_at hl 2 rfl) ?_
  refine m_alenJ (n := n2) (f := v) hx hb hK (hb0) dX0_takeOut_12 ?_
  refine m_icmp_gt (tgt := 27) hx hb (by omega) (by omega) dX0_takeOut_13 (by decide) (fun h => absurd h (by omega)) (fun _ => ?_)
  refine lv_iload_n hx hb dX0_takeOut_16 rfl (lv_at hl 4 rfl) ?_
  refine lv_if_lt (tgt := 27) hx hb dX0_takeOut_17 (by decide) (fun h => absurd h (nI_pos (by omega))) (fun _ => ?_)
  refine lv_iload hx hb dX0_takeOut_20 (lv_at hl 0 rfl) ?_
  refine lv_aload_n hx hb dX0_takeOut_22 rfl (lv_at hl 1 rfl) ?_
  refine m_alenJ (n := n) (f := f) hx hb hK (ht) dX0_takeOut_23 ?_
  refine m_icmp_lt (tgt := 29) hx hb (by omega) (by omega) dX0_takeOut_24 (by decide) (fun _ => ?_) (fun h => absurd h (by omega))
  refine lv_aload_n hx hb dX0_takeOut_29 rfl (lv_at hl 1 rfl) ?_
  refine lv_iload hx hb dX0_takeOut_30 (lv_at hl 0 rfl) ?_
  refine m_lald (n := n) (f := f) hx hb hK (ht) (by omega) (hn) dX0_takeOut_32 ?_
  refine lv_aload_n hx hb dX0_takeOut_33 rfl (lv_at hl 1 rfl) ?_
  refine lv_iload hx hb dX0_takeOut_34 (lv_at hl 0 rfl) ?_
  refine lv_iconst (v := nI 1) hx hb dX0_takeOut_36 (by decide) ?_
  refine m_isub (a := p0 + ln) (b := 1) hx hb (by omega) dX0_takeOut_37 ?_
  refine m_lald (n := n) (f := f) hx hb hK (ht) (by omega) (hn) dX0_takeOut_38 ?_
  refine lv_aload_n hx hb dX0_takeOut_39 rfl (lv_at hl 2 rfl) ?_
  refine lv_iload_n hx hb dX0_takeOut_40 rfl (lv_at hl 3 rfl) ?_
  refine lv_iconst (v := nI 1) hx hb dX0_takeOut_41 (by decide) ?_
  refine m_isub (a := ln) (b := 1) hx hb (by omega) dX0_takeOut_42 ?_
  refine m_lald (n := n2) (f := v) hx hb hK (hb0) (by omega) (hn2) dX0_takeOut_43 ?_
  refine mc_l0 (va_runS (As := [.long (lN (f (p0 + ln))), .long (lN (f ((p0 + ln) - 1))), .long (lN (v (ln - 1)))]) (rest := []) ⟨hx, hb, hml, hown, hts⟩ (c_X0_guess l G b0 H (hf (p0 + ln) (by omega)) (hf (p0 + ln - 1) (by omega)) (hv (ln - 1) (by omega))) (va_cwS 3 hts gX0_takeOut_X0_guess rfl rfl rfl (by decide +kernel) ⟨Nat.le_of_ble_eq_true rfl, Nat.le_of_ble_eq_true rfl⟩) (mp_S hK) rfl rfl hl.1 rfl (lv_room (Nat.le_of_ble_eq_true rfl)) dX0_takeOut_44 ⟨Nat.le_of_ble_eq_true rfl, Nat.le_of_ble_eq_true rfl⟩) hLc (fun r H1 locs hP hLc => ?_)
  obtain ⟨hqe, rfl⟩ := hP
  obtain ⟨qh, hqh⟩ : ∃ qh, qh = (if v (ln - 1) ≤ shf f p0 ln then 4294967295 else (shf f p0 ln * 4294967296 + shf f p0 (ln - 1)) / v (ln - 1)) := ⟨_, rfl⟩
  have hqe2 : r = lN qh := by rw [hqe, hqh]; unfold shf; rw [Nat.add_sub_assoc hm1]
  subst hqe2
  obtain ⟨hK1, hK2, hK3⟩ := knuth hm1 (lim_shf hf (by omega)) (lim_le hv hmn) htop hlt hqh
  generalize hDq : vl (shf f p0) (ln + 1) / vl v ln = Dq at hK2 hK3
  refine lv_lstore (lv' := [(5, .long (lN qh)), (4, .int (nI (p0 + ln))), (0, .ref a), (1, .ref b), (2, .int (nI ln)), (3, .int (nI p0))]) hx hb dX0_takeOut_47 hl (by decide) rfl (fun ls hl => ?_)
  refine lv_aload_n hx hb dX0_takeOut_49 rfl (lv_at hl 2 rfl) ?_
  refine lv_aload_n hx hb dX0_takeOut_50 rfl (lv_at hl 3 rfl) ?_
  refine lv_iload_n hx hb dX0_takeOut_51 rfl (lv_at hl 4 rfl) ?_
  refine lv_iload_n hx hb dX0_takeOut_52 rfl (lv_at hl 5 rfl) ?_
  refine lv_lload hx hb dX0_takeOut_53 (lv_at hl 0 rfl) ?_
  refine mc_i0 (va_runS (As := [.ref a, .ref b, .int (nI ln), .int (nI p0), .long (lN qh)]) (rest := []) ⟨hx, hb, hml, hown, hts⟩ (c_X0_subtractProduct l G b0 H ht hb0 hn hn2 hf hv hbt hba hpm hmn hK1) (va_cwS 5 hts gX0_takeOut_X0_subtractProduct rfl rfl rfl (by decide +kernel) ⟨Nat.le_of_ble_eq_true rfl, Nat.le_of_ble_eq_true rfl⟩) (mp_S hK) rfl rfl hl.1 rfl (lv_room (Nat.le_of_ble_eq_true rfl)) dX0_takeOut_55 ⟨Nat.le_of_ble_eq_true rfl, Nat.le_of_ble_eq_true rfl⟩) hLc (fun r H1 locs hP hLc => ?_)
  obtain ⟨g1, hg1, hs1, hor1, rfl⟩ := hP
  have hU1 := vl_lt (lim_shf hg1 (show p0 + (ln + 1) ≤ n by omega))
  rcases hor1 with ⟨rfl, he1⟩ | ⟨rfl, he1⟩
  · skip
    refine lv_istore (lv' := [(7, .int (nI 0)), (5, .long (lN qh)), (4, .int (nI (p0 + ln))), (0, .ref a), (1, .ref b), (2, .int (nI ln)), (3, .int (nI p0))]) hx hb dX0_takeOut_58 hl (by decide) rfl (fun ls hl => ?_)
    refine lv_iconst (v := nI 0) hx hb dX0_takeOut_60 (by decide) ?_
    refine lv_istore (lv' := [(8, .int (nI 0)), (7, .int (nI 0)), (5, .long (lN qh)), (4, .int (nI (p0 + ln))), (0, .ref a), (1, .ref b), (2, .int (nI ln)), (3, .int (nI p0))]) hx hb dX0_takeOut_61 hl (by decide) rfl (fun ls hl => ?_)
    refine lv_iload hx hb dX0_takeOut_63 (lv_at hl 0 rfl) ?_
    refine lv_iconst (v := nI 2) hx hb dX0_takeOut_65 (by decide) ?_
    refine m_icmp_ge (tgt := 103) hx hb (by decide) (by decide) dX0_takeOut_66 (by decide) (fun h => absurd h (by decide)) (fun _ => ?_)
    refine lv_iload hx hb dX0_takeOut_69 (lv_at hl 1 rfl) ?_
    refine m_if_eq (tgt := 103) hx hb (by decide) dX0_takeOut_71 (by decide) (fun _ => ?_) (fun h => absurd h (by decide))
    refine lv_lload hx hb dX0_takeOut_103 (lv_at hl 2 rfl) ?_
    have hfin := to_done hVp he1 (by rw [hDq]; omega)
    exact m_lret hx hb hr hlocks hLc dX0_takeOut_105 (⟨congrArg lN (hfin.1.trans hDq), g1, hg1, fun j hj => hs1 j hj, hfin.2, rfl⟩)
  · skip
    have hs : vl (shf f p0) (ln + 1) < qh * vl v ln := by omega
    have hq1 := to_le hVp hs
    rw [hDq] at hq1
    refine lv_istore (lv' := [(7, .int (nI 1)), (5, .long (lN qh)), (4, .int (nI (p0 + ln))), (0, .ref a), (1, .ref b), (2, .int (nI ln)), (3, .int (nI p0))]) hx hb dX0_takeOut_58 hl (by decide) rfl (fun ls hl => ?_)
    refine lv_iconst (v := nI 0) hx hb dX0_takeOut_60 (by decide) ?_
    refine lv_istore (lv' := [(8, .int (nI 0)), (7, .int (nI 1)), (5, .long (lN qh)), (4, .int (nI (p0 + ln))), (0, .ref a), (1, .ref b), (2, .int (nI ln)), (3, .int (nI p0))]) hx hb dX0_takeOut_61 hl (by decide) rfl (fun ls hl => ?_)
    refine lv_iload hx hb dX0_takeOut_63 (lv_at hl 0 rfl) ?_
    refine lv_iconst (v := nI 2) hx hb dX0_takeOut_65 (by decide) ?_
    refine m_icmp_ge (tgt := 103) hx hb (by decide) (by decide) dX0_takeOut_66 (by decide) (fun h => absurd h (by decide)) (fun _ => ?_)
    refine lv_iload hx hb dX0_takeOut_69 (lv_at hl 1 rfl) ?_
    refine m_if_eq (tgt := 103) hx hb (by decide) dX0_takeOut_71 (by decide) (fun h => absurd h (by decide)) (fun _ => ?_)
    refine lv_lload hx hb dX0_takeOut_74 (lv_at hl 2 rfl) ?_
    refine lv_lconst (v := lN 1) hx hb dX0_takeOut_76 (by decide) ?_
    refine m_lsub hx hb (by omega) dX0_takeOut_77 ?_
    refine lv_lstore (lv' := [(5, .long (lN (qh - 1))), (8, .int (nI 0)), (7, .int (nI 1)), (4, .int (nI (p0 + ln))), (0, .ref a), (1, .ref b), (2, .int (nI ln)), (3, .int (nI p0))]) hx hb dX0_takeOut_78 hl (by decide) rfl (fun ls hl => ?_)
    refine lv_aload_n hx hb dX0_takeOut_80 rfl (lv_at hl 4 rfl) ?_
    refine lv_aload_n hx hb dX0_takeOut_81 rfl (lv_at hl 5 rfl) ?_
    refine lv_iload_n hx hb dX0_takeOut_82 rfl (lv_at hl 6 rfl) ?_
    refine lv_iload_n hx hb dX0_takeOut_83 rfl (lv_at hl 7 rfl) ?_
    refine mc_i0 (va_runS (As := [.ref a, .ref b, .int (nI ln), .int (nI p0)]) (rest := []) ⟨hx, hb, hml, hown, hts⟩ (c_X0_addBack l G b0 (hput H a (aJ G n g1)) (hput_self _ (lt_of_at ht)) ((hput_ne _ hba).trans hb0) hn hn2 hg1 hv hbt hba hpm hmn) (va_cwS 4 hts gX0_takeOut_X0_addBack rfl rfl rfl (by decide +kernel) ⟨Nat.le_of_ble_eq_true rfl, Nat.le_of_ble_eq_true rfl⟩) (mp_S hK) rfl rfl hl.1 rfl (lv_room (Nat.le_of_ble_eq_true rfl)) dX0_takeOut_84 ⟨Nat.le_of_ble_eq_true rfl, Nat.le_of_ble_eq_true rfl⟩) hLc (fun r H1 locs hP hLc => ?_)
    obtain ⟨g2, hg2, hs2, hor2, rfl⟩ := hP
    rw [hput_put]
    have hU2 := vl_lt (lim_shf hg2 (show p0 + (ln + 1) ≤ n by omega))
    rcases hor2 with ⟨rfl, he2⟩ | ⟨rfl, he2⟩
    · skip
      have hm2 := to_more he1 he2 (by omega)
      have hs2b : vl (shf f p0) (ln + 1) < (qh - 1) * vl v ln := by omega
      have hq2 := to_le hVp hs2b
      rw [hDq] at hq2
      refine m_if_ne (tgt := 94) hx hb (by decide) dX0_takeOut_87 (by decide) (fun h => absurd h (by decide)) (fun _ => ?_)
      refine lv_iconst (v := nI 1) hx hb dX0_takeOut_90 (by decide) ?_
      refine lv_goto (tgt := 95) hx hb dX0_takeOut_91 (by decide) ?_
      refine lv_istore (lv' := [(7, .int (nI 1)), (5, .long (lN (qh - 1))), (8, .int (nI 0)), (4, .int (nI (p0 + ln))), (0, .ref a), (1, .ref b), (2, .int (nI ln)), (3, .int (nI p0))]) hx hb dX0_takeOut_95 hl (by decide) rfl (fun ls hl => ?_)
      refine lv_iinc (v := nI (0 + 1)) (lv' := [(8, .int (nI (0 + 1))), (7, .int (nI 1)), (5, .long (lN (qh - 1))), (4, .int (nI (p0 + ln))), (0, .ref a), (1, .ref b), (2, .int (nI ln)), (3, .int (nI p0))]) hx hb dX0_takeOut_97 hl (k := 2) rfl (nI_add 0 1) (by decide) rfl (fun ls hl => ?_)
      refine lv_goto (tgt := 63) hx hb dX0_takeOut_100 (by decide) ?_
      refine lv_iload hx hb dX0_takeOut_63 (lv_at hl 0 rfl) ?_
      refine lv_iconst (v := nI 2) hx hb dX0_takeOut_65 (by decide) ?_
      refine m_icmp_ge (tgt := 103) hx hb (by decide) (by decide) dX0_takeOut_66 (by decide) (fun h => absurd h (by decide)) (fun _ => ?_)
      refine lv_iload hx hb dX0_takeOut_69 (lv_at hl 1 rfl) ?_
      refine m_if_eq (tgt := 103) hx hb (by decide) dX0_takeOut_71 (by decide) (fun h => absurd h (by decide)) (fun _ => ?_)
      refine lv_lload hx hb dX0_takeOut_74 (lv_at hl 2 rfl) ?_
      refine lv_lconst (v := lN 1) hx hb dX0_takeOut_76 (by decide) ?_
      refine m_lsub hx hb (by omega) dX0_takeOut_77 ?_
      refine lv_lstore (lv' := [(5, .long (lN ((qh - 1) - 1))), (8, .int (nI (0 + 1))), (7, .int (nI 1)), (4, .int (nI (p0 + ln))), (0, .ref a), (1, .ref b), (2, .int (nI ln)), (3, .int (nI p0))]) hx hb dX0_takeOut_78 hl (by decide) rfl (fun ls hl => ?_)
      refine lv_aload_n hx hb dX0_takeOut_80 rfl (lv_at hl 4 rfl) ?_
      refine lv_aload_n hx hb dX0_takeOut_81 rfl (lv_at hl 5 rfl) ?_
      refine lv_iload_n hx hb dX0_takeOut_82 rfl (lv_at hl 6 rfl) ?_
      refine lv_iload_n hx hb dX0_takeOut_83 rfl (lv_at hl 7 rfl) ?_
      refine mc_i0 (va_runS (As := [.ref a, .ref b, .int (nI ln), .int (nI p0)]) (rest := []) ⟨hx, hb, hml, hown, hts⟩ (c_X0_addBack l G b0 (hput H a (aJ G n g2)) (hput_self _ (lt_of_at ht)) ((hput_ne _ hba).trans hb0) hn hn2 hg2 hv hbt hba hpm hmn) (va_cwS 4 hts gX0_takeOut_X0_addBack rfl rfl rfl (by decide +kernel) ⟨Nat.le_of_ble_eq_true rfl, Nat.le_of_ble_eq_true rfl⟩) (mp_S hK) rfl rfl hl.1 rfl (lv_room (Nat.le_of_ble_eq_true rfl)) dX0_takeOut_84 ⟨Nat.le_of_ble_eq_true rfl, Nat.le_of_ble_eq_true rfl⟩) hLc (fun r H1 locs hP hLc => ?_)
      obtain ⟨g3, hg3, hs3, hor3, rfl⟩ := hP
      rw [hput_put]
      have hU3 := vl_lt (lim_shf hg3 (show p0 + (ln + 1) ≤ n by omega))
      rcases hor3 with ⟨rfl, he3⟩ | ⟨rfl, he3⟩
      · skip
        have hm3 := to_more hm2 he3 (by omega)
        have hs3b : vl (shf f p0) (ln + 1) < (qh - 1 - 1) * vl v ln := by omega
        have hq3 := to_le hVp hs3b
        rw [hDq] at hq3
        exact absurd hK3 (by omega)
      · skip
        have hd := to_back hm2 he3 (by omega)
        refine m_if_ne (tgt := 94) hx hb (by decide) dX0_takeOut_87 (by decide) (fun _ => ?_) (fun h => absurd h (by decide))
        refine lv_iconst (v := nI 0) hx hb dX0_takeOut_94 (by decide) ?_
        refine lv_istore (lv' := [(7, .int (nI 0)), (5, .long (lN ((qh - 1) - 1))), (8, .int (nI (0 + 1))), (4, .int (nI (p0 + ln))), (0, .ref a), (1, .ref b), (2, .int (nI ln)), (3, .int (nI p0))]) hx hb dX0_takeOut_95 hl (by decide) rfl (fun ls hl => ?_)
        refine lv_iinc (v := nI (0 + 1 + 1)) (lv' := [(8, .int (nI (0 + 1 + 1))), (7, .int (nI 0)), (5, .long (lN ((qh - 1) - 1))), (4, .int (nI (p0 + ln))), (0, .ref a), (1, .ref b), (2, .int (nI ln)), (3, .int (nI p0))]) hx hb dX0_takeOut_97 hl (k := 2) rfl (nI_add (0 + 1) 1) (by decide) rfl (fun ls hl => ?_)
        refine lv_goto (tgt := 63) hx hb dX0_takeOut_100 (by decide) ?_
        refine lv_iload hx hb dX0_takeOut_63 (lv_at hl 0 rfl) ?_
        refine lv_iconst (v := nI 2) hx hb dX0_takeOut_65 (by decide) ?_
        refine m_icmp_ge (tgt := 103) hx hb (by decide) (by decide) dX0_takeOut_66 (by decide) (fun _ => ?_) (fun h => absurd h (by decide))
        refine lv_lload hx hb dX0_takeOut_103 (lv_at hl 2 rfl) ?_
        have hfin := to_done hVp hd (by rw [hDq]; omega)
        exact m_lret hx hb hr hlocks hLc dX0_takeOut_105 (⟨congrArg lN (hfin.1.trans hDq), g3, hg3, fun j hj => (hs3 j hj).trans ((hs2 j hj).trans (hs1 j hj)), hfin.2, rfl⟩)
    · skip
      have hd := to_back he1 he2 (by omega)
      refine m_if_ne (tgt := 94) hx hb (by decide) dX0_takeOut_87 (by decide) (fun _ => ?_) (fun h => absurd h (by decide))
      refine lv_iconst (v := nI 0) hx hb dX0_takeOut_94 (by decide) ?_
      refine lv_istore (lv' := [(7, .int (nI 0)), (5, .long (lN (qh - 1))), (8, .int (nI 0)), (4, .int (nI (p0 + ln))), (0, .ref a), (1, .ref b), (2, .int (nI ln)), (3, .int (nI p0))]) hx hb dX0_takeOut_95 hl (by decide) rfl (fun ls hl => ?_)
      refine lv_iinc (v := nI (0 + 1)) (lv' := [(8, .int (nI (0 + 1))), (7, .int (nI 0)), (5, .long (lN (qh - 1))), (4, .int (nI (p0 + ln))), (0, .ref a), (1, .ref b), (2, .int (nI ln)), (3, .int (nI p0))]) hx hb dX0_takeOut_97 hl (k := 2) rfl (nI_add 0 1) (by decide) rfl (fun ls hl => ?_)
      refine lv_goto (tgt := 63) hx hb dX0_takeOut_100 (by decide) ?_
      refine lv_iload hx hb dX0_takeOut_63 (lv_at hl 0 rfl) ?_
      refine lv_iconst (v := nI 2) hx hb dX0_takeOut_65 (by decide) ?_
      refine m_icmp_ge (tgt := 103) hx hb (by decide) (by decide) dX0_takeOut_66 (by decide) (fun h => absurd h (by decide)) (fun _ => ?_)
      refine lv_iload hx hb dX0_takeOut_69 (lv_at hl 1 rfl) ?_
      refine m_if_eq (tgt := 103) hx hb (by decide) dX0_takeOut_71 (by decide) (fun _ => ?_) (fun h => absurd h (by decide))
      refine lv_lload hx hb dX0_takeOut_103 (lv_at hl 2 rfl) ?_
      have hfin := to_done hVp hd (by rw [hDq]; omega)
      exact m_lret hx hb hr hlocks hLc dX0_takeOut_105 (⟨congrArg lN (hfin.1.trans hDq), g2, hg2, fun j hj => (hs2 j hj).trans (hs1 j hj), hfin.2, rfl⟩)

set_option maxRecDepth 100000 in
set_option maxHeartbeats 4000000 in
theorem moveUp_14 {p : Program} {l : Launch} {e : Env} {s : State} {m : MethodId} {args : Array Value} {below : List Frame} {meth : Method} {c : Code} {G : gG} {b0 : Nat} {H : Heap} {a t n k s0 : Nat} {f f0 : Nat → Nat} (hF : FxM p s m args meth c G cX0_moveUp 10 none RX0 wsX0_moveUp) (ha : H[a]? = some (aJ G n f)) (ht : H[t]? = some (aJ G k f0)) (hn : n < 2 ^ 31) (hk : k < 2 ^ 20) (hs0 : s0 < 2 ^ 20) (hf : lim f n) (hat : a ≠ t) (hbt : b0 ≤ t) : ∀ (q : Nat) (i : Nat) (g : Nat → Nat), i + q = k → (∀ j, j < i → g j = vl f n * 2 ^ s0 / 4294967296 ^ j % 4294967296) → ∀ (locs : List Loc) (ls : Array Slot), lcs b0 locs → lv_has ls 10 [(0, .ref a), (1, .int (nI s0)), (2, .ref t), (3, .int (nI (s0 / 32))), (4, .int (nI (s0 % 32))), (5, .int (nI i))] → W p l e ({ frames := 1, cells := 0, slots := 0, locals := 21 } : Room) s m args below meth c (hput H t (aJ G k g)) locs 0 0 (MQ below (QcV (fun H1 => ∃ g : Nat → Nat, (∀ i, i < k → g i = vl f n * 2 ^ s0 / 4294967296 ^ i % 4294967296) ∧ H1 = hput H t (aJ G k g))) args s 0 0 (fre b0)) (F0 m 14 ls []) := by
  obtain ⟨hx, hb, hr, hml, hown, hts, hlocks, hK⟩ := id hF
  intro q
  induction q with
  | zero =>
    intro i g hi hg locs ls hLc hl
    refine lv_iload hx hb dX0_moveUp_14 (lv_at hl 5 rfl) ?_
    refine lv_aload_n hx hb dX0_moveUp_16 rfl (lv_at hl 2 rfl) ?_
    refine m_alenJ (n := k) (f := g) hx hb hK (hput_self _ (lt_of_at ht)) dX0_moveUp_17 ?_
    refine lv_icmp_ge (tgt := 71) hx hb dX0_moveUp_18 (by decide) (fun _ => ?_) (fun h => absurd (nI_le (by omega) (by omega)) h)
    exact m_vret hx hb hr hlocks hLc dX0_moveUp_71 (⟨g, fun j hj => hg j (by omega), rfl⟩)
  | succ q ih =>
    intro i g hi hg locs ls hLc hl
    have hin : i < k := by omega
    have h1 : latI n f ((i : Int) - ((s0 / 32 : Nat) : Int)) < 4294967296 := latI_lim hf _
    have h2 : latI n f ((i : Int) - ((s0 / 32 : Nat) : Int) - 1) < 4294967296 := latI_lim hf _
    have h3 := mul_pow_lt h1 (show s0 % 32 ≤ 32 by omega)
    have h4 := div_lt_pow h2 (show s0 % 32 ≤ 32 by omega)
    have h5 := Nat.div_le_self (latI n f ((i : Int) - ((s0 / 32 : Nat) : Int) - 1)) (2 ^ (32 - s0 % 32))
    refine lv_iload hx hb dX0_moveUp_14 (lv_at hl 5 rfl) ?_
    refine lv_aload_n hx hb dX0_moveUp_16 rfl (lv_at hl 2 rfl) ?_
    refine m_alenJ (n := k) (f := g) hx hb hK (hput_self _ (lt_of_at ht)) dX0_moveUp_17 ?_
    refine lv_icmp_ge (tgt := 71) hx hb dX0_moveUp_18 (by decide) (fun h => absurd h (nI_ge (by omega) (by omega))) (fun _ => ?_)
    refine lv_aload_n hx hb dX0_moveUp_21 rfl (lv_at hl 0 rfl) ?_
    refine lv_iload hx hb dX0_moveUp_22 (lv_at hl 5 rfl) ?_
    refine lv_iload_n hx hb dX0_moveUp_24 rfl (lv_at hl 3 rfl) ?_
    refine lv_isub hx hb dX0_moveUp_25 ?_
    refine mc_l0 (va_runS (As := [.ref a, .int (nI i - nI (s0 / 32))]) (rest := []) ⟨hx, hb, hml, hown, hts⟩ (c_X0_limbAt l G b0 (hput H t (aJ G k g)) ((hput_ne _ hat).trans ha) hn (nI i - nI (s0 / 32))) (va_cwS 2 hts gX0_moveUp_X0_limbAt rfl rfl rfl (by decide +kernel) ⟨Nat.le_of_ble_eq_true rfl, Nat.le_of_ble_eq_true rfl⟩) (mp_S hK) rfl rfl hl.1 rfl (lv_room (Nat.le_of_ble_eq_true rfl)) dX0_moveUp_26 ⟨Nat.le_of_ble_eq_true rfl, Nat.le_of_ble_eq_true rfl⟩) hLc (fun r H1 locs hP hLc => ?_)
    obtain ⟨rfl, rfl⟩ := hP
    rw [pk_sub_toInt (by omega) (by omega)]
    refine lv_iload hx hb dX0_moveUp_29 (lv_at hl 4 rfl) ?_
    refine m_lshl hx hb (by omega) dX0_moveUp_31 ?_
    refine lv_lstore (lv' := [(6, .long (lN ((latI n f ((i : Int) - ((s0 / 32 : Nat) : Int))) * 2 ^ (s0 % 32)))), (0, .ref a), (1, .int (nI s0)), (2, .ref t), (3, .int (nI (s0 / 32))), (4, .int (nI (s0 % 32))), (5, .int (nI i))]) hx hb dX0_moveUp_32 hl (by decide) rfl (fun ls hl => ?_)
    refine lv_aload_n hx hb dX0_moveUp_34 rfl (lv_at hl 1 rfl) ?_
    refine lv_iload hx hb dX0_moveUp_35 (lv_at hl 6 rfl) ?_
    refine lv_iload_n hx hb dX0_moveUp_37 rfl (lv_at hl 4 rfl) ?_
    refine lv_isub hx hb dX0_moveUp_38 ?_
    refine lv_iconst (v := nI 1) hx hb dX0_moveUp_39 (by decide) ?_
    refine lv_isub hx hb dX0_moveUp_40 ?_
    refine mc_l0 (va_runS (As := [.ref a, .int ((nI i - nI (s0 / 32)) - nI 1)]) (rest := []) ⟨hx, hb, hml, hown, hts⟩ (c_X0_limbAt l G b0 (hput H t (aJ G k g)) ((hput_ne _ hat).trans ha) hn ((nI i - nI (s0 / 32)) - nI 1)) (va_cwS 2 hts gX0_moveUp_X0_limbAt rfl rfl rfl (by decide +kernel) ⟨Nat.le_of_ble_eq_true rfl, Nat.le_of_ble_eq_true rfl⟩) (mp_S hK) rfl rfl hl.1 rfl (lv_room (Nat.le_of_ble_eq_true rfl)) dX0_moveUp_41 ⟨Nat.le_of_ble_eq_true rfl, Nat.le_of_ble_eq_true rfl⟩) hLc (fun r H1 locs hP hLc => ?_)
    obtain ⟨rfl, rfl⟩ := hP
    rw [sub1_toInt (by omega) (by omega)]
    refine lv_bipush (v := nI 32) hx hb dX0_moveUp_44 (by decide) ?_
    refine lv_iload hx hb dX0_moveUp_46 (lv_at hl 5 rfl) ?_
    refine m_isub (a := 32) (b := s0 % 32) hx hb (by omega) dX0_moveUp_48 ?_
    refine m_lushr hx hb (by omega) (by omega) dX0_moveUp_49 ?_
    refine lv_lstore (lv' := [(8, .long (lN ((latI n f ((i : Int) - ((s0 / 32 : Nat) : Int) - 1)) / 2 ^ (32 - (s0 % 32))))), (6, .long (lN ((latI n f ((i : Int) - ((s0 / 32 : Nat) : Int))) * 2 ^ (s0 % 32)))), (0, .ref a), (1, .int (nI s0)), (2, .ref t), (3, .int (nI (s0 / 32))), (4, .int (nI (s0 % 32))), (5, .int (nI i))]) hx hb dX0_moveUp_50 hl (by decide) rfl (fun ls hl => ?_)
    refine lv_aload_n hx hb dX0_moveUp_52 rfl (lv_at hl 4 rfl) ?_
    refine lv_iload hx hb dX0_moveUp_53 (lv_at hl 7 rfl) ?_
    refine lv_lload hx hb dX0_moveUp_55 (lv_at hl 1 rfl) ?_
    refine lv_lload hx hb dX0_moveUp_57 (lv_at hl 0 rfl) ?_
    refine m_lor hx hb (by omega) (by omega) dX0_moveUp_59 ?_
    refine lv_ldc2 (v := lN 4294967295) hx hb hown (hts (.constantLong RX0 28 (lN 4294967295)) (by decide +kernel)) dX0_moveUp_60 ?_
    refine m_mask hx hb dX0_moveUp_63 ?_
    rw [or_sum h4, ← up_limb hf]
    refine m_last (n := k) (f := g) (b0 := b0) hx hb hK (hput_self _ (lt_of_at ht)) (by omega) (by omega) (hbt) hLc dX0_moveUp_64 (fun locs hLc => ?_)
    rw [hput_put]
    refine lv_iinc (v := nI (i + 1)) (lv' := [(5, .int (nI (i + 1))), (8, .long (lN ((latI n f ((i : Int) - ((s0 / 32 : Nat) : Int) - 1)) / 2 ^ (32 - (s0 % 32))))), (6, .long (lN ((latI n f ((i : Int) - ((s0 / 32 : Nat) : Int))) * 2 ^ (s0 % 32)))), (0, .ref a), (1, .int (nI s0)), (2, .ref t), (3, .int (nI (s0 / 32))), (4, .int (nI (s0 % 32)))]) hx hb dX0_moveUp_65 hl (k := 7) rfl (nI_add i 1) (by decide) rfl (fun ls hl => ?_)
    refine lv_goto (tgt := 14) hx hb dX0_moveUp_68 (by decide) ?_
    exact ih (i + 1) _ (by omega) (fup_eq hg rfl) _ _ hLc (lv_sub hl [3, 4, 5, 6, 7, 0] rfl)
set_option maxRecDepth 100000 in
set_option maxHeartbeats 4000000 in
theorem c_X0_moveUp (l : Launch) (G : gG) (b0 : Nat) (H : Heap) {a t n k s0 : Nat} {f f0 : Nat → Nat} (ha : H[a]? = some (aJ G n f)) (ht : H[t]? = some (aJ G k f0)) (hn : n < 2 ^ 31) (hk : k < 2 ^ 20) (hs0 : s0 < 2 ^ 20) (hf : lim f n) (hat : a ≠ t) (hbt : b0 ≤ t) : Met l yX0_moveUp wsX0_moveUp ({ frames := 1, cells := 0, slots := 0, locals := 21 } : Room) (PcH G H [.ref a, .int (nI s0), .ref t]) (QcV (fun H1 => ∃ g : Nat → Nat, (∀ i, i < k → g i = vl f n * 2 ^ s0 / 4294967296 ^ i % 4294967296) ∧ H1 = hput H t (aJ G k g))) 0 0 (fre b0) := by
  refine m_enter (cc := cX0_moveUp) (maxL := 10) (ret := none) (own := RX0) (by decide) rfl rfl (Nat.le_of_ble_eq_true rfl) ?_
  intro p e s m below meth c ls hF hnm hH hl
  have hl : lv_has ls 10 [(0, .ref a), (1, .int (nI s0)), (2, .ref t)] := hl
  have hLc : lcs b0 [] := lcs_nil b0
  obtain ⟨hx, hb, hr, hml, hown, hts, hlocks, hK⟩ := id hF
  refine lv_iload_n hx hb dX0_moveUp_0 rfl (lv_at hl 1 rfl) ?_
  refine lv_bipush (v := nI 32) hx hb dX0_moveUp_1 (by decide) ?_
  refine m_idiv (a := s0) (b := 32) hx hb (by omega) (by decide) (by decide) dX0_moveUp_3 ?_
  refine lv_istore_n (lv' := [(3, .int (nI (s0 / 32))), (0, .ref a), (1, .int (nI s0)), (2, .ref t)]) hx hb dX0_moveUp_4 rfl hl (by decide) rfl (fun ls hl => ?_)
  refine lv_iload_n hx hb dX0_moveUp_5 rfl (lv_at hl 2 rfl) ?_
  refine lv_bipush (v := nI 32) hx hb dX0_moveUp_6 (by decide) ?_
  refine m_irem (a := s0) (b := 32) hx hb (by omega) (by decide) (by decide) dX0_moveUp_8 ?_
  refine lv_istore (lv' := [(4, .int (nI (s0 % 32))), (3, .int (nI (s0 / 32))), (0, .ref a), (1, .int (nI s0)), (2, .ref t)]) hx hb dX0_moveUp_9 hl (by decide) rfl (fun ls hl => ?_)
  refine lv_iconst (v := nI 0) hx hb dX0_moveUp_11 (by decide) ?_
  refine lv_istore (lv' := [(5, .int (nI 0)), (4, .int (nI (s0 % 32))), (3, .int (nI (s0 / 32))), (0, .ref a), (1, .int (nI s0)), (2, .ref t)]) hx hb dX0_moveUp_12 hl (by decide) rfl (fun ls hl => ?_)
  have hl := lv_sub (l' := [(0, .ref a), (1, .int (nI s0)), (2, .ref t), (3, .int (nI (s0 / 32))), (4, .int (nI (s0 % 32))), (5, .int (nI 0))]) hl [3, 4, 5, 2, 1, 0] rfl
  have hh := moveUp_14 (l := l) (e := e) (below := below) hF ha ht hn hk hs0 hf hat hbt k 0 f0 (by omega) (fun j hj => absurd hj (by omega)) _ _ hLc hl
  rw [hput_same ht] at hh
  exact hh

set_option maxRecDepth 100000 in
set_option maxHeartbeats 4000000 in
theorem moveDown_14 {p : Program} {l : Launch} {e : Env} {s : State} {m : MethodId} {args : Array Value} {below : List Frame} {meth : Method} {c : Code} {G : gG} {b0 : Nat} {H : Heap} {a t n k s0 : Nat} {f f0 : Nat → Nat} (hF : FxM p s m args meth c G cX0_moveDown 10 none RX0 wsX0_moveDown) (ha : H[a]? = some (aJ G n f)) (ht : H[t]? = some (aJ G k f0)) (hn : n < 2 ^ 31) (hk : k < 2 ^ 20) (hs0 : s0 < 2 ^ 20) (hf : lim f n) (hat : a ≠ t) (hbt : b0 ≤ t) : ∀ (q : Nat) (i : Nat) (g : Nat → Nat), i + q = k → (∀ j, j < i → g j = vl f n / 2 ^ s0 / 4294967296 ^ j % 4294967296) → ∀ (locs : List Loc) (ls : Array Slot), lcs b0 locs → lv_has ls 10 [(0, .ref a), (1, .int (nI s0)), (2, .ref t), (3, .int (nI (s0 / 32))), (4, .int (nI (s0 % 32))), (5, .int (nI i))] → W p l e ({ frames := 1, cells := 0, slots := 0, locals := 21 } : Room) s m args below meth c (hput H t (aJ G k g)) locs 0 0 (MQ below (QcV (fun H1 => ∃ g : Nat → Nat, (∀ i, i < k → g i = vl f n / 2 ^ s0 / 4294967296 ^ i % 4294967296) ∧ H1 = hput H t (aJ G k g))) args s 0 0 (fre b0)) (F0 m 14 ls []) := by
  obtain ⟨hx, hb, hr, hml, hown, hts, hlocks, hK⟩ := id hF
  intro q
  induction q with
  | zero =>
    intro i g hi hg locs ls hLc hl
    refine lv_iload hx hb dX0_moveDown_14 (lv_at hl 5 rfl) ?_
    refine lv_aload_n hx hb dX0_moveDown_16 rfl (lv_at hl 2 rfl) ?_
    refine m_alenJ (n := k) (f := g) hx hb hK (hput_self _ (lt_of_at ht)) dX0_moveDown_17 ?_
    refine lv_icmp_ge (tgt := 71) hx hb dX0_moveDown_18 (by decide) (fun _ => ?_) (fun h => absurd (nI_le (by omega) (by omega)) h)
    exact m_vret hx hb hr hlocks hLc dX0_moveDown_71 (⟨g, fun j hj => hg j (by omega), rfl⟩)
  | succ q ih =>
    intro i g hi hg locs ls hLc hl
    have hin : i < k := by omega
    have h1 : lat n f (i + s0 / 32) < 4294967296 := lat_lim hf _
    have h2 : lat n f (i + s0 / 32 + 1) < 4294967296 := lat_lim hf _
    have h3 := mul_pow_lt h2 (show 32 - s0 % 32 ≤ 32 by omega)
    have h4 := div_lt_pow2 h1 (show s0 % 32 ≤ 32 by omega)
    have h5 := Nat.div_le_self (lat n f (i + s0 / 32)) (2 ^ (s0 % 32))
    refine lv_iload hx hb dX0_moveDown_14 (lv_at hl 5 rfl) ?_
    refine lv_aload_n hx hb dX0_moveDown_16 rfl (lv_at hl 2 rfl) ?_
    refine m_alenJ (n := k) (f := g) hx hb hK (hput_self _ (lt_of_at ht)) dX0_moveDown_17 ?_
    refine lv_icmp_ge (tgt := 71) hx hb dX0_moveDown_18 (by decide) (fun h => absurd h (nI_ge (by omega) (by omega))) (fun _ => ?_)
    refine lv_aload_n hx hb dX0_moveDown_21 rfl (lv_at hl 0 rfl) ?_
    refine lv_iload hx hb dX0_moveDown_22 (lv_at hl 5 rfl) ?_
    refine lv_iload_n hx hb dX0_moveDown_24 rfl (lv_at hl 3 rfl) ?_
    refine m_iadd (a := i) (b := s0 / 32) hx hb dX0_moveDown_25 ?_
    refine mc_l0 (va_runS (As := [.ref a, .int (nI (i + (s0 / 32)))]) (rest := []) ⟨hx, hb, hml, hown, hts⟩ (c_X0_limbAt l G b0 (hput H t (aJ G k g)) ((hput_ne _ hat).trans ha) hn (nI (i + s0 / 32))) (va_cwS 2 hts gX0_moveDown_X0_limbAt rfl rfl rfl (by decide +kernel) ⟨Nat.le_of_ble_eq_true rfl, Nat.le_of_ble_eq_true rfl⟩) (mp_S hK) rfl rfl hl.1 rfl (lv_room (Nat.le_of_ble_eq_true rfl)) dX0_moveDown_26 ⟨Nat.le_of_ble_eq_true rfl, Nat.le_of_ble_eq_true rfl⟩) hLc (fun r H1 locs hP hLc => ?_)
    obtain ⟨rfl, rfl⟩ := hP
    rw [nI_toInt (by omega), latI_nat]
    refine lv_iload hx hb dX0_moveDown_29 (lv_at hl 4 rfl) ?_
    refine m_lushr hx hb (by omega) (by omega) dX0_moveDown_31 ?_
    refine lv_lstore (lv' := [(6, .long (lN ((lat n f (i + s0 / 32)) / 2 ^ (s0 % 32)))), (0, .ref a), (1, .int (nI s0)), (2, .ref t), (3, .int (nI (s0 / 32))), (4, .int (nI (s0 % 32))), (5, .int (nI i))]) hx hb dX0_moveDown_32 hl (by decide) rfl (fun ls hl => ?_)
    refine lv_aload_n hx hb dX0_moveDown_34 rfl (lv_at hl 1 rfl) ?_
    refine lv_iload hx hb dX0_moveDown_35 (lv_at hl 6 rfl) ?_
    refine lv_iload_n hx hb dX0_moveDown_37 rfl (lv_at hl 4 rfl) ?_
    refine m_iadd (a := i) (b := s0 / 32) hx hb dX0_moveDown_38 ?_
    refine lv_iconst (v := nI 1) hx hb dX0_moveDown_39 (by decide) ?_
    refine m_iadd (a := i + (s0 / 32)) (b := 1) hx hb dX0_moveDown_40 ?_
    refine mc_l0 (va_runS (As := [.ref a, .int (nI ((i + (s0 / 32)) + 1))]) (rest := []) ⟨hx, hb, hml, hown, hts⟩ (c_X0_limbAt l G b0 (hput H t (aJ G k g)) ((hput_ne _ hat).trans ha) hn (nI (i + s0 / 32 + 1))) (va_cwS 2 hts gX0_moveDown_X0_limbAt rfl rfl rfl (by decide +kernel) ⟨Nat.le_of_ble_eq_true rfl, Nat.le_of_ble_eq_true rfl⟩) (mp_S hK) rfl rfl hl.1 rfl (lv_room (Nat.le_of_ble_eq_true rfl)) dX0_moveDown_41 ⟨Nat.le_of_ble_eq_true rfl, Nat.le_of_ble_eq_true rfl⟩) hLc (fun r H1 locs hP hLc => ?_)
    obtain ⟨rfl, rfl⟩ := hP
    rw [nI_toInt (by omega), latI_nat]
    refine lv_bipush (v := nI 32) hx hb dX0_moveDown_44 (by decide) ?_
    refine lv_iload hx hb dX0_moveDown_46 (lv_at hl 5 rfl) ?_
    refine m_isub (a := 32) (b := s0 % 32) hx hb (by omega) dX0_moveDown_48 ?_
    refine m_lshl hx hb (by omega) dX0_moveDown_49 ?_
    refine lv_lstore (lv' := [(8, .long (lN ((lat n f (i + s0 / 32 + 1)) * 2 ^ (32 - (s0 % 32))))), (6, .long (lN ((lat n f (i + s0 / 32)) / 2 ^ (s0 % 32)))), (0, .ref a), (1, .int (nI s0)), (2, .ref t), (3, .int (nI (s0 / 32))), (4, .int (nI (s0 % 32))), (5, .int (nI i))]) hx hb dX0_moveDown_50 hl (by decide) rfl (fun ls hl => ?_)
    refine lv_aload_n hx hb dX0_moveDown_52 rfl (lv_at hl 4 rfl) ?_
    refine lv_iload hx hb dX0_moveDown_53 (lv_at hl 7 rfl) ?_
    refine lv_lload hx hb dX0_moveDown_55 (lv_at hl 0 rfl) ?_
    refine lv_lload hx hb dX0_moveDown_57 (lv_at hl 1 rfl) ?_
    refine m_lor hx hb (by omega) (by omega) dX0_moveDown_59 ?_
    refine lv_ldc2 (v := lN 4294967295) hx hb hown (hts (.constantLong RX0 28 (lN 4294967295)) (by decide +kernel)) dX0_moveDown_60 ?_
    refine m_mask hx hb dX0_moveDown_63 ?_
    rw [or_sum h4, ← dn_limb hf]
    refine m_last (n := k) (f := g) (b0 := b0) hx hb hK (hput_self _ (lt_of_at ht)) (by omega) (by omega) (hbt) hLc dX0_moveDown_64 (fun locs hLc => ?_)
    rw [hput_put]
    refine lv_iinc (v := nI (i + 1)) (lv' := [(5, .int (nI (i + 1))), (8, .long (lN ((lat n f (i + s0 / 32 + 1)) * 2 ^ (32 - (s0 % 32))))), (6, .long (lN ((lat n f (i + s0 / 32)) / 2 ^ (s0 % 32)))), (0, .ref a), (1, .int (nI s0)), (2, .ref t), (3, .int (nI (s0 / 32))), (4, .int (nI (s0 % 32)))]) hx hb dX0_moveDown_65 hl (k := 7) rfl (nI_add i 1) (by decide) rfl (fun ls hl => ?_)
    refine lv_goto (tgt := 14) hx hb dX0_moveDown_68 (by decide) ?_
    exact ih (i + 1) _ (by omega) (fup_eq hg rfl) _ _ hLc (lv_sub hl [3, 4, 5, 6, 7, 0] rfl)
set_option maxRecDepth 100000 in
set_option maxHeartbeats 4000000 in
theorem c_X0_moveDown (l : Launch) (G : gG) (b0 : Nat) (H : Heap) {a t n k s0 : Nat} {f f0 : Nat → Nat} (ha : H[a]? = some (aJ G n f)) (ht : H[t]? = some (aJ G k f0)) (hn : n < 2 ^ 31) (hk : k < 2 ^ 20) (hs0 : s0 < 2 ^ 20) (hf : lim f n) (hat : a ≠ t) (hbt : b0 ≤ t) : Met l yX0_moveDown wsX0_moveDown ({ frames := 1, cells := 0, slots := 0, locals := 21 } : Room) (PcH G H [.ref a, .int (nI s0), .ref t]) (QcV (fun H1 => ∃ g : Nat → Nat, (∀ i, i < k → g i = vl f n / 2 ^ s0 / 4294967296 ^ i % 4294967296) ∧ H1 = hput H t (aJ G k g))) 0 0 (fre b0) := by
  refine m_enter (cc := cX0_moveDown) (maxL := 10) (ret := none) (own := RX0) (by decide) rfl rfl (Nat.le_of_ble_eq_true rfl) ?_
  intro p e s m below meth c ls hF hnm hH hl
  have hl : lv_has ls 10 [(0, .ref a), (1, .int (nI s0)), (2, .ref t)] := hl
  have hLc : lcs b0 [] := lcs_nil b0
  obtain ⟨hx, hb, hr, hml, hown, hts, hlocks, hK⟩ := id hF
  refine lv_iload_n hx hb dX0_moveDown_0 rfl (lv_at hl 1 rfl) ?_
  refine lv_bipush (v := nI 32) hx hb dX0_moveDown_1 (by decide) ?_
  refine m_idiv (a := s0) (b := 32) hx hb (by omega) (by decide) (by decide) dX0_moveDown_3 ?_
  refine lv_istore_n (lv' := [(3, .int (nI (s0 / 32))), (0, .ref a), (1, .int (nI s0)), (2, .ref t)]) hx hb dX0_moveDown_4 rfl hl (by decide) rfl (fun ls hl => ?_)
  refine lv_iload_n hx hb dX0_moveDown_5 rfl (lv_at hl 2 rfl) ?_
  refine lv_bipush (v := nI 32) hx hb dX0_moveDown_6 (by decide) ?_
  refine m_irem (a := s0) (b := 32) hx hb (by omega) (by decide) (by decide) dX0_moveDown_8 ?_
  refine lv_istore (lv' := [(4, .int (nI (s0 % 32))), (3, .int (nI (s0 / 32))), (0, .ref a), (1, .int (nI s0)), (2, .ref t)]) hx hb dX0_moveDown_9 hl (by decide) rfl (fun ls hl => ?_)
  refine lv_iconst (v := nI 0) hx hb dX0_moveDown_11 (by decide) ?_
  refine lv_istore (lv' := [(5, .int (nI 0)), (4, .int (nI (s0 % 32))), (3, .int (nI (s0 / 32))), (0, .ref a), (1, .int (nI s0)), (2, .ref t)]) hx hb dX0_moveDown_12 hl (by decide) rfl (fun ls hl => ?_)
  have hl := lv_sub (l' := [(0, .ref a), (1, .int (nI s0)), (2, .ref t), (3, .int (nI (s0 / 32))), (4, .int (nI (s0 % 32))), (5, .int (nI 0))]) hl [3, 4, 5, 2, 1, 0] rfl
  have hh := moveDown_14 (l := l) (e := e) (below := below) hF ha ht hn hk hs0 hf hat hbt k 0 f0 (by omega) (fun j hj => absurd hj (by omega)) _ _ hLc hl
  rw [hput_same ht] at hh
  exact hh

set_option maxRecDepth 100000 in
set_option maxHeartbeats 4000000 in
theorem multiply_41 {p : Program} {l : Launch} {e : Env} {s : State} {m : MethodId} {args : Array Value} {below : List Frame} {meth : Method} {c : Code} {G : gG} {b0 : Nat} {H : Heap} {a b t n1 n2 : Nat} {f1 f2 f0 : Nat → Nat} {i : Nat} (hF : FxM p s m args meth c G cX0_multiply 11 none RX0 wsX0_multiply) (ha : H[a]? = some (aJ G n1 f1)) (hb0 : H[b]? = some (aJ G n2 f2)) (ht : H[t]? = some (aJ G 32 f0)) (hn1 : n1 ≤ 16) (hn2 : n2 ≤ 16) (hf1 : lim f1 n1) (hf2 : lim f2 n2) (hat : a ≠ t) (hbn : b ≠ t) (hbt : b0 ≤ t) (hi : i < us f1 n1) (K : ∀ (c1 : Nat) (g : Nat → Nat), lim g 32 → c1 < 4294967296 → (∀ z, i + us f2 n2 ≤ z → z < 32 → g z = 0) → vl g 32 + c1 * 4294967296 ^ (i + us f2 n2) = vl f1 i * vl f2 (us f2 n2) + f1 i * 4294967296 ^ i * vl f2 (us f2 n2) → ∀ (locs : List Loc) (ls : Array Slot), lcs b0 locs → lv_has ls 11 [(0, .ref a), (1, .ref b), (2, .ref t), (3, .int (nI (us f1 n1))), (4, .int (nI (us f2 n2))), (5, .int (nI i)), (6, .long (lN c1))] → W p l e ({ frames := 1, cells := 0, slots := 0, locals := 24 } : Room) s m args below meth c (hput H t (aJ G 32 g)) locs 0 0 (MQ below (QcV (fun H1 => ∃ g : Nat → Nat, lim g 32 ∧ vl g 32 = vl f1 n1 * vl f2 n2 ∧ H1 = hput H t (aJ G 32 g))) args s 0 0 (fre b0)) (F0 m 96 ls [])) : ∀ (q : Nat) (j c1 : Nat) (g : Nat → Nat), j + q = us f2 n2 → lim g 32 → c1 < 4294967296 → (∀ z, i + us f2 n2 ≤ z → z < 32 → g z = 0) → vl g 32 + c1 * 4294967296 ^ (i + j) = vl f1 i * vl f2 (us f2 n2) + f1 i * 4294967296 ^ i * vl f2 j → ∀ (locs : List Loc) (ls : Array Slot), lcs b0 locs → lv_has ls 11 [(0, .ref a), (1, .ref b), (2, .ref t), (3, .int (nI (us f1 n1))), (4, .int (nI (us f2 n2))), (5, .int (nI i)), (6, .long (lN c1)), (8, .int (nI j))] → W p l e ({ frames := 1, cells := 0, slots := 0, locals := 24 } : Room) s m args below meth c (hput H t (aJ G 32 g)) locs 0 0 (MQ below (QcV (fun H1 => ∃ g : Nat → Nat, lim g 32 ∧ vl g 32 = vl f1 n1 * vl f2 n2 ∧ H1 = hput H t (aJ G 32 g))) args s 0 0 (fre b0)) (F0 m 41 ls []) := by
  obtain ⟨hx, hb, hr, hml, hown, hts, hlocks, hK⟩ := id hF
  intro q
  induction q with
  | zero =>
    intro j c1 g hj hg hc h0 hv locs ls hLc hl
    have hA := us_le f1 n1
    have hB := us_le f2 n2
    obtain hjb : j = us f2 n2 := by omega
    rw [hjb] at hv
    refine lv_iload hx hb dX0_multiply_41 (lv_at hl 7 rfl) ?_
    refine lv_iload hx hb dX0_multiply_43 (lv_at hl 4 rfl) ?_
    refine lv_icmp_ge (tgt := 96) hx hb dX0_multiply_45 (by decide) (fun _ => ?_) (fun h => absurd (nI_le (by omega) (by omega)) h)
    exact K c1 g hg hc h0 hv _ _ hLc (lv_sub hl [0, 1, 2, 3, 4, 5, 6] rfl)
  | succ q ih =>
    intro j c1 g hj hg hc h0 hv locs ls hLc hl
    have hA := us_le f1 n1
    have hB := us_le f2 n2
    have h1 := hf1 i (by omega)
    have h2 := hf2 j (by omega)
    have h3 := hg (i + j) (by omega)
    have hM := mul_lt_B2 h1 h2 h3 hc
    have hQ := mul_div_B h1 h2 h3 hc
    have hxl : (f1 i * f2 j + g (i + j) + c1) % 4294967296 < 4294967296 := Nat.mod_lt _ (by decide)
    refine lv_iload hx hb dX0_multiply_41 (lv_at hl 7 rfl) ?_
    refine lv_iload hx hb dX0_multiply_43 (lv_at hl 4 rfl) ?_
    refine lv_icmp_ge (tgt := 96) hx hb dX0_multiply_45 (by decide) (fun h => absurd h (nI_ge (by omega) (by omega))) (fun _ => ?_)
    refine lv_aload_n hx hb dX0_multiply_48 rfl (lv_at hl 0 rfl) ?_
    refine lv_iload hx hb dX0_multiply_49 (lv_at hl 5 rfl) ?_
    refine m_lald (n := n1) (f := f1) hx hb hK ((hput_ne _ hat).trans ha) (by omega) (by omega) dX0_multiply_51 ?_
    refine lv_aload_n hx hb dX0_multiply_52 rfl (lv_at hl 1 rfl) ?_
    refine lv_iload hx hb dX0_multiply_53 (lv_at hl 7 rfl) ?_
    refine m_lald (n := n2) (f := f2) hx hb hK ((hput_ne _ hbn).trans hb0) (by omega) (by omega) dX0_multiply_55 ?_
    refine m_lmul hx hb dX0_multiply_56 ?_
    refine lv_aload_n hx hb dX0_multiply_57 rfl (lv_at hl 2 rfl) ?_
    refine lv_iload hx hb dX0_multiply_58 (lv_at hl 5 rfl) ?_
    refine lv_iload hx hb dX0_multiply_60 (lv_at hl 7 rfl) ?_
    refine m_iadd (a := i) (b := j) hx hb dX0_multiply_62 ?_
    refine m_lald (n := 32) (f := g) hx hb hK (hput_self _ (lt_of_at ht)) (by omega) (by decide) dX0_multiply_63 ?_
    refine m_ladd hx hb dX0_multiply_64 ?_
    refine lv_lload hx hb dX0_multiply_65 (lv_at hl 6 rfl) ?_
    refine m_ladd hx hb dX0_multiply_67 ?_
    refine lv_lstore (lv' := [(9, .long (lN ((((f1 i) * (f2 j)) + (g (i + j))) + c1))), (0, .ref a), (1, .ref b), (2, .ref t), (3, .int (nI (us f1 n1))), (4, .int (nI (us f2 n2))), (5, .int (nI i)), (6, .long (lN c1)), (8, .int (nI j))]) hx hb dX0_multiply_68 hl (by decide) rfl (fun ls hl => ?_)
    refine lv_aload_n hx hb dX0_multiply_70 rfl (lv_at hl 3 rfl) ?_
    refine lv_iload hx hb dX0_multiply_71 (lv_at hl 6 rfl) ?_
    refine lv_iload hx hb dX0_multiply_73 (lv_at hl 8 rfl) ?_
    refine m_iadd (a := i) (b := j) hx hb dX0_multiply_75 ?_
    refine lv_lload hx hb dX0_multiply_76 (lv_at hl 0 rfl) ?_
    refine lv_ldc2 (v := lN 4294967295) hx hb hown (hts (.constantLong RX0 28 (lN 4294967295)) (by decide +kernel)) dX0_multiply_78 ?_
    refine m_mask hx hb dX0_multiply_81 ?_
    refine m_last (n := 32) (f := g) (b0 := b0) hx hb hK (hput_self _ (lt_of_at ht)) (by omega) (by decide) (hbt) hLc dX0_multiply_82 (fun locs hLc => ?_)
    rw [hput_put]
    refine lv_lload hx hb dX0_multiply_83 (lv_at hl 0 rfl) ?_
    refine lv_bipush (v := nI 32) hx hb dX0_multiply_85 (by decide) ?_
    refine m_lushr32 hx hb (by omega) dX0_multiply_87 ?_
    refine lv_lstore (lv' := [(6, .long (lN (((((f1 i) * (f2 j)) + (g (i + j))) + c1) / 4294967296))), (9, .long (lN ((((f1 i) * (f2 j)) + (g (i + j))) + c1))), (0, .ref a), (1, .ref b), (2, .ref t), (3, .int (nI (us f1 n1))), (4, .int (nI (us f2 n2))), (5, .int (nI i)), (8, .int (nI j))]) hx hb dX0_multiply_88 hl (by decide) rfl (fun ls hl => ?_)
    refine lv_iinc (v := nI (j + 1)) (lv' := [(8, .int (nI (j + 1))), (6, .long (lN (((((f1 i) * (f2 j)) + (g (i + j))) + c1) / 4294967296))), (9, .long (lN ((((f1 i) * (f2 j)) + (g (i + j))) + c1))), (0, .ref a), (1, .ref b), (2, .ref t), (3, .int (nI (us f1 n1))), (4, .int (nI (us f2 n2))), (5, .int (nI i))]) hx hb dX0_multiply_90 hl (k := 8) rfl (nI_add j 1) (by decide) rfl (fun ls hl => ?_)
    refine lv_goto (tgt := 41) hx hb dX0_multiply_93 (by decide) ?_
    exact ih (j + 1) _ _ (by omega) (lim_fup hg hxl) hQ (fun z h4 h5 => by rw [fup_n _ _ (by omega)]; exact h0 z h4 h5) (mul_step (bu := 0) (by omega) hv) _ _ hLc (lv_sub hl [3, 4, 5, 6, 7, 8, 1, 0] rfl)
set_option maxRecDepth 100000 in
set_option maxHeartbeats 4000000 in
theorem multiply_19 {p : Program} {l : Launch} {e : Env} {s : State} {m : MethodId} {args : Array Value} {below : List Frame} {meth : Method} {c : Code} {G : gG} {b0 : Nat} {H : Heap} {a b t n1 n2 : Nat} {f1 f2 f0 : Nat → Nat} (hF : FxM p s m args meth c G cX0_multiply 11 none RX0 wsX0_multiply) (ha : H[a]? = some (aJ G n1 f1)) (hb0 : H[b]? = some (aJ G n2 f2)) (ht : H[t]? = some (aJ G 32 f0)) (hn1 : n1 ≤ 16) (hn2 : n2 ≤ 16) (hf1 : lim f1 n1) (hf2 : lim f2 n2) (hat : a ≠ t) (hbn : b ≠ t) (hbt : b0 ≤ t) : ∀ (q : Nat) (i : Nat) (g : Nat → Nat), i + q = us f1 n1 → lim g 32 → (∀ z, i + us f2 n2 ≤ z → z < 32 → g z = 0) → vl g 32 = vl f1 i * vl f2 (us f2 n2) → ∀ (locs : List Loc) (ls : Array Slot), lcs b0 locs → lv_has ls 11 [(0, .ref a), (1, .ref b), (2, .ref t), (3, .int (nI (us f1 n1))), (4, .int (nI (us f2 n2))), (5, .int (nI i))] → W p l e ({ frames := 1, cells := 0, slots := 0, locals := 24 } : Room) s m args below meth c (hput H t (aJ G 32 g)) locs 0 0 (MQ below (QcV (fun H1 => ∃ g : Nat → Nat, lim g 32 ∧ vl g 32 = vl f1 n1 * vl f2 n2 ∧ H1 = hput H t (aJ G 32 g))) args s 0 0 (fre b0)) (F0 m 19 ls []) := by
  obtain ⟨hx, hb, hr, hml, hown, hts, hlocks, hK⟩ := id hF
  intro q
  induction q with
  | zero =>
    intro i g hi hg h0 hv locs ls hLc hl
    have hA := us_le f1 n1
    have hB := us_le f2 n2
    refine lv_iload hx hb dX0_multiply_19 (lv_at hl 5 rfl) ?_
    refine lv_iload_n hx hb dX0_multiply_21 rfl (lv_at hl 3 rfl) ?_
    refine lv_icmp_ge (tgt := 111) hx hb dX0_multiply_22 (by decide) (fun _ => ?_) (fun h => absurd (nI_le (by omega) (by omega)) h)
    exact m_vret hx hb hr hlocks hLc dX0_multiply_111 (⟨g, hg, by rw [hv, show i = us f1 n1 by omega, ← vl_us, ← vl_us], rfl⟩)
  | succ q ih =>
    intro i g hi hg h0 hv locs ls hLc hl
    have hA := us_le f1 n1
    have hB := us_le f2 n2
    refine lv_iload hx hb dX0_multiply_19 (lv_at hl 5 rfl) ?_
    refine lv_iload_n hx hb dX0_multiply_21 rfl (lv_at hl 3 rfl) ?_
    refine lv_icmp_ge (tgt := 111) hx hb dX0_multiply_22 (by decide) (fun h => absurd h (nI_ge (by omega) (by omega))) (fun _ => ?_)
    refine lv_iload hx hb dX0_multiply_25 (lv_at hl 5 rfl) ?_
    refine lv_iload hx hb dX0_multiply_27 (lv_at hl 4 rfl) ?_
    refine m_iadd (a := i) (b := us f2 n2) hx hb dX0_multiply_29 ?_
    refine lv_aload_n hx hb dX0_multiply_30 rfl (lv_at hl 2 rfl) ?_
    refine m_alenJ (n := 32) (f := g) hx hb hK (hput_self _ (lt_of_at ht)) dX0_multiply_31 ?_
    refine lv_icmp_ge (tgt := 111) hx hb dX0_multiply_32 (by decide) (fun h => absurd h (nI_ge (by omega) (by decide))) (fun _ => ?_)
    refine lv_lconst (v := lN 0) hx hb dX0_multiply_35 (by decide) ?_
    refine lv_lstore (lv' := [(6, .long (lN 0)), (0, .ref a), (1, .ref b), (2, .ref t), (3, .int (nI (us f1 n1))), (4, .int (nI (us f2 n2))), (5, .int (nI i))]) hx hb dX0_multiply_36 hl (by decide) rfl (fun ls hl => ?_)
    refine lv_iconst (v := nI 0) hx hb dX0_multiply_38 (by decide) ?_
    refine lv_istore (lv' := [(8, .int (nI 0)), (6, .long (lN 0)), (0, .ref a), (1, .ref b), (2, .ref t), (3, .int (nI (us f1 n1))), (4, .int (nI (us f2 n2))), (5, .int (nI i))]) hx hb dX0_multiply_39 hl (by decide) rfl (fun ls hl => ?_)
    refine multiply_41 (l := l) (e := e) (below := below) hF ha hb0 ht hn1 hn2 hf1 hf2 hat hbn hbt (by omega) ?_ (us f2 n2) 0 0 g (by omega) hg (by decide) h0 (by rw [hv]; simp [vl]) _ _ hLc (lv_sub hl [2, 3, 4, 5, 6, 7, 1, 0] rfl)
    intro c1 g hg hc h0 hv locs ls hLc hl
    refine lv_aload_n hx hb dX0_multiply_96 rfl (lv_at hl 2 rfl) ?_
    refine lv_iload hx hb dX0_multiply_97 (lv_at hl 5 rfl) ?_
    refine lv_iload hx hb dX0_multiply_99 (lv_at hl 4 rfl) ?_
    refine m_iadd (a := i) (b := us f2 n2) hx hb dX0_multiply_101 ?_
    refine lv_lload hx hb dX0_multiply_102 (lv_at hl 6 rfl) ?_
    refine m_last (n := 32) (f := g) (b0 := b0) hx hb hK (hput_self _ (lt_of_at ht)) (by omega) (by decide) (hbt) hLc dX0_multiply_104 (fun locs hLc => ?_)
    rw [hput_put]
    refine lv_iinc (v := nI (i + 1)) (lv' := [(5, .int (nI (i + 1))), (0, .ref a), (1, .ref b), (2, .ref t), (3, .int (nI (us f1 n1))), (4, .int (nI (us f2 n2))), (6, .long (lN c1))]) hx hb dX0_multiply_105 hl (k := 5) rfl (nI_add i 1) (by decide) rfl (fun ls hl => ?_)
    refine lv_goto (tgt := 19) hx hb dX0_multiply_108 (by decide) ?_
    exact ih (i + 1) _ (by omega) (lim_fup hg hc) (fun z h4 h5 => by rw [fup_n _ _ (by omega)]; exact h0 z (by omega) h5) (mul_row (by omega) (h0 _ (Nat.le_refl _) (by omega)) hv) _ _ hLc (lv_sub hl [1, 2, 3, 4, 5, 0] rfl)
set_option maxRecDepth 100000 in
set_option maxHeartbeats 4000000 in
theorem c_X0_multiply (l : Launch) (G : gG) (b0 : Nat) (H : Heap) {a b t n1 n2 : Nat} {f1 f2 f0 : Nat → Nat} (ha : H[a]? = some (aJ G n1 f1)) (hb0 : H[b]? = some (aJ G n2 f2)) (ht : H[t]? = some (aJ G 32 f0)) (hn1 : n1 ≤ 16) (hn2 : n2 ≤ 16) (hf1 : lim f1 n1) (hf2 : lim f2 n2) (hat : a ≠ t) (hbn : b ≠ t) (hbt : b0 ≤ t) : Met l yX0_multiply wsX0_multiply ({ frames := 1, cells := 0, slots := 0, locals := 24 } : Room) (PcH G H [.ref a, .ref b, .ref t]) (QcV (fun H1 => ∃ g : Nat → Nat, lim g 32 ∧ vl g 32 = vl f1 n1 * vl f2 n2 ∧ H1 = hput H t (aJ G 32 g))) 0 0 (fre b0) := by
  refine m_enter (cc := cX0_multiply) (maxL := 11) (ret := none) (own := RX0) (by decide) rfl rfl (Nat.le_of_ble_eq_true rfl) ?_
  intro p e s m below meth c ls hF hnm hH hl
  have hl : lv_has ls 11 [(0, .ref a), (1, .ref b), (2, .ref t)] := hl
  have hLc : lcs b0 [] := lcs_nil b0
  obtain ⟨hx, hb, hr, hml, hown, hts, hlocks, hK⟩ := id hF
  refine lv_aload_n hx hb dX0_multiply_0 rfl (lv_at hl 2 rfl) ?_
  refine lv_lconst (v := lN 0) hx hb dX0_multiply_1 (by decide) ?_
  refine mc_v0 (va_runS (As := [.ref t, .long (lN 0)]) (rest := []) ⟨hx, hb, hml, hown, hts⟩ (c_J7_fill_d0a16 l G b0 H ht (by decide) hbt) (va_cwS 2 hts gX0_multiply_J7_fill_d0a16 rfl rfl rfl (by decide +kernel) ⟨Nat.le_of_ble_eq_true rfl, Nat.le_of_ble_eq_true rfl⟩) (mp_S hK) rfl rfl hl.1 rfl (lv_room (Nat.le_of_ble_eq_true rfl)) dX0_multiply_2 ⟨Nat.le_of_ble_eq_true rfl, Nat.le_of_ble_eq_true rfl⟩) hLc (fun H1 locs hP hLc => ?_)
  subst hP
  refine lv_aload_n hx hb dX0_multiply_5 rfl (lv_at hl 0 rfl) ?_
  refine mc_i0 (va_runS (As := [.ref a]) (rest := []) ⟨hx, hb, hml, hown, hts⟩ (c_X0_used l G b0 (hput H t (aJ G 32 (fun _ => 0))) ((hput_ne _ hat).trans ha) (by omega) hf1) (va_cwS 1 hts gX0_multiply_X0_used rfl rfl rfl (by decide +kernel) ⟨Nat.le_of_ble_eq_true rfl, Nat.le_of_ble_eq_true rfl⟩) (mp_S hK) rfl rfl hl.1 rfl (lv_room (Nat.le_of_ble_eq_true rfl)) dX0_multiply_6 ⟨Nat.le_of_ble_eq_true rfl, Nat.le_of_ble_eq_true rfl⟩) hLc (fun r H1 locs hP hLc => ?_)
  obtain ⟨rfl, rfl⟩ := hP
  refine lv_istore_n (lv' := [(3, .int (nI (us f1 n1))), (0, .ref a), (1, .ref b), (2, .ref t)]) hx hb dX0_multiply_9 rfl hl (by decide) rfl (fun ls hl => ?_)
  refine lv_aload_n hx hb dX0_multiply_10 rfl (lv_at hl 2 rfl) ?_
  refine mc_i0 (va_runS (As := [.ref b]) (rest := []) ⟨hx, hb, hml, hown, hts⟩ (c_X0_used l G b0 (hput H t (aJ G 32 (fun _ => 0))) ((hput_ne _ hbn).trans hb0) (by omega) hf2) (va_cwS 1 hts gX0_multiply_X0_used rfl rfl rfl (by decide +kernel) ⟨Nat.le_of_ble_eq_true rfl, Nat.le_of_ble_eq_true rfl⟩) (mp_S hK) rfl rfl hl.1 rfl (lv_room (Nat.le_of_ble_eq_true rfl)) dX0_multiply_11 ⟨Nat.le_of_ble_eq_true rfl, Nat.le_of_ble_eq_true rfl⟩) hLc (fun r H1 locs hP hLc => ?_)
  obtain ⟨rfl, rfl⟩ := hP
  refine lv_istore (lv' := [(4, .int (nI (us f2 n2))), (3, .int (nI (us f1 n1))), (0, .ref a), (1, .ref b), (2, .ref t)]) hx hb dX0_multiply_14 hl (by decide) rfl (fun ls hl => ?_)
  refine lv_iconst (v := nI 0) hx hb dX0_multiply_16 (by decide) ?_
  refine lv_istore (lv' := [(5, .int (nI 0)), (4, .int (nI (us f2 n2))), (3, .int (nI (us f1 n1))), (0, .ref a), (1, .ref b), (2, .ref t)]) hx hb dX0_multiply_17 hl (by decide) rfl (fun ls hl => ?_)
  exact multiply_19 hF ha hb0 ht hn1 hn2 hf1 hf2 hat hbn hbt (us f1 n1) 0 _ (by omega) (fun j _ => (by decide : 0 < 4294967296)) (fun z _ _ => rfl) (by rw [vl_zero_iff.mpr (fun j _ => rfl)]; simp [vl]) _ _ hLc (lv_sub hl [3, 4, 5, 2, 1, 0] rfl)

set_option maxRecDepth 100000 in
set_option maxHeartbeats 4000000 in
theorem c_X0_bitLength (l : Launch) (G : gG) (b0 : Nat) (H : Heap) {a n : Nat} {f : Nat → Nat} (ha : H[a]? = some (aJ G n f)) (hn : n < 2 ^ 20) (hf : lim f n) : Met l yX0_bitLength wsX0_bitLength ({ frames := 2, cells := 0, slots := 0, locals := 43 } : Room) (PcH G H [.ref a]) (QcI (fun r H1 => (∃ b, r = nI b ∧ b ≤ 32 * n ∧ isBL b (vl f n)) ∧ H = H1)) 0 0 (fre b0) := by
  refine m_enter (cc := cX0_bitLength) (maxL := 2) (ret := (some .int)) (own := RX0) (by decide) rfl rfl (Nat.le_of_ble_eq_true rfl) ?_
  intro p e s m below meth c ls hF hnm hH hl
  have hl : lv_has ls 2 [(0, .ref a)] := hl
  have hLc : lcs b0 [] := lcs_nil b0
  obtain ⟨hx, hb, hr, hml, hown, hts, hlocks, hK⟩ := id hF
  have hu := us_le f n
  refine lv_aload_n hx hb dX0_bitLength_0 rfl (lv_at hl 0 rfl) ?_
  refine mc_i0 (va_runS (As := [.ref a]) (rest := []) ⟨hx, hb, hml, hown, hts⟩ (c_X0_used l G b0 H ha (by omega) hf) (va_cwS 1 hts gX0_bitLength_X0_used rfl rfl rfl (by decide +kernel) ⟨Nat.le_of_ble_eq_true rfl, Nat.le_of_ble_eq_true rfl⟩) (mp_S hK) rfl rfl hl.1 rfl (lv_room (Nat.le_of_ble_eq_true rfl)) dX0_bitLength_1 ⟨Nat.le_of_ble_eq_true rfl, Nat.le_of_ble_eq_true rfl⟩) hLc (fun r H1 locs hP hLc => ?_)
  obtain ⟨rfl, rfl⟩ := hP
  refine lv_istore_n (lv' := [(1, .int (nI (us f n))), (0, .ref a)]) hx hb dX0_bitLength_4 rfl hl (by decide) rfl (fun ls hl => ?_)
  refine lv_iload_n hx hb dX0_bitLength_5 rfl (lv_at hl 0 rfl) ?_
  refine m_if_ne (tgt := 13) hx hb (by omega) dX0_bitLength_6 (by decide) (fun c6 => ?_) (fun c6 => ?_)
  · skip
    have htp := us_top f n c6
    have hlm := hf (us f n - 1) (by omega)
    refine lv_iload_n hx hb dX0_bitLength_13 rfl (lv_at hl 0 rfl) ?_
    refine lv_bipush (v := nI 32) hx hb dX0_bitLength_14 (by decide) ?_
    refine m_imul (a := us f n) (b := 32) hx hb dX0_bitLength_16 ?_
    refine lv_aload_n hx hb dX0_bitLength_17 rfl (lv_at hl 1 rfl) ?_
    refine lv_iload_n hx hb dX0_bitLength_18 rfl (lv_at hl 0 rfl) ?_
    refine lv_iconst (v := nI 1) hx hb dX0_bitLength_19 (by decide) ?_
    refine m_isub (a := us f n) (b := 1) hx hb (by omega) dX0_bitLength_20 ?_
    refine m_lald (n := n) (f := f) hx hb hK (ha) (by omega) (by omega) dX0_bitLength_21 ?_
    refine mc_i0 (va_runS (As := [.long (lN (f ((us f n) - 1)))]) (rest := [.int (nI ((us f n) * 32))]) ⟨hx, hb, hml, hown, hts⟩ (c_J13_numberOfLeadingZeros_95d88 l G b0 H (show 0 < f (us f n - 1) by omega) hlm) (va_cwS 1 hts gX0_bitLength_J13_numberOfLeadingZeros_95d88 rfl rfl rfl (by decide +kernel) ⟨Nat.le_of_ble_eq_true rfl, Nat.le_of_ble_eq_true rfl⟩) (mp_S hK) rfl rfl hl.1 rfl (lv_room (Nat.le_of_ble_eq_true rfl)) dX0_bitLength_22 ⟨Nat.le_of_ble_eq_true rfl, Nat.le_of_ble_eq_true rfl⟩) hLc (fun r H1 locs hP hLc => ?_)
    obtain ⟨⟨k, rfl, hk, hk1, hk2⟩, rfl⟩ := hP
    refine lv_bipush (v := nI 32) hx hb dX0_bitLength_25 (by decide) ?_
    refine m_isub (a := 32 + (31 - k)) (b := 32) hx hb (by omega) dX0_bitLength_27 ?_
    refine m_isub (a := (us f n) * 32) (b := (32 + (31 - k)) - 32) hx hb (by omega) dX0_bitLength_28 ?_
    exact m_iret hx hb hr hlocks hLc dX0_bitLength_29 (⟨⟨(us f n - 1) * 32 + k + 1, congrArg nI (by omega), by omega, bl_top hf c6 hk hk1 hk2⟩, rfl⟩)
  · skip
    refine lv_iconst (v := nI 0) hx hb dX0_bitLength_9 (by decide) ?_
    refine lv_goto (tgt := 29) hx hb dX0_bitLength_10 (by decide) ?_
    exact m_iret hx hb hr hlocks hLc dX0_bitLength_29 (⟨⟨0, rfl, by omega, by rw [(us_0 f n).mp c6]; exact ⟨by decide, Or.inl rfl⟩⟩, rfl⟩)

set_option maxRecDepth 100000 in
set_option maxHeartbeats 4000000 in
theorem lowZeros_2 {p : Program} {l : Launch} {e : Env} {s : State} {m : MethodId} {args : Array Value} {below : List Frame} {meth : Method} {c : Code} {G : gG} {b0 : Nat} {H : Heap} {a n : Nat} {f : Nat → Nat} (hF : FxM p s m args meth c G cX0_lowZeros 2 (some .int) RX0 wsX0_lowZeros) (ha : H[a]? = some (aJ G n f)) (hn : n < 2 ^ 20) (hf : lim f n) : ∀ (q : Nat) (i : Nat), i + q = n → (∀ j, j < i → f j = 0) → ∀ (locs : List Loc) (ls : Array Slot), lcs b0 locs → lv_has ls 2 [(0, .ref a), (1, .int (nI i))] → W p l e ({ frames := 2, cells := 0, slots := 0, locals := 43 } : Room) s m args below meth c H locs 0 0 (MQ below (QcI (fun r H1 => (∃ t, r = nI t ∧ t ≤ 32 * n ∧ ((vl f n = 0 ∧ t = n * 32) ∨ isTZ t (vl f n))) ∧ H = H1)) args s 0 0 (fre b0)) (F0 m 2 ls []) := by
  obtain ⟨hx, hb, hr, hml, hown, hts, hlocks, hK⟩ := id hF
  intro q
  induction q with
  | zero =>
    intro i hi h0 locs ls hLc hl
    refine lv_iload_n hx hb dX0_lowZeros_2 rfl (lv_at hl 1 rfl) ?_
    refine lv_aload_n hx hb dX0_lowZeros_3 rfl (lv_at hl 0 rfl) ?_
    refine m_alenJ (n := n) (f := f) hx hb hK (ha) dX0_lowZeros_4 ?_
    refine lv_icmp_ge (tgt := 34) hx hb dX0_lowZeros_5 (by decide) (fun _ => ?_) (fun h => absurd (nI_le (by omega) (by omega)) h)
    refine lv_aload_n hx hb dX0_lowZeros_34 rfl (lv_at hl 0 rfl) ?_
    refine m_alenJ (n := n) (f := f) hx hb hK (ha) dX0_lowZeros_35 ?_
    refine lv_bipush (v := nI 32) hx hb dX0_lowZeros_36 (by decide) ?_
    refine m_imul (a := n) (b := 32) hx hb dX0_lowZeros_38 ?_
    exact m_iret hx hb hr hlocks hLc dX0_lowZeros_39 (⟨⟨n * 32, rfl, by omega, Or.inl ⟨vl_zero_iff.mpr (fun j hj => h0 j (by omega)), rfl⟩⟩, rfl⟩)
  | succ q ih =>
    intro i hi h0 locs ls hLc hl
    have hin : i < n := by omega
    have hfi := hf i hin
    refine lv_iload_n hx hb dX0_lowZeros_2 rfl (lv_at hl 1 rfl) ?_
    refine lv_aload_n hx hb dX0_lowZeros_3 rfl (lv_at hl 0 rfl) ?_
    refine m_alenJ (n := n) (f := f) hx hb hK (ha) dX0_lowZeros_4 ?_
    refine lv_icmp_ge (tgt := 34) hx hb dX0_lowZeros_5 (by decide) (fun h => absurd h (nI_ge (by omega) (by omega))) (fun _ => ?_)
    refine lv_aload_n hx hb dX0_lowZeros_8 rfl (lv_at hl 0 rfl) ?_
    refine lv_iload_n hx hb dX0_lowZeros_9 rfl (lv_at hl 1 rfl) ?_
    refine m_lald (n := n) (f := f) hx hb hK (ha) (by omega) (by omega) dX0_lowZeros_10 ?_
    refine lv_lconst (v := lN 0) hx hb dX0_lowZeros_11 (by decide) ?_
    refine m_lc_eq (tgt := 28) hx hb (by omega) (by omega) dX0_lowZeros_12 dX0_lowZeros_13 (by decide) (fun c12 => ?_) (fun c12 => ?_)
    · skip
      have h1 : ∀ j, j < i + 1 → f j = 0 := fun j hj => if h : j = i then (by rw [h]; exact c12) else h0 j (by omega)
      refine lv_iinc (v := nI (i + 1)) (lv' := [(1, .int (nI (i + 1))), (0, .ref a)]) hx hb dX0_lowZeros_28 hl (k := 1) rfl (nI_add i 1) (by decide) rfl (fun ls hl => ?_)
      refine lv_goto (tgt := 2) hx hb dX0_lowZeros_31 (by decide) ?_
      exact ih (i + 1) (by omega) h1 _ _ hLc (lv_sub hl [1, 0] rfl)
    · skip
      obtain ⟨t, ht⟩ := tz_ex (show 0 < f i by omega)
      have htl := tz_lt (k := 32) ht hfi
      refine lv_iload_n hx hb dX0_lowZeros_16 rfl (lv_at hl 1 rfl) ?_
      refine lv_bipush (v := nI 32) hx hb dX0_lowZeros_17 (by decide) ?_
      refine m_imul (a := i) (b := 32) hx hb dX0_lowZeros_19 ?_
      refine lv_aload_n hx hb dX0_lowZeros_20 rfl (lv_at hl 0 rfl) ?_
      refine lv_iload_n hx hb dX0_lowZeros_21 rfl (lv_at hl 1 rfl) ?_
      refine m_lald (n := n) (f := f) hx hb hK (ha) (by omega) (by omega) dX0_lowZeros_22 ?_
      refine mc_i0 (va_runS (As := [.long (lN (f i))]) (rest := [.int (nI (i * 32))]) ⟨hx, hb, hml, hown, hts⟩ (c_J13_numberOfTrailingZeros_95d88 l G b0 H (show 0 < f i by omega) hfi ht) (va_cwS 1 hts gX0_lowZeros_J13_numberOfTrailingZeros_95d88 rfl rfl rfl (by decide +kernel) ⟨Nat.le_of_ble_eq_true rfl, Nat.le_of_ble_eq_true rfl⟩) (mp_S hK) rfl rfl hl.1 rfl (lv_room (Nat.le_of_ble_eq_true rfl)) dX0_lowZeros_23 ⟨Nat.le_of_ble_eq_true rfl, Nat.le_of_ble_eq_true rfl⟩) hLc (fun r H1 locs hP hLc => ?_)
      obtain ⟨rfl, rfl⟩ := hP
      refine m_iadd (a := i * 32) (b := t) hx hb dX0_lowZeros_26 ?_
      exact m_iret hx hb hr hlocks hLc dX0_lowZeros_27 (⟨⟨i * 32 + t, rfl, by omega, Or.inr (tz_vl hin h0 hfi ht)⟩, rfl⟩)
set_option maxRecDepth 100000 in
set_option maxHeartbeats 4000000 in
theorem c_X0_lowZeros (l : Launch) (G : gG) (b0 : Nat) (H : Heap) {a n : Nat} {f : Nat → Nat} (ha : H[a]? = some (aJ G n f)) (hn : n < 2 ^ 20) (hf : lim f n) : Met l yX0_lowZeros wsX0_lowZeros ({ frames := 2, cells := 0, slots := 0, locals := 43 } : Room) (PcH G H [.ref a]) (QcI (fun r H1 => (∃ t, r = nI t ∧ t ≤ 32 * n ∧ ((vl f n = 0 ∧ t = n * 32) ∨ isTZ t (vl f n))) ∧ H = H1)) 0 0 (fre b0) := by
  refine m_enter (cc := cX0_lowZeros) (maxL := 2) (ret := (some .int)) (own := RX0) (by decide) rfl rfl (Nat.le_of_ble_eq_true rfl) ?_
  intro p e s m below meth c ls hF hnm hH hl
  have hl : lv_has ls 2 [(0, .ref a)] := hl
  have hLc : lcs b0 [] := lcs_nil b0
  obtain ⟨hx, hb, hr, hml, hown, hts, hlocks, hK⟩ := id hF
  refine lv_iconst (v := nI 0) hx hb dX0_lowZeros_0 (by decide) ?_
  refine lv_istore_n (lv' := [(1, .int (nI 0)), (0, .ref a)]) hx hb dX0_lowZeros_1 rfl hl (by decide) rfl (fun ls hl => ?_)
  exact lowZeros_2 hF ha hn hf n 0 (by omega) (fun j hj => absurd hj (by omega)) _ _ hLc (lv_sub hl [1, 0] rfl)
end
section
/-! ROWS, SECOND: int arrays by numbers; fields put; receivers -/
def aN (G : gG) (n : Nat) (f : Nat → Nat) : Cell := arrV (G.2 4) n (fun j => .int (nI (f j)))
theorem aN_congr (G : gG) {n : Nat} {f g : Nat → Nat} (h : ∀ j, j < n → f j = g j) : aN G n f = aN G n g := by
  unfold aN arrV
  congr 1
  apply Array.ext
  · simp
  · intro i h1 h2
    have hi : i < n := by simpa using h1
    simp [h i hi]
section RW3
variable {p : Program} {l : Launch} {e : Env} {R : Room} {s : State} {m : MethodId} {args : Array Value} {below : List Frame} {meth : Method} {c : Code} {H : Heap} {locs : List Loc} {cells slots : Nat} {Q : State → Prop}
variable {cc : ByteArray} {pc : Nat} {ls : Array Slot} {rest : List Value}
theorem m_nald (hx : p.tables.exec = Jvm.exec) (hb : c.code = cc) {G : gG} (hK : KK G s) {a n i : Nat} {f : Nat → Nat} (ha : H[a]? = some (aN G n f)) (hi : i < n) (hn : n < 2 ^ 31) (hdg : decode cc pc = .ok (.iaload, 1)) (k : W p l e R s m args below meth c H locs cells slots Q (F0 m (pc + 1) ls (.int (nI (f i)) :: rest))) : W p l e R s m args below meth c H locs cells slots Q (F0 m pc ls (.int (nI i) :: .ref a :: rest)) := W.iald (v := .int (nI (f i))) hx hb ha ((hK.2 4 _ rfl).1 n (fun j => .int (nI (f j)))) (fun q => by cases q) (by show ¬ ((nI i) < 0 ∨ (arrV _ _ _).slots.size ≤ _); rw [arrV_size]; exact nI_in hi hn) (by show (arrV _ _ _).slots[_]? = _; rw [nI_clamp (Nat.lt_trans hi hn), arrV_read _ _ hi]) rfl rfl hdg k
theorem m_nast (hx : p.tables.exec = Jvm.exec) (hb : c.code = cc) {G : gG} (hK : KK G s) {b0 a n i x : Nat} {f : Nat → Nat} (ha : H[a]? = some (aN G n f)) (hi : i < n) (hn : n < 2 ^ 31) (hba : b0 ≤ a) (hLc : lcs b0 locs) (hdg : decode cc pc = .ok (.iastore, 1)) (k : ∀ locs : List Loc, lcs b0 locs → W p l e R s m args below meth c (hput H a (aN G n (fup f i x))) locs cells slots Q (F0 m (pc + 1) ls rest)) : W p l e R s m args below meth c H locs cells slots Q (F0 m pc ls (.int (nI x) :: .int (nI i) :: .ref a :: rest)) := by
  refine W.iast hx hb ha ((hK.2 4 _ rfl).1 n (fun j => .int (nI (f j)))) (fun q => by cases q) (by show ¬ ((nI i) < 0 ∨ (arrV _ _ _).slots.size ≤ _); rw [arrV_size]; exact nI_in hi hn) rfl rfl hdg fun H1 e1 z1 oq => ?_
  rw [nI_clamp (Nat.lt_trans hi hn)] at e1 ⊢
  have he : H1 = hput H a (aN G n (fup f i x)) := hput_of (by rw [e1]; unfold aN; rw [arrV_store, updV_N]) z1 oq
  rw [he]
  exact k _ (lcs_add hLc hba)
theorem m_alenN (hx : p.tables.exec = Jvm.exec) (hb : c.code = cc) {G : gG} (hK : KK G s) {a n : Nat} {f : Nat → Nat} (ha : H[a]? = some (aN G n f)) (hdg : decode cc pc = .ok (.arraylength, 1)) (k : W p l e R s m args below meth c H locs cells slots Q (F0 m (pc + 1) ls (.int (nI n) :: rest))) : W p l e R s m args below meth c H locs cells slots Q (F0 m pc ls (.ref a :: rest)) := W.alen (n := nI n) hx hb ha ((hK.2 4 _ rfl).1 n (fun j => .int (nI (f j)))) (by unfold aN; rw [arrV_size]; rfl) rfl rfl hdg k
/-- an object's fields -/
def OB (G : gG) (ci o : Nat) (fs : List Value) (H : Heap) : Prop := va_P G.1 vwCl [(o, .inr (ci, fs))] H
theorem OB.kept {G : gG} {ci o : Nat} {fs : List Value} {H H1 : Heap} (h : OB G ci o fs H) (hq : H1[o]? = H[o]?) : OB G ci o fs H1 := va_P.kept h (fun k q hk => by
  have hz : k < 1 := (List.getElem?_eq_some_iff.mp hk).1
  rw [show k = 0 by omega] at hk
  cases hk
  exact hq)
theorem OB.lt {G : gG} {ci o : Nat} {fs : List Value} {H : Heap} (h : OB G ci o fs H) : o < H.size := (h 0 _ rfl).lt
theorem m_put (hx : p.tables.exec = Jvm.exec) (hb : c.code = cc) {own C : String} {T : u_T} {N ci index : Nat} {Ts : List Cond} {G : gG} {b0 a : Nat} (hts : ∀ w ∈ Ts, w.before args s = true) (hin : ∀ w ∈ u_ws C T N, w ∈ Ts) (ty0 : Nat → FieldType) (hty : ∀ k, k < N → parseFieldDescriptor (T k).2.2.1 = some (ty0 k)) (hnm : ∀ a, a < N → ∀ b, b < N → a ≠ b → (T a).2.1 ≠ (T b).2.1) (hown : s.vm.findClass own = some m.cls) (hK : KK G s) {fs : List Value} (hO : OB G ci a fs H) (hc : vwCl[ci]? = some (C, T, N)) (k : Nat) (hk : k < N) (hlink : (Cond.fieldLink own index (T k).1 (T k).2.1 (T k).2.2.1).before args s = true) (hfin : (T k).2.2.2 = false) {ty : FieldType} {v : Value} (hd : parseFieldDescriptor (T k).2.2.1 = some ty) (hn : narrow ty v = v) (hfit : fits ty v = true) (hl : k < fs.length) (hba : b0 ≤ a) (hLc : lcs b0 locs)
    (hdg : decode cc pc = .ok (.putfield index, 3)) (kk : ∀ (H1 : Heap) (locs1 : List Loc), OB G ci a (fs.set k v) H1 → H1.size = H.size → (∀ q, q ≠ a → H1[q]? = H[q]?) → lcs b0 locs1 → W p l e R s m args below meth c H1 locs1 cells slots Q (F0 m (pc + 3) ls rest)) : W p l e R s m args below meth c H locs cells slots Q (F0 m pc ls (v :: .ref a :: rest)) := by
  have hap := va_apart (own := own) hts hin ty0 hty hnm hK hc
  have hO0 := hO
  obtain ⟨r, h1, cell, q1, q2, q3, q4⟩ := hO 0 _ rfl
  have hr : r = (C, T, N) := Option.some.inj (h1.symm.trans hc)
  subst hr
  obtain ⟨hS, hfc, kC, hkC, hkind⟩ := hK.1 ci _ hc
  obtain ⟨cf, kf, fi, f, hi, hsl⟩ := hS k hk
  have hlay := hts _ (hin _ (u_in_lay hk))
  unfold u_lay at hlay
  rw [if_neg (by rw [hfin]; decide)] at hlay
  have hst := (u_facts hfc hkC (u_lays hts hin hk) hi).1
  have h6 := u_store hfc hkC hkind hlay hi hd hn hfit
  refine W.putK hx hb (f := f) ⟨hown, hlink, ⟨_, _, _, hi⟩, hst⟩ (by rw [q2]; exact h6) q1 q3 (by rw [hsl]; exact k2_hasslot (q4 k hk)) rfl rfl hdg fun H' e1 e2 e3 => ?_
  rw [hsl] at e1 ⊢
  refine kk H' _ (fun k9 q hk9 => ?_) e2 e3 (lcs_add hLc hba)
  have hz : k9 < 1 := (List.getElem?_eq_some_iff.mp hk9).1
  rw [show k9 = 0 by omega] at hk9
  cases hk9
  exact ⟨_, hc, t_OB.to (V := updV (vp_V fs) k v) ⟨_, e1, q2, q3, t_set q4 hap hk v⟩ (fun j _ => vp_updV_set hl v j)⟩
theorem mp_V {G : gG} {ci o : Nat} {fs : List Value} {As : List Value} {r : vw_C} (hK : KK G s) (hO : OB G ci o fs H) (hc : vwCl[ci]? = some r) : PreV s H r.1 o (PcH G H (.ref o :: As)) As := ⟨PcH_blind G H _, va_recv hK hO hc (q0 := 0) rfl, fun U hU hW => ⟨rfl, hU, KK.moved hW.alike hK⟩⟩
end RW3
end
section
/-! DECIMAL ROWS of the reference: dl f n is the number of the first n digits -/
def dl (f : Nat → Nat) : Nat → Nat
  | 0 => 0
  | n + 1 => dl f n + f n * 10 ^ n
def dlm (f : Nat → Nat) (n : Nat) : Prop := ∀ j, j < n → f j < 10
theorem dlm_le {f : Nat → Nat} {n k : Nat} (h : dlm f n) (hk : k ≤ n) : dlm f k := fun j hj => h j (Nat.lt_of_lt_of_le hj hk)
theorem dlm_fup {f : Nat → Nat} {n i x : Nat} (h : dlm f n) (hx : x < 10) : dlm (fup f i x) n := by
  intro j hj
  unfold fup
  split
  · exact hx
  · exact h j hj
theorem dl_succ (f : Nat → Nat) (n : Nat) : dl f (n + 1) = dl f n + f n * 10 ^ n := rfl
theorem dl_congr {f g : Nat → Nat} : ∀ {n : Nat}, (∀ j, j < n → f j = g j) → dl f n = dl g n
  | 0, _ => rfl
  | n + 1, h => by rw [dl_succ, dl_succ, dl_congr (fun j hj => h j (by omega)), h n (by omega)]
theorem powT_pos (n : Nat) : 0 < 10 ^ n := Nat.pow_pos (by decide)
theorem dl_lt {f : Nat → Nat} : ∀ {n : Nat}, dlm f n → dl f n < 10 ^ n
  | 0, _ => by show 0 < 10 ^ 0; decide
  | n + 1, h => by
    have h1 := dl_lt (dlm_le h (Nat.le_succ n))
    have h2 : f n * 10 ^ n ≤ 9 * 10 ^ n := Nat.mul_le_mul_right _ (by have := h n (by omega); omega)
    rw [dl_succ, Nat.pow_succ]
    generalize 10 ^ n = P at *
    omega
theorem dl_fup_ge (f : Nat → Nat) (x : Nat) {n i : Nat} (h : n ≤ i) : dl (fup f i x) n = dl f n := dl_congr (fun j hj => fup_n f x (by omega))
theorem dl_fup {f : Nat → Nat} {i : Nat} (x : Nat) : ∀ {n : Nat}, i < n → dl (fup f i x) n + f i * 10 ^ i = dl f n + x * 10 ^ i
  | 0, h => absurd h (by omega)
  | n + 1, h => by
    rw [dl_succ, dl_succ]
    by_cases hi : i = n
    · subst hi
      rw [dl_fup_ge f x (Nat.le_refl i), fup_s]
      omega
    · have := dl_fup (f := f) x (show i < n by omega)
      rw [fup_n f x (by omega)]
      omega
theorem dl_ext {f : Nat → Nat} {n : Nat} : ∀ {k : Nat}, n ≤ k → (∀ j, n ≤ j → j < k → f j = 0) → dl f k = dl f n
  | 0, h, _ => by rw [show n = 0 by omega]
  | k + 1, h, h0 => by
    by_cases hk : n = k + 1
    · rw [hk]
    · rw [dl_succ, h0 k (by omega) (by omega), dl_ext (n := n) (k := k) (by omega) (fun j h1 h2 => h0 j h1 (by omega))]
      simp
theorem dl_zero_iff {f : Nat → Nat} : ∀ {n : Nat}, dl f n = 0 ↔ ∀ j, j < n → f j = 0
  | 0 => ⟨fun _ j hj => absurd hj (by omega), fun _ => rfl⟩
  | n + 1 => by
    rw [dl_succ]
    have hP := powT_pos n
    constructor
    · intro h j hj
      have h1 : dl f n = 0 := by omega
      have h2 : f n * 10 ^ n = 0 := by omega
      by_cases hjn : j = n
      · subst hjn
        rcases Nat.mul_eq_zero.mp h2 with h3 | h3
        · exact h3
        · omega
      · exact dl_zero_iff.mp h1 j (by omega)
    · intro h
      rw [dl_zero_iff.mpr (fun j hj => h j (by omega)), h n (by omega)]
      simp
theorem dl_split (f : Nat → Nat) (k : Nat) : ∀ (m : Nat), dl f (k + m) = dl f k + dl (fun j => f (k + j)) m * 10 ^ k
  | 0 => by simp [dl]
  | m + 1 => by
    rw [← Nat.add_assoc, dl_succ, dl_succ, dl_split f k m, Nat.add_mul, Nat.pow_add, Nat.mul_assoc, Nat.mul_comm (10 ^ m), Nat.add_assoc]
theorem dl_top {f g : Nat → Nat} {n : Nat} (hf : dlm f n) (h : f n < g n) : dl f (n + 1) < dl g (n + 1) := by
  have h1 := dl_lt hf
  have h2 : (f n + 1) * 10 ^ n ≤ g n * 10 ^ n := Nat.mul_le_mul_right _ h
  rw [dl_succ, dl_succ]
  rw [Nat.add_mul] at h2
  omega
theorem carry_d (t P : Nat) : t % 10 * P + t / 10 * (P * 10) = t * P := by
  rw [Nat.mul_comm P, ← Nat.mul_assoc, Nat.mul_comm (t / 10), ← Nat.add_mul, Nat.mod_add_div]
theorem dlm_succ {g : Nat → Nat} {i x : Nat} (hg : dlm g i) (hx : x < 10) : dlm (fup g i x) (i + 1) := by
  intro j hj
  by_cases h : j = i
  · rw [h, fup_s]; exact hx
  · rw [fup_n _ _ h]; exact hg j (by omega)
theorem dl_hi {f g : Nat → Nat} {k : Nat} : ∀ {n : Nat}, k ≤ n → (∀ j, k ≤ j → j < n → f j = g j) → dl f n + dl g k = dl g n + dl f k
  | 0, h, _ => by rw [show k = 0 by omega, Nat.add_comm]
  | n + 1, h, he => by
    by_cases hk : k = n + 1
    · rw [hk]; omega
    · have h1 := dl_hi (f := f) (g := g) (k := k) (n := n) (by omega) (fun j h1 h2 => he j h1 (by omega))
      rw [dl_succ, dl_succ, he n (by omega) (by omega)]
      omega
theorem ord_ltd {f g : Nat → Nat} {q n : Nat} (hq : q + 1 ≤ n) (hf : dlm f n) (he : ∀ j, q + 1 ≤ j → j < n → f j = g j) (h : f q < g q) : dl f n < dl g n := by
  have h1 := dl_top (n := q) (dlm_le hf (by omega)) h
  have h2 := dl_hi (f := f) (g := g) hq he
  omega
theorem add_stepd {A D h : Nat → Nat} {i c : Nat} (hv : dl h i + c * 10 ^ i = dl A i + dl D i) : dl (fup h i ((A i + D i + c) % 10)) (i + 1) + (A i + D i + c) / 10 * 10 ^ (i + 1) = dl A (i + 1) + dl D (i + 1) := by
  have h1 := carry_d (A i + D i + c) (10 ^ i)
  rw [Nat.add_mul, Nat.add_mul] at h1
  rw [dl_succ, dl_succ, dl_succ, dl_fup_ge h _ (Nat.le_refl i), fup_s, Nat.pow_succ]
  omega
theorem mad_stepd {f g : Nat → Nat} {i c x q : Nat} (hg : g i = f i) (hv : dl g i + c * 10 ^ i = dl f i * x + q) : dl (fup g i ((g i * x + c) % 10)) (i + 1) + (g i * x + c) / 10 * 10 ^ (i + 1) = dl f (i + 1) * x + q := by
  have h1 := carry_d (g i * x + c) (10 ^ i)
  have h5 : f i * 10 ^ i * x = f i * x * 10 ^ i := by rw [Nat.mul_assoc, Nat.mul_comm (10 ^ i), ← Nat.mul_assoc]
  rw [dl_succ, dl_succ, dl_fup_ge g _ (Nat.le_refl i), fup_s, Nat.pow_succ, Nat.add_mul, h5]
  rw [hg] at h1 ⊢
  rw [Nat.add_mul] at h1
  omega
theorem dbs_ltd {z d x : Nat} (hz : z < d) (hx : x < 10) : (z * 10 + x) / d < 10 := by
  rw [Nat.div_lt_iff_lt_mul (by omega)]
  have h : (z + 1) * 10 ≤ d * 10 := Nat.mul_le_mul_right _ hz
  rw [Nat.mul_comm 10 d]
  omega
theorem dbs_stepd {f g : Nat → Nat} {u k z d : Nat} (hk : k < u) (hg : g k = f k) (hv : dl f u + d * dl g (k + 1) = d * dl g u + z * 10 ^ (k + 1) + dl f (k + 1)) :
    dl f u + d * dl (fup g k ((z * 10 + g k) / d)) k = d * dl (fup g k ((z * 10 + g k) / d)) u + (z * 10 + g k) % d * 10 ^ k + dl f k := by
  have h1 := congrArg (fun q => d * q) (dl_fup (f := g) ((z * 10 + g k) / d) hk)
  have h2 := congrArg (fun q => q * 10 ^ k) (Nat.div_add_mod (z * 10 + g k) d)
  simp only [Nat.mul_add, Nat.add_mul] at h1 h2
  rw [dl_succ, dl_succ, Nat.mul_add, Nat.pow_succ] at hv
  rw [dl_fup_ge g _ (Nat.le_refl k)]
  rw [← hg] at hv
  have h3 : d * ((z * 10 + g k) / d) * 10 ^ k = d * ((z * 10 + g k) / d * 10 ^ k) := Nat.mul_assoc _ _ _
  have h4 : z * 10 * 10 ^ k = z * (10 ^ k * 10) := by rw [Nat.mul_assoc, Nat.mul_comm (10 ^ k)]
  omega
theorem sub_stepd1 {A D h : Nat → Nat} {i c : Nat} (hD : D i + c ≤ A i + 10) (hv : dl h i + dl D i = dl A i + c * 10 ^ i) : dl (fup h i (A i + 10 - (D i + c))) (i + 1) + dl D (i + 1) = dl A (i + 1) + 1 * 10 ^ (i + 1) := by
  rw [dl_succ, dl_succ, dl_succ, dl_fup_ge h _ (Nat.le_refl i), fup_s, Nat.pow_succ]
  have h4 := congrArg (fun z => z * 10 ^ i) (show A i + 10 - (D i + c) + D i + c = A i + 10 by omega)
  simp only [Nat.add_mul] at h4
  omega
theorem sub_stepd0 {A D h : Nat → Nat} {i c : Nat} (hc : D i + c ≤ A i) (hv : dl h i + dl D i = dl A i + c * 10 ^ i) : dl (fup h i (A i - (D i + c))) (i + 1) + dl D (i + 1) = dl A (i + 1) + 0 * 10 ^ (i + 1) := by
  rw [dl_succ, dl_succ, dl_succ, dl_fup_ge h _ (Nat.le_refl i), fup_s, Nat.pow_succ]
  have h4 := congrArg (fun z => z * 10 ^ i) (show A i - (D i + c) + D i + c = A i by omega)
  simp only [Nat.add_mul] at h4
  omega
theorem isb1 {a b c : Nat} (h : b + c ≤ a + 10) : nI a - nI b - nI c + nI (10 * 1) = nI (a + 10 - (b + c)) := by
  rw [← pk_sub h, ← nI_add, ← nI_add]
  grind
theorem isb0 {a b c : Nat} (h : b + c ≤ a) : nI a - nI b - nI c + nI (10 * 0) = nI (a - (b + c)) := by
  rw [← pk_sub h, ← nI_add, show nI (10 * 0) = 0 from rfl]
  grind
theorem isb_ge {a b c : Nat} (ha : a < 2 ^ 28) (hb : b < 2 ^ 28) (hc : c < 2 ^ 28) : 0 ≤ nI a - nI b - nI c ↔ b + c ≤ a := by
  have h : nI a - nI b - nI c = nI a - nI (b + c) := by rw [← nI_add]; grind
  rw [h, Int32.le_iff_toInt_le, Int32.toInt_zero, pk_sub_toInt (by omega) (by omega)]
  omega
theorem dl0 (n : Nat) : dl (fun _ => 0) n = 0 := dl_zero_iff.mpr (fun _ _ => rfl)
theorem dl_one : ∀ n, dl (fup (fun _ => 0) 0 1) (n + 1) = 1
  | 0 => by simp [dl, fup]
  | n + 1 => by rw [dl_succ, dl_one n]; simp [fup]
theorem pw10 {k : Nat} (h : k ≤ 512) : 2 ^ k < 10 ^ 330 := Nat.lt_of_le_of_lt (Nat.pow_le_pow_right (by decide) h) (by decide +kernel)
end
section
/-! TESTS OF INTS within bounds -/
def rng (lo hi : Nat) (x r : Int32) : Prop := (∃ k, lo ≤ k ∧ k ≤ hi ∧ x = nI k ∧ r = nI 1) ∨ ((∀ k, lo ≤ k → k ≤ hi → k < 2 ^ 31 → x ≠ nI k) ∧ r = nI 0)
theorem rng_neg {lo hi : Nat} {x : Int32} (h : x < 0) : rng lo hi x (nI 0) := Or.inr ⟨fun k _ _ h2 e => nI_pos h2 (e ▸ h), rfl⟩
theorem rng_in {lo hi i : Nat} (h1 : lo ≤ i) (h2 : i ≤ hi) : rng lo hi (nI i) (nI 1) := Or.inl ⟨i, h1, h2, rfl, rfl⟩
theorem rng_out {lo hi i : Nat} (hi0 : i < 2 ^ 31) (h : i < lo ∨ hi < i) : rng lo hi (nI i) (nI 0) := Or.inr ⟨fun k h1 h2 h3 e => by
  have := (nI_eq hi0 h3).mp e
  omega, rfl⟩
theorem neg_lt {x : Int32} (h : x < 0) (k : Nat) (hk : k < 2 ^ 31) : x < nI k := by
  rw [Int32.lt_iff_toInt_lt] at h ⊢
  rw [nI_toInt hk]
  rw [Int32.toInt_zero] at h
  omega
theorem pow_fit {x c i : Nat} (h : 2 ^ (i + 1) < 10 ^ 330) (hv : x + c * 10 ^ 330 = 2 ^ i * 2 + 0) : x = 2 ^ (i + 1) := by
  rw [Nat.pow_succ] at h ⊢
  rcases Nat.eq_zero_or_pos c with h0 | h0
  · rw [h0, Nat.zero_mul] at hv; omega
  · have : 1 * 10 ^ 330 ≤ c * 10 ^ 330 := Nat.mul_le_mul_right _ h0
    omega
def worthN (c : Nat) : Nat := if 48 ≤ c ∧ c ≤ 57 then c - 48 else if 97 ≤ c ∧ c ≤ 122 then c - 97 + 10 else if 65 ≤ c ∧ c ≤ 90 then c - 65 + 10 else 99
theorem if0 {a : Nat} (ha : a < 2 ^ 31) (h : nI a ≤ 0) : a = 0 := by
  rw [← nI_0] at h
  have := (nI_leI ha (by decide)).mp h
  omega
theorem ifn0 {a : Nat} (h : ¬ nI a ≤ 0) : a ≠ 0 := fun e => h (by rw [e, nI_0]; decide)
theorem fit_z {a : Nat} (ha : a < 2) : fits .boolean (.int (nI a)) = true := by
  have : ∀ a, a < 2 → fits .boolean (.int (nI a)) = true := by decide +kernel
  exact this a ha
end
section
set_option maxRecDepth 100000 in
set_option maxHeartbeats 4000000 in
theorem c_M0_isSlot (l : Launch) (G : gG) (b0 : Nat) (H : Heap)  (x : Int32) : Met l yM0_isSlot wsM0_isSlot ({ frames := 0, cells := 0, slots := 0, locals := 0 } : Room) (PcH G H [.int x]) (QcI (fun r H1 => rng 0 63 x r ∧ H = H1)) 0 0 (fre b0) := by
  refine m_enter (cc := cM0_isSlot) (maxL := 1) (ret := (some .boolean)) (own := RM0) (by decide) rfl rfl (Nat.le_of_ble_eq_true rfl) ?_
  intro p e s m below meth c ls hF hnm hH hl
  have hl : lv_has ls 1 [(0, .int x)] := hl
  have hLc : lcs b0 [] := lcs_nil b0
  obtain ⟨hx, hb, hr, hml, hown, hts, hlocks, hK⟩ := id hF
  by_cases hz : x < 0
  · skip
    refine lv_iload_n hx hb dM0_isSlot_0 rfl (lv_at hl 0 rfl) ?_
    refine lv_if_lt (tgt := 14) hx hb dM0_isSlot_1 (by decide) (fun _ => ?_) (fun h => absurd (hz) h)
    refine lv_iconst (v := nI 0) hx hb dM0_isSlot_14 (by decide) ?_
    exact m_zret hx hb hr hlocks hLc (by decide) dM0_isSlot_15 (⟨rng_neg hz, rfl⟩)
  · obtain ⟨i, hi, rfl⟩ := nI_of hz
    refine lv_iload_n hx hb dM0_isSlot_0 rfl (lv_at hl 0 rfl) ?_
    refine lv_if_lt (tgt := 14) hx hb dM0_isSlot_1 (by decide) (fun h => absurd h (hz)) (fun _ => ?_)
    refine lv_iload_n hx hb dM0_isSlot_4 rfl (lv_at hl 0 rfl) ?_
    refine lv_bipush (v := nI 64) hx hb dM0_isSlot_5 (by decide) ?_
    refine m_icmp_ge (tgt := 14) hx hb (by omega) (by omega) dM0_isSlot_7 (by decide) (fun c7 => ?_) (fun c7 => ?_)
    · skip
      refine lv_iconst (v := nI 0) hx hb dM0_isSlot_14 (by decide) ?_
      exact m_zret hx hb hr hlocks hLc (by decide) dM0_isSlot_15 (⟨rng_out hi (by omega), rfl⟩)
    · skip
      refine lv_iconst (v := nI 1) hx hb dM0_isSlot_10 (by decide) ?_
      refine lv_goto (tgt := 15) hx hb dM0_isSlot_11 (by decide) ?_
      exact m_zret hx hb hr hlocks hLc (by decide) dM0_isSlot_15 (⟨rng_in (by omega) (by omega), rfl⟩)

set_option maxRecDepth 100000 in
set_option maxHeartbeats 4000000 in
theorem clear_2 {p : Program} {l : Launch} {e : Env} {s : State} {m : MethodId} {args : Array Value} {below : List Frame} {meth : Method} {c : Code} {G : gG} {b0 : Nat} {H : Heap} {a : Nat} {f : Nat → Nat} (hF : FxM p s m args meth c G cM0_clear 2 none RM0 wsM0_clear) (ht : H[a]? = some (aN G 330 f)) (hbt : b0 ≤ a) : ∀ (q : Nat) (i : Nat) (g : Nat → Nat), i + q = 330 → (∀ j, j < i → g j = 0) → ∀ (locs : List Loc) (ls : Array Slot), lcs b0 locs → lv_has ls 2 [(0, .ref a), (1, .int (nI i))] → W p l e ({ frames := 0, cells := 0, slots := 0, locals := 0 } : Room) s m args below meth c (hput H a (aN G 330 g)) locs 0 0 (MQ below (QcV (fun H1 => H1 = hput H a (aN G 330 (fun _ => 0)))) args s 0 0 (fre b0)) (F0 m 2 ls []) := by
  obtain ⟨hx, hb, hr, hml, hown, hts, hlocks, hK⟩ := id hF
  intro q
  induction q with
  | zero =>
    intro i g hi hg locs ls hLc hl
    refine lv_iload_n hx hb dM0_clear_2 rfl (lv_at hl 1 rfl) ?_
    refine lv_sipush (v := nI 330) hx hb dM0_clear_3 (by decide) ?_
    refine lv_icmp_ge (tgt := 19) hx hb dM0_clear_6 (by decide) (fun _ => ?_) (fun h => absurd (nI_le (by omega) (by omega)) h)
    exact m_vret hx hb hr hlocks hLc dM0_clear_19 (congrArg (hput H a) (aN_congr G (fun j hj => hg j (by omega))))
  | succ q ih =>
    intro i g hi hg locs ls hLc hl
    refine lv_iload_n hx hb dM0_clear_2 rfl (lv_at hl 1 rfl) ?_
    refine lv_sipush (v := nI 330) hx hb dM0_clear_3 (by decide) ?_
    refine lv_icmp_ge (tgt := 19) hx hb dM0_clear_6 (by decide) (fun h => absurd h (nI_ge (by omega) (by omega))) (fun _ => ?_)
    refine lv_aload_n hx hb dM0_clear_9 rfl (lv_at hl 0 rfl) ?_
    refine lv_iload_n hx hb dM0_clear_10 rfl (lv_at hl 1 rfl) ?_
    refine lv_iconst (v := nI 0) hx hb dM0_clear_11 (by decide) ?_
    refine m_nast (n := 330) (f := g) (b0 := b0) hx hb hK (hput_self _ (lt_of_at ht)) (by omega) (by decide) (hbt) hLc dM0_clear_12 (fun locs hLc => ?_)
    rw [hput_put]
    refine lv_iinc (v := nI (i + 1)) (lv' := [(1, .int (nI (i + 1))), (0, .ref a)]) hx hb dM0_clear_13 hl (k := 1) rfl (nI_add i 1) (by decide) rfl (fun ls hl => ?_)
    refine lv_goto (tgt := 2) hx hb dM0_clear_16 (by decide) ?_
    exact ih (i + 1) _ (by omega) (fup_eq hg rfl) _ _ hLc (lv_sub hl [1, 0] rfl)
set_option maxRecDepth 100000 in
set_option maxHeartbeats 4000000 in
theorem c_M0_clear (l : Launch) (G : gG) (b0 : Nat) (H : Heap) {a : Nat} {f : Nat → Nat} (ht : H[a]? = some (aN G 330 f)) (hbt : b0 ≤ a) : Met l yM0_clear wsM0_clear ({ frames := 0, cells := 0, slots := 0, locals := 0 } : Room) (PcH G H [.ref a]) (QcV (fun H1 => H1 = hput H a (aN G 330 (fun _ => 0)))) 0 0 (fre b0) := by
  refine m_enter (cc := cM0_clear) (maxL := 2) (ret := none) (own := RM0) (by decide) rfl rfl (Nat.le_of_ble_eq_true rfl) ?_
  intro p e s m below meth c ls hF hnm hH hl
  have hl : lv_has ls 2 [(0, .ref a)] := hl
  have hLc : lcs b0 [] := lcs_nil b0
  obtain ⟨hx, hb, hr, hml, hown, hts, hlocks, hK⟩ := id hF
  refine lv_iconst (v := nI 0) hx hb dM0_clear_0 (by decide) ?_
  refine lv_istore_n (lv' := [(1, .int (nI 0)), (0, .ref a)]) hx hb dM0_clear_1 rfl hl (by decide) rfl (fun ls hl => ?_)
  have hl := lv_sub (l' := [(0, .ref a), (1, .int (nI 0))]) hl [1, 0] rfl
  have hh := clear_2 (l := l) (e := e) (below := below) hF ht hbt 330 0 f (by omega) (fun j hj => absurd hj (by omega)) _ _ hLc hl
  rw [hput_same ht] at hh
  exact hh

set_option maxRecDepth 100000 in
set_option maxHeartbeats 4000000 in
theorem rcopy_2 {p : Program} {l : Launch} {e : Env} {s : State} {m : MethodId} {args : Array Value} {below : List Frame} {meth : Method} {c : Code} {G : gG} {b0 : Nat} {H : Heap} {a b : Nat} {f g0 : Nat → Nat} (hF : FxM p s m args meth c G cM0_copy 3 none RM0 wsM0_copy) (ha : H[a]? = some (aN G 330 f)) (ht : H[b]? = some (aN G 330 g0)) (hab : a ≠ b) (hbt : b0 ≤ b) : ∀ (q : Nat) (i : Nat) (g : Nat → Nat), i + q = 330 → (∀ j, j < i → g j = f j) → ∀ (locs : List Loc) (ls : Array Slot), lcs b0 locs → lv_has ls 3 [(0, .ref a), (1, .ref b), (2, .int (nI i))] → W p l e ({ frames := 0, cells := 0, slots := 0, locals := 0 } : Room) s m args below meth c (hput H b (aN G 330 g)) locs 0 0 (MQ below (QcV (fun H1 => H1 = hput H b (aN G 330 f))) args s 0 0 (fre b0)) (F0 m 2 ls []) := by
  obtain ⟨hx, hb, hr, hml, hown, hts, hlocks, hK⟩ := id hF
  intro q
  induction q with
  | zero =>
    intro i g hi hg locs ls hLc hl
    refine lv_iload_n hx hb dM0_copy_2 rfl (lv_at hl 2 rfl) ?_
    refine lv_sipush (v := nI 330) hx hb dM0_copy_3 (by decide) ?_
    refine lv_icmp_ge (tgt := 21) hx hb dM0_copy_6 (by decide) (fun _ => ?_) (fun h => absurd (nI_le (by omega) (by omega)) h)
    exact m_vret hx hb hr hlocks hLc dM0_copy_21 (congrArg (hput H b) (aN_congr G (fun j hj => hg j (by omega))))
  | succ q ih =>
    intro i g hi hg locs ls hLc hl
    refine lv_iload_n hx hb dM0_copy_2 rfl (lv_at hl 2 rfl) ?_
    refine lv_sipush (v := nI 330) hx hb dM0_copy_3 (by decide) ?_
    refine lv_icmp_ge (tgt := 21) hx hb dM0_copy_6 (by decide) (fun h => absurd h (nI_ge (by omega) (by omega))) (fun _ => ?_)
    refine lv_aload_n hx hb dM0_copy_9 rfl (lv_at hl 1 rfl) ?_
    refine lv_iload_n hx hb dM0_copy_10 rfl (lv_at hl 2 rfl) ?_
    refine lv_aload_n hx hb dM0_copy_11 rfl (lv_at hl 0 rfl) ?_
    refine lv_iload_n hx hb dM0_copy_12 rfl (lv_at hl 2 rfl) ?_
    refine m_nald (n := 330) (f := f) hx hb hK ((hput_ne _ hab).trans ha) (by omega) (by decide) dM0_copy_13 ?_
    refine m_nast (n := 330) (f := g) (b0 := b0) hx hb hK (hput_self _ (lt_of_at ht)) (by omega) (by decide) (hbt) hLc dM0_copy_14 (fun locs hLc => ?_)
    rw [hput_put]
    refine lv_iinc (v := nI (i + 1)) (lv' := [(2, .int (nI (i + 1))), (0, .ref a), (1, .ref b)]) hx hb dM0_copy_15 hl (k := 2) rfl (nI_add i 1) (by decide) rfl (fun ls hl => ?_)
    refine lv_goto (tgt := 2) hx hb dM0_copy_18 (by decide) ?_
    exact ih (i + 1) _ (by omega) (fup_eq hg rfl) _ _ hLc (lv_sub hl [1, 2, 0] rfl)
set_option maxRecDepth 100000 in
set_option maxHeartbeats 4000000 in
theorem c_M0_copy (l : Launch) (G : gG) (b0 : Nat) (H : Heap) {a b : Nat} {f g0 : Nat → Nat} (ha : H[a]? = some (aN G 330 f)) (ht : H[b]? = some (aN G 330 g0)) (hab : a ≠ b) (hbt : b0 ≤ b) : Met l yM0_copy wsM0_copy ({ frames := 0, cells := 0, slots := 0, locals := 0 } : Room) (PcH G H [.ref a, .ref b]) (QcV (fun H1 => H1 = hput H b (aN G 330 f))) 0 0 (fre b0) := by
  refine m_enter (cc := cM0_copy) (maxL := 3) (ret := none) (own := RM0) (by decide) rfl rfl (Nat.le_of_ble_eq_true rfl) ?_
  intro p e s m below meth c ls hF hnm hH hl
  have hl : lv_has ls 3 [(0, .ref a), (1, .ref b)] := hl
  have hLc : lcs b0 [] := lcs_nil b0
  obtain ⟨hx, hb, hr, hml, hown, hts, hlocks, hK⟩ := id hF
  refine lv_iconst (v := nI 0) hx hb dM0_copy_0 (by decide) ?_
  refine lv_istore_n (lv' := [(2, .int (nI 0)), (0, .ref a), (1, .ref b)]) hx hb dM0_copy_1 rfl hl (by decide) rfl (fun ls hl => ?_)
  have hl := lv_sub (l' := [(0, .ref a), (1, .ref b), (2, .int (nI 0))]) hl [1, 2, 0] rfl
  have hh := rcopy_2 (l := l) (e := e) (below := below) hF ha ht hab hbt 330 0 g0 (by omega) (fun j hj => absurd hj (by omega)) _ _ hLc hl
  rw [hput_same ht] at hh
  exact hh

set_option maxRecDepth 100000 in
set_option maxHeartbeats 4000000 in
theorem isZero_4 {p : Program} {l : Launch} {e : Env} {s : State} {m : MethodId} {args : Array Value} {below : List Frame} {meth : Method} {c : Code} {G : gG} {b0 : Nat} {H : Heap} {a : Nat} {f : Nat → Nat} (hF : FxM p s m args meth c G cM0_isZero 3 (some .boolean) RM0 wsM0_isZero) (ha : H[a]? = some (aN G 330 f)) (hf : dlm f 330) : ∀ (q : Nat) (i z : Nat), i + q = 330 → ((z = 1 ∧ ∀ j, j < i → f j = 0) ∨ (z = 0 ∧ ∃ j, j < i ∧ f j ≠ 0)) → ∀ (locs : List Loc) (ls : Array Slot), lcs b0 locs → lv_has ls 3 [(0, .ref a), (1, .int (nI z)), (2, .int (nI i))] → W p l e ({ frames := 0, cells := 0, slots := 0, locals := 0 } : Room) s m args below meth c H locs 0 0 (MQ below (QcI (fun r H1 => ((r = nI 1 ∧ dl f 330 = 0) ∨ (r = nI 0 ∧ dl f 330 ≠ 0)) ∧ H = H1)) args s 0 0 (fre b0)) (F0 m 4 ls []) := by
  obtain ⟨hx, hb, hr, hml, hown, hts, hlocks, hK⟩ := id hF
  intro q
  induction q with
  | zero =>
    intro i z hi hz locs ls hLc hl
    rcases hz with ⟨rfl, hz⟩ | ⟨rfl, hz⟩
    · skip
      refine lv_iload_n hx hb dM0_isZero_4 rfl (lv_at hl 2 rfl) ?_
      refine lv_sipush (v := nI 330) hx hb dM0_isZero_5 (by decide) ?_
      refine lv_icmp_ge (tgt := 33) hx hb dM0_isZero_8 (by decide) (fun _ => ?_) (fun h => absurd (nI_le (by omega) (by omega)) h)
      refine lv_iload_n hx hb dM0_isZero_33 rfl (lv_at hl 1 rfl) ?_
      exact m_zret hx hb hr hlocks hLc (by decide) dM0_isZero_34 (⟨Or.inl ⟨rfl, dl_zero_iff.mpr (fun j hj => hz j (by omega))⟩, rfl⟩)
    · skip
      refine lv_iload_n hx hb dM0_isZero_4 rfl (lv_at hl 2 rfl) ?_
      refine lv_sipush (v := nI 330) hx hb dM0_isZero_5 (by decide) ?_
      refine lv_icmp_ge (tgt := 33) hx hb dM0_isZero_8 (by decide) (fun _ => ?_) (fun h => absurd (nI_le (by omega) (by omega)) h)
      refine lv_iload_n hx hb dM0_isZero_33 rfl (lv_at hl 1 rfl) ?_
      exact m_zret hx hb hr hlocks hLc (by decide) dM0_isZero_34 (⟨Or.inr ⟨rfl, fun h => hz.elim (fun j hj => hj.2 (dl_zero_iff.mp h j (by omega)))⟩, rfl⟩)
  | succ q ih =>
    intro i z hi hz locs ls hLc hl
    have hfi := hf i (by omega)
    rcases hz with ⟨rfl, hz⟩ | ⟨rfl, hz⟩
    · skip
      refine lv_iload_n hx hb dM0_isZero_4 rfl (lv_at hl 2 rfl) ?_
      refine lv_sipush (v := nI 330) hx hb dM0_isZero_5 (by decide) ?_
      refine lv_icmp_ge (tgt := 33) hx hb dM0_isZero_8 (by decide) (fun h => absurd h (nI_ge (by omega) (by omega))) (fun _ => ?_)
      refine lv_iload_n hx hb dM0_isZero_11 rfl (lv_at hl 1 rfl) ?_
      refine m_if_eq (tgt := 25) hx hb (by decide) dM0_isZero_12 (by decide) (fun h => absurd h (by decide)) (fun _ => ?_)
      refine lv_aload_n hx hb dM0_isZero_15 rfl (lv_at hl 0 rfl) ?_
      refine lv_iload_n hx hb dM0_isZero_16 rfl (lv_at hl 2 rfl) ?_
      refine m_nald (n := 330) (f := f) hx hb hK (ha) (by omega) (by decide) dM0_isZero_17 ?_
      refine m_if_ne (tgt := 25) hx hb (by omega) dM0_isZero_18 (by decide) (fun c18 => ?_) (fun c18 => ?_)
      · skip
        refine lv_iconst (v := nI 0) hx hb dM0_isZero_25 (by decide) ?_
        refine lv_istore_n (lv' := [(1, .int (nI 0)), (0, .ref a), (2, .int (nI i))]) hx hb dM0_isZero_26 rfl hl (by decide) rfl (fun ls hl => ?_)
        refine lv_iinc (v := nI (i + 1)) (lv' := [(2, .int (nI (i + 1))), (1, .int (nI 0)), (0, .ref a)]) hx hb dM0_isZero_27 hl (k := 2) rfl (nI_add i 1) (by decide) rfl (fun ls hl => ?_)
        refine lv_goto (tgt := 4) hx hb dM0_isZero_30 (by decide) ?_
        exact ih (i + 1) 0 (by omega) (Or.inr ⟨rfl, i, by omega, c18⟩) _ _ hLc (lv_sub hl [2, 1, 0] rfl)
      · skip
        refine lv_iconst (v := nI 1) hx hb dM0_isZero_21 (by decide) ?_
        refine lv_goto (tgt := 26) hx hb dM0_isZero_22 (by decide) ?_
        refine lv_istore_n (lv' := [(1, .int (nI 1)), (0, .ref a), (2, .int (nI i))]) hx hb dM0_isZero_26 rfl hl (by decide) rfl (fun ls hl => ?_)
        refine lv_iinc (v := nI (i + 1)) (lv' := [(2, .int (nI (i + 1))), (1, .int (nI 1)), (0, .ref a)]) hx hb dM0_isZero_27 hl (k := 2) rfl (nI_add i 1) (by decide) rfl (fun ls hl => ?_)
        refine lv_goto (tgt := 4) hx hb dM0_isZero_30 (by decide) ?_
        exact ih (i + 1) 1 (by omega) (Or.inl ⟨rfl, fun j hj => if h : j = i then (by rw [h]; exact c18) else hz j (by omega)⟩) _ _ hLc (lv_sub hl [2, 1, 0] rfl)
    · skip
      refine lv_iload_n hx hb dM0_isZero_4 rfl (lv_at hl 2 rfl) ?_
      refine lv_sipush (v := nI 330) hx hb dM0_isZero_5 (by decide) ?_
      refine lv_icmp_ge (tgt := 33) hx hb dM0_isZero_8 (by decide) (fun h => absurd h (nI_ge (by omega) (by omega))) (fun _ => ?_)
      refine lv_iload_n hx hb dM0_isZero_11 rfl (lv_at hl 1 rfl) ?_
      refine m_if_eq (tgt := 25) hx hb (by decide) dM0_isZero_12 (by decide) (fun _ => ?_) (fun h => absurd h (by decide))
      refine lv_iconst (v := nI 0) hx hb dM0_isZero_25 (by decide) ?_
      refine lv_istore_n (lv' := [(1, .int (nI 0)), (0, .ref a), (2, .int (nI i))]) hx hb dM0_isZero_26 rfl hl (by decide) rfl (fun ls hl => ?_)
      refine lv_iinc (v := nI (i + 1)) (lv' := [(2, .int (nI (i + 1))), (1, .int (nI 0)), (0, .ref a)]) hx hb dM0_isZero_27 hl (k := 2) rfl (nI_add i 1) (by decide) rfl (fun ls hl => ?_)
      refine lv_goto (tgt := 4) hx hb dM0_isZero_30 (by decide) ?_
      exact ih (i + 1) 0 (by omega) (Or.inr ⟨rfl, hz.elim (fun j h => ⟨j, by omega, h.2⟩)⟩) _ _ hLc (lv_sub hl [2, 1, 0] rfl)
set_option maxRecDepth 100000 in
set_option maxHeartbeats 4000000 in
theorem c_M0_isZero (l : Launch) (G : gG) (b0 : Nat) (H : Heap) {a : Nat} {f : Nat → Nat} (ha : H[a]? = some (aN G 330 f)) (hf : dlm f 330) : Met l yM0_isZero wsM0_isZero ({ frames := 0, cells := 0, slots := 0, locals := 0 } : Room) (PcH G H [.ref a]) (QcI (fun r H1 => ((r = nI 1 ∧ dl f 330 = 0) ∨ (r = nI 0 ∧ dl f 330 ≠ 0)) ∧ H = H1)) 0 0 (fre b0) := by
  refine m_enter (cc := cM0_isZero) (maxL := 3) (ret := (some .boolean)) (own := RM0) (by decide) rfl rfl (Nat.le_of_ble_eq_true rfl) ?_
  intro p e s m below meth c ls hF hnm hH hl
  have hl : lv_has ls 3 [(0, .ref a)] := hl
  have hLc : lcs b0 [] := lcs_nil b0
  obtain ⟨hx, hb, hr, hml, hown, hts, hlocks, hK⟩ := id hF
  refine lv_iconst (v := nI 1) hx hb dM0_isZero_0 (by decide) ?_
  refine lv_istore_n (lv' := [(1, .int (nI 1)), (0, .ref a)]) hx hb dM0_isZero_1 rfl hl (by decide) rfl (fun ls hl => ?_)
  refine lv_iconst (v := nI 0) hx hb dM0_isZero_2 (by decide) ?_
  refine lv_istore_n (lv' := [(2, .int (nI 0)), (1, .int (nI 1)), (0, .ref a)]) hx hb dM0_isZero_3 rfl hl (by decide) rfl (fun ls hl => ?_)
  exact isZero_4 hF ha hf 330 0 1 (by omega) (Or.inl ⟨rfl, fun j hj => absurd hj (by omega)⟩) _ _ hLc (lv_sub hl [2, 1, 0] rfl)

set_option maxRecDepth 100000 in
set_option maxHeartbeats 4000000 in
theorem rorder_4 {p : Program} {l : Launch} {e : Env} {s : State} {m : MethodId} {args : Array Value} {below : List Frame} {meth : Method} {c : Code} {G : gG} {b0 : Nat} {H : Heap} {a b : Nat} {f g : Nat → Nat} (hF : FxM p s m args meth c G cM0_order 3 (some .int) RM0 wsM0_order) (ha : H[a]? = some (aN G 330 f)) (hb0 : H[b]? = some (aN G 330 g)) (hf : dlm f 330) (hg : dlm g 330) : ∀ (q : Nat) , q ≤ 330 → (∀ j, q ≤ j → j < 330 → f j = g j) → ∀ (locs : List Loc) (ls : Array Slot), lcs b0 locs → lv_has ls 3 [(0, .ref a), (1, .ref b), (2, .int (nI q - 1))] → W p l e ({ frames := 0, cells := 0, slots := 0, locals := 0 } : Room) s m args below meth c H locs 0 0 (MQ below (QcI (fun r H1 => ordP r (dl f 330) (dl g 330) ∧ H = H1)) args s 0 0 (fre b0)) (F0 m 4 ls []) := by
  obtain ⟨hx, hb, hr, hml, hown, hts, hlocks, hK⟩ := id hF
  intro q
  induction q with
  | zero =>
    intro hq he locs ls hLc hl
    refine lv_iload_n hx hb dM0_order_4 rfl (lv_at hl 2 rfl) ?_
    refine lv_if_lt (tgt := 38) hx hb dM0_order_5 (by decide) (fun _ => ?_) (fun h => absurd (by decide) h)
    refine lv_iconst (v := nI 0) hx hb dM0_order_38 (by decide) ?_
    exact m_iret hx hb hr hlocks hLc dM0_order_39 (⟨Or.inr (Or.inl ⟨dl_congr (fun j hj => he j (by omega) hj), nI_0⟩), rfl⟩)
  | succ q ih =>
    intro hq he locs ls hLc hl
    rw [nI_pred] at hl
    have h1 := hf q (by omega)
    have h2 := hg q (by omega)
    refine lv_iload_n hx hb dM0_order_4 rfl (lv_at hl 2 rfl) ?_
    refine lv_if_lt (tgt := 38) hx hb dM0_order_5 (by decide) (fun h => absurd h (nI_pos (by omega))) (fun _ => ?_)
    refine lv_aload_n hx hb dM0_order_8 rfl (lv_at hl 0 rfl) ?_
    refine lv_iload_n hx hb dM0_order_9 rfl (lv_at hl 2 rfl) ?_
    refine m_nald (n := 330) (f := f) hx hb hK (ha) (by omega) (by decide) dM0_order_10 ?_
    refine lv_aload_n hx hb dM0_order_11 rfl (lv_at hl 1 rfl) ?_
    refine lv_iload_n hx hb dM0_order_12 rfl (lv_at hl 2 rfl) ?_
    refine m_nald (n := 330) (f := g) hx hb hK (hb0) (by omega) (by decide) dM0_order_13 ?_
    refine m_icmp_eq (tgt := 32) hx hb (by omega) (by omega) dM0_order_14 (by decide) (fun c14 => ?_) (fun c14 => ?_)
    · skip
      have he2 : ∀ j, q ≤ j → j < 330 → f j = g j := fun j h3 h4 => (Nat.eq_or_lt_of_le h3).elim (fun h5 => by rw [← h5]; exact c14) (fun h5 => he j h5 h4)
      refine lv_iinc (v := nI q - 1) (lv' := [(2, .int (nI q - 1)), (0, .ref a), (1, .ref b)]) hx hb dM0_order_32 hl (k := 2) rfl (nI_decI _) (by decide) rfl (fun ls hl => ?_)
      refine lv_goto (tgt := 4) hx hb dM0_order_35 (by decide) ?_
      exact ih (by omega) he2 _ _ hLc (lv_sub hl [1, 2, 0] rfl)
    · skip
      refine lv_aload_n hx hb dM0_order_17 rfl (lv_at hl 0 rfl) ?_
      refine lv_iload_n hx hb dM0_order_18 rfl (lv_at hl 2 rfl) ?_
      refine m_nald (n := 330) (f := f) hx hb hK (ha) (by omega) (by decide) dM0_order_19 ?_
      refine lv_aload_n hx hb dM0_order_20 rfl (lv_at hl 1 rfl) ?_
      refine lv_iload_n hx hb dM0_order_21 rfl (lv_at hl 2 rfl) ?_
      refine m_nald (n := 330) (f := g) hx hb hK (hb0) (by omega) (by decide) dM0_order_22 ?_
      refine m_icmp_ge (tgt := 30) hx hb (by omega) (by omega) dM0_order_23 (by decide) (fun c23 => ?_) (fun c23 => ?_)
      · skip
        refine lv_iconst (v := nI 1) hx hb dM0_order_30 (by decide) ?_
        exact m_iret hx hb hr hlocks hLc dM0_order_31 (⟨Or.inr (Or.inr ⟨ord_ltd (by omega) hg (fun j h3 h4 => (he j h3 h4).symm) (by omega), rfl⟩), rfl⟩)
      · skip
        refine lv_iconst (v := -1) hx hb dM0_order_26 (by decide) ?_
        refine lv_goto (tgt := 31) hx hb dM0_order_27 (by decide) ?_
        exact m_iret hx hb hr hlocks hLc dM0_order_31 (⟨Or.inl ⟨ord_ltd (by omega) hf he c23, rfl⟩, rfl⟩)
set_option maxRecDepth 100000 in
set_option maxHeartbeats 4000000 in
theorem c_M0_order (l : Launch) (G : gG) (b0 : Nat) (H : Heap) {a b : Nat} {f g : Nat → Nat} (ha : H[a]? = some (aN G 330 f)) (hb0 : H[b]? = some (aN G 330 g)) (hf : dlm f 330) (hg : dlm g 330) : Met l yM0_order wsM0_order ({ frames := 0, cells := 0, slots := 0, locals := 0 } : Room) (PcH G H [.ref a, .ref b]) (QcI (fun r H1 => ordP r (dl f 330) (dl g 330) ∧ H = H1)) 0 0 (fre b0) := by
  refine m_enter (cc := cM0_order) (maxL := 3) (ret := (some .int)) (own := RM0) (by decide) rfl rfl (Nat.le_of_ble_eq_true rfl) ?_
  intro p e s m below meth c ls hF hnm hH hl
  have hl : lv_has ls 3 [(0, .ref a), (1, .ref b)] := hl
  have hLc : lcs b0 [] := lcs_nil b0
  obtain ⟨hx, hb, hr, hml, hown, hts, hlocks, hK⟩ := id hF
  refine lv_sipush (v := 329) hx hb dM0_order_0 (by decide) ?_
  refine lv_istore_n (lv' := [(2, .int 329), (0, .ref a), (1, .ref b)]) hx hb dM0_order_3 rfl hl (by decide) rfl (fun ls hl => ?_)
  have hl : lv_has ls 3 [(2, .int (nI 330 - 1)), (0, .ref a), (1, .ref b)] := hl
  exact rorder_4 hF ha hb0 hf hg 330 (Nat.le_refl 330) (fun j h1 h2 => absurd h2 (by omega)) _ _ hLc (lv_sub hl [1, 2, 0] rfl)

set_option maxRecDepth 100000 in
set_option maxHeartbeats 4000000 in
theorem grow_5 {p : Program} {l : Launch} {e : Env} {s : State} {m : MethodId} {args : Array Value} {below : List Frame} {meth : Method} {c : Code} {G : gG} {b0 : Nat} {H : Heap} {a x y : Nat} {f : Nat → Nat} (hF : FxM p s m args meth c G cM0_grow 6 none RM0 wsM0_grow) (ht : H[a]? = some (aN G 330 f)) (hf : dlm f 330) (hbt : b0 ≤ a) (hx0 : x ≤ 36) (hy0 : y ≤ 40) : ∀ (q : Nat) (i c1 : Nat) (g : Nat → Nat), i + q = 330 → dlm g 330 → (∀ j, i ≤ j → g j = f j) → c1 ≤ 40 → dl g i + c1 * 10 ^ i = dl f i * x + y → ∀ (locs : List Loc) (ls : Array Slot), lcs b0 locs → lv_has ls 6 [(0, .ref a), (1, .int (nI x)), (2, .int (nI y)), (3, .int (nI c1)), (4, .int (nI i))] → W p l e ({ frames := 0, cells := 0, slots := 0, locals := 0 } : Room) s m args below meth c (hput H a (aN G 330 g)) locs 0 0 (MQ below (QcV (fun H1 => ∃ (g : Nat → Nat) (c1 : Nat), dlm g 330 ∧ dl g 330 + c1 * 10 ^ 330 = dl f 330 * x + y ∧ H1 = hput H a (aN G 330 g))) args s 0 0 (fre b0)) (F0 m 5 ls []) := by
  obtain ⟨hx, hb, hr, hml, hown, hts, hlocks, hK⟩ := id hF
  intro q
  induction q with
  | zero =>
    intro i c1 g hi hg hs hc hv locs ls hLc hl
    have hin : i = 330 := by omega
    rw [hin] at hv
    refine lv_iload hx hb dM0_grow_5 (lv_at hl 4 rfl) ?_
    refine lv_sipush (v := nI 330) hx hb dM0_grow_7 (by decide) ?_
    refine lv_icmp_ge (tgt := 44) hx hb dM0_grow_10 (by decide) (fun _ => ?_) (fun h => absurd (nI_le (by omega) (by omega)) h)
    exact m_vret hx hb hr hlocks hLc dM0_grow_44 (⟨g, c1, hg, hv, rfl⟩)
  | succ q ih =>
    intro i c1 g hi hg hs hc hv locs ls hLc hl
    have hin : i < 330 := by omega
    have hgi := hg i hin
    have hM : g i * x ≤ 9 * 36 := Nat.mul_le_mul (by omega) hx0
    have hxl : (g i * x + c1) % 10 < 10 := Nat.mod_lt _ (by decide)
    refine lv_iload hx hb dM0_grow_5 (lv_at hl 4 rfl) ?_
    refine lv_sipush (v := nI 330) hx hb dM0_grow_7 (by decide) ?_
    refine lv_icmp_ge (tgt := 44) hx hb dM0_grow_10 (by decide) (fun h => absurd h (nI_ge (by omega) (by omega))) (fun _ => ?_)
    refine lv_aload_n hx hb dM0_grow_13 rfl (lv_at hl 0 rfl) ?_
    refine lv_iload hx hb dM0_grow_14 (lv_at hl 4 rfl) ?_
    refine m_nald (n := 330) (f := g) hx hb hK (hput_self _ (lt_of_at ht)) (by omega) (by decide) dM0_grow_16 ?_
    refine lv_iload_n hx hb dM0_grow_17 rfl (lv_at hl 1 rfl) ?_
    refine m_imul (a := g i) (b := x) hx hb dM0_grow_18 ?_
    refine lv_iload_n hx hb dM0_grow_19 rfl (lv_at hl 3 rfl) ?_
    refine m_iadd (a := (g i) * x) (b := c1) hx hb dM0_grow_20 ?_
    refine lv_istore (lv' := [(5, .int (nI (((g i) * x) + c1))), (0, .ref a), (1, .int (nI x)), (2, .int (nI y)), (3, .int (nI c1)), (4, .int (nI i))]) hx hb dM0_grow_21 hl (by decide) rfl (fun ls hl => ?_)
    refine lv_aload_n hx hb dM0_grow_23 rfl (lv_at hl 1 rfl) ?_
    refine lv_iload hx hb dM0_grow_24 (lv_at hl 5 rfl) ?_
    refine lv_iload hx hb dM0_grow_26 (lv_at hl 0 rfl) ?_
    refine lv_bipush (v := nI 10) hx hb dM0_grow_28 (by decide) ?_
    refine m_irem (a := ((g i) * x) + c1) (b := 10) hx hb (by omega) (by decide) (by decide) dM0_grow_30 ?_
    refine m_nast (n := 330) (f := g) (b0 := b0) hx hb hK (hput_self _ (lt_of_at ht)) (by omega) (by decide) (hbt) hLc dM0_grow_31 (fun locs hLc => ?_)
    rw [hput_put]
    refine lv_iload hx hb dM0_grow_32 (lv_at hl 0 rfl) ?_
    refine lv_bipush (v := nI 10) hx hb dM0_grow_34 (by decide) ?_
    refine m_idiv (a := ((g i) * x) + c1) (b := 10) hx hb (by omega) (by decide) (by decide) dM0_grow_36 ?_
    refine lv_istore_n (lv' := [(3, .int (nI ((((g i) * x) + c1) / 10))), (5, .int (nI (((g i) * x) + c1))), (0, .ref a), (1, .int (nI x)), (2, .int (nI y)), (4, .int (nI i))]) hx hb dM0_grow_37 rfl hl (by decide) rfl (fun ls hl => ?_)
    refine lv_iinc (v := nI (i + 1)) (lv' := [(4, .int (nI (i + 1))), (3, .int (nI ((((g i) * x) + c1) / 10))), (5, .int (nI (((g i) * x) + c1))), (0, .ref a), (1, .int (nI x)), (2, .int (nI y))]) hx hb dM0_grow_38 hl (k := 5) rfl (nI_add i 1) (by decide) rfl (fun ls hl => ?_)
    refine lv_goto (tgt := 5) hx hb dM0_grow_41 (by decide) ?_
    exact ih (i + 1) _ _ (by omega) (dlm_fup hg hxl) (fun j hj => by rw [fup_n _ _ (by omega)]; exact hs j (by omega)) (by omega) (mad_stepd (hs i (Nat.le_refl i)) hv) _ _ hLc (lv_sub hl [3, 4, 5, 1, 0] rfl)
set_option maxRecDepth 100000 in
set_option maxHeartbeats 4000000 in
theorem c_M0_grow (l : Launch) (G : gG) (b0 : Nat) (H : Heap) {a x y : Nat} {f : Nat → Nat} (ht : H[a]? = some (aN G 330 f)) (hf : dlm f 330) (hbt : b0 ≤ a) (hx0 : x ≤ 36) (hy0 : y ≤ 40) : Met l yM0_grow wsM0_grow ({ frames := 0, cells := 0, slots := 0, locals := 0 } : Room) (PcH G H [.ref a, .int (nI x), .int (nI y)]) (QcV (fun H1 => ∃ (g : Nat → Nat) (c1 : Nat), dlm g 330 ∧ dl g 330 + c1 * 10 ^ 330 = dl f 330 * x + y ∧ H1 = hput H a (aN G 330 g))) 0 0 (fre b0) := by
  refine m_enter (cc := cM0_grow) (maxL := 6) (ret := none) (own := RM0) (by decide) rfl rfl (Nat.le_of_ble_eq_true rfl) ?_
  intro p e s m below meth c ls hF hnm hH hl
  have hl : lv_has ls 6 [(0, .ref a), (1, .int (nI x)), (2, .int (nI y))] := hl
  have hLc : lcs b0 [] := lcs_nil b0
  obtain ⟨hx, hb, hr, hml, hown, hts, hlocks, hK⟩ := id hF
  refine lv_iload_n hx hb dM0_grow_0 rfl (lv_at hl 2 rfl) ?_
  refine lv_istore_n (lv' := [(3, .int (nI y)), (0, .ref a), (1, .int (nI x)), (2, .int (nI y))]) hx hb dM0_grow_1 rfl hl (by decide) rfl (fun ls hl => ?_)
  refine lv_iconst (v := nI 0) hx hb dM0_grow_2 (by decide) ?_
  refine lv_istore (lv' := [(4, .int (nI 0)), (3, .int (nI y)), (0, .ref a), (1, .int (nI x)), (2, .int (nI y))]) hx hb dM0_grow_3 hl (by decide) rfl (fun ls hl => ?_)
  have hl := lv_sub (l' := [(0, .ref a), (1, .int (nI x)), (2, .int (nI y)), (3, .int (nI y)), (4, .int (nI 0))]) hl [2, 3, 4, 1, 0] rfl
  have hh := grow_5 (l := l) (e := e) (below := below) hF ht hf hbt hx0 hy0 330 0 y f (by omega) hf (fun j _ => rfl) hy0 (by simp [dl]) _ _ hLc hl
  rw [hput_same ht] at hh
  exact hh

set_option maxRecDepth 100000 in
set_option maxHeartbeats 4000000 in
theorem shrink_6 {p : Program} {l : Launch} {e : Env} {s : State} {m : MethodId} {args : Array Value} {below : List Frame} {meth : Method} {c : Code} {G : gG} {b0 : Nat} {H : Heap} {a d : Nat} {f : Nat → Nat} (hF : FxM p s m args meth c G cM0_shrink 5 (some .int) RM0 wsM0_shrink) (ht : H[a]? = some (aN G 330 f)) (hf : dlm f 330) (hbt : b0 ≤ a) (hd1 : 1 ≤ d) (hd2 : d ≤ 36) : ∀ (k : Nat) (z : Nat) (g : Nat → Nat), k ≤ 330 → z < d → dlm g 330 → (∀ j, j < k → g j = f j) → dl f 330 + d * dl g k = d * dl g 330 + z * 10 ^ k + dl f k → ∀ (locs : List Loc) (ls : Array Slot), lcs b0 locs → lv_has ls 5 [(0, .ref a), (1, .int (nI d)), (2, .int (nI z)), (3, .int (nI k - 1))] → W p l e ({ frames := 0, cells := 0, slots := 0, locals := 0 } : Room) s m args below meth c (hput H a (aN G 330 g)) locs 0 0 (MQ below (QcI (fun r H1 => ∃ (g : Nat → Nat) (z : Nat), r = nI z ∧ z < d ∧ dlm g 330 ∧ dl f 330 = d * dl g 330 + z ∧ H1 = hput H a (aN G 330 g))) args s 0 0 (fre b0)) (F0 m 6 ls []) := by
  obtain ⟨hx, hb, hr, hml, hown, hts, hlocks, hK⟩ := id hF
  intro k
  induction k with
  | zero =>
    intro z g hk hz hg hs hv locs ls hLc hl
    refine lv_iload_n hx hb dM0_shrink_6 rfl (lv_at hl 3 rfl) ?_
    refine lv_if_lt (tgt := 38) hx hb dM0_shrink_7 (by decide) (fun _ => ?_) (fun h => absurd (by decide) h)
    refine lv_iload_n hx hb dM0_shrink_38 rfl (lv_at hl 2 rfl) ?_
    exact m_iret hx hb hr hlocks hLc dM0_shrink_39 (⟨g, z, rfl, hz, hg, by rw [show dl g 0 = 0 from rfl, show dl f 0 = 0 from rfl, Nat.pow_zero] at hv; omega, rfl⟩)
  | succ k ih =>
    intro z g hk hz hg hs hv locs ls hLc hl
    rw [nI_pred] at hl
    have hgk := hg k (by omega)
    have hq : (z * 10 + g k) / d < 10 := dbs_ltd hz hgk
    refine lv_iload_n hx hb dM0_shrink_6 rfl (lv_at hl 3 rfl) ?_
    refine lv_if_lt (tgt := 38) hx hb dM0_shrink_7 (by decide) (fun h => absurd h (nI_pos (by omega))) (fun _ => ?_)
    refine lv_bipush (v := nI 10) hx hb dM0_shrink_10 (by decide) ?_
    refine lv_iload_n hx hb dM0_shrink_12 rfl (lv_at hl 2 rfl) ?_
    refine m_imul (a := 10) (b := z) hx hb dM0_shrink_13 ?_
    refine lv_aload_n hx hb dM0_shrink_14 rfl (lv_at hl 0 rfl) ?_
    refine lv_iload_n hx hb dM0_shrink_15 rfl (lv_at hl 3 rfl) ?_
    refine m_nald (n := 330) (f := g) hx hb hK (hput_self _ (lt_of_at ht)) (by omega) (by decide) dM0_shrink_16 ?_
    refine m_iadd (a := 10 * z) (b := g k) hx hb dM0_shrink_17 ?_
    rw [Nat.mul_comm 10 z]
    refine lv_istore (lv' := [(4, .int (nI (z * 10 + g k))), (0, .ref a), (1, .int (nI d)), (2, .int (nI z)), (3, .int (nI k))]) hx hb dM0_shrink_18 hl (by decide) rfl (fun ls hl => ?_)
    refine lv_aload_n hx hb dM0_shrink_20 rfl (lv_at hl 1 rfl) ?_
    refine lv_iload_n hx hb dM0_shrink_21 rfl (lv_at hl 4 rfl) ?_
    refine lv_iload hx hb dM0_shrink_22 (lv_at hl 0 rfl) ?_
    refine lv_iload_n hx hb dM0_shrink_24 rfl (lv_at hl 2 rfl) ?_
    refine m_idiv (a := z * 10 + g k) (b := d) hx hb (by omega) (by omega) (by omega) dM0_shrink_25 ?_
    refine m_nast (n := 330) (f := g) (b0 := b0) hx hb hK (hput_self _ (lt_of_at ht)) (by omega) (by decide) (hbt) hLc dM0_shrink_26 (fun locs hLc => ?_)
    rw [hput_put]
    refine lv_iload hx hb dM0_shrink_27 (lv_at hl 0 rfl) ?_
    refine lv_iload_n hx hb dM0_shrink_29 rfl (lv_at hl 2 rfl) ?_
    refine m_irem (a := z * 10 + g k) (b := d) hx hb (by omega) (by omega) (by omega) dM0_shrink_30 ?_
    refine lv_istore_n (lv' := [(2, .int (nI ((z * 10 + g k) % d))), (4, .int (nI (z * 10 + g k))), (0, .ref a), (1, .int (nI d)), (3, .int (nI k))]) hx hb dM0_shrink_31 rfl hl (by decide) rfl (fun ls hl => ?_)
    refine lv_iinc (v := nI k - 1) (lv' := [(3, .int (nI k - 1)), (2, .int (nI ((z * 10 + g k) % d))), (4, .int (nI (z * 10 + g k))), (0, .ref a), (1, .int (nI d))]) hx hb dM0_shrink_32 hl (k := 4) rfl (nI_decI _) (by decide) rfl (fun ls hl => ?_)
    refine lv_goto (tgt := 6) hx hb dM0_shrink_35 (by decide) ?_
    exact ih _ _ (by omega) (Nat.mod_lt _ (by omega)) (dlm_fup hg hq) (fun j hj => by rw [fup_n _ _ (by omega)]; exact hs j (by omega)) (dbs_stepd (by omega) (hs k (by omega)) hv) _ _ hLc (lv_sub hl [3, 4, 1, 0] rfl)
set_option maxRecDepth 100000 in
set_option maxHeartbeats 4000000 in
theorem c_M0_shrink (l : Launch) (G : gG) (b0 : Nat) (H : Heap) {a d : Nat} {f : Nat → Nat} (ht : H[a]? = some (aN G 330 f)) (hf : dlm f 330) (hbt : b0 ≤ a) (hd1 : 1 ≤ d) (hd2 : d ≤ 36) : Met l yM0_shrink wsM0_shrink ({ frames := 0, cells := 0, slots := 0, locals := 0 } : Room) (PcH G H [.ref a, .int (nI d)]) (QcI (fun r H1 => ∃ (g : Nat → Nat) (z : Nat), r = nI z ∧ z < d ∧ dlm g 330 ∧ dl f 330 = d * dl g 330 + z ∧ H1 = hput H a (aN G 330 g))) 0 0 (fre b0) := by
  refine m_enter (cc := cM0_shrink) (maxL := 5) (ret := (some .int)) (own := RM0) (by decide) rfl rfl (Nat.le_of_ble_eq_true rfl) ?_
  intro p e s m below meth c ls hF hnm hH hl
  have hl : lv_has ls 5 [(0, .ref a), (1, .int (nI d))] := hl
  have hLc : lcs b0 [] := lcs_nil b0
  obtain ⟨hx, hb, hr, hml, hown, hts, hlocks, hK⟩ := id hF
  refine lv_iconst (v := nI 0) hx hb dM0_shrink_0 (by decide) ?_
  refine lv_istore_n (lv' := [(2, .int (nI 0)), (0, .ref a), (1, .int (nI d))]) hx hb dM0_shrink_1 rfl hl (by decide) rfl (fun ls hl => ?_)
  refine lv_sipush (v := 329) hx hb dM0_shrink_2 (by decide) ?_
  refine lv_istore_n (lv' := [(3, .int 329), (2, .int (nI 0)), (0, .ref a), (1, .int (nI d))]) hx hb dM0_shrink_5 rfl hl (by decide) rfl (fun ls hl => ?_)
  have hl : lv_has ls 5 [(3, .int (nI 330 - 1)), (2, .int (nI 0)), (0, .ref a), (1, .int (nI d))] := hl
  have hh := shrink_6 (l := l) (e := e) (below := below) hF ht hf hbt hd1 hd2 330 0 f (Nat.le_refl 330) (by omega) hf (fun j _ => rfl) (by omega) _ _ hLc (lv_sub hl [2, 3, 1, 0] rfl)
  rw [hput_same ht] at hh
  exact hh

set_option maxRecDepth 100000 in
set_option maxHeartbeats 4000000 in
theorem radd_4 {p : Program} {l : Launch} {e : Env} {s : State} {m : MethodId} {args : Array Value} {below : List Frame} {meth : Method} {c : Code} {G : gG} {b0 : Nat} {H : Heap} {a b : Nat} {f1 f2 : Nat → Nat} (hF : FxM p s m args meth c G cM0_add 5 none RM0 wsM0_add) (ht : H[a]? = some (aN G 330 f1)) (hb0 : H[b]? = some (aN G 330 f2)) (hf1 : dlm f1 330) (hf2 : dlm f2 330) (hba : b ≠ a) (hbt : b0 ≤ a) : ∀ (q : Nat) (i c1 : Nat) (g : Nat → Nat), i + q = 330 → dlm g 330 → (∀ j, i ≤ j → g j = f1 j) → c1 ≤ 1 → dl g i + c1 * 10 ^ i = dl f1 i + dl f2 i → ∀ (locs : List Loc) (ls : Array Slot), lcs b0 locs → lv_has ls 5 [(0, .ref a), (1, .ref b), (2, .int (nI c1)), (3, .int (nI i))] → W p l e ({ frames := 0, cells := 0, slots := 0, locals := 0 } : Room) s m args below meth c (hput H a (aN G 330 g)) locs 0 0 (MQ below (QcV (fun H1 => ∃ (g : Nat → Nat) (c1 : Nat), dlm g 330 ∧ dl g 330 + c1 * 10 ^ 330 = dl f1 330 + dl f2 330 ∧ H1 = hput H a (aN G 330 g))) args s 0 0 (fre b0)) (F0 m 4 ls []) := by
  obtain ⟨hx, hb, hr, hml, hown, hts, hlocks, hK⟩ := id hF
  intro q
  induction q with
  | zero =>
    intro i c1 g hi hg hs hc hv locs ls hLc hl
    have hin : i = 330 := by omega
    rw [hin] at hv
    refine lv_iload_n hx hb dM0_add_4 rfl (lv_at hl 3 rfl) ?_
    refine lv_sipush (v := nI 330) hx hb dM0_add_5 (by decide) ?_
    refine lv_icmp_ge (tgt := 42) hx hb dM0_add_8 (by decide) (fun _ => ?_) (fun h => absurd (nI_le (by omega) (by omega)) h)
    exact m_vret hx hb hr hlocks hLc dM0_add_42 (⟨g, c1, hg, hv, rfl⟩)
  | succ q ih =>
    intro i c1 g hi hg hs hc hv locs ls hLc hl
    have hin : i < 330 := by omega
    have hgf : g i = f1 i := hs i (Nat.le_refl i)
    have h1 := hf1 i hin
    have h2 := hf2 i hin
    have hxl : (g i + f2 i + c1) % 10 < 10 := Nat.mod_lt _ (by decide)
    refine lv_iload_n hx hb dM0_add_4 rfl (lv_at hl 3 rfl) ?_
    refine lv_sipush (v := nI 330) hx hb dM0_add_5 (by decide) ?_
    refine lv_icmp_ge (tgt := 42) hx hb dM0_add_8 (by decide) (fun h => absurd h (nI_ge (by omega) (by omega))) (fun _ => ?_)
    refine lv_aload_n hx hb dM0_add_11 rfl (lv_at hl 0 rfl) ?_
    refine lv_iload_n hx hb dM0_add_12 rfl (lv_at hl 3 rfl) ?_
    refine m_nald (n := 330) (f := g) hx hb hK (hput_self _ (lt_of_at ht)) (by omega) (by decide) dM0_add_13 ?_
    refine lv_aload_n hx hb dM0_add_14 rfl (lv_at hl 1 rfl) ?_
    refine lv_iload_n hx hb dM0_add_15 rfl (lv_at hl 3 rfl) ?_
    refine m_nald (n := 330) (f := f2) hx hb hK ((hput_ne _ hba).trans hb0) (by omega) (by decide) dM0_add_16 ?_
    refine m_iadd (a := g i) (b := f2 i) hx hb dM0_add_17 ?_
    refine lv_iload_n hx hb dM0_add_18 rfl (lv_at hl 2 rfl) ?_
    refine m_iadd (a := (g i) + (f2 i)) (b := c1) hx hb dM0_add_19 ?_
    refine lv_istore (lv' := [(4, .int (nI (((g i) + (f2 i)) + c1))), (0, .ref a), (1, .ref b), (2, .int (nI c1)), (3, .int (nI i))]) hx hb dM0_add_20 hl (by decide) rfl (fun ls hl => ?_)
    refine lv_aload_n hx hb dM0_add_22 rfl (lv_at hl 1 rfl) ?_
    refine lv_iload_n hx hb dM0_add_23 rfl (lv_at hl 4 rfl) ?_
    refine lv_iload hx hb dM0_add_24 (lv_at hl 0 rfl) ?_
    refine lv_bipush (v := nI 10) hx hb dM0_add_26 (by decide) ?_
    refine m_irem (a := ((g i) + (f2 i)) + c1) (b := 10) hx hb (by omega) (by decide) (by decide) dM0_add_28 ?_
    refine m_nast (n := 330) (f := g) (b0 := b0) hx hb hK (hput_self _ (lt_of_at ht)) (by omega) (by decide) (hbt) hLc dM0_add_29 (fun locs hLc => ?_)
    rw [hput_put]
    refine lv_iload hx hb dM0_add_30 (lv_at hl 0 rfl) ?_
    refine lv_bipush (v := nI 10) hx hb dM0_add_32 (by decide) ?_
    refine m_idiv (a := ((g i) + (f2 i)) + c1) (b := 10) hx hb (by omega) (by decide) (by decide) dM0_add_34 ?_
    refine lv_istore_n (lv' := [(2, .int (nI ((((g i) + (f2 i)) + c1) / 10))), (4, .int (nI (((g i) + (f2 i)) + c1))), (0, .ref a), (1, .ref b), (3, .int (nI i))]) hx hb dM0_add_35 rfl hl (by decide) rfl (fun ls hl => ?_)
    refine lv_iinc (v := nI (i + 1)) (lv' := [(3, .int (nI (i + 1))), (2, .int (nI ((((g i) + (f2 i)) + c1) / 10))), (4, .int (nI (((g i) + (f2 i)) + c1))), (0, .ref a), (1, .ref b)]) hx hb dM0_add_36 hl (k := 4) rfl (nI_add i 1) (by decide) rfl (fun ls hl => ?_)
    refine lv_goto (tgt := 4) hx hb dM0_add_39 (by decide) ?_
    exact ih (i + 1) _ _ (by omega) (dlm_fup hg hxl) (fun j hj => by rw [fup_n _ _ (by omega)]; exact hs j (by omega)) (by omega) (by rw [hgf]; exact add_stepd hv) _ _ hLc (lv_sub hl [3, 4, 1, 0] rfl)
set_option maxRecDepth 100000 in
set_option maxHeartbeats 4000000 in
theorem c_M0_add (l : Launch) (G : gG) (b0 : Nat) (H : Heap) {a b : Nat} {f1 f2 : Nat → Nat} (ht : H[a]? = some (aN G 330 f1)) (hb0 : H[b]? = some (aN G 330 f2)) (hf1 : dlm f1 330) (hf2 : dlm f2 330) (hba : b ≠ a) (hbt : b0 ≤ a) : Met l yM0_add wsM0_add ({ frames := 0, cells := 0, slots := 0, locals := 0 } : Room) (PcH G H [.ref a, .ref b]) (QcV (fun H1 => ∃ (g : Nat → Nat) (c1 : Nat), dlm g 330 ∧ dl g 330 + c1 * 10 ^ 330 = dl f1 330 + dl f2 330 ∧ H1 = hput H a (aN G 330 g))) 0 0 (fre b0) := by
  refine m_enter (cc := cM0_add) (maxL := 5) (ret := none) (own := RM0) (by decide) rfl rfl (Nat.le_of_ble_eq_true rfl) ?_
  intro p e s m below meth c ls hF hnm hH hl
  have hl : lv_has ls 5 [(0, .ref a), (1, .ref b)] := hl
  have hLc : lcs b0 [] := lcs_nil b0
  obtain ⟨hx, hb, hr, hml, hown, hts, hlocks, hK⟩ := id hF
  refine lv_iconst (v := nI 0) hx hb dM0_add_0 (by decide) ?_
  refine lv_istore_n (lv' := [(2, .int (nI 0)), (0, .ref a), (1, .ref b)]) hx hb dM0_add_1 rfl hl (by decide) rfl (fun ls hl => ?_)
  refine lv_iconst (v := nI 0) hx hb dM0_add_2 (by decide) ?_
  refine lv_istore_n (lv' := [(3, .int (nI 0)), (2, .int (nI 0)), (0, .ref a), (1, .ref b)]) hx hb dM0_add_3 rfl hl (by decide) rfl (fun ls hl => ?_)
  have hl := lv_sub (l' := [(0, .ref a), (1, .ref b), (2, .int (nI 0)), (3, .int (nI 0))]) hl [2, 3, 1, 0] rfl
  have hh := radd_4 (l := l) (e := e) (below := below) hF ht hb0 hf1 hf2 hba hbt 330 0 0 f1 (by omega) hf1 (fun j _ => rfl) (by omega) rfl _ _ hLc hl
  rw [hput_same ht] at hh
  exact hh

set_option maxRecDepth 100000 in
set_option maxHeartbeats 4000000 in
theorem rsubtract_4 {p : Program} {l : Launch} {e : Env} {s : State} {m : MethodId} {args : Array Value} {below : List Frame} {meth : Method} {c : Code} {G : gG} {b0 : Nat} {H : Heap} {a b : Nat} {f1 f2 : Nat → Nat} (hF : FxM p s m args meth c G cM0_subtract 5 none RM0 wsM0_subtract) (ht : H[a]? = some (aN G 330 f1)) (hb0 : H[b]? = some (aN G 330 f2)) (hf1 : dlm f1 330) (hf2 : dlm f2 330) (hba : b ≠ a) (hbt : b0 ≤ a) : ∀ (q : Nat) (i c1 : Nat) (g : Nat → Nat), i + q = 330 → dlm g 330 → (∀ j, i ≤ j → g j = f1 j) → c1 ≤ 1 → dl g i + dl f2 i = dl f1 i + c1 * 10 ^ i → ∀ (locs : List Loc) (ls : Array Slot), lcs b0 locs → lv_has ls 5 [(0, .ref a), (1, .ref b), (2, .int (nI c1)), (3, .int (nI i))] → W p l e ({ frames := 0, cells := 0, slots := 0, locals := 0 } : Room) s m args below meth c (hput H a (aN G 330 g)) locs 0 0 (MQ below (QcV (fun H1 => ∃ (g : Nat → Nat) (c1 : Nat), dlm g 330 ∧ dl g 330 + dl f2 330 = dl f1 330 + c1 * 10 ^ 330 ∧ H1 = hput H a (aN G 330 g))) args s 0 0 (fre b0)) (F0 m 4 ls []) := by
  obtain ⟨hx, hb, hr, hml, hown, hts, hlocks, hK⟩ := id hF
  intro q
  induction q with
  | zero =>
    intro i c1 g hi hg hs hc hv locs ls hLc hl
    have hin : i = 330 := by omega
    rw [hin] at hv
    refine lv_iload_n hx hb dM0_subtract_4 rfl (lv_at hl 3 rfl) ?_
    refine lv_sipush (v := nI 330) hx hb dM0_subtract_5 (by decide) ?_
    refine lv_icmp_ge (tgt := 49) hx hb dM0_subtract_8 (by decide) (fun _ => ?_) (fun h => absurd (nI_le (by omega) (by omega)) h)
    exact m_vret hx hb hr hlocks hLc dM0_subtract_49 (⟨g, c1, hg, hv, rfl⟩)
  | succ q ih =>
    intro i c1 g hi hg hs hc hv locs ls hLc hl
    have hin : i < 330 := by omega
    have hgf : g i = f1 i := hs i (Nat.le_refl i)
    have h1 := hf1 i hin
    have h2 := hf2 i hin
    refine lv_iload_n hx hb dM0_subtract_4 rfl (lv_at hl 3 rfl) ?_
    refine lv_sipush (v := nI 330) hx hb dM0_subtract_5 (by decide) ?_
    refine lv_icmp_ge (tgt := 49) hx hb dM0_subtract_8 (by decide) (fun h => absurd h (nI_ge (by omega) (by omega))) (fun _ => ?_)
    refine lv_aload_n hx hb dM0_subtract_11 rfl (lv_at hl 0 rfl) ?_
    refine lv_iload_n hx hb dM0_subtract_12 rfl (lv_at hl 3 rfl) ?_
    refine m_nald (n := 330) (f := g) hx hb hK (hput_self _ (lt_of_at ht)) (by omega) (by decide) dM0_subtract_13 ?_
    refine lv_aload_n hx hb dM0_subtract_14 rfl (lv_at hl 1 rfl) ?_
    refine lv_iload_n hx hb dM0_subtract_15 rfl (lv_at hl 3 rfl) ?_
    refine m_nald (n := 330) (f := f2) hx hb hK ((hput_ne _ hba).trans hb0) (by omega) (by decide) dM0_subtract_16 ?_
    refine lv_isub hx hb dM0_subtract_17 ?_
    refine lv_iload_n hx hb dM0_subtract_18 rfl (lv_at hl 2 rfl) ?_
    refine lv_isub hx hb dM0_subtract_19 ?_
    refine lv_istore (lv' := [(4, .int ((nI (g i) - nI (f2 i)) - nI c1)), (0, .ref a), (1, .ref b), (2, .int (nI c1)), (3, .int (nI i))]) hx hb dM0_subtract_20 hl (by decide) rfl (fun ls hl => ?_)
    refine lv_iload hx hb dM0_subtract_22 (lv_at hl 0 rfl) ?_
    refine lv_if_ge (tgt := 31) hx hb dM0_subtract_24 (by decide) (fun c24 => ?_) (fun c24 => ?_)
    · skip
      have c24 := (isb_ge (by omega) (by omega) (by omega)).mp c24
      refine lv_iconst (v := nI 0) hx hb dM0_subtract_31 (by decide) ?_
      refine lv_istore_n (lv' := [(2, .int (nI 0)), (4, .int ((nI (g i) - nI (f2 i)) - nI c1)), (0, .ref a), (1, .ref b), (3, .int (nI i))]) hx hb dM0_subtract_32 rfl hl (by decide) rfl (fun ls hl => ?_)
      refine lv_aload_n hx hb dM0_subtract_33 rfl (lv_at hl 2 rfl) ?_
      refine lv_iload_n hx hb dM0_subtract_34 rfl (lv_at hl 4 rfl) ?_
      refine lv_iload hx hb dM0_subtract_35 (lv_at hl 1 rfl) ?_
      refine lv_bipush (v := nI 10) hx hb dM0_subtract_37 (by decide) ?_
      refine lv_iload_n hx hb dM0_subtract_39 rfl (lv_at hl 0 rfl) ?_
      refine m_imul (a := 10) (b := 0) hx hb dM0_subtract_40 ?_
      refine lv_iadd hx hb dM0_subtract_41 ?_
      rw [isb0 (by omega)]
      refine m_nast (n := 330) (f := g) (b0 := b0) hx hb hK (hput_self _ (lt_of_at ht)) (by omega) (by decide) (hbt) hLc dM0_subtract_42 (fun locs hLc => ?_)
      rw [hput_put]
      refine lv_iinc (v := nI (i + 1)) (lv' := [(3, .int (nI (i + 1))), (2, .int (nI 0)), (4, .int ((nI (g i) - nI (f2 i)) - nI c1)), (0, .ref a), (1, .ref b)]) hx hb dM0_subtract_43 hl (k := 4) rfl (nI_add i 1) (by decide) rfl (fun ls hl => ?_)
      refine lv_goto (tgt := 4) hx hb dM0_subtract_46 (by decide) ?_
      exact ih (i + 1) _ _ (by omega) (dlm_fup hg (by omega)) (fun j hj => by rw [fup_n _ _ (by omega)]; exact hs j (by omega)) (by omega) (by rw [hgf]; exact sub_stepd0 (by omega) hv) _ _ hLc (lv_sub hl [3, 4, 1, 0] rfl)
    · skip
      have c24 : ¬ (f2 i + c1 ≤ g i) := fun z => c24 ((isb_ge (by omega) (by omega) (by omega)).mpr z)
      refine lv_iconst (v := nI 1) hx hb dM0_subtract_27 (by decide) ?_
      refine lv_goto (tgt := 32) hx hb dM0_subtract_28 (by decide) ?_
      refine lv_istore_n (lv' := [(2, .int (nI 1)), (4, .int ((nI (g i) - nI (f2 i)) - nI c1)), (0, .ref a), (1, .ref b), (3, .int (nI i))]) hx hb dM0_subtract_32 rfl hl (by decide) rfl (fun ls hl => ?_)
      refine lv_aload_n hx hb dM0_subtract_33 rfl (lv_at hl 2 rfl) ?_
      refine lv_iload_n hx hb dM0_subtract_34 rfl (lv_at hl 4 rfl) ?_
      refine lv_iload hx hb dM0_subtract_35 (lv_at hl 1 rfl) ?_
      refine lv_bipush (v := nI 10) hx hb dM0_subtract_37 (by decide) ?_
      refine lv_iload_n hx hb dM0_subtract_39 rfl (lv_at hl 0 rfl) ?_
      refine m_imul (a := 10) (b := 1) hx hb dM0_subtract_40 ?_
      refine lv_iadd hx hb dM0_subtract_41 ?_
      rw [isb1 (by omega)]
      refine m_nast (n := 330) (f := g) (b0 := b0) hx hb hK (hput_self _ (lt_of_at ht)) (by omega) (by decide) (hbt) hLc dM0_subtract_42 (fun locs hLc => ?_)
      rw [hput_put]
      refine lv_iinc (v := nI (i + 1)) (lv' := [(3, .int (nI (i + 1))), (2, .int (nI 1)), (4, .int ((nI (g i) - nI (f2 i)) - nI c1)), (0, .ref a), (1, .ref b)]) hx hb dM0_subtract_43 hl (k := 4) rfl (nI_add i 1) (by decide) rfl (fun ls hl => ?_)
      refine lv_goto (tgt := 4) hx hb dM0_subtract_46 (by decide) ?_
      exact ih (i + 1) _ _ (by omega) (dlm_fup hg (by omega)) (fun j hj => by rw [fup_n _ _ (by omega)]; exact hs j (by omega)) (by omega) (by rw [hgf]; exact sub_stepd1 (by omega) hv) _ _ hLc (lv_sub hl [3, 4, 1, 0] rfl)
set_option maxRecDepth 100000 in
set_option maxHeartbeats 4000000 in
theorem c_M0_subtract (l : Launch) (G : gG) (b0 : Nat) (H : Heap) {a b : Nat} {f1 f2 : Nat → Nat} (ht : H[a]? = some (aN G 330 f1)) (hb0 : H[b]? = some (aN G 330 f2)) (hf1 : dlm f1 330) (hf2 : dlm f2 330) (hba : b ≠ a) (hbt : b0 ≤ a) : Met l yM0_subtract wsM0_subtract ({ frames := 0, cells := 0, slots := 0, locals := 0 } : Room) (PcH G H [.ref a, .ref b]) (QcV (fun H1 => ∃ (g : Nat → Nat) (c1 : Nat), dlm g 330 ∧ dl g 330 + dl f2 330 = dl f1 330 + c1 * 10 ^ 330 ∧ H1 = hput H a (aN G 330 g))) 0 0 (fre b0) := by
  refine m_enter (cc := cM0_subtract) (maxL := 5) (ret := none) (own := RM0) (by decide) rfl rfl (Nat.le_of_ble_eq_true rfl) ?_
  intro p e s m below meth c ls hF hnm hH hl
  have hl : lv_has ls 5 [(0, .ref a), (1, .ref b)] := hl
  have hLc : lcs b0 [] := lcs_nil b0
  obtain ⟨hx, hb, hr, hml, hown, hts, hlocks, hK⟩ := id hF
  refine lv_iconst (v := nI 0) hx hb dM0_subtract_0 (by decide) ?_
  refine lv_istore_n (lv' := [(2, .int (nI 0)), (0, .ref a), (1, .ref b)]) hx hb dM0_subtract_1 rfl hl (by decide) rfl (fun ls hl => ?_)
  refine lv_iconst (v := nI 0) hx hb dM0_subtract_2 (by decide) ?_
  refine lv_istore_n (lv' := [(3, .int (nI 0)), (2, .int (nI 0)), (0, .ref a), (1, .ref b)]) hx hb dM0_subtract_3 rfl hl (by decide) rfl (fun ls hl => ?_)
  have hl := lv_sub (l' := [(0, .ref a), (1, .ref b), (2, .int (nI 0)), (3, .int (nI 0))]) hl [2, 3, 1, 0] rfl
  have hh := rsubtract_4 (l := l) (e := e) (below := below) hF ht hb0 hf1 hf2 hba hbt 330 0 0 f1 (by omega) hf1 (fun j _ => rfl) (by omega) rfl _ _ hLc hl
  rw [hput_same ht] at hh
  exact hh

set_option maxRecDepth 100000 in
set_option maxHeartbeats 4000000 in
theorem power_10 {p : Program} {l : Launch} {e : Env} {s : State} {m : MethodId} {args : Array Value} {below : List Frame} {meth : Method} {c : Code} {G : gG} {b0 : Nat} {H : Heap} {a n : Nat} {f : Nat → Nat} (hF : FxM p s m args meth c G cM0_power 3 none RM0 wsM0_power) (ht : H[a]? = some (aN G 330 f)) (hbt : b0 ≤ a) (hn : n ≤ 512) : ∀ (q : Nat) (i : Nat) (g : Nat → Nat), i + q = n → dlm g 330 → dl g 330 = 2 ^ i → ∀ (locs : List Loc) (ls : Array Slot), lcs b0 locs → lv_has ls 3 [(0, .ref a), (1, .int (nI n)), (2, .int (nI i))] → W p l e ({ frames := 1, cells := 0, slots := 0, locals := 25 } : Room) s m args below meth c (hput H a (aN G 330 g)) locs 0 0 (MQ below (QcV (fun H1 => ∃ g : Nat → Nat, dlm g 330 ∧ dl g 330 = 2 ^ n ∧ H1 = hput H a (aN G 330 g))) args s 0 0 (fre b0)) (F0 m 10 ls []) := by
  obtain ⟨hx, hb, hr, hml, hown, hts, hlocks, hK⟩ := id hF
  intro q
  induction q with
  | zero =>
    intro i g hi hg hv locs ls hLc hl
    refine lv_iload_n hx hb dM0_power_10 rfl (lv_at hl 2 rfl) ?_
    refine lv_iload_n hx hb dM0_power_11 rfl (lv_at hl 1 rfl) ?_
    refine lv_icmp_ge (tgt := 27) hx hb dM0_power_12 (by decide) (fun _ => ?_) (fun h => absurd (nI_le (by omega) (by omega)) h)
    exact m_vret hx hb hr hlocks hLc dM0_power_27 (⟨g, hg, by rw [hv, show i = n by omega], rfl⟩)
  | succ q ih =>
    intro i g hi hg hv locs ls hLc hl
    refine lv_iload_n hx hb dM0_power_10 rfl (lv_at hl 2 rfl) ?_
    refine lv_iload_n hx hb dM0_power_11 rfl (lv_at hl 1 rfl) ?_
    refine lv_icmp_ge (tgt := 27) hx hb dM0_power_12 (by decide) (fun h => absurd h (nI_ge (by omega) (by omega))) (fun _ => ?_)
    refine lv_aload_n hx hb dM0_power_15 rfl (lv_at hl 0 rfl) ?_
    refine lv_iconst (v := nI 2) hx hb dM0_power_16 (by decide) ?_
    refine lv_iconst (v := nI 0) hx hb dM0_power_17 (by decide) ?_
    refine mc_v0 (va_runS (As := [.ref a, .int (nI 2), .int (nI 0)]) (rest := []) ⟨hx, hb, hml, hown, hts⟩ (c_M0_grow l G b0 (hput H a (aN G 330 g)) (hput_self _ (lt_of_at ht)) hg hbt (by decide) (by decide)) (va_cwS 3 hts gM0_power_M0_grow rfl rfl rfl (by decide +kernel) ⟨Nat.le_of_ble_eq_true rfl, Nat.le_of_ble_eq_true rfl⟩) (mp_S hK) rfl rfl hl.1 rfl (lv_room (Nat.le_of_ble_eq_true rfl)) dM0_power_18 ⟨Nat.le_of_ble_eq_true rfl, Nat.le_of_ble_eq_true rfl⟩) hLc (fun H1 locs hP hLc => ?_)
    obtain ⟨g2, c2, hg2, hv2, rfl⟩ := hP
    rw [hput_put]
    have hv3 : dl g2 330 = 2 ^ (i + 1) := by rw [hv] at hv2; exact pow_fit (pw10 (show i + 1 ≤ 512 by omega)) hv2
    refine lv_iinc (v := nI (i + 1)) (lv' := [(2, .int (nI (i + 1))), (0, .ref a), (1, .int (nI n))]) hx hb dM0_power_21 hl (k := 2) rfl (nI_add i 1) (by decide) rfl (fun ls hl => ?_)
    refine lv_goto (tgt := 10) hx hb dM0_power_24 (by decide) ?_
    exact ih (i + 1) g2 (by omega) hg2 hv3 _ _ hLc (lv_sub hl [1, 2, 0] rfl)
set_option maxRecDepth 100000 in
set_option maxHeartbeats 4000000 in
theorem c_M0_power (l : Launch) (G : gG) (b0 : Nat) (H : Heap) {a n : Nat} {f : Nat → Nat} (ht : H[a]? = some (aN G 330 f)) (hbt : b0 ≤ a) (hn : n ≤ 512) : Met l yM0_power wsM0_power ({ frames := 1, cells := 0, slots := 0, locals := 25 } : Room) (PcH G H [.ref a, .int (nI n)]) (QcV (fun H1 => ∃ g : Nat → Nat, dlm g 330 ∧ dl g 330 = 2 ^ n ∧ H1 = hput H a (aN G 330 g))) 0 0 (fre b0) := by
  refine m_enter (cc := cM0_power) (maxL := 3) (ret := none) (own := RM0) (by decide) rfl rfl (Nat.le_of_ble_eq_true rfl) ?_
  intro p e s m below meth c ls hF hnm hH hl
  have hl : lv_has ls 3 [(0, .ref a), (1, .int (nI n))] := hl
  have hLc : lcs b0 [] := lcs_nil b0
  obtain ⟨hx, hb, hr, hml, hown, hts, hlocks, hK⟩ := id hF
  refine lv_aload_n hx hb dM0_power_0 rfl (lv_at hl 0 rfl) ?_
  refine mc_v0 (va_runS (As := [.ref a]) (rest := []) ⟨hx, hb, hml, hown, hts⟩ (c_M0_clear l G b0 H ht hbt) (va_cwS 1 hts gM0_power_M0_clear rfl rfl rfl (by decide +kernel) ⟨Nat.le_of_ble_eq_true rfl, Nat.le_of_ble_eq_true rfl⟩) (mp_S hK) rfl rfl hl.1 rfl (lv_room (Nat.le_of_ble_eq_true rfl)) dM0_power_1 ⟨Nat.le_of_ble_eq_true rfl, Nat.le_of_ble_eq_true rfl⟩) hLc (fun H1 locs hP hLc => ?_)
  subst hP
  refine lv_aload_n hx hb dM0_power_4 rfl (lv_at hl 0 rfl) ?_
  refine lv_iconst (v := nI 0) hx hb dM0_power_5 (by decide) ?_
  refine lv_iconst (v := nI 1) hx hb dM0_power_6 (by decide) ?_
  refine m_nast (n := 330) (f := (fun _ => 0)) (b0 := b0) hx hb hK (hput_self _ (lt_of_at ht)) (by omega) (by decide) (hbt) hLc dM0_power_7 (fun locs hLc => ?_)
  rw [hput_put]
  refine lv_iconst (v := nI 0) hx hb dM0_power_8 (by decide) ?_
  refine lv_istore_n (lv' := [(2, .int (nI 0)), (0, .ref a), (1, .int (nI n))]) hx hb dM0_power_9 rfl hl (by decide) rfl (fun ls hl => ?_)
  exact power_10 hF ht hbt hn n 0 _ (by omega) (dlm_fup (fun j _ => (by decide : 0 < 10)) (by decide)) (dl_one 329) _ _ hLc (lv_sub hl [1, 2, 0] rfl)

set_option maxRecDepth 100000 in
set_option maxHeartbeats 4000000 in
theorem c_M0_worth (l : Launch) (G : gG) (b0 : Nat) (H : Heap) {x : Nat} (hx0 : x < 256) : Met l yM0_worth wsM0_worth ({ frames := 0, cells := 0, slots := 0, locals := 0 } : Room) (PcH G H [.int (nI x)]) (QcI (fun r H1 => r = nI (worthN x) ∧ H = H1)) 0 0 (fre b0) := by
  refine m_enter (cc := cM0_worth) (maxL := 1) (ret := (some .int)) (own := RM0) (by decide) rfl rfl (Nat.le_of_ble_eq_true rfl) ?_
  intro p e s m below meth c ls hF hnm hH hl
  have hl : lv_has ls 1 [(0, .int (nI x))] := hl
  have hLc : lcs b0 [] := lcs_nil b0
  obtain ⟨hx, hb, hr, hml, hown, hts, hlocks, hK⟩ := id hF
  refine lv_iload_n hx hb dM0_worth_0 rfl (lv_at hl 0 rfl) ?_
  refine lv_bipush (v := nI 48) hx hb dM0_worth_1 (by decide) ?_
  refine m_icmp_lt (tgt := 19) hx hb (by omega) (by omega) dM0_worth_3 (by decide) (fun c3 => ?_) (fun c3 => ?_)
  · skip
    refine lv_iload_n hx hb dM0_worth_19 rfl (lv_at hl 0 rfl) ?_
    refine lv_bipush (v := nI 97) hx hb dM0_worth_20 (by decide) ?_
    refine m_icmp_lt (tgt := 41) hx hb (by omega) (by omega) dM0_worth_22 (by decide) (fun c22 => ?_) (fun c22 => ?_)
    · skip
      refine lv_iload_n hx hb dM0_worth_41 rfl (lv_at hl 0 rfl) ?_
      refine lv_bipush (v := nI 65) hx hb dM0_worth_42 (by decide) ?_
      refine m_icmp_lt (tgt := 63) hx hb (by omega) (by omega) dM0_worth_44 (by decide) (fun c44 => ?_) (fun c44 => ?_)
      · skip
        refine lv_bipush (v := nI 99) hx hb dM0_worth_63 (by decide) ?_
        exact m_iret hx hb hr hlocks hLc dM0_worth_65 (⟨congrArg nI (by unfold worthN; (repeat' split) <;> omega), rfl⟩)
      · skip
        refine lv_iload_n hx hb dM0_worth_47 rfl (lv_at hl 0 rfl) ?_
        refine lv_bipush (v := nI 90) hx hb dM0_worth_48 (by decide) ?_
        refine m_icmp_gt (tgt := 63) hx hb (by omega) (by omega) dM0_worth_50 (by decide) (fun c50 => ?_) (fun c50 => ?_)
        · skip
          refine lv_bipush (v := nI 99) hx hb dM0_worth_63 (by decide) ?_
          exact m_iret hx hb hr hlocks hLc dM0_worth_65 (⟨congrArg nI (by unfold worthN; (repeat' split) <;> omega), rfl⟩)
        · skip
          refine lv_iload_n hx hb dM0_worth_53 rfl (lv_at hl 0 rfl) ?_
          refine lv_bipush (v := nI 65) hx hb dM0_worth_54 (by decide) ?_
          refine m_isub (a := x) (b := 65) hx hb (by omega) dM0_worth_56 ?_
          refine lv_bipush (v := nI 10) hx hb dM0_worth_57 (by decide) ?_
          refine m_iadd (a := x - 65) (b := 10) hx hb dM0_worth_59 ?_
          refine lv_goto (tgt := 65) hx hb dM0_worth_60 (by decide) ?_
          exact m_iret hx hb hr hlocks hLc dM0_worth_65 (⟨congrArg nI (by unfold worthN; (repeat' split) <;> omega), rfl⟩)
    · skip
      refine lv_iload_n hx hb dM0_worth_25 rfl (lv_at hl 0 rfl) ?_
      refine lv_bipush (v := nI 122) hx hb dM0_worth_26 (by decide) ?_
      refine m_icmp_gt (tgt := 41) hx hb (by omega) (by omega) dM0_worth_28 (by decide) (fun c28 => ?_) (fun c28 => ?_)
      · skip
        refine lv_iload_n hx hb dM0_worth_41 rfl (lv_at hl 0 rfl) ?_
        refine lv_bipush (v := nI 65) hx hb dM0_worth_42 (by decide) ?_
        refine m_icmp_lt (tgt := 63) hx hb (by omega) (by omega) dM0_worth_44 (by decide) (fun c44 => ?_) (fun c44 => ?_)
        · skip
          refine lv_bipush (v := nI 99) hx hb dM0_worth_63 (by decide) ?_
          exact m_iret hx hb hr hlocks hLc dM0_worth_65 (⟨congrArg nI (by unfold worthN; (repeat' split) <;> omega), rfl⟩)
        · skip
          refine lv_iload_n hx hb dM0_worth_47 rfl (lv_at hl 0 rfl) ?_
          refine lv_bipush (v := nI 90) hx hb dM0_worth_48 (by decide) ?_
          refine m_icmp_gt (tgt := 63) hx hb (by omega) (by omega) dM0_worth_50 (by decide) (fun c50 => ?_) (fun c50 => ?_)
          · skip
            refine lv_bipush (v := nI 99) hx hb dM0_worth_63 (by decide) ?_
            exact m_iret hx hb hr hlocks hLc dM0_worth_65 (⟨congrArg nI (by unfold worthN; (repeat' split) <;> omega), rfl⟩)
          · skip
            refine lv_iload_n hx hb dM0_worth_53 rfl (lv_at hl 0 rfl) ?_
            refine lv_bipush (v := nI 65) hx hb dM0_worth_54 (by decide) ?_
            refine m_isub (a := x) (b := 65) hx hb (by omega) dM0_worth_56 ?_
            refine lv_bipush (v := nI 10) hx hb dM0_worth_57 (by decide) ?_
            refine m_iadd (a := x - 65) (b := 10) hx hb dM0_worth_59 ?_
            refine lv_goto (tgt := 65) hx hb dM0_worth_60 (by decide) ?_
            exact m_iret hx hb hr hlocks hLc dM0_worth_65 (⟨congrArg nI (by unfold worthN; (repeat' split) <;> omega), rfl⟩)
      · skip
        refine lv_iload_n hx hb dM0_worth_31 rfl (lv_at hl 0 rfl) ?_
        refine lv_bipush (v := nI 97) hx hb dM0_worth_32 (by decide) ?_
        refine m_isub (a := x) (b := 97) hx hb (by omega) dM0_worth_34 ?_
        refine lv_bipush (v := nI 10) hx hb dM0_worth_35 (by decide) ?_
        refine m_iadd (a := x - 97) (b := 10) hx hb dM0_worth_37 ?_
        refine lv_goto (tgt := 65) hx hb dM0_worth_38 (by decide) ?_
        exact m_iret hx hb hr hlocks hLc dM0_worth_65 (⟨congrArg nI (by unfold worthN; (repeat' split) <;> omega), rfl⟩)
  · skip
    refine lv_iload_n hx hb dM0_worth_6 rfl (lv_at hl 0 rfl) ?_
    refine lv_bipush (v := nI 57) hx hb dM0_worth_7 (by decide) ?_
    refine m_icmp_gt (tgt := 19) hx hb (by omega) (by omega) dM0_worth_9 (by decide) (fun c9 => ?_) (fun c9 => ?_)
    · skip
      refine lv_iload_n hx hb dM0_worth_19 rfl (lv_at hl 0 rfl) ?_
      refine lv_bipush (v := nI 97) hx hb dM0_worth_20 (by decide) ?_
      refine m_icmp_lt (tgt := 41) hx hb (by omega) (by omega) dM0_worth_22 (by decide) (fun c22 => ?_) (fun c22 => ?_)
      · skip
        refine lv_iload_n hx hb dM0_worth_41 rfl (lv_at hl 0 rfl) ?_
        refine lv_bipush (v := nI 65) hx hb dM0_worth_42 (by decide) ?_
        refine m_icmp_lt (tgt := 63) hx hb (by omega) (by omega) dM0_worth_44 (by decide) (fun c44 => ?_) (fun c44 => ?_)
        · skip
          refine lv_bipush (v := nI 99) hx hb dM0_worth_63 (by decide) ?_
          exact m_iret hx hb hr hlocks hLc dM0_worth_65 (⟨congrArg nI (by unfold worthN; (repeat' split) <;> omega), rfl⟩)
        · skip
          refine lv_iload_n hx hb dM0_worth_47 rfl (lv_at hl 0 rfl) ?_
          refine lv_bipush (v := nI 90) hx hb dM0_worth_48 (by decide) ?_
          refine m_icmp_gt (tgt := 63) hx hb (by omega) (by omega) dM0_worth_50 (by decide) (fun c50 => ?_) (fun c50 => ?_)
          · skip
            refine lv_bipush (v := nI 99) hx hb dM0_worth_63 (by decide) ?_
            exact m_iret hx hb hr hlocks hLc dM0_worth_65 (⟨congrArg nI (by unfold worthN; (repeat' split) <;> omega), rfl⟩)
          · skip
            refine lv_iload_n hx hb dM0_worth_53 rfl (lv_at hl 0 rfl) ?_
            refine lv_bipush (v := nI 65) hx hb dM0_worth_54 (by decide) ?_
            refine m_isub (a := x) (b := 65) hx hb (by omega) dM0_worth_56 ?_
            refine lv_bipush (v := nI 10) hx hb dM0_worth_57 (by decide) ?_
            refine m_iadd (a := x - 65) (b := 10) hx hb dM0_worth_59 ?_
            refine lv_goto (tgt := 65) hx hb dM0_worth_60 (by decide) ?_
            exact m_iret hx hb hr hlocks hLc dM0_worth_65 (⟨congrArg nI (by unfold worthN; (repeat' split) <;> omega), rfl⟩)
      · skip
        refine lv_iload_n hx hb dM0_worth_25 rfl (lv_at hl 0 rfl) ?_
        refine lv_bipush (v := nI 122) hx hb dM0_worth_26 (by decide) ?_
        refine m_icmp_gt (tgt := 41) hx hb (by omega) (by omega) dM0_worth_28 (by decide) (fun c28 => ?_) (fun c28 => ?_)
        · skip
          refine lv_iload_n hx hb dM0_worth_41 rfl (lv_at hl 0 rfl) ?_
          refine lv_bipush (v := nI 65) hx hb dM0_worth_42 (by decide) ?_
          refine m_icmp_lt (tgt := 63) hx hb (by omega) (by omega) dM0_worth_44 (by decide) (fun c44 => ?_) (fun c44 => ?_)
          · skip
            refine lv_bipush (v := nI 99) hx hb dM0_worth_63 (by decide) ?_
            exact m_iret hx hb hr hlocks hLc dM0_worth_65 (⟨congrArg nI (by unfold worthN; (repeat' split) <;> omega), rfl⟩)
          · skip
            refine lv_iload_n hx hb dM0_worth_47 rfl (lv_at hl 0 rfl) ?_
            refine lv_bipush (v := nI 90) hx hb dM0_worth_48 (by decide) ?_
            refine m_icmp_gt (tgt := 63) hx hb (by omega) (by omega) dM0_worth_50 (by decide) (fun c50 => ?_) (fun c50 => ?_)
            · skip
              refine lv_bipush (v := nI 99) hx hb dM0_worth_63 (by decide) ?_
              exact m_iret hx hb hr hlocks hLc dM0_worth_65 (⟨congrArg nI (by unfold worthN; (repeat' split) <;> omega), rfl⟩)
            · skip
              refine lv_iload_n hx hb dM0_worth_53 rfl (lv_at hl 0 rfl) ?_
              refine lv_bipush (v := nI 65) hx hb dM0_worth_54 (by decide) ?_
              refine m_isub (a := x) (b := 65) hx hb (by omega) dM0_worth_56 ?_
              refine lv_bipush (v := nI 10) hx hb dM0_worth_57 (by decide) ?_
              refine m_iadd (a := x - 65) (b := 10) hx hb dM0_worth_59 ?_
              refine lv_goto (tgt := 65) hx hb dM0_worth_60 (by decide) ?_
              exact m_iret hx hb hr hlocks hLc dM0_worth_65 (⟨congrArg nI (by unfold worthN; (repeat' split) <;> omega), rfl⟩)
        · skip
          refine lv_iload_n hx hb dM0_worth_31 rfl (lv_at hl 0 rfl) ?_
          refine lv_bipush (v := nI 97) hx hb dM0_worth_32 (by decide) ?_
          refine m_isub (a := x) (b := 97) hx hb (by omega) dM0_worth_34 ?_
          refine lv_bipush (v := nI 10) hx hb dM0_worth_35 (by decide) ?_
          refine m_iadd (a := x - 97) (b := 10) hx hb dM0_worth_37 ?_
          refine lv_goto (tgt := 65) hx hb dM0_worth_38 (by decide) ?_
          exact m_iret hx hb hr hlocks hLc dM0_worth_65 (⟨congrArg nI (by unfold worthN; (repeat' split) <;> omega), rfl⟩)
    · skip
      refine lv_iload_n hx hb dM0_worth_12 rfl (lv_at hl 0 rfl) ?_
      refine lv_bipush (v := nI 48) hx hb dM0_worth_13 (by decide) ?_
      refine m_isub (a := x) (b := 48) hx hb (by omega) dM0_worth_15 ?_
      refine lv_goto (tgt := 65) hx hb dM0_worth_16 (by decide) ?_
      exact m_iret hx hb hr hlocks hLc dM0_worth_65 (⟨congrArg nI (by unfold worthN; (repeat' split) <;> omega), rfl⟩)
end
section
/-! THE STATE of an object: its fields, and its arrays at addresses ad 0, ad 1 ..; what else there is, is as it was in H0 -/
def WO (G : gG) (b0 ci o K : Nat) (ad : Nat → Nat) (H0 : Heap) (fs : List Value) (cl : Nat → Cell) (H : Heap) : Prop :=
  OB G ci o fs H ∧ (∀ i, i < K → H[ad i]? = some (cl i)) ∧ (∀ i j, i < K → j < K → ad i = ad j → i = j) ∧ (∀ i, i < K → ad i ≠ o ∧ b0 ≤ ad i) ∧ b0 ≤ o ∧ H.size = H0.size ∧ ∀ q, q ≠ o → (∀ i, i < K → q ≠ ad i) → H[q]? = H0[q]?
section WOS
variable {G : gG} {b0 ci o K : Nat} {ad : Nat → Nat} {H0 H : Heap} {fs : List Value} {cl : Nat → Cell}
theorem WO.ob (h : WO G b0 ci o K ad H0 fs cl H) : OB G ci o fs H := h.1
theorem WO.get (h : WO G b0 ci o K ad H0 fs cl H) (i : Nat) (hi : i < K) : H[ad i]? = some (cl i) := h.2.1 i hi
theorem WO.ne (h : WO G b0 ci o K ad H0 fs cl H) {i j : Nat} (hi : i < K) (hj : j < K) (hij : i ≠ j) : ad i ≠ ad j := fun e => hij (h.2.2.1 i j hi hj e)
theorem WO.b (h : WO G b0 ci o K ad H0 fs cl H) (i : Nat) (hi : i < K) : b0 ≤ ad i := (h.2.2.2.1 i hi).2
theorem WO.bo (h : WO G b0 ci o K ad H0 fs cl H) : b0 ≤ o := h.2.2.2.2.1
theorem WO.fr (h : WO G b0 ci o K ad H0 fs cl H) : ∀ q, q ≠ o → (∀ i, i < K → q ≠ ad i) → H[q]? = H0[q]? := h.2.2.2.2.2.2
theorem WO.sz (h : WO G b0 ci o K ad H0 fs cl H) : H.size = H0.size := h.2.2.2.2.2.1
theorem WO.rf (h : WO G b0 ci o K ad H0 fs cl H) : WO G b0 ci o K ad H fs cl H := ⟨h.1, h.2.1, h.2.2.1, h.2.2.2.1, h.2.2.2.2.1, rfl, fun _ _ _ => rfl⟩
theorem WO.congr {cl' : Nat → Cell} (h : WO G b0 ci o K ad H0 fs cl H) (he : ∀ i, i < K → cl i = cl' i) : WO G b0 ci o K ad H0 fs cl' H := ⟨h.1, fun i hi => (h.2.1 i hi).trans (congrArg some (he i hi)), h.2.2⟩
theorem WO.put (h : WO G b0 ci o K ad H0 fs cl H) (i : Nat) (hi : i < K) (x : Cell) : WO G b0 ci o K ad H0 fs (fup cl i x) (hput H (ad i) x) := by
  obtain ⟨h1, h2, h3, h4, h5, h6, h7⟩ := h
  refine ⟨h1.kept (hput_ne _ (h4 i hi).1.symm), fun j hj => ?_, h3, h4, h5, by rw [hput_size]; exact h6, fun q g1 g2 => by rw [hput_ne _ (g2 i hi)]; exact h7 q g1 g2⟩
  by_cases e : j = i
  · subst e
    rw [fup_s, hput_self _ (lt_of_at (h2 j hj))]
  · rw [fup_n _ _ e, hput_ne _ (fun z => e (h3 j i hj hi z))]
    exact h2 j hj
theorem WO.fld {fs' : List Value} {H1 : Heap} (h : WO G b0 ci o K ad H0 fs cl H) (hO : OB G ci o fs' H1) (hs : H1.size = H.size) (hq : ∀ q, q ≠ o → H1[q]? = H[q]?) : WO G b0 ci o K ad H0 fs' cl H1 := by
  obtain ⟨h1, h2, h3, h4, h5, h6, h7⟩ := h
  exact ⟨hO, fun j hj => by rw [hq _ (h4 j hj).1]; exact h2 j hj, h3, h4, h5, hs.trans h6, fun q g1 g2 => by rw [hq q g1]; exact h7 q g1 g2⟩
/-- the same object, later: someone else's cells have changed -/
theorem WO.later {H1 : Heap} (h : WO G b0 ci o K ad H0 fs cl H) (ho : H1[o]? = H[o]?) (ha : ∀ i, i < K → H1[ad i]? = H[ad i]?) : WO G b0 ci o K ad H1 fs cl H1 := ⟨h.1.kept ho, fun i hi => (ha i hi).trans (h.2.1 i hi), h.2.2.1, h.2.2.2.1, h.2.2.2.2.1, rfl, fun _ _ _ => rfl⟩
theorem WO.lt (h : WO G b0 ci o K ad H0 fs cl H) (i : Nat) (hi : i < K) : ad i < H.size := lt_of_at (h.get i hi)
end WOS

def clX (G : gG) (ad : Nat → Nat) (sz : Nat → Nat → Nat) (bl : Nat → Nat) (dv : Nat → Nat) (dc : Nat) (wr : Nat → Nat) (wf : Nat) (f1 : Nat → Nat) (f2 : Nat → Nat) (fw : Nat → Nat) : Nat → Cell
  | 0 => aR G 64 (fun i => ad (i + 7))
  | 1 => aZ G 64 bl
  | 2 => aB G 1008 dv
  | 3 => aB G 513 wr
  | 4 => aJ G 17 f1
  | 5 => aJ G 17 f2
  | 6 => aJ G 32 fw
  | i + 7 => aJ G 16 (sz i)
def fsX (ad : Nat → Nat) (sz : Nat → Nat → Nat) (bl : Nat → Nat) (dv : Nat → Nat) (dc : Nat) (wr : Nat → Nat) (wf : Nat) (f1 : Nat → Nat) (f2 : Nat → Nat) (fw : Nat → Nat) : List Value := [.ref (ad 0), .ref (ad 1), .ref (ad 2), .int (nI dc), .ref (ad 3), .int (nI wf), .ref (ad 4), .ref (ad 5), .ref (ad 6)]
def SX (G : gG) (b0 o : Nat) (ad : Nat → Nat) (H0 : Heap) (sz : Nat → Nat → Nat) (bl : Nat → Nat) (dv : Nat → Nat) (dc : Nat) (wr : Nat → Nat) (wf : Nat) (f1 : Nat → Nat) (f2 : Nat → Nat) (fw : Nat → Nat) (H : Heap) : Prop := WO G b0 0 o 71 ad H0 (fsX ad sz bl dv dc wr wf f1 f2 fw) (clX G ad sz bl dv dc wr wf f1 f2 fw) H
section SXS
variable {G : gG} {b0 o : Nat} {ad : Nat → Nat} {H0 H : Heap} {sz : Nat → Nat → Nat} {bl : Nat → Nat} {dv : Nat → Nat} {dc : Nat} {wr : Nat → Nat} {wf : Nat} {f1 : Nat → Nat} {f2 : Nat → Nat} {fw : Nat → Nat}
theorem SX.w (h : SX G b0 o ad H0 sz bl dv dc wr wf f1 f2 fw H) : WO G b0 0 o 71 ad H0 (fsX ad sz bl dv dc wr wf f1 f2 fw) (clX G ad sz bl dv dc wr wf f1 f2 fw) H := h
theorem SX.rf (h : SX G b0 o ad H0 sz bl dv dc wr wf f1 f2 fw H) : SX G b0 o ad H sz bl dv dc wr wf f1 f2 fw H := WO.rf h
theorem SX.p_bl (h : SX G b0 o ad H0 sz bl dv dc wr wf f1 f2 fw H) (x : Nat → Nat) : SX G b0 o ad H0 sz x dv dc wr wf f1 f2 fw (hput H (ad 1) (aZ G 64 x)) := (WO.put h 1 (by decide) (aZ G 64 x)).congr (fun i hi => by
  unfold fup
  by_cases e : i = 1
  · subst e; rfl
  · rw [if_neg e]
    unfold clX
    split <;> first | exact absurd rfl e | rfl)
theorem SX.p_dv (h : SX G b0 o ad H0 sz bl dv dc wr wf f1 f2 fw H) (x : Nat → Nat) : SX G b0 o ad H0 sz bl x dc wr wf f1 f2 fw (hput H (ad 2) (aB G 1008 x)) := (WO.put h 2 (by decide) (aB G 1008 x)).congr (fun i hi => by
  unfold fup
  by_cases e : i = 2
  · subst e; rfl
  · rw [if_neg e]
    unfold clX
    split <;> first | exact absurd rfl e | rfl)
theorem SX.p_wr (h : SX G b0 o ad H0 sz bl dv dc wr wf f1 f2 fw H) (x : Nat → Nat) : SX G b0 o ad H0 sz bl dv dc x wf f1 f2 fw (hput H (ad 3) (aB G 513 x)) := (WO.put h 3 (by decide) (aB G 513 x)).congr (fun i hi => by
  unfold fup
  by_cases e : i = 3
  · subst e; rfl
  · rw [if_neg e]
    unfold clX
    split <;> first | exact absurd rfl e | rfl)
theorem SX.p_f1 (h : SX G b0 o ad H0 sz bl dv dc wr wf f1 f2 fw H) (x : Nat → Nat) : SX G b0 o ad H0 sz bl dv dc wr wf x f2 fw (hput H (ad 4) (aJ G 17 x)) := (WO.put h 4 (by decide) (aJ G 17 x)).congr (fun i hi => by
  unfold fup
  by_cases e : i = 4
  · subst e; rfl
  · rw [if_neg e]
    unfold clX
    split <;> first | exact absurd rfl e | rfl)
theorem SX.p_f2 (h : SX G b0 o ad H0 sz bl dv dc wr wf f1 f2 fw H) (x : Nat → Nat) : SX G b0 o ad H0 sz bl dv dc wr wf f1 x fw (hput H (ad 5) (aJ G 17 x)) := (WO.put h 5 (by decide) (aJ G 17 x)).congr (fun i hi => by
  unfold fup
  by_cases e : i = 5
  · subst e; rfl
  · rw [if_neg e]
    unfold clX
    split <;> first | exact absurd rfl e | rfl)
theorem SX.p_fw (h : SX G b0 o ad H0 sz bl dv dc wr wf f1 f2 fw H) (x : Nat → Nat) : SX G b0 o ad H0 sz bl dv dc wr wf f1 f2 x (hput H (ad 6) (aJ G 32 x)) := (WO.put h 6 (by decide) (aJ G 32 x)).congr (fun i hi => by
  unfold fup
  by_cases e : i = 6
  · subst e; rfl
  · rw [if_neg e]
    unfold clX
    split <;> first | exact absurd rfl e | rfl)
theorem SX.p_sz (h : SX G b0 o ad H0 sz bl dv dc wr wf f1 f2 fw H) {k : Nat} (hk : k < 64) (x : Nat → Nat) : SX G b0 o ad H0 (fup sz k x) bl dv dc wr wf f1 f2 fw (hput H (ad (k + 7)) (aJ G 16 x)) := (WO.put h (k + 7) (by omega) (aJ G 16 x)).congr (fun i hi => by
  by_cases e : i = k + 7
  · subst e
    rw [fup_s]
    show _ = aJ G 16 (fup sz k x k)
    rw [fup_s]
  · rw [fup_n _ _ e]
    unfold clX
    split <;> first | (rw [fup_n _ _ (by omega)]) | rfl)
theorem SX.f_dc {H1 : Heap} {x : Nat} (h : SX G b0 o ad H0 sz bl dv dc wr wf f1 f2 fw H) (hO : OB G 0 o ((fsX ad sz bl dv dc wr wf f1 f2 fw).set 3 (.int (nI x))) H1) (hs : H1.size = H.size) (hq : ∀ q, q ≠ o → H1[q]? = H[q]?) : SX G b0 o ad H0 sz bl dv x wr wf f1 f2 fw H1 := WO.fld h hO hs hq
theorem SX.f_wf {H1 : Heap} {x : Nat} (h : SX G b0 o ad H0 sz bl dv dc wr wf f1 f2 fw H) (hO : OB G 0 o ((fsX ad sz bl dv dc wr wf f1 f2 fw).set 5 (.int (nI x))) H1) (hs : H1.size = H.size) (hq : ∀ q, q ≠ o → H1[q]? = H[q]?) : SX G b0 o ad H0 sz bl dv dc wr x f1 f2 fw H1 := WO.fld h hO hs hq
end SXS

def clM (G : gG) (ad : Nat → Nat) (th : Nat) (dg : Nat → Nat) (bw : Nat → Nat) (lm : Nat → Nat) (lf : Nat → Nat) (rt : Nat → Nat) (ou : Nat → Nat) (rs : Nat → Nat) (lb : Nat) (rb : Nat) (ob : Nat) (bL : Nat → Nat) (bR : Nat → Nat) (td : Nat) (tp : Nat → Nat) (wn : Nat) (tx : Nat → Nat) : Nat → Cell
  | 0 => aN G 10240 dg
  | 1 => aZ G 64 bw
  | 2 => aN G 330 lm
  | 3 => aN G 330 lf
  | 4 => aN G 330 rt
  | 5 => aN G 330 ou
  | 6 => aN G 330 rs
  | 7 => aN G 514 bL
  | 8 => aN G 514 bR
  | 9 => aN G 1000 tp
  | 10 => aN G 520 tx
  | _ => aN G 0 (fun _ => 0)
def fsM (ad : Nat → Nat) (th : Nat) (dg : Nat → Nat) (bw : Nat → Nat) (lm : Nat → Nat) (lf : Nat → Nat) (rt : Nat → Nat) (ou : Nat → Nat) (rs : Nat → Nat) (lb : Nat) (rb : Nat) (ob : Nat) (bL : Nat → Nat) (bR : Nat → Nat) (td : Nat) (tp : Nat → Nat) (wn : Nat) (tx : Nat → Nat) : List Value := [.int (nI th), .ref (ad 0), .ref (ad 1), .ref (ad 2), .ref (ad 3), .ref (ad 4), .ref (ad 5), .ref (ad 6), .int (nI lb), .int (nI rb), .int (nI ob), .ref (ad 7), .ref (ad 8), .int (nI td), .ref (ad 9), .int (nI wn), .ref (ad 10)]
def SM (G : gG) (b0 o : Nat) (ad : Nat → Nat) (H0 : Heap) (th : Nat) (dg : Nat → Nat) (bw : Nat → Nat) (lm : Nat → Nat) (lf : Nat → Nat) (rt : Nat → Nat) (ou : Nat → Nat) (rs : Nat → Nat) (lb : Nat) (rb : Nat) (ob : Nat) (bL : Nat → Nat) (bR : Nat → Nat) (td : Nat) (tp : Nat → Nat) (wn : Nat) (tx : Nat → Nat) (H : Heap) : Prop := WO G b0 1 o 11 ad H0 (fsM ad th dg bw lm lf rt ou rs lb rb ob bL bR td tp wn tx) (clM G ad th dg bw lm lf rt ou rs lb rb ob bL bR td tp wn tx) H
section SMS
variable {G : gG} {b0 o : Nat} {ad : Nat → Nat} {H0 H : Heap} {th : Nat} {dg : Nat → Nat} {bw : Nat → Nat} {lm : Nat → Nat} {lf : Nat → Nat} {rt : Nat → Nat} {ou : Nat → Nat} {rs : Nat → Nat} {lb : Nat} {rb : Nat} {ob : Nat} {bL : Nat → Nat} {bR : Nat → Nat} {td : Nat} {tp : Nat → Nat} {wn : Nat} {tx : Nat → Nat}
theorem SM.w (h : SM G b0 o ad H0 th dg bw lm lf rt ou rs lb rb ob bL bR td tp wn tx H) : WO G b0 1 o 11 ad H0 (fsM ad th dg bw lm lf rt ou rs lb rb ob bL bR td tp wn tx) (clM G ad th dg bw lm lf rt ou rs lb rb ob bL bR td tp wn tx) H := h
theorem SM.rf (h : SM G b0 o ad H0 th dg bw lm lf rt ou rs lb rb ob bL bR td tp wn tx H) : SM G b0 o ad H th dg bw lm lf rt ou rs lb rb ob bL bR td tp wn tx H := WO.rf h
theorem SM.p_dg (h : SM G b0 o ad H0 th dg bw lm lf rt ou rs lb rb ob bL bR td tp wn tx H) (x : Nat → Nat) : SM G b0 o ad H0 th x bw lm lf rt ou rs lb rb ob bL bR td tp wn tx (hput H (ad 0) (aN G 10240 x)) := (WO.put h 0 (by decide) (aN G 10240 x)).congr (fun i hi => by
  unfold fup
  by_cases e : i = 0
  · subst e; rfl
  · rw [if_neg e]
    unfold clM
    split <;> first | exact absurd rfl e | rfl)
theorem SM.p_bw (h : SM G b0 o ad H0 th dg bw lm lf rt ou rs lb rb ob bL bR td tp wn tx H) (x : Nat → Nat) : SM G b0 o ad H0 th dg x lm lf rt ou rs lb rb ob bL bR td tp wn tx (hput H (ad 1) (aZ G 64 x)) := (WO.put h 1 (by decide) (aZ G 64 x)).congr (fun i hi => by
  unfold fup
  by_cases e : i = 1
  · subst e; rfl
  · rw [if_neg e]
    unfold clM
    split <;> first | exact absurd rfl e | rfl)
theorem SM.p_lm (h : SM G b0 o ad H0 th dg bw lm lf rt ou rs lb rb ob bL bR td tp wn tx H) (x : Nat → Nat) : SM G b0 o ad H0 th dg bw x lf rt ou rs lb rb ob bL bR td tp wn tx (hput H (ad 2) (aN G 330 x)) := (WO.put h 2 (by decide) (aN G 330 x)).congr (fun i hi => by
  unfold fup
  by_cases e : i = 2
  · subst e; rfl
  · rw [if_neg e]
    unfold clM
    split <;> first | exact absurd rfl e | rfl)
theorem SM.p_lf (h : SM G b0 o ad H0 th dg bw lm lf rt ou rs lb rb ob bL bR td tp wn tx H) (x : Nat → Nat) : SM G b0 o ad H0 th dg bw lm x rt ou rs lb rb ob bL bR td tp wn tx (hput H (ad 3) (aN G 330 x)) := (WO.put h 3 (by decide) (aN G 330 x)).congr (fun i hi => by
  unfold fup
  by_cases e : i = 3
  · subst e; rfl
  · rw [if_neg e]
    unfold clM
    split <;> first | exact absurd rfl e | rfl)
theorem SM.p_rt (h : SM G b0 o ad H0 th dg bw lm lf rt ou rs lb rb ob bL bR td tp wn tx H) (x : Nat → Nat) : SM G b0 o ad H0 th dg bw lm lf x ou rs lb rb ob bL bR td tp wn tx (hput H (ad 4) (aN G 330 x)) := (WO.put h 4 (by decide) (aN G 330 x)).congr (fun i hi => by
  unfold fup
  by_cases e : i = 4
  · subst e; rfl
  · rw [if_neg e]
    unfold clM
    split <;> first | exact absurd rfl e | rfl)
theorem SM.p_ou (h : SM G b0 o ad H0 th dg bw lm lf rt ou rs lb rb ob bL bR td tp wn tx H) (x : Nat → Nat) : SM G b0 o ad H0 th dg bw lm lf rt x rs lb rb ob bL bR td tp wn tx (hput H (ad 5) (aN G 330 x)) := (WO.put h 5 (by decide) (aN G 330 x)).congr (fun i hi => by
  unfold fup
  by_cases e : i = 5
  · subst e; rfl
  · rw [if_neg e]
    unfold clM
    split <;> first | exact absurd rfl e | rfl)
theorem SM.p_rs (h : SM G b0 o ad H0 th dg bw lm lf rt ou rs lb rb ob bL bR td tp wn tx H) (x : Nat → Nat) : SM G b0 o ad H0 th dg bw lm lf rt ou x lb rb ob bL bR td tp wn tx (hput H (ad 6) (aN G 330 x)) := (WO.put h 6 (by decide) (aN G 330 x)).congr (fun i hi => by
  unfold fup
  by_cases e : i = 6
  · subst e; rfl
  · rw [if_neg e]
    unfold clM
    split <;> first | exact absurd rfl e | rfl)
theorem SM.p_bL (h : SM G b0 o ad H0 th dg bw lm lf rt ou rs lb rb ob bL bR td tp wn tx H) (x : Nat → Nat) : SM G b0 o ad H0 th dg bw lm lf rt ou rs lb rb ob x bR td tp wn tx (hput H (ad 7) (aN G 514 x)) := (WO.put h 7 (by decide) (aN G 514 x)).congr (fun i hi => by
  unfold fup
  by_cases e : i = 7
  · subst e; rfl
  · rw [if_neg e]
    unfold clM
    split <;> first | exact absurd rfl e | rfl)
theorem SM.p_bR (h : SM G b0 o ad H0 th dg bw lm lf rt ou rs lb rb ob bL bR td tp wn tx H) (x : Nat → Nat) : SM G b0 o ad H0 th dg bw lm lf rt ou rs lb rb ob bL x td tp wn tx (hput H (ad 8) (aN G 514 x)) := (WO.put h 8 (by decide) (aN G 514 x)).congr (fun i hi => by
  unfold fup
  by_cases e : i = 8
  · subst e; rfl
  · rw [if_neg e]
    unfold clM
    split <;> first | exact absurd rfl e | rfl)
theorem SM.p_tp (h : SM G b0 o ad H0 th dg bw lm lf rt ou rs lb rb ob bL bR td tp wn tx H) (x : Nat → Nat) : SM G b0 o ad H0 th dg bw lm lf rt ou rs lb rb ob bL bR td x wn tx (hput H (ad 9) (aN G 1000 x)) := (WO.put h 9 (by decide) (aN G 1000 x)).congr (fun i hi => by
  unfold fup
  by_cases e : i = 9
  · subst e; rfl
  · rw [if_neg e]
    unfold clM
    split <;> first | exact absurd rfl e | rfl)
theorem SM.p_tx (h : SM G b0 o ad H0 th dg bw lm lf rt ou rs lb rb ob bL bR td tp wn tx H) (x : Nat → Nat) : SM G b0 o ad H0 th dg bw lm lf rt ou rs lb rb ob bL bR td tp wn x (hput H (ad 10) (aN G 520 x)) := (WO.put h 10 (by decide) (aN G 520 x)).congr (fun i hi => by
  unfold fup
  by_cases e : i = 10
  · subst e; rfl
  · rw [if_neg e]
    unfold clM
    split <;> first | exact absurd rfl e | rfl)
theorem SM.f_th {H1 : Heap} {x : Nat} (h : SM G b0 o ad H0 th dg bw lm lf rt ou rs lb rb ob bL bR td tp wn tx H) (hO : OB G 1 o ((fsM ad th dg bw lm lf rt ou rs lb rb ob bL bR td tp wn tx).set 0 (.int (nI x))) H1) (hs : H1.size = H.size) (hq : ∀ q, q ≠ o → H1[q]? = H[q]?) : SM G b0 o ad H0 x dg bw lm lf rt ou rs lb rb ob bL bR td tp wn tx H1 := WO.fld h hO hs hq
theorem SM.f_lb {H1 : Heap} {x : Nat} (h : SM G b0 o ad H0 th dg bw lm lf rt ou rs lb rb ob bL bR td tp wn tx H) (hO : OB G 1 o ((fsM ad th dg bw lm lf rt ou rs lb rb ob bL bR td tp wn tx).set 8 (.int (nI x))) H1) (hs : H1.size = H.size) (hq : ∀ q, q ≠ o → H1[q]? = H[q]?) : SM G b0 o ad H0 th dg bw lm lf rt ou rs x rb ob bL bR td tp wn tx H1 := WO.fld h hO hs hq
theorem SM.f_rb {H1 : Heap} {x : Nat} (h : SM G b0 o ad H0 th dg bw lm lf rt ou rs lb rb ob bL bR td tp wn tx H) (hO : OB G 1 o ((fsM ad th dg bw lm lf rt ou rs lb rb ob bL bR td tp wn tx).set 9 (.int (nI x))) H1) (hs : H1.size = H.size) (hq : ∀ q, q ≠ o → H1[q]? = H[q]?) : SM G b0 o ad H0 th dg bw lm lf rt ou rs lb x ob bL bR td tp wn tx H1 := WO.fld h hO hs hq
theorem SM.f_ob {H1 : Heap} {x : Nat} (h : SM G b0 o ad H0 th dg bw lm lf rt ou rs lb rb ob bL bR td tp wn tx H) (hO : OB G 1 o ((fsM ad th dg bw lm lf rt ou rs lb rb ob bL bR td tp wn tx).set 10 (.int (nI x))) H1) (hs : H1.size = H.size) (hq : ∀ q, q ≠ o → H1[q]? = H[q]?) : SM G b0 o ad H0 th dg bw lm lf rt ou rs lb rb x bL bR td tp wn tx H1 := WO.fld h hO hs hq
theorem SM.f_td {H1 : Heap} {x : Nat} (h : SM G b0 o ad H0 th dg bw lm lf rt ou rs lb rb ob bL bR td tp wn tx H) (hO : OB G 1 o ((fsM ad th dg bw lm lf rt ou rs lb rb ob bL bR td tp wn tx).set 13 (.int (nI x))) H1) (hs : H1.size = H.size) (hq : ∀ q, q ≠ o → H1[q]? = H[q]?) : SM G b0 o ad H0 th dg bw lm lf rt ou rs lb rb ob bL bR x tp wn tx H1 := WO.fld h hO hs hq
theorem SM.f_wn {H1 : Heap} {x : Nat} (h : SM G b0 o ad H0 th dg bw lm lf rt ou rs lb rb ob bL bR td tp wn tx H) (hO : OB G 1 o ((fsM ad th dg bw lm lf rt ou rs lb rb ob bL bR td tp wn tx).set 15 (.int (nI x))) H1) (hs : H1.size = H.size) (hq : ∀ q, q ≠ o → H1[q]? = H[q]?) : SM G b0 o ad H0 th dg bw lm lf rt ou rs lb rb ob bL bR td tp x tx H1 := WO.fld h hO hs hq
end SMS

theorem hwsX1_init : ∀ w ∈ wsX10, w ∈ wsX1_init := fun w h => List.mem_cons_of_mem _ (List.mem_append_right _ h)
theorem hwsX1_store : ∀ w ∈ wsX10, w ∈ wsX1_store := fun w h => List.mem_cons_of_mem _ (List.mem_append_right _ h)
theorem hwsX1_set : ∀ w ∈ wsX10, w ∈ wsX1_set := fun w h => List.mem_cons_of_mem _ (List.mem_append_right _ h)
theorem hwsX1_digits : ∀ w ∈ wsX10, w ∈ wsX1_digits := fun w h => List.mem_cons_of_mem _ (List.mem_append_right _ h)
theorem hwsX1_areDigitsOf : ∀ w ∈ wsX10, w ∈ wsX1_areDigitsOf := fun w h => List.mem_cons_of_mem _ (List.mem_append_right _ h)
theorem hwsX1_read : ∀ w ∈ wsX10, w ∈ wsX1_read := fun w h => List.mem_cons_of_mem _ (List.mem_append_right _ h)
theorem hwsX1_sum : ∀ w ∈ wsX10, w ∈ wsX1_sum := fun w h => List.mem_cons_of_mem _ (List.mem_append_right _ h)
theorem hwsX1_quotientOrRest : ∀ w ∈ wsX10, w ∈ wsX1_quotientOrRest := fun w h => List.mem_cons_of_mem _ (List.mem_append_right _ h)
theorem hwsX1_signedCopy : ∀ w ∈ wsX10, w ∈ wsX1_signedCopy := fun w h => List.mem_cons_of_mem _ (List.mem_append_right _ h)
theorem hwsX1_bitByBit : ∀ w ∈ wsX10, w ∈ wsX1_bitByBit := fun w h => List.mem_cons_of_mem _ (List.mem_append_right _ h)
theorem hwsX1_work : ∀ w ∈ wsX10, w ∈ wsX1_work := fun w h => List.mem_cons_of_mem _ (List.mem_append_right _ h)
theorem hwsX1_shift : ∀ w ∈ wsX10, w ∈ wsX1_shift := fun w h => List.mem_cons_of_mem _ (List.mem_append_right _ h)
theorem hwsX1_turn : ∀ w ∈ wsX10, w ∈ wsX1_turn := fun w h => List.mem_cons_of_mem _ (List.mem_append_right _ h)
theorem hwsX1_compare : ∀ w ∈ wsX10, w ∈ wsX1_compare := fun w h => List.mem_cons_of_mem _ (List.mem_append_right _ h)
theorem hwsX1_bits : ∀ w ∈ wsX10, w ∈ wsX1_bits := fun w h => List.mem_cons_of_mem _ (List.mem_append_right _ h)
theorem hwsX1_fits : ∀ w ∈ wsX10, w ∈ wsX1_fits := fun w h => List.mem_cons_of_mem _ (List.mem_append_right _ h)
theorem hwsX1_cut : ∀ w ∈ wsX10, w ∈ wsX1_cut := fun w h => List.mem_cons_of_mem _ (List.mem_append_right _ h)
theorem hwsX1_put : ∀ w ∈ wsX10, w ∈ wsX1_put := fun w h => List.mem_cons_of_mem _ (List.mem_append_right _ h)
theorem hwsX1_putGroup : ∀ w ∈ wsX10, w ∈ wsX1_putGroup := fun w h => List.mem_cons_of_mem _ (List.mem_append_right _ h)
theorem hwsX1_write : ∀ w ∈ wsX10, w ∈ wsX1_write := fun w h => List.mem_cons_of_mem _ (List.mem_append_right _ h)
theorem hwsX1_byteOf : ∀ w ∈ wsX10, w ∈ wsX1_byteOf := fun w h => List.mem_cons_of_mem _ (List.mem_append_right _ h)
theorem hwsM0_init : ∀ w ∈ wsM00, w ∈ wsM0_init := fun w h => List.mem_cons_of_mem _ (List.mem_append_right _ h)
theorem hwsM0_keep : ∀ w ∈ wsM00, w ∈ wsM0_keep := fun w h => List.mem_cons_of_mem _ (List.mem_append_right _ h)
theorem hwsM0_set : ∀ w ∈ wsM00, w ∈ wsM0_set := fun w h => List.mem_cons_of_mem _ (List.mem_append_right _ h)
theorem hwsM0_digits : ∀ w ∈ wsM00, w ∈ wsM0_digits := fun w h => List.mem_cons_of_mem _ (List.mem_append_right _ h)
theorem hwsM0_read : ∀ w ∈ wsM00, w ∈ wsM0_read := fun w h => List.mem_cons_of_mem _ (List.mem_append_right _ h)
theorem hwsM0_load : ∀ w ∈ wsM00, w ∈ wsM0_load := fun w h => List.mem_cons_of_mem _ (List.mem_append_right _ h)
theorem hwsM0_loadBoth : ∀ w ∈ wsM00, w ∈ wsM0_loadBoth := fun w h => List.mem_cons_of_mem _ (List.mem_append_right _ h)
theorem hwsM0_sum : ∀ w ∈ wsM00, w ∈ wsM0_sum := fun w h => List.mem_cons_of_mem _ (List.mem_append_right _ h)
theorem hwsM0_times : ∀ w ∈ wsM00, w ∈ wsM0_times := fun w h => List.mem_cons_of_mem _ (List.mem_append_right _ h)
theorem hwsM0_divide : ∀ w ∈ wsM00, w ∈ wsM0_divide := fun w h => List.mem_cons_of_mem _ (List.mem_append_right _ h)
theorem hwsM0_toBits : ∀ w ∈ wsM00, w ∈ wsM0_toBits := fun w h => List.mem_cons_of_mem _ (List.mem_append_right _ h)
theorem hwsM0_fromBits : ∀ w ∈ wsM00, w ∈ wsM0_fromBits := fun w h => List.mem_cons_of_mem _ (List.mem_append_right _ h)
theorem hwsM0_bitwise : ∀ w ∈ wsM00, w ∈ wsM0_bitwise := fun w h => List.mem_cons_of_mem _ (List.mem_append_right _ h)
theorem hwsM0_work : ∀ w ∈ wsM00, w ∈ wsM0_work := fun w h => List.mem_cons_of_mem _ (List.mem_append_right _ h)
theorem hwsM0_shift : ∀ w ∈ wsM00, w ∈ wsM0_shift := fun w h => List.mem_cons_of_mem _ (List.mem_append_right _ h)
theorem hwsM0_turn : ∀ w ∈ wsM00, w ∈ wsM0_turn := fun w h => List.mem_cons_of_mem _ (List.mem_append_right _ h)
theorem hwsM0_compare : ∀ w ∈ wsM00, w ∈ wsM0_compare := fun w h => List.mem_cons_of_mem _ (List.mem_append_right _ h)
theorem hwsM0_bits : ∀ w ∈ wsM00, w ∈ wsM0_bits := fun w h => List.mem_cons_of_mem _ (List.mem_append_right _ h)
theorem hwsM0_fits : ∀ w ∈ wsM00, w ∈ wsM0_fits := fun w h => List.mem_cons_of_mem _ (List.mem_append_right _ h)
theorem hwsM0_cut : ∀ w ∈ wsM00, w ∈ wsM0_cut := fun w h => List.mem_cons_of_mem _ (List.mem_append_right _ h)
theorem hwsM0_write : ∀ w ∈ wsM00, w ∈ wsM0_write := fun w h => List.mem_cons_of_mem _ (List.mem_append_right _ h)
theorem hwsM0_byteOf : ∀ w ∈ wsM00, w ∈ wsM0_byteOf := fun w h => List.mem_cons_of_mem _ (List.mem_append_right _ h)
end
section
/-! THE VALUES of the slots, on both sides -/
theorem WO.trans {G : gG} {b0 ci o K : Nat} {ad : Nat → Nat} {H0 H H1 : Heap} {fs fs' : List Value} {cl cl' : Nat → Cell} (h : WO G b0 ci o K ad H0 fs cl H) (h1 : WO G b0 ci o K ad H fs' cl' H1) : WO G b0 ci o K ad H0 fs' cl' H1 := ⟨h1.1, h1.2.1, h1.2.2.1, h1.2.2.2.1, h1.2.2.2.2.1, h1.sz.trans h.sz, fun q a b => (h1.fr q a b).trans (h.fr q a b)⟩
def sg (b n : Nat) : Int := if b = 1 then -(n : Int) else (n : Int)
theorem sg_abs (b n : Nat) : (sg b n).natAbs = n := by unfold sg; split <;> omega
theorem sg_0 (n : Nat) : sg 0 n = n := by simp [sg]
theorem sg_1 (n : Nat) : sg 1 n = -(n : Int) := by simp [sg]
def valX (sz : Nat → Nat → Nat) (bl : Nat → Nat) (i : Nat) : Int := sg (bl i) (vl (sz i) 16)
def IV (sz : Nat → Nat → Nat) (bl : Nat → Nat) : Prop := ∀ i, i < 64 → lim (sz i) 16 ∧ bl i ≤ 1 ∧ (bl i = 1 → vl (sz i) 16 ≠ 0)
theorem B16 : 4294967296 ^ 16 = 2 ^ 512 := by rw [show 4294967296 = 2 ^ 32 from rfl, ← Nat.pow_mul]
theorem B17 : 4294967296 ^ 17 = 2 ^ 544 := by rw [show 4294967296 = 2 ^ 32 from rfl, ← Nat.pow_mul]
theorem IV.lt {sz : Nat → Nat → Nat} {bl : Nat → Nat} (h : IV sz bl) {i : Nat} (hi : i < 64) : vl (sz i) 16 < 2 ^ 512 := by rw [← B16]; exact vl_lt (h i hi).1
section VX
variable {G : gG} {b0 o : Nat} {ad : Nat → Nat} {H H1 Hc : Heap} {sz : Nat → Nat → Nat} {bl dv : Nat → Nat} {dc : Nat} {wr : Nat → Nat} {wf : Nat} {f1 f2 fw : Nat → Nat}
/-- the class's object holds the numbers V -/
def RX (G : gG) (b0 o : Nat) (ad : Nat → Nat) (H : Heap) (V : Nat → Int) (dv : Nat → Nat) (dc : Nat) (wr : Nat → Nat) (wf : Nat) (H1 : Heap) : Prop := ∃ (sz : Nat → Nat → Nat) (bl f1 f2 fw : Nat → Nat), SX G b0 o ad H sz bl dv dc wr wf f1 f2 fw H1 ∧ IV sz bl ∧ ∀ i, i < 64 → valX sz bl i = V i
/-- slot s becomes v, or it is too great -/
def KX (G : gG) (b0 o : Nat) (ad : Nat → Nat) (H : Heap) (V : Nat → Int) (dv : Nat → Nat) (dc : Nat) (wr : Nat → Nat) (wf : Nat) (k : Nat) (v : Int) (r : Int32) (H1 : Heap) : Prop := (v.natAbs < 2 ^ 512 ∧ r = nI 0 ∧ RX G b0 o ad H (fup V k v) dv dc wr wf H1) ∨ (2 ^ 512 ≤ v.natAbs ∧ r = nI 1 ∧ RX G b0 o ad H V dv dc wr wf H1)
theorem RX.trans {V : Nat → Int} {dv' : Nat → Nat} {dc' : Nat} {wr' : Nat → Nat} {wf' : Nat} (h : SX G b0 o ad H sz bl dv dc wr wf f1 f2 fw Hc) (h1 : RX G b0 o ad Hc V dv' dc' wr' wf' H1) : RX G b0 o ad H V dv' dc' wr' wf' H1 := by
  obtain ⟨a1, a2, a3, a4, a5, a6, a7, a8⟩ := h1
  exact ⟨a1, a2, a3, a4, a5, WO.trans h a6, a7, a8⟩
theorem KX.trans {V : Nat → Int} {dv' : Nat → Nat} {dc' : Nat} {wr' : Nat → Nat} {wf' : Nat} {k : Nat} {v : Int} {r : Int32} (h : SX G b0 o ad H sz bl dv dc wr wf f1 f2 fw Hc) (h1 : KX G b0 o ad Hc V dv' dc' wr' wf' k v r H1) : KX G b0 o ad H V dv' dc' wr' wf' k v r H1 := by
  rcases h1 with ⟨a, b, c⟩ | ⟨a, b, c⟩
  · exact Or.inl ⟨a, b, RX.trans h c⟩
  · exact Or.inr ⟨a, b, RX.trans h c⟩
theorem KX.val {V V' : Nat → Int} {k : Nat} {v v' : Int} {r : Int32} (h : KX G b0 o ad H V dv dc wr wf k v r H1) (hv : v = v') (hV : ∀ i, i < 64 → V i = V' i) : KX G b0 o ad H V' dv dc wr wf k v' r H1 := by
  subst hv
  rcases h with ⟨a, b, c1, c2, c3, c4, c5, c6, c7, c8⟩ | ⟨a, b, c1, c2, c3, c4, c5, c6, c7, c8⟩
  · refine Or.inl ⟨a, b, c1, c2, c3, c4, c5, c6, c7, fun i hi => (c8 i hi).trans ?_⟩
    unfold fup
    split
    · rfl
    · exact hV i hi
  · exact Or.inr ⟨a, b, c1, c2, c3, c4, c5, c6, c7, fun i hi => (c8 i hi).trans (hV i hi)⟩
theorem SX.r (h : SX G b0 o ad H sz bl dv dc wr wf f1 f2 fw H1) (hI : IV sz bl) : RX G b0 o ad H (valX sz bl) dv dc wr wf H1 := ⟨sz, bl, f1, f2, fw, h, hI, fun _ _ => rfl⟩
end VX
/-- a row stored in a slot -/
theorem kept_X {sz : Nat → Nat → Nat} {bl : Nat → Nat} (hI : IV sz bl) {k n b z : Nat} {f g : Nat → Nat} (hk : k < 64) (hn : 16 ≤ n) (hf : lim f n) (hu : us f n ≤ 16) (hb : b ≤ 1) (hg : ∀ j, j < 16 → g j = f j) (hz : (b = 1 ∧ us f n ≠ 0 ∧ z = 1) ∨ ((b ≠ 1 ∨ us f n = 0) ∧ z = 0)) :
    IV (fup sz k g) (fup bl k z) ∧ ∀ i, i < 64 → valX (fup sz k g) (fup bl k z) i = fup (valX sz bl) k (sg b (vl f n)) i := by
  have hv : vl g 16 = vl f n := by
    rw [vl_congr hg]
    symm
    exact vl_ext hn (fun j h1 h2 => us_hi f n j (by omega) h2)
  have h0 := us_0 f n
  constructor
  · intro i hi
    by_cases e : i = k
    · subst e
      rw [fup_s, fup_s]
      refine ⟨fun j hj => by rw [hg j hj]; exact hf j (by omega), by omega, fun h1 => ?_⟩
      rw [hv]
      intro h2
      have := h0.mpr h2
      omega
    · rw [fup_n _ _ e, fup_n _ _ e]
      exact hI i hi
  · intro i hi
    unfold valX
    by_cases e : i = k
    · subst e
      rw [fup_s, fup_s, fup_s, hv]
      unfold sg
      rcases hz with ⟨h1, h2, h3⟩ | ⟨h1, h3⟩
      · rw [if_pos h3, if_pos h1]
      · rw [if_neg (by omega)]
        rcases h1 with h1 | h1
        · rw [if_neg h1]
        · rw [h0.mp h1]; split <;> rfl
    · rw [fup_n _ _ e, fup_n _ _ e, fup_n _ _ e]
end
section
set_option maxRecDepth 100000 in
set_option maxHeartbeats 4000000 in
theorem c_X1_isSlot (l : Launch) (G : gG) (b0 : Nat) (H : Heap)  (x : Int32) : Met l yX1_isSlot wsX1_isSlot ({ frames := 0, cells := 0, slots := 0, locals := 0 } : Room) (PcH G H [.int x]) (QcI (fun r H1 => rng 0 63 x r ∧ H = H1)) 0 0 (fre b0) := by
  refine m_enter (cc := cX1_isSlot) (maxL := 1) (ret := (some .boolean)) (own := RX1) (by decide) rfl rfl (Nat.le_of_ble_eq_true rfl) ?_
  intro p e s m below meth c ls hF hnm hH hl
  have hl : lv_has ls 1 [(0, .int x)] := hl
  have hLc : lcs b0 [] := lcs_nil b0
  obtain ⟨hx, hb, hr, hml, hown, hts, hlocks, hK⟩ := id hF
  by_cases hz : x < 0
  · skip
    refine lv_iload_n hx hb dX1_isSlot_0 rfl (lv_at hl 0 rfl) ?_
    refine lv_if_lt (tgt := 14) hx hb dX1_isSlot_1 (by decide) (fun _ => ?_) (fun h => absurd (hz) h)
    refine lv_iconst (v := nI 0) hx hb dX1_isSlot_14 (by decide) ?_
    exact m_zret hx hb hr hlocks hLc (by decide) dX1_isSlot_15 (⟨rng_neg hz, rfl⟩)
  · obtain ⟨i, hi, rfl⟩ := nI_of hz
    refine lv_iload_n hx hb dX1_isSlot_0 rfl (lv_at hl 0 rfl) ?_
    refine lv_if_lt (tgt := 14) hx hb dX1_isSlot_1 (by decide) (fun h => absurd h (hz)) (fun _ => ?_)
    refine lv_iload_n hx hb dX1_isSlot_4 rfl (lv_at hl 0 rfl) ?_
    refine lv_bipush (v := nI 64) hx hb dX1_isSlot_5 (by decide) ?_
    refine m_icmp_ge (tgt := 14) hx hb (by omega) (by omega) dX1_isSlot_7 (by decide) (fun c7 => ?_) (fun c7 => ?_)
    · skip
      refine lv_iconst (v := nI 0) hx hb dX1_isSlot_14 (by decide) ?_
      exact m_zret hx hb hr hlocks hLc (by decide) dX1_isSlot_15 (⟨rng_out hi (by omega), rfl⟩)
    · skip
      refine lv_iconst (v := nI 1) hx hb dX1_isSlot_10 (by decide) ?_
      refine lv_goto (tgt := 15) hx hb dX1_isSlot_11 (by decide) ?_
      exact m_zret hx hb hr hlocks hLc (by decide) dX1_isSlot_15 (⟨rng_in (by omega) (by omega), rfl⟩)

set_option maxRecDepth 100000 in
set_option maxHeartbeats 4000000 in
theorem c_X1_isBase (l : Launch) (G : gG) (b0 : Nat) (H : Heap)  (x : Int32) : Met l yX1_isBase wsX1_isBase ({ frames := 0, cells := 0, slots := 0, locals := 0 } : Room) (PcH G H [.int x]) (QcI (fun r H1 => rng 2 36 x r ∧ H = H1)) 0 0 (fre b0) := by
  refine m_enter (cc := cX1_isBase) (maxL := 1) (ret := (some .boolean)) (own := RX1) (by decide) rfl rfl (Nat.le_of_ble_eq_true rfl) ?_
  intro p e s m below meth c ls hF hnm hH hl
  have hl : lv_has ls 1 [(0, .int x)] := hl
  have hLc : lcs b0 [] := lcs_nil b0
  obtain ⟨hx, hb, hr, hml, hown, hts, hlocks, hK⟩ := id hF
  by_cases hz : x < 0
  · skip
    refine lv_iload_n hx hb dX1_isBase_0 rfl (lv_at hl 0 rfl) ?_
    refine lv_iconst (v := nI 2) hx hb dX1_isBase_1 (by decide) ?_
    refine lv_icmp_lt (tgt := 15) hx hb dX1_isBase_2 (by decide) (fun _ => ?_) (fun h => absurd (neg_lt hz 2 (by decide)) h)
    refine lv_iconst (v := nI 0) hx hb dX1_isBase_15 (by decide) ?_
    exact m_zret hx hb hr hlocks hLc (by decide) dX1_isBase_16 (⟨rng_neg hz, rfl⟩)
  · obtain ⟨i, hi, rfl⟩ := nI_of hz
    refine lv_iload_n hx hb dX1_isBase_0 rfl (lv_at hl 0 rfl) ?_
    refine lv_iconst (v := nI 2) hx hb dX1_isBase_1 (by decide) ?_
    refine m_icmp_lt (tgt := 15) hx hb (by omega) (by omega) dX1_isBase_2 (by decide) (fun c2 => ?_) (fun c2 => ?_)
    · skip
      refine lv_iconst (v := nI 0) hx hb dX1_isBase_15 (by decide) ?_
      exact m_zret hx hb hr hlocks hLc (by decide) dX1_isBase_16 (⟨rng_out hi (by omega), rfl⟩)
    · skip
      refine lv_iload_n hx hb dX1_isBase_5 rfl (lv_at hl 0 rfl) ?_
      refine lv_bipush (v := nI 36) hx hb dX1_isBase_6 (by decide) ?_
      refine m_icmp_gt (tgt := 15) hx hb (by omega) (by omega) dX1_isBase_8 (by decide) (fun c8 => ?_) (fun c8 => ?_)
      · skip
        refine lv_iconst (v := nI 0) hx hb dX1_isBase_15 (by decide) ?_
        exact m_zret hx hb hr hlocks hLc (by decide) dX1_isBase_16 (⟨rng_out hi (by omega), rfl⟩)
      · skip
        refine lv_iconst (v := nI 1) hx hb dX1_isBase_11 (by decide) ?_
        refine lv_goto (tgt := 16) hx hb dX1_isBase_12 (by decide) ?_
        exact m_zret hx hb hr hlocks hLc (by decide) dX1_isBase_16 (⟨rng_in (by omega) (by omega), rfl⟩)

set_option maxRecDepth 100000 in
set_option maxHeartbeats 4000000 in
theorem c_X1_isWordLength (l : Launch) (G : gG) (b0 : Nat) (H : Heap)  (x : Int32) : Met l yX1_isWordLength wsX1_isWordLength ({ frames := 0, cells := 0, slots := 0, locals := 0 } : Room) (PcH G H [.int x]) (QcI (fun r H1 => rng 1 64 x r ∧ H = H1)) 0 0 (fre b0) := by
  refine m_enter (cc := cX1_isWordLength) (maxL := 1) (ret := (some .boolean)) (own := RX1) (by decide) rfl rfl (Nat.le_of_ble_eq_true rfl) ?_
  intro p e s m below meth c ls hF hnm hH hl
  have hl : lv_has ls 1 [(0, .int x)] := hl
  have hLc : lcs b0 [] := lcs_nil b0
  obtain ⟨hx, hb, hr, hml, hown, hts, hlocks, hK⟩ := id hF
  by_cases hz : x < 0
  · skip
    refine lv_iload_n hx hb dX1_isWordLength_0 rfl (lv_at hl 0 rfl) ?_
    refine lv_iconst (v := nI 1) hx hb dX1_isWordLength_1 (by decide) ?_
    refine lv_icmp_lt (tgt := 15) hx hb dX1_isWordLength_2 (by decide) (fun _ => ?_) (fun h => absurd (neg_lt hz 1 (by decide)) h)
    refine lv_iconst (v := nI 0) hx hb dX1_isWordLength_15 (by decide) ?_
    exact m_zret hx hb hr hlocks hLc (by decide) dX1_isWordLength_16 (⟨rng_neg hz, rfl⟩)
  · obtain ⟨i, hi, rfl⟩ := nI_of hz
    refine lv_iload_n hx hb dX1_isWordLength_0 rfl (lv_at hl 0 rfl) ?_
    refine lv_iconst (v := nI 1) hx hb dX1_isWordLength_1 (by decide) ?_
    refine m_icmp_lt (tgt := 15) hx hb (by omega) (by omega) dX1_isWordLength_2 (by decide) (fun c2 => ?_) (fun c2 => ?_)
    · skip
      refine lv_iconst (v := nI 0) hx hb dX1_isWordLength_15 (by decide) ?_
      exact m_zret hx hb hr hlocks hLc (by decide) dX1_isWordLength_16 (⟨rng_out hi (by omega), rfl⟩)
    · skip
      refine lv_iload_n hx hb dX1_isWordLength_5 rfl (lv_at hl 0 rfl) ?_
      refine lv_bipush (v := nI 64) hx hb dX1_isWordLength_6 (by decide) ?_
      refine m_icmp_gt (tgt := 15) hx hb (by omega) (by omega) dX1_isWordLength_8 (by decide) (fun c8 => ?_) (fun c8 => ?_)
      · skip
        refine lv_iconst (v := nI 0) hx hb dX1_isWordLength_15 (by decide) ?_
        exact m_zret hx hb hr hlocks hLc (by decide) dX1_isWordLength_16 (⟨rng_out hi (by omega), rfl⟩)
      · skip
        refine lv_iconst (v := nI 1) hx hb dX1_isWordLength_11 (by decide) ?_
        refine lv_goto (tgt := 16) hx hb dX1_isWordLength_12 (by decide) ?_
        exact m_zret hx hb hr hlocks hLc (by decide) dX1_isWordLength_16 (⟨rng_in (by omega) (by omega), rfl⟩)

set_option maxRecDepth 100000 in
set_option maxHeartbeats 4000000 in
theorem c_X1_store (l : Launch) (G : gG) (b0 : Nat) (H : Heap) {o : Nat} {ad : Nat → Nat} {sz : Nat → Nat → Nat} {bl : Nat → Nat} {dv : Nat → Nat} {dc : Nat} {wr : Nat → Nat} {wf : Nat} {f1 : Nat → Nat} {f2 : Nat → Nat} {fw : Nat → Nat} (hS : SX G b0 o ad H sz bl dv dc wr wf f1 f2 fw H) (hI : IV sz bl) (k : Nat) (hk : k < 64) {a n b : Nat} {f : Nat → Nat} (ha : H[a]? = some (aJ G n f)) (hn : 16 ≤ n) (hn2 : n ≤ 32) (hf : lim f n) (hb1 : b ≤ 1) : Met l yX1_store wsX1_store ({ frames := 1, cells := 0, slots := 0, locals := 40 } : Room) (PcH G H [.ref o, .int (nI k), .ref a, .int (nI b)]) (QcI (fun r H1 => KX G b0 o ad H (valX sz bl) dv dc wr wf k (sg b (vl f n)) r H1)) 0 0 (fre b0) := by
  refine m_enter (cc := cX1_store) (maxL := 5) (ret := (some .int)) (own := RX1) (by decide) rfl rfl (Nat.le_of_ble_eq_true rfl) ?_
  intro p e s m below meth c ls hF hnm hH hl
  have hl : lv_has ls 5 [(0, .ref o), (1, .int (nI k)), (2, .ref a), (3, .int (nI b))] := hl
  have hLc : lcs b0 [] := lcs_nil b0
  obtain ⟨hx, hb, hr, hml, hown, hts, hlocks, hK⟩ := id hF
  have hul := us_le f n
  refine lv_aload_n hx hb dX1_store_0 rfl (lv_at hl 2 rfl) ?_
  refine mc_i0 (va_runS (As := [.ref a]) (rest := []) ⟨hx, hb, hml, hown, hts⟩ (c_X0_used l G b0 H ha (by omega) hf) (va_cwS 1 hts gX1_store_X0_used rfl rfl rfl (by decide +kernel) ⟨Nat.le_of_ble_eq_true rfl, Nat.le_of_ble_eq_true rfl⟩) (mp_S hK) rfl rfl hl.1 rfl (lv_room (Nat.le_of_ble_eq_true rfl)) dX1_store_1 ⟨Nat.le_of_ble_eq_true rfl, Nat.le_of_ble_eq_true rfl⟩) hLc (fun r H1 locs hP hLc => ?_)
  obtain ⟨rfl, rfl⟩ := hP
  refine lv_istore (lv' := [(4, .int (nI (us f n))), (0, .ref o), (1, .int (nI k)), (2, .ref a), (3, .int (nI b))]) hx hb dX1_store_4 hl (by decide) rfl (fun ls hl => ?_)
  refine lv_iload hx hb dX1_store_6 (lv_at hl 0 rfl) ?_
  refine lv_bipush (v := nI 16) hx hb dX1_store_8 (by decide) ?_
  refine m_icmp_le (tgt := 15) hx hb (by omega) (by omega) dX1_store_10 (by decide) (fun c10 => ?_) (fun c10 => ?_)
  · skip
    refine lv_aload_n hx hb dX1_store_15 rfl (lv_at hl 3 rfl) ?_
    refine lv_iconst (v := nI 0) hx hb dX1_store_16 (by decide) ?_
    refine lv_aload_n hx hb dX1_store_17 rfl (lv_at hl 1 rfl) ?_
    refine va_get (D := G.1) (ci := 0) (v := .ref (ad 0)) (C := RX1) (T := TX1) (N := 9) hx hb hts hwsX1_store hown hK hS.w.ob 0 rfl rfl 0 (by decide) (hts (.fieldLink RX1 11 "ExactNumbers" "sizes" "[[J") (by decide +kernel)) (fun _ h9 => h9) rfl dX1_store_18 ?_
    refine lv_iload_n hx hb dX1_store_21 rfl (lv_at hl 2 rfl) ?_
    refine m_aald (n := 64) (f := (fun i => ad (i + 7))) hx hb hK (hS.w.get 0 (by decide)) (by omega) (by decide) dX1_store_22 ?_
    refine lv_iconst (v := nI 0) hx hb dX1_store_23 (by decide) ?_
    refine lv_bipush (v := nI 16) hx hb dX1_store_24 (by decide) ?_
    refine m_copyJ (n := 16) (b0 := b0) hx hb (hml.trans hl.1.symm) hown (hts (.methodLink RX1 146 arraycopyName) (by decide +kernel)) (hts (.native arraycopyName) (by decide +kernel)) (hts (.static arraycopyName) (by decide +kernel)) (hts (.initialized "java/lang/System") (by decide +kernel)) hK ha (hS.w.get (k + 7) (by omega)) hn (Nat.le_refl 16) (by decide) (hS.w.b (k + 7) (by omega)) hLc (Nat.le_of_ble_eq_true rfl) (Nat.le_of_ble_eq_true rfl) dX1_store_26 (fun locs hLc => ?_)
    have hS := hS.p_sz (hk) (fun j => if j < 16 then f j else sz k j)
    generalize hput H (ad (k + 7)) (aJ G 16 (fun j => if j < 16 then f j else sz k j)) = Hc at hS ⊢
    refine lv_aload_n hx hb dX1_store_29 rfl (lv_at hl 1 rfl) ?_
    refine va_get (D := G.1) (ci := 0) (v := .ref (ad 1)) (C := RX1) (T := TX1) (N := 9) hx hb hts hwsX1_store hown hK hS.w.ob 0 rfl rfl 1 (by decide) (hts (.fieldLink RX1 14 "ExactNumbers" "below" "[Z") (by decide +kernel)) (fun _ h9 => h9) rfl dX1_store_30 ?_
    refine lv_iload_n hx hb dX1_store_33 rfl (lv_at hl 2 rfl) ?_
    refine lv_iload_n hx hb dX1_store_34 rfl (lv_at hl 4 rfl) ?_
    refine m_if_eq (tgt := 47) hx hb (by omega) dX1_store_35 (by decide) (fun c35 => ?_) (fun c35 => ?_)
    · skip
      refine lv_iconst (v := nI 0) hx hb dX1_store_47 (by decide) ?_
      refine m_zast (n := 64) (f := bl) (b0 := b0) hx hb hK (hS.w.get 1 (by decide)) (hk) (by decide) (by decide) (hS.w.b 1 (by decide)) hLc dX1_store_48 (fun locs hLc => ?_)
      have hS := hS.p_bl (fup bl k 0)
      generalize hput Hc (ad 1) (aZ G 64 (fup bl k 0)) = Hc at hS ⊢
      refine lv_iconst (v := nI 0) hx hb dX1_store_49 (by decide) ?_
      exact m_iret hx hb hr hlocks hLc dX1_store_50 (Or.inl ⟨by rw [sg_abs, ← B16]; exact (us_le_iff hf 16).mp c10, rfl, _, _, _, _, _, hS, kept_X hI hk hn hf c10 hb1 (fun j hj => if_pos hj) (Or.inr ⟨by omega, rfl⟩)⟩)
    · skip
      refine lv_iload hx hb dX1_store_38 (lv_at hl 0 rfl) ?_
      refine lv_if_le (tgt := 47) hx hb dX1_store_40 (by decide) (fun c40 => ?_) (fun c40 => ?_)
      · skip
        have c40 : us f n = 0 := if0 (by omega) c40
        refine lv_iconst (v := nI 0) hx hb dX1_store_47 (by decide) ?_
        refine m_zast (n := 64) (f := bl) (b0 := b0) hx hb hK (hS.w.get 1 (by decide)) (hk) (by decide) (by decide) (hS.w.b 1 (by decide)) hLc dX1_store_48 (fun locs hLc => ?_)
        have hS := hS.p_bl (fup bl k 0)
        generalize hput Hc (ad 1) (aZ G 64 (fup bl k 0)) = Hc at hS ⊢
        refine lv_iconst (v := nI 0) hx hb dX1_store_49 (by decide) ?_
        exact m_iret hx hb hr hlocks hLc dX1_store_50 (Or.inl ⟨by rw [sg_abs, ← B16]; exact (us_le_iff hf 16).mp c10, rfl, _, _, _, _, _, hS, kept_X hI hk hn hf c10 hb1 (fun j hj => if_pos hj) (Or.inr ⟨by omega, rfl⟩)⟩)
      · skip
        have c40 : us f n ≠ 0 := ifn0 c40
        refine lv_iconst (v := nI 1) hx hb dX1_store_43 (by decide) ?_
        refine lv_goto (tgt := 48) hx hb dX1_store_44 (by decide) ?_
        refine m_zast (n := 64) (f := bl) (b0 := b0) hx hb hK (hS.w.get 1 (by decide)) (hk) (by decide) (by decide) (hS.w.b 1 (by decide)) hLc dX1_store_48 (fun locs hLc => ?_)
        have hS := hS.p_bl (fup bl k 1)
        generalize hput Hc (ad 1) (aZ G 64 (fup bl k 1)) = Hc at hS ⊢
        refine lv_iconst (v := nI 0) hx hb dX1_store_49 (by decide) ?_
        exact m_iret hx hb hr hlocks hLc dX1_store_50 (Or.inl ⟨by rw [sg_abs, ← B16]; exact (us_le_iff hf 16).mp c10, rfl, _, _, _, _, _, hS, kept_X hI hk hn hf c10 hb1 (fun j hj => if_pos hj) (Or.inl ⟨by omega, c40, rfl⟩)⟩)
  · skip
    refine lv_iconst (v := nI 1) hx hb dX1_store_13 (by decide) ?_
    exact m_iret hx hb hr hlocks hLc dX1_store_14 (Or.inr ⟨by rw [sg_abs, ← B16]; exact Nat.not_lt.mp (fun z => Nat.not_le.mpr c10 ((us_le_iff hf 16).mpr z)), rfl, hS.r hI⟩)
end
section
/-! SUMS, SIGNS, SMALL VALUES -/
theorem sum_same {c A B g : Nat} (h : g = A + B) : sg c g = sg c A + sg c B := by unfold sg; split <;> omega
theorem sum_diff1 {b c A B g : Nat} (hb : b ≤ 1) (hc : c ≤ 1) (hbc : b ≠ c) (h : g + B = A) : sg b g = sg b A + sg c B := by unfold sg; split <;> split <;> omega
theorem sum_diff2 {b c A B g : Nat} (hb : b ≤ 1) (hc : c ≤ 1) (hbc : b ≠ c) (h : g + A = B) : sg c g = sg b A + sg c B := by unfold sg; split <;> split <;> omega
theorem no_carry {g c T S : Nat} (h : g + c * T = S) (hS : S < T) : g = S := by
  rcases Nat.eq_zero_or_pos c with h0 | h0
  · rw [h0, Nat.zero_mul] at h; omega
  · have : 1 * T ≤ c * T := Nat.mul_le_mul_right _ h0
    omega
theorem no_borrow {g c T A D : Nat} (h : g + D = A + c * T) (hg : g < T) (hAD : D ≤ A) : g + D = A := by
  rcases Nat.eq_zero_or_pos c with h0 | h0
  · rw [h0, Nat.zero_mul] at h; omega
  · have : 1 * T ≤ c * T := Nat.mul_le_mul_right _ h0
    omega
theorem l16_17 {f : Nat → Nat} : vl (lat 16 f) 17 = vl f 16 := vl_lat (by decide)
theorem l16_16 {f : Nat → Nat} : vl (lat 16 f) 16 = vl f 16 := vl_lat (by decide)
theorem p16_17 : 2 * 4294967296 ^ 16 < 4294967296 ^ 17 := by decide +kernel
theorem add_v {f1 f2 g : Nat → Nat} {c1 : Nat} (h1 : lim f1 16) (h2 : lim f2 16) (h : vl g 17 + c1 * 4294967296 ^ 17 = vl (lat 16 f1) 17 + vl (lat 16 f2) 17) : vl g 17 = vl f1 16 + vl f2 16 := by
  rw [l16_17, l16_17] at h
  have a := vl_lt h1
  have b := vl_lt h2
  have d := p16_17
  exact no_carry h (by omega)
theorem sub_v {f1 f2 g : Nat → Nat} {c1 : Nat} (hg : lim g 17) (h : vl g 17 + vl (lat 16 f2) 17 = vl (lat 16 f1) 17 + c1 * 4294967296 ^ 17) (hle : vl f2 16 ≤ vl f1 16) : vl g 17 + vl f2 16 = vl f1 16 := by
  rw [l16_17, l16_17] at h
  exact no_borrow h (vl_lt hg) hle
theorem ge0_lN {u : Nat} (h : u < 18446744073709551616) : lN 0 ≤ lN u ↔ u < 9223372036854775808 := by
  rw [Int64.le_iff_toInt_le, pk_lT (show 0 < 2 ^ 63 by decide)]
  have h1 : (lN u).toInt = if u < 9223372036854775808 then (u : Int) else (u : Int) - 18446744073709551616 := by
    show (Int64.ofNat u).toInt = _
    rw [Int64.toInt_ofNat', show Int64.size = 18446744073709551616 from rfl, Int.bmod_def]
    split <;> split <;> omega
  rw [h1]
  split <;> omega
theorem neg_lN {u : Nat} (h : u ≤ 18446744073709551616) : -lN u = lN (18446744073709551616 - u) := by
  have h1 := sub_lN (a := 0) h
  rw [show lN 0 = 0 from rfl, Nat.zero_add] at h1
  rw [← h1]
  grind
theorem two_limbs (w : Nat) (h : w < 18446744073709551616) : ∀ n, vl (fup (fup (fun _ => 0) 0 (w % 4294967296)) 1 (w / 4294967296)) (n + 2) = w
  | 0 => by simp [vl, fup]; omega
  | n + 1 => by rw [vl_succ, two_limbs w h n]; simp [fup]
theorem two_lim (w n : Nat) (h : w < 18446744073709551616) : lim (fup (fup (fun _ => 0) 0 (w % 4294967296)) 1 (w / 4294967296)) n := lim_fup (lim_fup (fun _ _ => (by decide : 0 < 4294967296)) (Nat.mod_lt _ (by decide))) (by omega)
/-- a long, with its sign or without -/
def setv (u g : Nat) : Int := if g = 1 ∧ 9223372036854775808 ≤ u then (u : Int) - 18446744073709551616 else (u : Int)
theorem setv_neg {u : Nat} (h : 9223372036854775808 ≤ u) (h2 : u < 18446744073709551616) : sg 1 (18446744073709551616 - u) = setv u 1 := by
  unfold setv
  rw [if_pos ⟨rfl, h⟩, sg_1]
  omega
theorem setv_pos {u g : Nat} (h : g = 0 ∨ u < 9223372036854775808) : sg 0 u = setv u g := by
  unfold setv
  rw [if_neg (by omega), sg_0]
def noslot (x : Int32) : Prop := ∀ k, 0 ≤ k → k ≤ 63 → k < 2 ^ 31 → x ≠ nI k
def cmpP (r : Int32) (a b : Int) : Prop := (a < b ∧ r = -1) ∨ (a = b ∧ r = 0) ∨ (b < a ∧ r = 1)
theorem cmp_n1 {sz : Nat → Nat → Nat} {bl : Nat → Nat} {i j : Nat} (hI : IV sz bl) (hi : i < 64) (hj : j < 64) (h : bl i ≠ bl j) (h1 : bl i ≠ 0) : cmpP (-1) (valX sz bl i) (valX sz bl j) := by
  have a := hI i hi
  have b := hI j hj
  refine Or.inl ⟨?_, rfl⟩
  unfold valX sg
  rw [if_pos (by omega), if_neg (by omega)]
  have := a.2.2 (by omega)
  omega
theorem cmp_n0 {sz : Nat → Nat → Nat} {bl : Nat → Nat} {i j : Nat} (hI : IV sz bl) (hi : i < 64) (hj : j < 64) (h : bl i ≠ bl j) (h1 : bl i = 0) : cmpP 1 (valX sz bl i) (valX sz bl j) := by
  have a := hI i hi
  have b := hI j hj
  refine Or.inr (Or.inr ⟨?_, rfl⟩)
  unfold valX sg
  rw [if_pos (show bl j = 1 by omega), if_neg (by omega)]
  have := b.2.2 (by omega)
  omega
theorem cmp_p {sz : Nat → Nat → Nat} {bl : Nat → Nat} {i j : Nat} {r : Int32} (h : bl i = bl j) (h1 : bl i = 0) (ho : ordP r (vl (sz i) 16) (vl (sz j) 16)) : cmpP r (valX sz bl i) (valX sz bl j) := by
  unfold valX sg
  rw [if_neg (by omega), if_neg (by omega)]
  rcases ho with ⟨a, b⟩ | ⟨a, b⟩ | ⟨a, b⟩
  · exact Or.inl ⟨by omega, b⟩
  · exact Or.inr (Or.inl ⟨by omega, b⟩)
  · exact Or.inr (Or.inr ⟨by omega, b⟩)
theorem cmp_m {sz : Nat → Nat → Nat} {bl : Nat → Nat} {i j : Nat} {r : Int32} (hb : bl i ≤ 1) (h : bl i = bl j) (h1 : bl i ≠ 0) (ho : ordP r (vl (sz i) 16) (vl (sz j) 16)) : cmpP (-r) (valX sz bl i) (valX sz bl j) := by
  unfold valX sg
  rw [if_pos (by omega), if_pos (by omega)]
  rcases ho with ⟨a, rfl⟩ | ⟨a, rfl⟩ | ⟨a, rfl⟩
  · exact Or.inr (Or.inr ⟨by omega, by decide⟩)
  · exact Or.inr (Or.inl ⟨by omega, by decide⟩)
  · exact Or.inl ⟨by omega, by decide⟩
theorem inc17 {x : Nat} (h : x < 4294967296 ^ 16) : (x + 1) % 4294967296 ^ 17 = x + 1 := by
  have := p16_17
  exact Nat.mod_eq_of_lt (by omega)
end
section
set_option maxRecDepth 100000 in
set_option maxHeartbeats 4000000 in
theorem c_X1_sum (l : Launch) (G : gG) (b0 : Nat) (H : Heap) {o : Nat} {ad : Nat → Nat} {sz : Nat → Nat → Nat} {bl : Nat → Nat} {dv : Nat → Nat} {dc : Nat} {wr : Nat → Nat} {wf : Nat} {f1 : Nat → Nat} {f2 : Nat → Nat} {fw : Nat → Nat} (hS : SX G b0 o ad H sz bl dv dc wr wf f1 f2 fw H) (hI : IV sz bl) {k x y c0 : Nat} (hk : k < 64) (hx0 : x < 64) (hy0 : y < 64) (hc0 : c0 ≤ 1) : Met l yX1_sum wsX1_sum ({ frames := 2, cells := 0, slots := 0, locals := 64 } : Room) (PcH G H [.ref o, .int (nI k), .int (nI x), .int (nI y), .int (nI c0)]) (QcI (fun r H1 => KX G b0 o ad H (valX sz bl) dv dc wr wf k (valX sz bl x + sg c0 (vl (sz y) 16)) r H1)) 0 0 (fre b0) := by
  refine m_enter (cc := cX1_sum) (maxL := 5) (ret := (some .int)) (own := RX1) (by decide) rfl rfl (Nat.le_of_ble_eq_true rfl) ?_
  intro p e s m below meth c ls hF hnm hH hl
  have hl : lv_has ls 5 [(0, .ref o), (1, .int (nI k)), (2, .int (nI x)), (3, .int (nI y)), (4, .int (nI c0))] := hl
  have hLc : lcs b0 [] := lcs_nil b0
  obtain ⟨hx, hb, hr, hml, hown, hts, hlocks, hK⟩ := id hF
  have hbx := (hI x (by omega)).2.1
  refine lv_aload_n hx hb dX1_sum_0 rfl (lv_at hl 0 rfl) ?_
  refine va_get (D := G.1) (ci := 0) (v := .ref (ad 1)) (C := RX1) (T := TX1) (N := 9) hx hb hts hwsX1_sum hown hK hS.w.ob 0 rfl rfl 1 (by decide) (hts (.fieldLink RX1 14 "ExactNumbers" "below" "[Z") (by decide +kernel)) (fun _ h9 => h9) rfl dX1_sum_1 ?_
  refine lv_iload_n hx hb dX1_sum_4 rfl (lv_at hl 2 rfl) ?_
  refine m_zald (n := 64) (f := bl) hx hb hK (hS.w.get 1 (by decide)) (by omega) (by decide) dX1_sum_5 ?_
  refine lv_iload hx hb dX1_sum_6 (lv_at hl 4 rfl) ?_
  refine m_icmp_ne (tgt := 42) hx hb (by omega) (by omega) dX1_sum_8 (by decide) (fun c8 => ?_) (fun c8 => ?_)
  · skip
    refine lv_aload_n hx hb dX1_sum_42 rfl (lv_at hl 0 rfl) ?_
    refine va_get (D := G.1) (ci := 0) (v := .ref (ad 0)) (C := RX1) (T := TX1) (N := 9) hx hb hts hwsX1_sum hown hK hS.w.ob 0 rfl rfl 0 (by decide) (hts (.fieldLink RX1 11 "ExactNumbers" "sizes" "[[J") (by decide +kernel)) (fun _ h9 => h9) rfl dX1_sum_43 ?_
    refine lv_iload_n hx hb dX1_sum_46 rfl (lv_at hl 2 rfl) ?_
    refine m_aald (n := 64) (f := (fun i => ad (i + 7))) hx hb hK (hS.w.get 0 (by decide)) (by omega) (by decide) dX1_sum_47 ?_
    refine lv_aload_n hx hb dX1_sum_48 rfl (lv_at hl 0 rfl) ?_
    refine va_get (D := G.1) (ci := 0) (v := .ref (ad 0)) (C := RX1) (T := TX1) (N := 9) hx hb hts hwsX1_sum hown hK hS.w.ob 0 rfl rfl 0 (by decide) (hts (.fieldLink RX1 11 "ExactNumbers" "sizes" "[[J") (by decide +kernel)) (fun _ h9 => h9) rfl dX1_sum_49 ?_
    refine lv_iload_n hx hb dX1_sum_52 rfl (lv_at hl 3 rfl) ?_
    refine m_aald (n := 64) (f := (fun i => ad (i + 7))) hx hb hK (hS.w.get 0 (by decide)) (by omega) (by decide) dX1_sum_53 ?_
    refine mc_i0 (va_runS (As := [.ref (ad (x + 7)), .ref (ad (y + 7))]) (rest := []) ⟨hx, hb, hml, hown, hts⟩ (c_X0_order l G b0 H (hS.w.get (x + 7) (by omega)) (hS.w.get (y + 7) (by omega)) (by decide) (by decide) (hI x (by omega)).1 (hI y (by omega)).1) (va_cwS 2 hts gX1_sum_X0_order rfl rfl rfl (by decide +kernel) ⟨Nat.le_of_ble_eq_true rfl, Nat.le_of_ble_eq_true rfl⟩) (mp_S hK) rfl rfl hl.1 rfl (lv_room (Nat.le_of_ble_eq_true rfl)) dX1_sum_54 ⟨Nat.le_of_ble_eq_true rfl, Nat.le_of_ble_eq_true rfl⟩) hLc (fun r H1 locs hP hLc => ?_)
    obtain ⟨hP, rfl⟩ := hP
    rw [l16_16, l16_16] at hP
    rcases hP with ⟨hlt, rfl⟩ | ⟨hlt, rfl⟩ | ⟨hlt, rfl⟩
    · skip
      refine lv_if_lt (tgt := 95) hx hb dX1_sum_57 (by decide) (fun _ => ?_) (fun h => absurd (by decide) h)
      refine lv_aload_n hx hb dX1_sum_95 rfl (lv_at hl 0 rfl) ?_
      refine va_get (D := G.1) (ci := 0) (v := .ref (ad 0)) (C := RX1) (T := TX1) (N := 9) hx hb hts hwsX1_sum hown hK hS.w.ob 0 rfl rfl 0 (by decide) (hts (.fieldLink RX1 11 "ExactNumbers" "sizes" "[[J") (by decide +kernel)) (fun _ h9 => h9) rfl dX1_sum_96 ?_
      refine lv_iload_n hx hb dX1_sum_99 rfl (lv_at hl 3 rfl) ?_
      refine m_aald (n := 64) (f := (fun i => ad (i + 7))) hx hb hK (hS.w.get 0 (by decide)) (by omega) (by decide) dX1_sum_100 ?_
      refine lv_aload_n hx hb dX1_sum_101 rfl (lv_at hl 0 rfl) ?_
      refine va_get (D := G.1) (ci := 0) (v := .ref (ad 0)) (C := RX1) (T := TX1) (N := 9) hx hb hts hwsX1_sum hown hK hS.w.ob 0 rfl rfl 0 (by decide) (hts (.fieldLink RX1 11 "ExactNumbers" "sizes" "[[J") (by decide +kernel)) (fun _ h9 => h9) rfl dX1_sum_102 ?_
      refine lv_iload_n hx hb dX1_sum_105 rfl (lv_at hl 2 rfl) ?_
      refine m_aald (n := 64) (f := (fun i => ad (i + 7))) hx hb hK (hS.w.get 0 (by decide)) (by omega) (by decide) dX1_sum_106 ?_
      refine lv_aload_n hx hb dX1_sum_107 rfl (lv_at hl 0 rfl) ?_
      refine va_get (D := G.1) (ci := 0) (v := .ref (ad 4)) (C := RX1) (T := TX1) (N := 9) hx hb hts hwsX1_sum hown hK hS.w.ob 0 rfl rfl 6 (by decide) (hts (.fieldLink RX1 32 "ExactNumbers" "first" "[J") (by decide +kernel)) (fun _ h9 => h9) rfl dX1_sum_108 ?_
      refine mc_v0 (va_runS (As := [.ref (ad (y + 7)), .ref (ad (x + 7)), .ref (ad 4)]) (rest := []) ⟨hx, hb, hml, hown, hts⟩ (c_X0_subtract l G b0 H (hS.w.get (y + 7) (by omega)) (hS.w.get (x + 7) (by omega)) (hS.w.get 4 (by decide)) (by decide) (by decide) (by decide) (hI y (by omega)).1 (hI x (by omega)).1 (hS.w.ne (by omega) (by decide) (by omega)) (hS.w.ne (by omega) (by decide) (by omega)) (hS.w.b 4 (by decide))) (va_cwS 3 hts gX1_sum_X0_subtract rfl rfl rfl (by decide +kernel) ⟨Nat.le_of_ble_eq_true rfl, Nat.le_of_ble_eq_true rfl⟩) (mp_S hK) rfl rfl hl.1 rfl (lv_room (Nat.le_of_ble_eq_true rfl)) dX1_sum_111 ⟨Nat.le_of_ble_eq_true rfl, Nat.le_of_ble_eq_true rfl⟩) hLc (fun H1 locs hP hLc => ?_)
      obtain ⟨g, c1, hg, hv, rfl⟩ := hP
      have hv := sub_v hg hv (by omega)
      have hS := hS.p_f1 g
      generalize hput H (ad 4) (aJ G 17 g) = Hc at hS ⊢
      refine lv_aload_n hx hb dX1_sum_114 rfl (lv_at hl 0 rfl) ?_
      refine lv_iload_n hx hb dX1_sum_115 rfl (lv_at hl 1 rfl) ?_
      refine lv_aload_n hx hb dX1_sum_116 rfl (lv_at hl 0 rfl) ?_
      refine va_get (D := G.1) (ci := 0) (v := .ref (ad 4)) (C := RX1) (T := TX1) (N := 9) hx hb hts hwsX1_sum hown hK hS.w.ob 0 rfl rfl 6 (by decide) (hts (.fieldLink RX1 32 "ExactNumbers" "first" "[J") (by decide +kernel)) (fun _ h9 => h9) rfl dX1_sum_117 ?_
      refine lv_iload hx hb dX1_sum_120 (lv_at hl 4 rfl) ?_
      refine mc_i0 (va_runV (As := [.int (nI k), .ref (ad 4), .int (nI c0)]) (rest := []) ⟨hx, hb, hml, hown, hts⟩ (c_X1_store l G b0 Hc hS.rf hI k hk (hS.w.get 4 (by decide)) (by decide) (by decide) hg (hc0)) (cwV 3 hts gX1_sum_X1_store rfl rfl rfl (by decide +kernel) ⟨Nat.le_of_ble_eq_true rfl, Nat.le_of_ble_eq_true rfl⟩) (mp_V hK hS.w.ob rfl) rfl rfl hl.1 rfl (lv_room (Nat.le_of_ble_eq_true rfl)) dX1_sum_122 ⟨Nat.le_of_ble_eq_true rfl, Nat.le_of_ble_eq_true rfl⟩) hLc (fun r H1 locs hP hLc => ?_)
      exact m_iret hx hb hr hlocks hLc dX1_sum_125 ((KX.trans hS hP).val (sum_diff2 hbx hc0 c8 hv) (fun _ _ => rfl))
    · skip
      refine lv_if_lt (tgt := 95) hx hb dX1_sum_57 (by decide) (fun h => absurd h (by decide)) (fun _ => ?_)
      refine lv_aload_n hx hb dX1_sum_60 rfl (lv_at hl 0 rfl) ?_
      refine va_get (D := G.1) (ci := 0) (v := .ref (ad 0)) (C := RX1) (T := TX1) (N := 9) hx hb hts hwsX1_sum hown hK hS.w.ob 0 rfl rfl 0 (by decide) (hts (.fieldLink RX1 11 "ExactNumbers" "sizes" "[[J") (by decide +kernel)) (fun _ h9 => h9) rfl dX1_sum_61 ?_
      refine lv_iload_n hx hb dX1_sum_64 rfl (lv_at hl 2 rfl) ?_
      refine m_aald (n := 64) (f := (fun i => ad (i + 7))) hx hb hK (hS.w.get 0 (by decide)) (by omega) (by decide) dX1_sum_65 ?_
      refine lv_aload_n hx hb dX1_sum_66 rfl (lv_at hl 0 rfl) ?_
      refine va_get (D := G.1) (ci := 0) (v := .ref (ad 0)) (C := RX1) (T := TX1) (N := 9) hx hb hts hwsX1_sum hown hK hS.w.ob 0 rfl rfl 0 (by decide) (hts (.fieldLink RX1 11 "ExactNumbers" "sizes" "[[J") (by decide +kernel)) (fun _ h9 => h9) rfl dX1_sum_67 ?_
      refine lv_iload_n hx hb dX1_sum_70 rfl (lv_at hl 3 rfl) ?_
      refine m_aald (n := 64) (f := (fun i => ad (i + 7))) hx hb hK (hS.w.get 0 (by decide)) (by omega) (by decide) dX1_sum_71 ?_
      refine lv_aload_n hx hb dX1_sum_72 rfl (lv_at hl 0 rfl) ?_
      refine va_get (D := G.1) (ci := 0) (v := .ref (ad 4)) (C := RX1) (T := TX1) (N := 9) hx hb hts hwsX1_sum hown hK hS.w.ob 0 rfl rfl 6 (by decide) (hts (.fieldLink RX1 32 "ExactNumbers" "first" "[J") (by decide +kernel)) (fun _ h9 => h9) rfl dX1_sum_73 ?_
      refine mc_v0 (va_runS (As := [.ref (ad (x + 7)), .ref (ad (y + 7)), .ref (ad 4)]) (rest := []) ⟨hx, hb, hml, hown, hts⟩ (c_X0_subtract l G b0 H (hS.w.get (x + 7) (by omega)) (hS.w.get (y + 7) (by omega)) (hS.w.get 4 (by decide)) (by decide) (by decide) (by decide) (hI x (by omega)).1 (hI y (by omega)).1 (hS.w.ne (by omega) (by decide) (by omega)) (hS.w.ne (by omega) (by decide) (by omega)) (hS.w.b 4 (by decide))) (va_cwS 3 hts gX1_sum_X0_subtract rfl rfl rfl (by decide +kernel) ⟨Nat.le_of_ble_eq_true rfl, Nat.le_of_ble_eq_true rfl⟩) (mp_S hK) rfl rfl hl.1 rfl (lv_room (Nat.le_of_ble_eq_true rfl)) dX1_sum_76 ⟨Nat.le_of_ble_eq_true rfl, Nat.le_of_ble_eq_true rfl⟩) hLc (fun H1 locs hP hLc => ?_)
      obtain ⟨g, c1, hg, hv, rfl⟩ := hP
      have hv := sub_v hg hv (by omega)
      have hS := hS.p_f1 g
      generalize hput H (ad 4) (aJ G 17 g) = Hc at hS ⊢
      refine lv_aload_n hx hb dX1_sum_79 rfl (lv_at hl 0 rfl) ?_
      refine lv_iload_n hx hb dX1_sum_80 rfl (lv_at hl 1 rfl) ?_
      refine lv_aload_n hx hb dX1_sum_81 rfl (lv_at hl 0 rfl) ?_
      refine va_get (D := G.1) (ci := 0) (v := .ref (ad 4)) (C := RX1) (T := TX1) (N := 9) hx hb hts hwsX1_sum hown hK hS.w.ob 0 rfl rfl 6 (by decide) (hts (.fieldLink RX1 32 "ExactNumbers" "first" "[J") (by decide +kernel)) (fun _ h9 => h9) rfl dX1_sum_82 ?_
      refine lv_aload_n hx hb dX1_sum_85 rfl (lv_at hl 0 rfl) ?_
      refine va_get (D := G.1) (ci := 0) (v := .ref (ad 1)) (C := RX1) (T := TX1) (N := 9) hx hb hts hwsX1_sum hown hK hS.w.ob 0 rfl rfl 1 (by decide) (hts (.fieldLink RX1 14 "ExactNumbers" "below" "[Z") (by decide +kernel)) (fun _ h9 => h9) rfl dX1_sum_86 ?_
      refine lv_iload_n hx hb dX1_sum_89 rfl (lv_at hl 2 rfl) ?_
      refine m_zald (n := 64) (f := bl) hx hb hK (hS.w.get 1 (by decide)) (by omega) (by decide) dX1_sum_90 ?_
      refine mc_i0 (va_runV (As := [.int (nI k), .ref (ad 4), .int (nI (bl x))]) (rest := []) ⟨hx, hb, hml, hown, hts⟩ (c_X1_store l G b0 Hc hS.rf hI k hk (hS.w.get 4 (by decide)) (by decide) (by decide) hg (hbx)) (cwV 3 hts gX1_sum_X1_store rfl rfl rfl (by decide +kernel) ⟨Nat.le_of_ble_eq_true rfl, Nat.le_of_ble_eq_true rfl⟩) (mp_V hK hS.w.ob rfl) rfl rfl hl.1 rfl (lv_room (Nat.le_of_ble_eq_true rfl)) dX1_sum_91 ⟨Nat.le_of_ble_eq_true rfl, Nat.le_of_ble_eq_true rfl⟩) hLc (fun r H1 locs hP hLc => ?_)
      exact m_iret hx hb hr hlocks hLc dX1_sum_94 ((KX.trans hS hP).val (sum_diff1 hbx hc0 c8 hv) (fun _ _ => rfl))
    · skip
      refine lv_if_lt (tgt := 95) hx hb dX1_sum_57 (by decide) (fun h => absurd h (by decide)) (fun _ => ?_)
      refine lv_aload_n hx hb dX1_sum_60 rfl (lv_at hl 0 rfl) ?_
      refine va_get (D := G.1) (ci := 0) (v := .ref (ad 0)) (C := RX1) (T := TX1) (N := 9) hx hb hts hwsX1_sum hown hK hS.w.ob 0 rfl rfl 0 (by decide) (hts (.fieldLink RX1 11 "ExactNumbers" "sizes" "[[J") (by decide +kernel)) (fun _ h9 => h9) rfl dX1_sum_61 ?_
      refine lv_iload_n hx hb dX1_sum_64 rfl (lv_at hl 2 rfl) ?_
      refine m_aald (n := 64) (f := (fun i => ad (i + 7))) hx hb hK (hS.w.get 0 (by decide)) (by omega) (by decide) dX1_sum_65 ?_
      refine lv_aload_n hx hb dX1_sum_66 rfl (lv_at hl 0 rfl) ?_
      refine va_get (D := G.1) (ci := 0) (v := .ref (ad 0)) (C := RX1) (T := TX1) (N := 9) hx hb hts hwsX1_sum hown hK hS.w.ob 0 rfl rfl 0 (by decide) (hts (.fieldLink RX1 11 "ExactNumbers" "sizes" "[[J") (by decide +kernel)) (fun _ h9 => h9) rfl dX1_sum_67 ?_
      refine lv_iload_n hx hb dX1_sum_70 rfl (lv_at hl 3 rfl) ?_
      refine m_aald (n := 64) (f := (fun i => ad (i + 7))) hx hb hK (hS.w.get 0 (by decide)) (by omega) (by decide) dX1_sum_71 ?_
      refine lv_aload_n hx hb dX1_sum_72 rfl (lv_at hl 0 rfl) ?_
      refine va_get (D := G.1) (ci := 0) (v := .ref (ad 4)) (C := RX1) (T := TX1) (N := 9) hx hb hts hwsX1_sum hown hK hS.w.ob 0 rfl rfl 6 (by decide) (hts (.fieldLink RX1 32 "ExactNumbers" "first" "[J") (by decide +kernel)) (fun _ h9 => h9) rfl dX1_sum_73 ?_
      refine mc_v0 (va_runS (As := [.ref (ad (x + 7)), .ref (ad (y + 7)), .ref (ad 4)]) (rest := []) ⟨hx, hb, hml, hown, hts⟩ (c_X0_subtract l G b0 H (hS.w.get (x + 7) (by omega)) (hS.w.get (y + 7) (by omega)) (hS.w.get 4 (by decide)) (by decide) (by decide) (by decide) (hI x (by omega)).1 (hI y (by omega)).1 (hS.w.ne (by omega) (by decide) (by omega)) (hS.w.ne (by omega) (by decide) (by omega)) (hS.w.b 4 (by decide))) (va_cwS 3 hts gX1_sum_X0_subtract rfl rfl rfl (by decide +kernel) ⟨Nat.le_of_ble_eq_true rfl, Nat.le_of_ble_eq_true rfl⟩) (mp_S hK) rfl rfl hl.1 rfl (lv_room (Nat.le_of_ble_eq_true rfl)) dX1_sum_76 ⟨Nat.le_of_ble_eq_true rfl, Nat.le_of_ble_eq_true rfl⟩) hLc (fun H1 locs hP hLc => ?_)
      obtain ⟨g, c1, hg, hv, rfl⟩ := hP
      have hv := sub_v hg hv (by omega)
      have hS := hS.p_f1 g
      generalize hput H (ad 4) (aJ G 17 g) = Hc at hS ⊢
      refine lv_aload_n hx hb dX1_sum_79 rfl (lv_at hl 0 rfl) ?_
      refine lv_iload_n hx hb dX1_sum_80 rfl (lv_at hl 1 rfl) ?_
      refine lv_aload_n hx hb dX1_sum_81 rfl (lv_at hl 0 rfl) ?_
      refine va_get (D := G.1) (ci := 0) (v := .ref (ad 4)) (C := RX1) (T := TX1) (N := 9) hx hb hts hwsX1_sum hown hK hS.w.ob 0 rfl rfl 6 (by decide) (hts (.fieldLink RX1 32 "ExactNumbers" "first" "[J") (by decide +kernel)) (fun _ h9 => h9) rfl dX1_sum_82 ?_
      refine lv_aload_n hx hb dX1_sum_85 rfl (lv_at hl 0 rfl) ?_
      refine va_get (D := G.1) (ci := 0) (v := .ref (ad 1)) (C := RX1) (T := TX1) (N := 9) hx hb hts hwsX1_sum hown hK hS.w.ob 0 rfl rfl 1 (by decide) (hts (.fieldLink RX1 14 "ExactNumbers" "below" "[Z") (by decide +kernel)) (fun _ h9 => h9) rfl dX1_sum_86 ?_
      refine lv_iload_n hx hb dX1_sum_89 rfl (lv_at hl 2 rfl) ?_
      refine m_zald (n := 64) (f := bl) hx hb hK (hS.w.get 1 (by decide)) (by omega) (by decide) dX1_sum_90 ?_
      refine mc_i0 (va_runV (As := [.int (nI k), .ref (ad 4), .int (nI (bl x))]) (rest := []) ⟨hx, hb, hml, hown, hts⟩ (c_X1_store l G b0 Hc hS.rf hI k hk (hS.w.get 4 (by decide)) (by decide) (by decide) hg (hbx)) (cwV 3 hts gX1_sum_X1_store rfl rfl rfl (by decide +kernel) ⟨Nat.le_of_ble_eq_true rfl, Nat.le_of_ble_eq_true rfl⟩) (mp_V hK hS.w.ob rfl) rfl rfl hl.1 rfl (lv_room (Nat.le_of_ble_eq_true rfl)) dX1_sum_91 ⟨Nat.le_of_ble_eq_true rfl, Nat.le_of_ble_eq_true rfl⟩) hLc (fun r H1 locs hP hLc => ?_)
      exact m_iret hx hb hr hlocks hLc dX1_sum_94 ((KX.trans hS hP).val (sum_diff1 hbx hc0 c8 hv) (fun _ _ => rfl))
  · skip
    refine lv_aload_n hx hb dX1_sum_11 rfl (lv_at hl 0 rfl) ?_
    refine va_get (D := G.1) (ci := 0) (v := .ref (ad 0)) (C := RX1) (T := TX1) (N := 9) hx hb hts hwsX1_sum hown hK hS.w.ob 0 rfl rfl 0 (by decide) (hts (.fieldLink RX1 11 "ExactNumbers" "sizes" "[[J") (by decide +kernel)) (fun _ h9 => h9) rfl dX1_sum_12 ?_
    refine lv_iload_n hx hb dX1_sum_15 rfl (lv_at hl 2 rfl) ?_
    refine m_aald (n := 64) (f := (fun i => ad (i + 7))) hx hb hK (hS.w.get 0 (by decide)) (by omega) (by decide) dX1_sum_16 ?_
    refine lv_aload_n hx hb dX1_sum_17 rfl (lv_at hl 0 rfl) ?_
    refine va_get (D := G.1) (ci := 0) (v := .ref (ad 0)) (C := RX1) (T := TX1) (N := 9) hx hb hts hwsX1_sum hown hK hS.w.ob 0 rfl rfl 0 (by decide) (hts (.fieldLink RX1 11 "ExactNumbers" "sizes" "[[J") (by decide +kernel)) (fun _ h9 => h9) rfl dX1_sum_18 ?_
    refine lv_iload_n hx hb dX1_sum_21 rfl (lv_at hl 3 rfl) ?_
    refine m_aald (n := 64) (f := (fun i => ad (i + 7))) hx hb hK (hS.w.get 0 (by decide)) (by omega) (by decide) dX1_sum_22 ?_
    refine lv_aload_n hx hb dX1_sum_23 rfl (lv_at hl 0 rfl) ?_
    refine va_get (D := G.1) (ci := 0) (v := .ref (ad 4)) (C := RX1) (T := TX1) (N := 9) hx hb hts hwsX1_sum hown hK hS.w.ob 0 rfl rfl 6 (by decide) (hts (.fieldLink RX1 32 "ExactNumbers" "first" "[J") (by decide +kernel)) (fun _ h9 => h9) rfl dX1_sum_24 ?_
    refine mc_v0 (va_runS (As := [.ref (ad (x + 7)), .ref (ad (y + 7)), .ref (ad 4)]) (rest := []) ⟨hx, hb, hml, hown, hts⟩ (c_X0_add l G b0 H (hS.w.get (x + 7) (by omega)) (hS.w.get (y + 7) (by omega)) (hS.w.get 4 (by decide)) (by decide) (by decide) (by decide) (hI x (by omega)).1 (hI y (by omega)).1 (hS.w.ne (by omega) (by decide) (by omega)) (hS.w.ne (by omega) (by decide) (by omega)) (hS.w.b 4 (by decide))) (va_cwS 3 hts gX1_sum_X0_add rfl rfl rfl (by decide +kernel) ⟨Nat.le_of_ble_eq_true rfl, Nat.le_of_ble_eq_true rfl⟩) (mp_S hK) rfl rfl hl.1 rfl (lv_room (Nat.le_of_ble_eq_true rfl)) dX1_sum_27 ⟨Nat.le_of_ble_eq_true rfl, Nat.le_of_ble_eq_true rfl⟩) hLc (fun H1 locs hP hLc => ?_)
    obtain ⟨g, c1, hg, hv, rfl⟩ := hP
    have hv := add_v (hI x (by omega)).1 (hI y (by omega)).1 hv
    have hS := hS.p_f1 g
    generalize hput H (ad 4) (aJ G 17 g) = Hc at hS ⊢
    refine lv_aload_n hx hb dX1_sum_30 rfl (lv_at hl 0 rfl) ?_
    refine lv_iload_n hx hb dX1_sum_31 rfl (lv_at hl 1 rfl) ?_
    refine lv_aload_n hx hb dX1_sum_32 rfl (lv_at hl 0 rfl) ?_
    refine va_get (D := G.1) (ci := 0) (v := .ref (ad 4)) (C := RX1) (T := TX1) (N := 9) hx hb hts hwsX1_sum hown hK hS.w.ob 0 rfl rfl 6 (by decide) (hts (.fieldLink RX1 32 "ExactNumbers" "first" "[J") (by decide +kernel)) (fun _ h9 => h9) rfl dX1_sum_33 ?_
    refine lv_iload hx hb dX1_sum_36 (lv_at hl 4 rfl) ?_
    refine mc_i0 (va_runV (As := [.int (nI k), .ref (ad 4), .int (nI c0)]) (rest := []) ⟨hx, hb, hml, hown, hts⟩ (c_X1_store l G b0 Hc hS.rf hI k hk (hS.w.get 4 (by decide)) (by decide) (by decide) hg (hc0)) (cwV 3 hts gX1_sum_X1_store rfl rfl rfl (by decide +kernel) ⟨Nat.le_of_ble_eq_true rfl, Nat.le_of_ble_eq_true rfl⟩) (mp_V hK hS.w.ob rfl) rfl rfl hl.1 rfl (lv_room (Nat.le_of_ble_eq_true rfl)) dX1_sum_38 ⟨Nat.le_of_ble_eq_true rfl, Nat.le_of_ble_eq_true rfl⟩) hLc (fun r H1 locs hP hLc => ?_)
    exact m_iret hx hb hr hlocks hLc dX1_sum_41 ((KX.trans hS hP).val (by rw [hv, sum_same rfl]; unfold valX; rw [c8]) (fun _ _ => rfl))

set_option maxRecDepth 100000 in
set_option maxHeartbeats 4000000 in
theorem c_X1_set (l : Launch) (G : gG) (b0 : Nat) (H : Heap) {o : Nat} {ad : Nat → Nat} {sz : Nat → Nat → Nat} {bl : Nat → Nat} {dv : Nat → Nat} {dc : Nat} {wr : Nat → Nat} {wf : Nat} {f1 : Nat → Nat} {f2 : Nat → Nat} {fw : Nat → Nat} (hS : SX G b0 o ad H sz bl dv dc wr wf f1 f2 fw H) (hI : IV sz bl) (x : Int32) {u g : Nat} (hu : u < 18446744073709551616) (hg1 : g ≤ 1) : Met l yX1_set wsX1_set ({ frames := 2, cells := 0, slots := 0, locals := 64 } : Room) (PcH G H [.ref o, .int x, .long (lN u), .int (nI g)]) (QcI (fun r H1 => (∃ k, k ≤ 63 ∧ x = nI k ∧ KX G b0 o ad H (valX sz bl) dv dc wr wf k (setv u g) r H1) ∨ (noslot x ∧ r = nI 3 ∧ RX G b0 o ad H (valX sz bl) dv dc wr wf H1))) 0 0 (fre b0) := by
  refine m_enter (cc := cX1_set) (maxL := 8) (ret := (some .int)) (own := RX1) (by decide) rfl rfl (Nat.le_of_ble_eq_true rfl) ?_
  intro p e s m below meth c ls hF hnm hH hl
  have hl : lv_has ls 8 [(0, .ref o), (1, .int x), (2, .long (lN u)), (4, .int (nI g))] := hl
  have hLc : lcs b0 [] := lcs_nil b0
  obtain ⟨hx, hb, hr, hml, hown, hts, hlocks, hK⟩ := id hF
  refine lv_iload_n hx hb dX1_set_0 rfl (lv_at hl 1 rfl) ?_
  refine mc_i0 (va_runS (As := [.int x]) (rest := []) ⟨hx, hb, hml, hown, hts⟩ (c_X1_isSlot l G b0 H (x)) (va_cwS 1 hts gX1_set_X1_isSlot rfl rfl rfl (by decide +kernel) ⟨Nat.le_of_ble_eq_true rfl, Nat.le_of_ble_eq_true rfl⟩) (mp_S hK) rfl rfl hl.1 rfl (lv_room (Nat.le_of_ble_eq_true rfl)) dX1_set_1 ⟨Nat.le_of_ble_eq_true rfl, Nat.le_of_ble_eq_true rfl⟩) hLc (fun r H1 locs hP hLc => ?_)
  obtain ⟨hP, rfl⟩ := hP
  rcases hP with ⟨k, _h0, hk, rfl, rfl⟩ | ⟨hno, rfl⟩
  · skip
    refine m_if_ne (tgt := 9) hx hb (by decide) dX1_set_4 (by decide) (fun _ => ?_) (fun h => absurd h (by decide))
    refine lv_iload hx hb dX1_set_9 (lv_at hl 3 rfl) ?_
    refine m_if_eq (tgt := 24) hx hb (by omega) dX1_set_11 (by decide) (fun c11 => ?_) (fun c11 => ?_)
    · skip
      refine lv_iconst (v := nI 0) hx hb dX1_set_24 (by decide) ?_
      refine lv_istore (lv' := [(5, .int (nI 0)), (0, .ref o), (1, .int (nI k)), (2, .long (lN u)), (4, .int (nI g))]) hx hb dX1_set_25 hl (by decide) rfl (fun ls hl => ?_)
      refine lv_iload hx hb dX1_set_27 (lv_at hl 0 rfl) ?_
      refine m_if_eq (tgt := 37) hx hb (by decide) dX1_set_29 (by decide) (fun _ => ?_) (fun h => absurd h (by decide))
      refine lv_lload_n hx hb dX1_set_37 rfl (lv_at hl 3 rfl) ?_
      refine lv_lstore (lv' := [(6, .long (lN u)), (5, .int (nI 0)), (0, .ref o), (1, .int (nI k)), (2, .long (lN u)), (4, .int (nI g))]) hx hb dX1_set_38 hl (by decide) rfl (fun ls hl => ?_)
      refine lv_aload_n hx hb dX1_set_40 rfl (lv_at hl 2 rfl) ?_
      refine va_get (D := G.1) (ci := 0) (v := .ref (ad 4)) (C := RX1) (T := TX1) (N := 9) hx hb hts hwsX1_set hown hK hS.w.ob 0 rfl rfl 6 (by decide) (hts (.fieldLink RX1 32 "ExactNumbers" "first" "[J") (by decide +kernel)) (fun _ h9 => h9) rfl dX1_set_41 ?_
      refine lv_lconst (v := lN 0) hx hb dX1_set_44 (by decide) ?_
      refine mc_v0 (va_runS (As := [.ref (ad 4), .long (lN 0)]) (rest := []) ⟨hx, hb, hml, hown, hts⟩ (c_J7_fill_d0a16 l G b0 H (hS.w.get 4 (by decide)) (by decide) (hS.w.b 4 (by decide))) (va_cwS 2 hts gX1_set_J7_fill_d0a16 rfl rfl rfl (by decide +kernel) ⟨Nat.le_of_ble_eq_true rfl, Nat.le_of_ble_eq_true rfl⟩) (mp_S hK) rfl rfl hl.1 rfl (lv_room (Nat.le_of_ble_eq_true rfl)) dX1_set_45 ⟨Nat.le_of_ble_eq_true rfl, Nat.le_of_ble_eq_true rfl⟩) hLc (fun H1 locs hP hLc => ?_)
      subst hP
      have hS := hS.p_f1 (fun _ => 0)
      generalize hput H (ad 4) (aJ G 17 (fun _ => 0)) = Hc at hS ⊢
      refine lv_aload_n hx hb dX1_set_48 rfl (lv_at hl 2 rfl) ?_
      refine va_get (D := G.1) (ci := 0) (v := .ref (ad 4)) (C := RX1) (T := TX1) (N := 9) hx hb hts hwsX1_set hown hK hS.w.ob 0 rfl rfl 6 (by decide) (hts (.fieldLink RX1 32 "ExactNumbers" "first" "[J") (by decide +kernel)) (fun _ h9 => h9) rfl dX1_set_49 ?_
      refine lv_iconst (v := nI 0) hx hb dX1_set_52 (by decide) ?_
      refine lv_lload hx hb dX1_set_53 (lv_at hl 0 rfl) ?_
      refine lv_ldc2 (v := lN 4294967295) hx hb hown (hts (.constantLong RX1 52 (lN 4294967295)) (by decide +kernel)) dX1_set_55 ?_
      refine m_mask hx hb dX1_set_58 ?_
      refine m_last (n := 17) (f := fun _ => 0) (b0 := b0) hx hb hK (hS.w.get 4 (by decide)) (by decide) (by decide) (hS.w.b 4 (by decide)) hLc dX1_set_59 (fun locs hLc => ?_)
      have hS := hS.p_f1 (fup (fun _ => 0) 0 (u % 4294967296))
      generalize hput Hc (ad 4) (aJ G 17 (fup (fun _ => 0) 0 (u % 4294967296))) = Hc at hS ⊢
      refine lv_aload_n hx hb dX1_set_60 rfl (lv_at hl 2 rfl) ?_
      refine va_get (D := G.1) (ci := 0) (v := .ref (ad 4)) (C := RX1) (T := TX1) (N := 9) hx hb hts hwsX1_set hown hK hS.w.ob 0 rfl rfl 6 (by decide) (hts (.fieldLink RX1 32 "ExactNumbers" "first" "[J") (by decide +kernel)) (fun _ h9 => h9) rfl dX1_set_61 ?_
      refine lv_iconst (v := nI 1) hx hb dX1_set_64 (by decide) ?_
      refine lv_lload hx hb dX1_set_65 (lv_at hl 0 rfl) ?_
      refine lv_bipush (v := nI 32) hx hb dX1_set_67 (by decide) ?_
      refine m_lushr32 hx hb (by omega) dX1_set_69 ?_
      refine m_last (n := 17) (f := fup (fun _ => 0) 0 (u % 4294967296)) (b0 := b0) hx hb hK (hS.w.get 4 (by decide)) (by decide) (by decide) (hS.w.b 4 (by decide)) hLc dX1_set_70 (fun locs hLc => ?_)
      have hS := hS.p_f1 (fup (fup (fun _ => 0) 0 (u % 4294967296)) 1 (u / 4294967296))
      generalize hput Hc (ad 4) (aJ G 17 (fup (fup (fun _ => 0) 0 (u % 4294967296)) 1 (u / 4294967296))) = Hc at hS ⊢
      refine lv_aload_n hx hb dX1_set_71 rfl (lv_at hl 2 rfl) ?_
      refine lv_iload_n hx hb dX1_set_72 rfl (lv_at hl 3 rfl) ?_
      refine lv_aload_n hx hb dX1_set_73 rfl (lv_at hl 2 rfl) ?_
      refine va_get (D := G.1) (ci := 0) (v := .ref (ad 4)) (C := RX1) (T := TX1) (N := 9) hx hb hts hwsX1_set hown hK hS.w.ob 0 rfl rfl 6 (by decide) (hts (.fieldLink RX1 32 "ExactNumbers" "first" "[J") (by decide +kernel)) (fun _ h9 => h9) rfl dX1_set_74 ?_
      refine lv_iload hx hb dX1_set_77 (lv_at hl 1 rfl) ?_
      refine mc_i0 (va_runV (As := [.int (nI k), .ref (ad 4), .int (nI 0)]) (rest := []) ⟨hx, hb, hml, hown, hts⟩ (c_X1_store l G b0 Hc hS.rf hI k (by omega) (hS.w.get 4 (by decide)) (by decide) (by decide) (two_lim u 17 (by omega)) (by decide)) (cwV 3 hts gX1_set_X1_store rfl rfl rfl (by decide +kernel) ⟨Nat.le_of_ble_eq_true rfl, Nat.le_of_ble_eq_true rfl⟩) (mp_V hK hS.w.ob rfl) rfl rfl hl.1 rfl (lv_room (Nat.le_of_ble_eq_true rfl)) dX1_set_79 ⟨Nat.le_of_ble_eq_true rfl, Nat.le_of_ble_eq_true rfl⟩) hLc (fun r H1 locs hP hLc => ?_)
      exact m_iret hx hb hr hlocks hLc dX1_set_82 (Or.inl ⟨k, hk, rfl, (KX.trans hS hP).val (by rw [two_limbs u (by omega) 15]; exact setv_pos (by omega)) (fun _ _ => rfl)⟩)
    · skip
      have hge : g = 1 := by omega
      refine lv_lload_n hx hb dX1_set_14 rfl (lv_at hl 2 rfl) ?_
      refine lv_lconst (v := lN 0) hx hb dX1_set_15 (by decide) ?_
      refine m_lr_ge (tgt := 24) hx hb dX1_set_16 dX1_set_17 (by decide) (fun c16 => ?_) (fun c16 => ?_)
      · skip
        have c16 := (ge0_lN hu).mp c16
        refine lv_iconst (v := nI 0) hx hb dX1_set_24 (by decide) ?_
        refine lv_istore (lv' := [(5, .int (nI 0)), (0, .ref o), (1, .int (nI k)), (2, .long (lN u)), (4, .int (nI g))]) hx hb dX1_set_25 hl (by decide) rfl (fun ls hl => ?_)
        refine lv_iload hx hb dX1_set_27 (lv_at hl 0 rfl) ?_
        refine m_if_eq (tgt := 37) hx hb (by decide) dX1_set_29 (by decide) (fun _ => ?_) (fun h => absurd h (by decide))
        refine lv_lload_n hx hb dX1_set_37 rfl (lv_at hl 3 rfl) ?_
        refine lv_lstore (lv' := [(6, .long (lN u)), (5, .int (nI 0)), (0, .ref o), (1, .int (nI k)), (2, .long (lN u)), (4, .int (nI g))]) hx hb dX1_set_38 hl (by decide) rfl (fun ls hl => ?_)
        refine lv_aload_n hx hb dX1_set_40 rfl (lv_at hl 2 rfl) ?_
        refine va_get (D := G.1) (ci := 0) (v := .ref (ad 4)) (C := RX1) (T := TX1) (N := 9) hx hb hts hwsX1_set hown hK hS.w.ob 0 rfl rfl 6 (by decide) (hts (.fieldLink RX1 32 "ExactNumbers" "first" "[J") (by decide +kernel)) (fun _ h9 => h9) rfl dX1_set_41 ?_
        refine lv_lconst (v := lN 0) hx hb dX1_set_44 (by decide) ?_
        refine mc_v0 (va_runS (As := [.ref (ad 4), .long (lN 0)]) (rest := []) ⟨hx, hb, hml, hown, hts⟩ (c_J7_fill_d0a16 l G b0 H (hS.w.get 4 (by decide)) (by decide) (hS.w.b 4 (by decide))) (va_cwS 2 hts gX1_set_J7_fill_d0a16 rfl rfl rfl (by decide +kernel) ⟨Nat.le_of_ble_eq_true rfl, Nat.le_of_ble_eq_true rfl⟩) (mp_S hK) rfl rfl hl.1 rfl (lv_room (Nat.le_of_ble_eq_true rfl)) dX1_set_45 ⟨Nat.le_of_ble_eq_true rfl, Nat.le_of_ble_eq_true rfl⟩) hLc (fun H1 locs hP hLc => ?_)
        subst hP
        have hS := hS.p_f1 (fun _ => 0)
        generalize hput H (ad 4) (aJ G 17 (fun _ => 0)) = Hc at hS ⊢
        refine lv_aload_n hx hb dX1_set_48 rfl (lv_at hl 2 rfl) ?_
        refine va_get (D := G.1) (ci := 0) (v := .ref (ad 4)) (C := RX1) (T := TX1) (N := 9) hx hb hts hwsX1_set hown hK hS.w.ob 0 rfl rfl 6 (by decide) (hts (.fieldLink RX1 32 "ExactNumbers" "first" "[J") (by decide +kernel)) (fun _ h9 => h9) rfl dX1_set_49 ?_
        refine lv_iconst (v := nI 0) hx hb dX1_set_52 (by decide) ?_
        refine lv_lload hx hb dX1_set_53 (lv_at hl 0 rfl) ?_
        refine lv_ldc2 (v := lN 4294967295) hx hb hown (hts (.constantLong RX1 52 (lN 4294967295)) (by decide +kernel)) dX1_set_55 ?_
        refine m_mask hx hb dX1_set_58 ?_
        refine m_last (n := 17) (f := fun _ => 0) (b0 := b0) hx hb hK (hS.w.get 4 (by decide)) (by decide) (by decide) (hS.w.b 4 (by decide)) hLc dX1_set_59 (fun locs hLc => ?_)
        have hS := hS.p_f1 (fup (fun _ => 0) 0 (u % 4294967296))
        generalize hput Hc (ad 4) (aJ G 17 (fup (fun _ => 0) 0 (u % 4294967296))) = Hc at hS ⊢
        refine lv_aload_n hx hb dX1_set_60 rfl (lv_at hl 2 rfl) ?_
        refine va_get (D := G.1) (ci := 0) (v := .ref (ad 4)) (C := RX1) (T := TX1) (N := 9) hx hb hts hwsX1_set hown hK hS.w.ob 0 rfl rfl 6 (by decide) (hts (.fieldLink RX1 32 "ExactNumbers" "first" "[J") (by decide +kernel)) (fun _ h9 => h9) rfl dX1_set_61 ?_
        refine lv_iconst (v := nI 1) hx hb dX1_set_64 (by decide) ?_
        refine lv_lload hx hb dX1_set_65 (lv_at hl 0 rfl) ?_
        refine lv_bipush (v := nI 32) hx hb dX1_set_67 (by decide) ?_
        refine m_lushr32 hx hb (by omega) dX1_set_69 ?_
        refine m_last (n := 17) (f := fup (fun _ => 0) 0 (u % 4294967296)) (b0 := b0) hx hb hK (hS.w.get 4 (by decide)) (by decide) (by decide) (hS.w.b 4 (by decide)) hLc dX1_set_70 (fun locs hLc => ?_)
        have hS := hS.p_f1 (fup (fup (fun _ => 0) 0 (u % 4294967296)) 1 (u / 4294967296))
        generalize hput Hc (ad 4) (aJ G 17 (fup (fup (fun _ => 0) 0 (u % 4294967296)) 1 (u / 4294967296))) = Hc at hS ⊢
        refine lv_aload_n hx hb dX1_set_71 rfl (lv_at hl 2 rfl) ?_
        refine lv_iload_n hx hb dX1_set_72 rfl (lv_at hl 3 rfl) ?_
        refine lv_aload_n hx hb dX1_set_73 rfl (lv_at hl 2 rfl) ?_
        refine va_get (D := G.1) (ci := 0) (v := .ref (ad 4)) (C := RX1) (T := TX1) (N := 9) hx hb hts hwsX1_set hown hK hS.w.ob 0 rfl rfl 6 (by decide) (hts (.fieldLink RX1 32 "ExactNumbers" "first" "[J") (by decide +kernel)) (fun _ h9 => h9) rfl dX1_set_74 ?_
        refine lv_iload hx hb dX1_set_77 (lv_at hl 1 rfl) ?_
        refine mc_i0 (va_runV (As := [.int (nI k), .ref (ad 4), .int (nI 0)]) (rest := []) ⟨hx, hb, hml, hown, hts⟩ (c_X1_store l G b0 Hc hS.rf hI k (by omega) (hS.w.get 4 (by decide)) (by decide) (by decide) (two_lim u 17 (by omega)) (by decide)) (cwV 3 hts gX1_set_X1_store rfl rfl rfl (by decide +kernel) ⟨Nat.le_of_ble_eq_true rfl, Nat.le_of_ble_eq_true rfl⟩) (mp_V hK hS.w.ob rfl) rfl rfl hl.1 rfl (lv_room (Nat.le_of_ble_eq_true rfl)) dX1_set_79 ⟨Nat.le_of_ble_eq_true rfl, Nat.le_of_ble_eq_true rfl⟩) hLc (fun r H1 locs hP hLc => ?_)
        exact m_iret hx hb hr hlocks hLc dX1_set_82 (Or.inl ⟨k, hk, rfl, (KX.trans hS hP).val (by rw [two_limbs u (by omega) 15]; exact setv_pos (by omega)) (fun _ _ => rfl)⟩)
      · skip
        have c16 : ¬ (u < 9223372036854775808) := fun z => c16 ((ge0_lN hu).mpr z)
        refine lv_iconst (v := nI 1) hx hb dX1_set_20 (by decide) ?_
        refine lv_goto (tgt := 25) hx hb dX1_set_21 (by decide) ?_
        refine lv_istore (lv' := [(5, .int (nI 1)), (0, .ref o), (1, .int (nI k)), (2, .long (lN u)), (4, .int (nI g))]) hx hb dX1_set_25 hl (by decide) rfl (fun ls hl => ?_)
        refine lv_iload hx hb dX1_set_27 (lv_at hl 0 rfl) ?_
        refine m_if_eq (tgt := 37) hx hb (by decide) dX1_set_29 (by decide) (fun h => absurd h (by decide)) (fun _ => ?_)
        refine lv_lload_n hx hb dX1_set_32 rfl (lv_at hl 3 rfl) ?_
        refine lv_lneg hx hb dX1_set_33 ?_
        rw [neg_lN (by omega)]
        refine lv_goto (tgt := 38) hx hb dX1_set_34 (by decide) ?_
        refine lv_lstore (lv' := [(6, .long (lN (18446744073709551616 - u))), (5, .int (nI 1)), (0, .ref o), (1, .int (nI k)), (2, .long (lN u)), (4, .int (nI g))]) hx hb dX1_set_38 hl (by decide) rfl (fun ls hl => ?_)
        refine lv_aload_n hx hb dX1_set_40 rfl (lv_at hl 2 rfl) ?_
        refine va_get (D := G.1) (ci := 0) (v := .ref (ad 4)) (C := RX1) (T := TX1) (N := 9) hx hb hts hwsX1_set hown hK hS.w.ob 0 rfl rfl 6 (by decide) (hts (.fieldLink RX1 32 "ExactNumbers" "first" "[J") (by decide +kernel)) (fun _ h9 => h9) rfl dX1_set_41 ?_
        refine lv_lconst (v := lN 0) hx hb dX1_set_44 (by decide) ?_
        refine mc_v0 (va_runS (As := [.ref (ad 4), .long (lN 0)]) (rest := []) ⟨hx, hb, hml, hown, hts⟩ (c_J7_fill_d0a16 l G b0 H (hS.w.get 4 (by decide)) (by decide) (hS.w.b 4 (by decide))) (va_cwS 2 hts gX1_set_J7_fill_d0a16 rfl rfl rfl (by decide +kernel) ⟨Nat.le_of_ble_eq_true rfl, Nat.le_of_ble_eq_true rfl⟩) (mp_S hK) rfl rfl hl.1 rfl (lv_room (Nat.le_of_ble_eq_true rfl)) dX1_set_45 ⟨Nat.le_of_ble_eq_true rfl, Nat.le_of_ble_eq_true rfl⟩) hLc (fun H1 locs hP hLc => ?_)
        subst hP
        have hS := hS.p_f1 (fun _ => 0)
        generalize hput H (ad 4) (aJ G 17 (fun _ => 0)) = Hc at hS ⊢
        refine lv_aload_n hx hb dX1_set_48 rfl (lv_at hl 2 rfl) ?_
        refine va_get (D := G.1) (ci := 0) (v := .ref (ad 4)) (C := RX1) (T := TX1) (N := 9) hx hb hts hwsX1_set hown hK hS.w.ob 0 rfl rfl 6 (by decide) (hts (.fieldLink RX1 32 "ExactNumbers" "first" "[J") (by decide +kernel)) (fun _ h9 => h9) rfl dX1_set_49 ?_
        refine lv_iconst (v := nI 0) hx hb dX1_set_52 (by decide) ?_
        refine lv_lload hx hb dX1_set_53 (lv_at hl 0 rfl) ?_
        refine lv_ldc2 (v := lN 4294967295) hx hb hown (hts (.constantLong RX1 52 (lN 4294967295)) (by decide +kernel)) dX1_set_55 ?_
        refine m_mask hx hb dX1_set_58 ?_
        refine m_last (n := 17) (f := fun _ => 0) (b0 := b0) hx hb hK (hS.w.get 4 (by decide)) (by decide) (by decide) (hS.w.b 4 (by decide)) hLc dX1_set_59 (fun locs hLc => ?_)
        have hS := hS.p_f1 (fup (fun _ => 0) 0 ((18446744073709551616 - u) % 4294967296))
        generalize hput Hc (ad 4) (aJ G 17 (fup (fun _ => 0) 0 ((18446744073709551616 - u) % 4294967296))) = Hc at hS ⊢
        refine lv_aload_n hx hb dX1_set_60 rfl (lv_at hl 2 rfl) ?_
        refine va_get (D := G.1) (ci := 0) (v := .ref (ad 4)) (C := RX1) (T := TX1) (N := 9) hx hb hts hwsX1_set hown hK hS.w.ob 0 rfl rfl 6 (by decide) (hts (.fieldLink RX1 32 "ExactNumbers" "first" "[J") (by decide +kernel)) (fun _ h9 => h9) rfl dX1_set_61 ?_
        refine lv_iconst (v := nI 1) hx hb dX1_set_64 (by decide) ?_
        refine lv_lload hx hb dX1_set_65 (lv_at hl 0 rfl) ?_
        refine lv_bipush (v := nI 32) hx hb dX1_set_67 (by decide) ?_
        refine m_lushr32 hx hb (by omega) dX1_set_69 ?_
        refine m_last (n := 17) (f := fup (fun _ => 0) 0 ((18446744073709551616 - u) % 4294967296)) (b0 := b0) hx hb hK (hS.w.get 4 (by decide)) (by decide) (by decide) (hS.w.b 4 (by decide)) hLc dX1_set_70 (fun locs hLc => ?_)
        have hS := hS.p_f1 (fup (fup (fun _ => 0) 0 ((18446744073709551616 - u) % 4294967296)) 1 ((18446744073709551616 - u) / 4294967296))
        generalize hput Hc (ad 4) (aJ G 17 (fup (fup (fun _ => 0) 0 ((18446744073709551616 - u) % 4294967296)) 1 ((18446744073709551616 - u) / 4294967296))) = Hc at hS ⊢
        refine lv_aload_n hx hb dX1_set_71 rfl (lv_at hl 2 rfl) ?_
        refine lv_iload_n hx hb dX1_set_72 rfl (lv_at hl 3 rfl) ?_
        refine lv_aload_n hx hb dX1_set_73 rfl (lv_at hl 2 rfl) ?_
        refine va_get (D := G.1) (ci := 0) (v := .ref (ad 4)) (C := RX1) (T := TX1) (N := 9) hx hb hts hwsX1_set hown hK hS.w.ob 0 rfl rfl 6 (by decide) (hts (.fieldLink RX1 32 "ExactNumbers" "first" "[J") (by decide +kernel)) (fun _ h9 => h9) rfl dX1_set_74 ?_
        refine lv_iload hx hb dX1_set_77 (lv_at hl 1 rfl) ?_
        refine mc_i0 (va_runV (As := [.int (nI k), .ref (ad 4), .int (nI 1)]) (rest := []) ⟨hx, hb, hml, hown, hts⟩ (c_X1_store l G b0 Hc hS.rf hI k (by omega) (hS.w.get 4 (by decide)) (by decide) (by decide) (two_lim (18446744073709551616 - u) 17 (by omega)) (by decide)) (cwV 3 hts gX1_set_X1_store rfl rfl rfl (by decide +kernel) ⟨Nat.le_of_ble_eq_true rfl, Nat.le_of_ble_eq_true rfl⟩) (mp_V hK hS.w.ob rfl) rfl rfl hl.1 rfl (lv_room (Nat.le_of_ble_eq_true rfl)) dX1_set_79 ⟨Nat.le_of_ble_eq_true rfl, Nat.le_of_ble_eq_true rfl⟩) hLc (fun r H1 locs hP hLc => ?_)
        exact m_iret hx hb hr hlocks hLc dX1_set_82 (Or.inl ⟨k, hk, rfl, (KX.trans hS hP).val (by rw [two_limbs (18446744073709551616 - u) (by omega) 15]; exact (by rw [hge]; exact setv_neg (by omega) hu)) (fun _ _ => rfl)⟩)
  · skip
    refine m_if_ne (tgt := 9) hx hb (by decide) dX1_set_4 (by decide) (fun h => absurd h (by decide)) (fun _ => ?_)
    refine lv_iconst (v := nI 3) hx hb dX1_set_7 (by decide) ?_
    exact m_iret hx hb hr hlocks hLc dX1_set_8 (Or.inr ⟨hno, rfl, hS.r hI⟩)

set_option maxRecDepth 100000 in
set_option maxHeartbeats 4000000 in
theorem c_X1_compare (l : Launch) (G : gG) (b0 : Nat) (H : Heap) {o : Nat} {ad : Nat → Nat} {sz : Nat → Nat → Nat} {bl : Nat → Nat} {dv : Nat → Nat} {dc : Nat} {wr : Nat → Nat} {wf : Nat} {f1 : Nat → Nat} {f2 : Nat → Nat} {fw : Nat → Nat} (hS : SX G b0 o ad H sz bl dv dc wr wf f1 f2 fw H) (hI : IV sz bl) (x y : Int32) : Met l yX1_compare wsX1_compare ({ frames := 2, cells := 0, slots := 0, locals := 43 } : Room) (PcH G H [.ref o, .int x, .int y]) (QcI (fun r H1 => ((∃ i j, i ≤ 63 ∧ j ≤ 63 ∧ x = nI i ∧ y = nI j ∧ cmpP r (valX sz bl i) (valX sz bl j)) ∨ ((noslot x ∨ noslot y) ∧ r = -2)) ∧ H = H1)) 0 0 (fre b0) := by
  refine m_enter (cc := cX1_compare) (maxL := 4) (ret := (some .int)) (own := RX1) (by decide) rfl rfl (Nat.le_of_ble_eq_true rfl) ?_
  intro p e s m below meth c ls hF hnm hH hl
  have hl : lv_has ls 4 [(0, .ref o), (1, .int x), (2, .int y)] := hl
  have hLc : lcs b0 [] := lcs_nil b0
  obtain ⟨hx, hb, hr, hml, hown, hts, hlocks, hK⟩ := id hF
  refine lv_iload_n hx hb dX1_compare_0 rfl (lv_at hl 1 rfl) ?_
  refine mc_i0 (va_runS (As := [.int x]) (rest := []) ⟨hx, hb, hml, hown, hts⟩ (c_X1_isSlot l G b0 H (x)) (va_cwS 1 hts gX1_compare_X1_isSlot rfl rfl rfl (by decide +kernel) ⟨Nat.le_of_ble_eq_true rfl, Nat.le_of_ble_eq_true rfl⟩) (mp_S hK) rfl rfl hl.1 rfl (lv_room (Nat.le_of_ble_eq_true rfl)) dX1_compare_1 ⟨Nat.le_of_ble_eq_true rfl, Nat.le_of_ble_eq_true rfl⟩) hLc (fun r H1 locs hP hLc => ?_)
  obtain ⟨hP, rfl⟩ := hP
  rcases hP with ⟨i, _h0, hi, rfl, rfl⟩ | ⟨hno, rfl⟩
  · skip
    refine m_if_eq (tgt := 14) hx hb (by decide) dX1_compare_4 (by decide) (fun h => absurd h (by decide)) (fun _ => ?_)
    refine lv_iload_n hx hb dX1_compare_7 rfl (lv_at hl 2 rfl) ?_
    refine mc_i0 (va_runS (As := [.int y]) (rest := []) ⟨hx, hb, hml, hown, hts⟩ (c_X1_isSlot l G b0 H (y)) (va_cwS 1 hts gX1_compare_X1_isSlot rfl rfl rfl (by decide +kernel) ⟨Nat.le_of_ble_eq_true rfl, Nat.le_of_ble_eq_true rfl⟩) (mp_S hK) rfl rfl hl.1 rfl (lv_room (Nat.le_of_ble_eq_true rfl)) dX1_compare_8 ⟨Nat.le_of_ble_eq_true rfl, Nat.le_of_ble_eq_true rfl⟩) hLc (fun r H1 locs hP hLc => ?_)
    obtain ⟨hP, rfl⟩ := hP
    rcases hP with ⟨j, _h0, hj, rfl, rfl⟩ | ⟨hno, rfl⟩
    · skip
      refine m_if_ne (tgt := 17) hx hb (by decide) dX1_compare_11 (by decide) (fun _ => ?_) (fun h => absurd h (by decide))
      refine lv_aload_n hx hb dX1_compare_17 rfl (lv_at hl 0 rfl) ?_
      refine va_get (D := G.1) (ci := 0) (v := .ref (ad 1)) (C := RX1) (T := TX1) (N := 9) hx hb hts hwsX1_compare hown hK hS.w.ob 0 rfl rfl 1 (by decide) (hts (.fieldLink RX1 14 "ExactNumbers" "below" "[Z") (by decide +kernel)) (fun _ h9 => h9) rfl dX1_compare_18 ?_
      refine lv_iload_n hx hb dX1_compare_21 rfl (lv_at hl 1 rfl) ?_
      refine m_zald (n := 64) (f := bl) hx hb hK (hS.w.get 1 (by decide)) (by omega) (by decide) dX1_compare_22 ?_
      refine lv_aload_n hx hb dX1_compare_23 rfl (lv_at hl 0 rfl) ?_
      refine va_get (D := G.1) (ci := 0) (v := .ref (ad 1)) (C := RX1) (T := TX1) (N := 9) hx hb hts hwsX1_compare hown hK hS.w.ob 0 rfl rfl 1 (by decide) (hts (.fieldLink RX1 14 "ExactNumbers" "below" "[Z") (by decide +kernel)) (fun _ h9 => h9) rfl dX1_compare_24 ?_
      refine lv_iload_n hx hb dX1_compare_27 rfl (lv_at hl 2 rfl) ?_
      refine m_zald (n := 64) (f := bl) hx hb hK (hS.w.get 1 (by decide)) (by omega) (by decide) dX1_compare_28 ?_
      have hbi := (hI i (by omega)).2.1
      have hbj := (hI j (by omega)).2.1
      refine m_icmp_eq (tgt := 47) hx hb (by omega) (by omega) dX1_compare_29 (by decide) (fun c29 => ?_) (fun c29 => ?_)
      · skip
        refine lv_aload_n hx hb dX1_compare_47 rfl (lv_at hl 0 rfl) ?_
        refine va_get (D := G.1) (ci := 0) (v := .ref (ad 0)) (C := RX1) (T := TX1) (N := 9) hx hb hts hwsX1_compare hown hK hS.w.ob 0 rfl rfl 0 (by decide) (hts (.fieldLink RX1 11 "ExactNumbers" "sizes" "[[J") (by decide +kernel)) (fun _ h9 => h9) rfl dX1_compare_48 ?_
        refine lv_iload_n hx hb dX1_compare_51 rfl (lv_at hl 1 rfl) ?_
        refine m_aald (n := 64) (f := (fun i => ad (i + 7))) hx hb hK (hS.w.get 0 (by decide)) (by omega) (by decide) dX1_compare_52 ?_
        refine lv_aload_n hx hb dX1_compare_53 rfl (lv_at hl 0 rfl) ?_
        refine va_get (D := G.1) (ci := 0) (v := .ref (ad 0)) (C := RX1) (T := TX1) (N := 9) hx hb hts hwsX1_compare hown hK hS.w.ob 0 rfl rfl 0 (by decide) (hts (.fieldLink RX1 11 "ExactNumbers" "sizes" "[[J") (by decide +kernel)) (fun _ h9 => h9) rfl dX1_compare_54 ?_
        refine lv_iload_n hx hb dX1_compare_57 rfl (lv_at hl 2 rfl) ?_
        refine m_aald (n := 64) (f := (fun i => ad (i + 7))) hx hb hK (hS.w.get 0 (by decide)) (by omega) (by decide) dX1_compare_58 ?_
        refine mc_i0 (va_runS (As := [.ref (ad (i + 7)), .ref (ad (j + 7))]) (rest := []) ⟨hx, hb, hml, hown, hts⟩ (c_X0_order l G b0 H (hS.w.get (i + 7) (by omega)) (hS.w.get (j + 7) (by omega)) (by decide) (by decide) (hI i (by omega)).1 (hI j (by omega)).1) (va_cwS 2 hts gX1_compare_X0_order rfl rfl rfl (by decide +kernel) ⟨Nat.le_of_ble_eq_true rfl, Nat.le_of_ble_eq_true rfl⟩) (mp_S hK) rfl rfl hl.1 rfl (lv_room (Nat.le_of_ble_eq_true rfl)) dX1_compare_59 ⟨Nat.le_of_ble_eq_true rfl, Nat.le_of_ble_eq_true rfl⟩) hLc (fun r H1 locs hP hLc => ?_)
        obtain ⟨hor, rfl⟩ := hP
        rw [l16_16, l16_16] at hor
        refine lv_istore_n (lv' := [(3, .int r), (0, .ref o), (1, .int (nI i)), (2, .int (nI j))]) hx hb dX1_compare_62 rfl hl (by decide) rfl (fun ls hl => ?_)
        refine lv_aload_n hx hb dX1_compare_63 rfl (lv_at hl 1 rfl) ?_
        refine va_get (D := G.1) (ci := 0) (v := .ref (ad 1)) (C := RX1) (T := TX1) (N := 9) hx hb hts hwsX1_compare hown hK hS.w.ob 0 rfl rfl 1 (by decide) (hts (.fieldLink RX1 14 "ExactNumbers" "below" "[Z") (by decide +kernel)) (fun _ h9 => h9) rfl dX1_compare_64 ?_
        refine lv_iload_n hx hb dX1_compare_67 rfl (lv_at hl 2 rfl) ?_
        refine m_zald (n := 64) (f := bl) hx hb hK (hS.w.get 1 (by decide)) (by omega) (by decide) dX1_compare_68 ?_
        refine m_if_eq (tgt := 77) hx hb (by omega) dX1_compare_69 (by decide) (fun c69 => ?_) (fun c69 => ?_)
        · skip
          refine lv_iload_n hx hb dX1_compare_77 rfl (lv_at hl 0 rfl) ?_
          exact m_iret hx hb hr hlocks hLc dX1_compare_78 (⟨Or.inl ⟨i, j, hi, hj, rfl, rfl, cmp_p c29 c69 hor⟩, rfl⟩)
        · skip
          refine lv_iload_n hx hb dX1_compare_72 rfl (lv_at hl 0 rfl) ?_
          refine lv_ineg hx hb dX1_compare_73 ?_
          refine lv_goto (tgt := 78) hx hb dX1_compare_74 (by decide) ?_
          exact m_iret hx hb hr hlocks hLc dX1_compare_78 (⟨Or.inl ⟨i, j, hi, hj, rfl, rfl, cmp_m hbi c29 c69 hor⟩, rfl⟩)
      · skip
        refine lv_aload_n hx hb dX1_compare_32 rfl (lv_at hl 0 rfl) ?_
        refine va_get (D := G.1) (ci := 0) (v := .ref (ad 1)) (C := RX1) (T := TX1) (N := 9) hx hb hts hwsX1_compare hown hK hS.w.ob 0 rfl rfl 1 (by decide) (hts (.fieldLink RX1 14 "ExactNumbers" "below" "[Z") (by decide +kernel)) (fun _ h9 => h9) rfl dX1_compare_33 ?_
        refine lv_iload_n hx hb dX1_compare_36 rfl (lv_at hl 1 rfl) ?_
        refine m_zald (n := 64) (f := bl) hx hb hK (hS.w.get 1 (by decide)) (by omega) (by decide) dX1_compare_37 ?_
        refine m_if_eq (tgt := 45) hx hb (by omega) dX1_compare_38 (by decide) (fun c38 => ?_) (fun c38 => ?_)
        · skip
          refine lv_iconst (v := 1) hx hb dX1_compare_45 (by decide) ?_
          exact m_iret hx hb hr hlocks hLc dX1_compare_46 (⟨Or.inl ⟨i, j, hi, hj, rfl, rfl, cmp_n0 hI (by omega) (by omega) c29 c38⟩, rfl⟩)
        · skip
          refine lv_iconst (v := -1) hx hb dX1_compare_41 (by decide) ?_
          refine lv_goto (tgt := 46) hx hb dX1_compare_42 (by decide) ?_
          exact m_iret hx hb hr hlocks hLc dX1_compare_46 (⟨Or.inl ⟨i, j, hi, hj, rfl, rfl, cmp_n1 hI (by omega) (by omega) c29 c38⟩, rfl⟩)
    · skip
      refine m_if_ne (tgt := 17) hx hb (by decide) dX1_compare_11 (by decide) (fun h => absurd h (by decide)) (fun _ => ?_)
      refine lv_bipush (v := -2) hx hb dX1_compare_14 (by decide) ?_
      exact m_iret hx hb hr hlocks hLc dX1_compare_16 (⟨Or.inr ⟨by first | exact Or.inl hno | exact Or.inr hno, rfl⟩, rfl⟩)
  · skip
    refine m_if_eq (tgt := 14) hx hb (by decide) dX1_compare_4 (by decide) (fun _ => ?_) (fun h => absurd h (by decide))
    refine lv_bipush (v := -2) hx hb dX1_compare_14 (by decide) ?_
    exact m_iret hx hb hr hlocks hLc dX1_compare_16 (⟨Or.inr ⟨by first | exact Or.inl hno | exact Or.inr hno, rfl⟩, rfl⟩)

set_option maxRecDepth 100000 in
set_option maxHeartbeats 4000000 in
theorem c_X1_bits (l : Launch) (G : gG) (b0 : Nat) (H : Heap) {o : Nat} {ad : Nat → Nat} {sz : Nat → Nat → Nat} {bl : Nat → Nat} {dv : Nat → Nat} {dc : Nat} {wr : Nat → Nat} {wf : Nat} {f1 : Nat → Nat} {f2 : Nat → Nat} {fw : Nat → Nat} (hS : SX G b0 o ad H sz bl dv dc wr wf f1 f2 fw H) (hI : IV sz bl) (x : Int32) : Met l yX1_bits wsX1_bits ({ frames := 3, cells := 0, slots := 0, locals := 64 } : Room) (PcH G H [.ref o, .int x]) (QcI (fun r H1 => ((∃ i b, i ≤ 63 ∧ x = nI i ∧ r = nI b ∧ isBL b (valX sz bl i).natAbs) ∨ (noslot x ∧ r = -1)) ∧ H = H1)) 0 0 (fre b0) := by
  refine m_enter (cc := cX1_bits) (maxL := 2) (ret := (some .int)) (own := RX1) (by decide) rfl rfl (Nat.le_of_ble_eq_true rfl) ?_
  intro p e s m below meth c ls hF hnm hH hl
  have hl : lv_has ls 2 [(0, .ref o), (1, .int x)] := hl
  have hLc : lcs b0 [] := lcs_nil b0
  obtain ⟨hx, hb, hr, hml, hown, hts, hlocks, hK⟩ := id hF
  refine lv_iload_n hx hb dX1_bits_0 rfl (lv_at hl 1 rfl) ?_
  refine mc_i0 (va_runS (As := [.int x]) (rest := []) ⟨hx, hb, hml, hown, hts⟩ (c_X1_isSlot l G b0 H (x)) (va_cwS 1 hts gX1_bits_X1_isSlot rfl rfl rfl (by decide +kernel) ⟨Nat.le_of_ble_eq_true rfl, Nat.le_of_ble_eq_true rfl⟩) (mp_S hK) rfl rfl hl.1 rfl (lv_room (Nat.le_of_ble_eq_true rfl)) dX1_bits_1 ⟨Nat.le_of_ble_eq_true rfl, Nat.le_of_ble_eq_true rfl⟩) hLc (fun r H1 locs hP hLc => ?_)
  obtain ⟨hP, rfl⟩ := hP
  rcases hP with ⟨i, _h0, hi, rfl, rfl⟩ | ⟨hno, rfl⟩
  · skip
    refine m_if_eq (tgt := 19) hx hb (by decide) dX1_bits_4 (by decide) (fun h => absurd h (by decide)) (fun _ => ?_)
    refine lv_aload_n hx hb dX1_bits_7 rfl (lv_at hl 0 rfl) ?_
    refine va_get (D := G.1) (ci := 0) (v := .ref (ad 0)) (C := RX1) (T := TX1) (N := 9) hx hb hts hwsX1_bits hown hK hS.w.ob 0 rfl rfl 0 (by decide) (hts (.fieldLink RX1 11 "ExactNumbers" "sizes" "[[J") (by decide +kernel)) (fun _ h9 => h9) rfl dX1_bits_8 ?_
    refine lv_iload_n hx hb dX1_bits_11 rfl (lv_at hl 1 rfl) ?_
    refine m_aald (n := 64) (f := (fun i => ad (i + 7))) hx hb hK (hS.w.get 0 (by decide)) (by omega) (by decide) dX1_bits_12 ?_
    refine mc_i0 (va_runS (As := [.ref (ad (i + 7))]) (rest := []) ⟨hx, hb, hml, hown, hts⟩ (c_X0_bitLength l G b0 H (hS.w.get (i + 7) (by omega)) (by decide) (hI i (by omega)).1) (va_cwS 1 hts gX1_bits_X0_bitLength rfl rfl rfl (by decide +kernel) ⟨Nat.le_of_ble_eq_true rfl, Nat.le_of_ble_eq_true rfl⟩) (mp_S hK) rfl rfl hl.1 rfl (lv_room (Nat.le_of_ble_eq_true rfl)) dX1_bits_13 ⟨Nat.le_of_ble_eq_true rfl, Nat.le_of_ble_eq_true rfl⟩) hLc (fun r H1 locs hP hLc => ?_)
    obtain ⟨⟨b, rfl, hb3, hbl⟩, rfl⟩ := hP
    refine lv_goto (tgt := 20) hx hb dX1_bits_16 (by decide) ?_
    exact m_iret hx hb hr hlocks hLc dX1_bits_20 (⟨Or.inl ⟨i, b, hi, rfl, rfl, by unfold valX; rw [sg_abs]; exact hbl⟩, rfl⟩)
  · skip
    refine m_if_eq (tgt := 19) hx hb (by decide) dX1_bits_4 (by decide) (fun _ => ?_) (fun h => absurd h (by decide))
    refine lv_iconst (v := -1) hx hb dX1_bits_19 (by decide) ?_
    exact m_iret hx hb hr hlocks hLc dX1_bits_20 (⟨Or.inr ⟨hno, rfl⟩, rfl⟩)

set_option maxRecDepth 100000 in
set_option maxHeartbeats 4000000 in
theorem c_X1_turn (l : Launch) (G : gG) (b0 : Nat) (H : Heap) {o : Nat} {ad : Nat → Nat} {sz : Nat → Nat → Nat} {bl : Nat → Nat} {dv : Nat → Nat} {dc : Nat} {wr : Nat → Nat} {wf : Nat} {f1 : Nat → Nat} {f2 : Nat → Nat} {fw : Nat → Nat} (hS : SX G b0 o ad H sz bl dv dc wr wf f1 f2 fw H) (hI : IV sz bl) (x y : Int32) {g : Nat} (hg1 : g ≤ 1) : Met l yX1_turn wsX1_turn ({ frames := 2, cells := 0, slots := 0, locals := 64 } : Room) (PcH G H [.ref o, .int x, .int y, .int (nI g)]) (QcI (fun r H1 => (∃ k i, k ≤ 63 ∧ i ≤ 63 ∧ x = nI k ∧ y = nI i ∧ KX G b0 o ad H (valX sz bl) dv dc wr wf k (if g = 1 then -1 - valX sz bl i else -valX sz bl i) r H1) ∨ ((noslot x ∨ noslot y) ∧ r = nI 3 ∧ RX G b0 o ad H (valX sz bl) dv dc wr wf H1))) 0 0 (fre b0) := by
  refine m_enter (cc := cX1_turn) (maxL := 4) (ret := (some .int)) (own := RX1) (by decide) rfl rfl (Nat.le_of_ble_eq_true rfl) ?_
  intro p e s m below meth c ls hF hnm hH hl
  have hl : lv_has ls 4 [(0, .ref o), (1, .int x), (2, .int y), (3, .int (nI g))] := hl
  have hLc : lcs b0 [] := lcs_nil b0
  obtain ⟨hx, hb, hr, hml, hown, hts, hlocks, hK⟩ := id hF
  refine lv_iload_n hx hb dX1_turn_0 rfl (lv_at hl 1 rfl) ?_
  refine mc_i0 (va_runS (As := [.int x]) (rest := []) ⟨hx, hb, hml, hown, hts⟩ (c_X1_isSlot l G b0 H (x)) (va_cwS 1 hts gX1_turn_X1_isSlot rfl rfl rfl (by decide +kernel) ⟨Nat.le_of_ble_eq_true rfl, Nat.le_of_ble_eq_true rfl⟩) (mp_S hK) rfl rfl hl.1 rfl (lv_room (Nat.le_of_ble_eq_true rfl)) dX1_turn_1 ⟨Nat.le_of_ble_eq_true rfl, Nat.le_of_ble_eq_true rfl⟩) hLc (fun r H1 locs hP hLc => ?_)
  obtain ⟨hP, rfl⟩ := hP
  rcases hP with ⟨k, _h0, hk, rfl, rfl⟩ | ⟨hno, rfl⟩
  · skip
    refine m_if_eq (tgt := 14) hx hb (by decide) dX1_turn_4 (by decide) (fun h => absurd h (by decide)) (fun _ => ?_)
    refine lv_iload_n hx hb dX1_turn_7 rfl (lv_at hl 2 rfl) ?_
    refine mc_i0 (va_runS (As := [.int y]) (rest := []) ⟨hx, hb, hml, hown, hts⟩ (c_X1_isSlot l G b0 H (y)) (va_cwS 1 hts gX1_turn_X1_isSlot rfl rfl rfl (by decide +kernel) ⟨Nat.le_of_ble_eq_true rfl, Nat.le_of_ble_eq_true rfl⟩) (mp_S hK) rfl rfl hl.1 rfl (lv_room (Nat.le_of_ble_eq_true rfl)) dX1_turn_8 ⟨Nat.le_of_ble_eq_true rfl, Nat.le_of_ble_eq_true rfl⟩) hLc (fun r H1 locs hP hLc => ?_)
    obtain ⟨hP, rfl⟩ := hP
    rcases hP with ⟨i, _h0, hi, rfl, rfl⟩ | ⟨hno, rfl⟩
    · skip
      refine m_if_ne (tgt := 16) hx hb (by decide) dX1_turn_11 (by decide) (fun _ => ?_) (fun h => absurd h (by decide))
      refine lv_aload_n hx hb dX1_turn_16 rfl (lv_at hl 0 rfl) ?_
      refine va_get (D := G.1) (ci := 0) (v := .ref (ad 0)) (C := RX1) (T := TX1) (N := 9) hx hb hts hwsX1_turn hown hK hS.w.ob 0 rfl rfl 0 (by decide) (hts (.fieldLink RX1 11 "ExactNumbers" "sizes" "[[J") (by decide +kernel)) (fun _ h9 => h9) rfl dX1_turn_17 ?_
      refine lv_iload_n hx hb dX1_turn_20 rfl (lv_at hl 2 rfl) ?_
      refine m_aald (n := 64) (f := (fun i => ad (i + 7))) hx hb hK (hS.w.get 0 (by decide)) (by omega) (by decide) dX1_turn_21 ?_
      refine lv_aload_n hx hb dX1_turn_22 rfl (lv_at hl 0 rfl) ?_
      refine va_get (D := G.1) (ci := 0) (v := .ref (ad 4)) (C := RX1) (T := TX1) (N := 9) hx hb hts hwsX1_turn hown hK hS.w.ob 0 rfl rfl 6 (by decide) (hts (.fieldLink RX1 32 "ExactNumbers" "first" "[J") (by decide +kernel)) (fun _ h9 => h9) rfl dX1_turn_23 ?_
      have hbi := (hI i (by omega)).2.1
      have hnz := (hI i (by omega)).2.2
      refine mc_v0 (va_runS (As := [.ref (ad (i + 7)), .ref (ad 4)]) (rest := []) ⟨hx, hb, hml, hown, hts⟩ (c_X0_copy l G b0 H (hS.w.get (i + 7) (by omega)) (hS.w.get 4 (by decide)) (by decide) (by decide) (hS.w.ne (by omega) (by decide) (by omega)) (hS.w.b 4 (by decide))) (va_cwS 2 hts gX1_turn_X0_copy rfl rfl rfl (by decide +kernel) ⟨Nat.le_of_ble_eq_true rfl, Nat.le_of_ble_eq_true rfl⟩) (mp_S hK) rfl rfl hl.1 rfl (lv_room (Nat.le_of_ble_eq_true rfl)) dX1_turn_26 ⟨Nat.le_of_ble_eq_true rfl, Nat.le_of_ble_eq_true rfl⟩) hLc (fun H1 locs hP hLc => ?_)
      obtain ⟨g2, hg2, rfl⟩ := hP
      have hl2 : lim g2 17 := fun j hj => by rw [hg2 j hj]; exact lat_lim (hI i (by omega)).1 j
      have hv2 : vl g2 17 = vl (sz i) 16 := by rw [vl_congr hg2, l16_17]
      have hS := hS.p_f1 g2
      generalize hput H (ad 4) (aJ G 17 g2) = Hc at hS ⊢
      refine lv_iload_n hx hb dX1_turn_29 rfl (lv_at hl 3 rfl) ?_
      refine m_if_eq (tgt := 59) hx hb (by omega) dX1_turn_30 (by decide) (fun c30 => ?_) (fun c30 => ?_)
      · skip
        refine lv_aload_n hx hb dX1_turn_59 rfl (lv_at hl 0 rfl) ?_
        refine lv_iload_n hx hb dX1_turn_60 rfl (lv_at hl 1 rfl) ?_
        refine lv_aload_n hx hb dX1_turn_61 rfl (lv_at hl 0 rfl) ?_
        refine va_get (D := G.1) (ci := 0) (v := .ref (ad 4)) (C := RX1) (T := TX1) (N := 9) hx hb hts hwsX1_turn hown hK hS.w.ob 0 rfl rfl 6 (by decide) (hts (.fieldLink RX1 32 "ExactNumbers" "first" "[J") (by decide +kernel)) (fun _ h9 => h9) rfl dX1_turn_62 ?_
        refine lv_aload_n hx hb dX1_turn_65 rfl (lv_at hl 0 rfl) ?_
        refine va_get (D := G.1) (ci := 0) (v := .ref (ad 1)) (C := RX1) (T := TX1) (N := 9) hx hb hts hwsX1_turn hown hK hS.w.ob 0 rfl rfl 1 (by decide) (hts (.fieldLink RX1 14 "ExactNumbers" "below" "[Z") (by decide +kernel)) (fun _ h9 => h9) rfl dX1_turn_66 ?_
        refine lv_iload_n hx hb dX1_turn_69 rfl (lv_at hl 2 rfl) ?_
        refine m_zald (n := 64) (f := bl) hx hb hK (hS.w.get 1 (by decide)) (by omega) (by decide) dX1_turn_70 ?_
        refine m_if_ne (tgt := 78) hx hb (by omega) dX1_turn_71 (by decide) (fun c71 => ?_) (fun c71 => ?_)
        · skip
          refine lv_iconst (v := nI 0) hx hb dX1_turn_78 (by decide) ?_
          refine mc_i0 (va_runV (As := [.int (nI k), .ref (ad 4), .int (nI 0)]) (rest := []) ⟨hx, hb, hml, hown, hts⟩ (c_X1_store l G b0 Hc hS.rf hI k (by omega) (hS.w.get 4 (by decide)) (by decide) (by decide) hl2 (by decide)) (cwV 3 hts gX1_turn_X1_store rfl rfl rfl (by decide +kernel) ⟨Nat.le_of_ble_eq_true rfl, Nat.le_of_ble_eq_true rfl⟩) (mp_V hK hS.w.ob rfl) rfl rfl hl.1 rfl (lv_room (Nat.le_of_ble_eq_true rfl)) dX1_turn_79 ⟨Nat.le_of_ble_eq_true rfl, Nat.le_of_ble_eq_true rfl⟩) hLc (fun r H1 locs hP hLc => ?_)
          exact m_iret hx hb hr hlocks hLc dX1_turn_82 (Or.inl ⟨k, i, hk, hi, rfl, rfl, (KX.trans hS hP).val (by unfold valX sg; (repeat' split) <;> omega) (fun _ _ => rfl)⟩)
        · skip
          refine lv_iconst (v := nI 1) hx hb dX1_turn_74 (by decide) ?_
          refine lv_goto (tgt := 79) hx hb dX1_turn_75 (by decide) ?_
          refine mc_i0 (va_runV (As := [.int (nI k), .ref (ad 4), .int (nI 1)]) (rest := []) ⟨hx, hb, hml, hown, hts⟩ (c_X1_store l G b0 Hc hS.rf hI k (by omega) (hS.w.get 4 (by decide)) (by decide) (by decide) hl2 (by decide)) (cwV 3 hts gX1_turn_X1_store rfl rfl rfl (by decide +kernel) ⟨Nat.le_of_ble_eq_true rfl, Nat.le_of_ble_eq_true rfl⟩) (mp_V hK hS.w.ob rfl) rfl rfl hl.1 rfl (lv_room (Nat.le_of_ble_eq_true rfl)) dX1_turn_79 ⟨Nat.le_of_ble_eq_true rfl, Nat.le_of_ble_eq_true rfl⟩) hLc (fun r H1 locs hP hLc => ?_)
          exact m_iret hx hb hr hlocks hLc dX1_turn_82 (Or.inl ⟨k, i, hk, hi, rfl, rfl, (KX.trans hS hP).val (by unfold valX sg; (repeat' split) <;> omega) (fun _ _ => rfl)⟩)
      · skip
        refine lv_aload_n hx hb dX1_turn_33 rfl (lv_at hl 0 rfl) ?_
        refine va_get (D := G.1) (ci := 0) (v := .ref (ad 1)) (C := RX1) (T := TX1) (N := 9) hx hb hts hwsX1_turn hown hK hS.w.ob 0 rfl rfl 1 (by decide) (hts (.fieldLink RX1 14 "ExactNumbers" "below" "[Z") (by decide +kernel)) (fun _ h9 => h9) rfl dX1_turn_34 ?_
        refine lv_iload_n hx hb dX1_turn_37 rfl (lv_at hl 2 rfl) ?_
        refine m_zald (n := 64) (f := bl) hx hb hK (hS.w.get 1 (by decide)) (by omega) (by decide) dX1_turn_38 ?_
        refine m_if_eq (tgt := 52) hx hb (by omega) dX1_turn_39 (by decide) (fun c39 => ?_) (fun c39 => ?_)
        · skip
          refine lv_aload_n hx hb dX1_turn_52 rfl (lv_at hl 0 rfl) ?_
          refine va_get (D := G.1) (ci := 0) (v := .ref (ad 4)) (C := RX1) (T := TX1) (N := 9) hx hb hts hwsX1_turn hown hK hS.w.ob 0 rfl rfl 6 (by decide) (hts (.fieldLink RX1 32 "ExactNumbers" "first" "[J") (by decide +kernel)) (fun _ h9 => h9) rfl dX1_turn_53 ?_
          refine mc_v0 (va_runS (As := [.ref (ad 4)]) (rest := []) ⟨hx, hb, hml, hown, hts⟩ (c_X0_increase l G b0 Hc (hS.w.get 4 (by decide)) (by decide) hl2 (hS.w.b 4 (by decide))) (va_cwS 1 hts gX1_turn_X0_increase rfl rfl rfl (by decide +kernel) ⟨Nat.le_of_ble_eq_true rfl, Nat.le_of_ble_eq_true rfl⟩) (mp_S hK) rfl rfl hl.1 rfl (lv_room (Nat.le_of_ble_eq_true rfl)) dX1_turn_56 ⟨Nat.le_of_ble_eq_true rfl, Nat.le_of_ble_eq_true rfl⟩) hLc (fun H1 locs hP hLc => ?_)
          obtain ⟨g3, hl3, hv3, rfl⟩ := hP
          have hv3 : vl g3 17 = vl (sz i) 16 + 1 := by rw [hv3, hv2]; exact inc17 (vl_lt (hI i (by omega)).1)
          have hS := hS.p_f1 g3
          generalize hput Hc (ad 4) (aJ G 17 g3) = Hc at hS ⊢
          refine lv_aload_n hx hb dX1_turn_59 rfl (lv_at hl 0 rfl) ?_
          refine lv_iload_n hx hb dX1_turn_60 rfl (lv_at hl 1 rfl) ?_
          refine lv_aload_n hx hb dX1_turn_61 rfl (lv_at hl 0 rfl) ?_
          refine va_get (D := G.1) (ci := 0) (v := .ref (ad 4)) (C := RX1) (T := TX1) (N := 9) hx hb hts hwsX1_turn hown hK hS.w.ob 0 rfl rfl 6 (by decide) (hts (.fieldLink RX1 32 "ExactNumbers" "first" "[J") (by decide +kernel)) (fun _ h9 => h9) rfl dX1_turn_62 ?_
          refine lv_aload_n hx hb dX1_turn_65 rfl (lv_at hl 0 rfl) ?_
          refine va_get (D := G.1) (ci := 0) (v := .ref (ad 1)) (C := RX1) (T := TX1) (N := 9) hx hb hts hwsX1_turn hown hK hS.w.ob 0 rfl rfl 1 (by decide) (hts (.fieldLink RX1 14 "ExactNumbers" "below" "[Z") (by decide +kernel)) (fun _ h9 => h9) rfl dX1_turn_66 ?_
          refine lv_iload_n hx hb dX1_turn_69 rfl (lv_at hl 2 rfl) ?_
          refine m_zald (n := 64) (f := bl) hx hb hK (hS.w.get 1 (by decide)) (by omega) (by decide) dX1_turn_70 ?_
          refine m_if_ne (tgt := 78) hx hb (by omega) dX1_turn_71 (by decide) (fun c71 => ?_) (fun c71 => ?_)
          · skip
            refine lv_iconst (v := nI 0) hx hb dX1_turn_78 (by decide) ?_
            refine mc_i0 (va_runV (As := [.int (nI k), .ref (ad 4), .int (nI 0)]) (rest := []) ⟨hx, hb, hml, hown, hts⟩ (c_X1_store l G b0 Hc hS.rf hI k (by omega) (hS.w.get 4 (by decide)) (by decide) (by decide) hl3 (by decide)) (cwV 3 hts gX1_turn_X1_store rfl rfl rfl (by decide +kernel) ⟨Nat.le_of_ble_eq_true rfl, Nat.le_of_ble_eq_true rfl⟩) (mp_V hK hS.w.ob rfl) rfl rfl hl.1 rfl (lv_room (Nat.le_of_ble_eq_true rfl)) dX1_turn_79 ⟨Nat.le_of_ble_eq_true rfl, Nat.le_of_ble_eq_true rfl⟩) hLc (fun r H1 locs hP hLc => ?_)
            exact m_iret hx hb hr hlocks hLc dX1_turn_82 (Or.inl ⟨k, i, hk, hi, rfl, rfl, (KX.trans hS hP).val (by unfold valX sg; (repeat' split) <;> omega) (fun _ _ => rfl)⟩)
          · skip
            refine lv_iconst (v := nI 1) hx hb dX1_turn_74 (by decide) ?_
            refine lv_goto (tgt := 79) hx hb dX1_turn_75 (by decide) ?_
            refine mc_i0 (va_runV (As := [.int (nI k), .ref (ad 4), .int (nI 1)]) (rest := []) ⟨hx, hb, hml, hown, hts⟩ (c_X1_store l G b0 Hc hS.rf hI k (by omega) (hS.w.get 4 (by decide)) (by decide) (by decide) hl3 (by decide)) (cwV 3 hts gX1_turn_X1_store rfl rfl rfl (by decide +kernel) ⟨Nat.le_of_ble_eq_true rfl, Nat.le_of_ble_eq_true rfl⟩) (mp_V hK hS.w.ob rfl) rfl rfl hl.1 rfl (lv_room (Nat.le_of_ble_eq_true rfl)) dX1_turn_79 ⟨Nat.le_of_ble_eq_true rfl, Nat.le_of_ble_eq_true rfl⟩) hLc (fun r H1 locs hP hLc => ?_)
            exact m_iret hx hb hr hlocks hLc dX1_turn_82 (Or.inl ⟨k, i, hk, hi, rfl, rfl, (KX.trans hS hP).val (by unfold valX sg; (repeat' split) <;> omega) (fun _ _ => rfl)⟩)
        · skip
          refine lv_aload_n hx hb dX1_turn_42 rfl (lv_at hl 0 rfl) ?_
          refine va_get (D := G.1) (ci := 0) (v := .ref (ad 4)) (C := RX1) (T := TX1) (N := 9) hx hb hts hwsX1_turn hown hK hS.w.ob 0 rfl rfl 6 (by decide) (hts (.fieldLink RX1 32 "ExactNumbers" "first" "[J") (by decide +kernel)) (fun _ h9 => h9) rfl dX1_turn_43 ?_
          refine mc_v0 (va_runS (As := [.ref (ad 4)]) (rest := []) ⟨hx, hb, hml, hown, hts⟩ (c_X0_decrease l G b0 Hc (hS.w.get 4 (by decide)) (by decide) hl2 (hS.w.b 4 (by decide)) (by have := hnz (by omega); omega)) (va_cwS 1 hts gX1_turn_X0_decrease rfl rfl rfl (by decide +kernel) ⟨Nat.le_of_ble_eq_true rfl, Nat.le_of_ble_eq_true rfl⟩) (mp_S hK) rfl rfl hl.1 rfl (lv_room (Nat.le_of_ble_eq_true rfl)) dX1_turn_46 ⟨Nat.le_of_ble_eq_true rfl, Nat.le_of_ble_eq_true rfl⟩) hLc (fun H1 locs hP hLc => ?_)
          obtain ⟨g3, hl3, hv3, rfl⟩ := hP
          rw [hv2] at hv3
          have hS := hS.p_f1 g3
          generalize hput Hc (ad 4) (aJ G 17 g3) = Hc at hS ⊢
          refine lv_goto (tgt := 59) hx hb dX1_turn_49 (by decide) ?_
          refine lv_aload_n hx hb dX1_turn_59 rfl (lv_at hl 0 rfl) ?_
          refine lv_iload_n hx hb dX1_turn_60 rfl (lv_at hl 1 rfl) ?_
          refine lv_aload_n hx hb dX1_turn_61 rfl (lv_at hl 0 rfl) ?_
          refine va_get (D := G.1) (ci := 0) (v := .ref (ad 4)) (C := RX1) (T := TX1) (N := 9) hx hb hts hwsX1_turn hown hK hS.w.ob 0 rfl rfl 6 (by decide) (hts (.fieldLink RX1 32 "ExactNumbers" "first" "[J") (by decide +kernel)) (fun _ h9 => h9) rfl dX1_turn_62 ?_
          refine lv_aload_n hx hb dX1_turn_65 rfl (lv_at hl 0 rfl) ?_
          refine va_get (D := G.1) (ci := 0) (v := .ref (ad 1)) (C := RX1) (T := TX1) (N := 9) hx hb hts hwsX1_turn hown hK hS.w.ob 0 rfl rfl 1 (by decide) (hts (.fieldLink RX1 14 "ExactNumbers" "below" "[Z") (by decide +kernel)) (fun _ h9 => h9) rfl dX1_turn_66 ?_
          refine lv_iload_n hx hb dX1_turn_69 rfl (lv_at hl 2 rfl) ?_
          refine m_zald (n := 64) (f := bl) hx hb hK (hS.w.get 1 (by decide)) (by omega) (by decide) dX1_turn_70 ?_
          refine m_if_ne (tgt := 78) hx hb (by omega) dX1_turn_71 (by decide) (fun c71 => ?_) (fun c71 => ?_)
          · skip
            refine lv_iconst (v := nI 0) hx hb dX1_turn_78 (by decide) ?_
            refine mc_i0 (va_runV (As := [.int (nI k), .ref (ad 4), .int (nI 0)]) (rest := []) ⟨hx, hb, hml, hown, hts⟩ (c_X1_store l G b0 Hc hS.rf hI k (by omega) (hS.w.get 4 (by decide)) (by decide) (by decide) hl3 (by decide)) (cwV 3 hts gX1_turn_X1_store rfl rfl rfl (by decide +kernel) ⟨Nat.le_of_ble_eq_true rfl, Nat.le_of_ble_eq_true rfl⟩) (mp_V hK hS.w.ob rfl) rfl rfl hl.1 rfl (lv_room (Nat.le_of_ble_eq_true rfl)) dX1_turn_79 ⟨Nat.le_of_ble_eq_true rfl, Nat.le_of_ble_eq_true rfl⟩) hLc (fun r H1 locs hP hLc => ?_)
            exact m_iret hx hb hr hlocks hLc dX1_turn_82 (Or.inl ⟨k, i, hk, hi, rfl, rfl, (KX.trans hS hP).val (by unfold valX sg; (repeat' split) <;> omega) (fun _ _ => rfl)⟩)
          · skip
            refine lv_iconst (v := nI 1) hx hb dX1_turn_74 (by decide) ?_
            refine lv_goto (tgt := 79) hx hb dX1_turn_75 (by decide) ?_
            refine mc_i0 (va_runV (As := [.int (nI k), .ref (ad 4), .int (nI 1)]) (rest := []) ⟨hx, hb, hml, hown, hts⟩ (c_X1_store l G b0 Hc hS.rf hI k (by omega) (hS.w.get 4 (by decide)) (by decide) (by decide) hl3 (by decide)) (cwV 3 hts gX1_turn_X1_store rfl rfl rfl (by decide +kernel) ⟨Nat.le_of_ble_eq_true rfl, Nat.le_of_ble_eq_true rfl⟩) (mp_V hK hS.w.ob rfl) rfl rfl hl.1 rfl (lv_room (Nat.le_of_ble_eq_true rfl)) dX1_turn_79 ⟨Nat.le_of_ble_eq_true rfl, Nat.le_of_ble_eq_true rfl⟩) hLc (fun r H1 locs hP hLc => ?_)
            exact m_iret hx hb hr hlocks hLc dX1_turn_82 (Or.inl ⟨k, i, hk, hi, rfl, rfl, (KX.trans hS hP).val (by unfold valX sg; (repeat' split) <;> omega) (fun _ _ => rfl)⟩)
    · skip
      refine m_if_ne (tgt := 16) hx hb (by decide) dX1_turn_11 (by decide) (fun h => absurd h (by decide)) (fun _ => ?_)
      refine lv_iconst (v := nI 3) hx hb dX1_turn_14 (by decide) ?_
      exact m_iret hx hb hr hlocks hLc dX1_turn_15 (Or.inr ⟨by first | exact Or.inl hno | exact Or.inr hno, rfl, hS.r hI⟩)
  · skip
    refine m_if_eq (tgt := 14) hx hb (by decide) dX1_turn_4 (by decide) (fun _ => ?_) (fun h => absurd h (by decide))
    refine lv_iconst (v := nI 3) hx hb dX1_turn_14 (by decide) ?_
    exact m_iret hx hb hr hlocks hLc dX1_turn_15 (Or.inr ⟨by first | exact Or.inl hno | exact Or.inr hno, rfl, hS.r hI⟩)
end
