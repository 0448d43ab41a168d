/-! MAKING objects and arrays -/
section RN
variable {p : Program} {l : Launch} {e : Env} {R : Room} {s : State} {m : MethodId} {args : Array Value} {below : List Frame} {meth : Method} {c : Code} {H : Heap} {locs : List Loc} {cells slots : Nat} {Q : State → Prop}
variable {cc : ByteArray} {pc : Nat} {ls : Array Slot} {rest : List Value}
theorem nI_nn {n : Nat} (h : n < 2 ^ 31) : ¬ nI n < 0 := nI_pos h
theorem m_newJ (hx : p.tables.exec = Jvm.exec) (hb : c.code = cc) {G : gG} (hK : KK G s) (harr : (Cond.arrayClass .long).before args s = true) {n h : Nat} (hn : n < 2 ^ 20) (hh : H.size = h) (hcells : cells + 1 ≤ R.cells) (hslots : slots + n ≤ R.slots) (hdg : decode cc pc = .ok (.newarray .long, 2))
    (kk : ∀ H1 : Heap, H1[h]? = some (aJ G n (fun _ => 0)) → H1.size = h + 1 → (∀ q, q < h → H1[q]? = H[q]?) → W p l e R s m args below meth c H1 locs (cells + 1) (slots + n) Q (F0 m (pc + 2) ls (.ref h :: rest))) : W p l e R s m args below meth c H locs cells slots Q (F0 m pc ls (.int (nI n) :: rest)) := by
  refine va_newaK (g := F0 m pc ls (.int (nI n) :: rest)) hx hb (atype := .long) harr rfl hdg rfl (nI_nn (by omega)) (nI_clamp (by omega)) (show n * 8 ≤ 536870912 by omega) hcells hslots hh fun H1 cA e1 z1 o1 _ hN => ?_
  have hc := va_nm_long (hK.2 0 _ rfl).2
  obtain rfl : G.2 0 = cA := Option.some.inj (hc.symm.trans hN)
  exact kk H1 e1 z1 o1
theorem m_newZ (hx : p.tables.exec = Jvm.exec) (hb : c.code = cc) {G : gG} (hK : KK G s) (harr : (Cond.arrayClass .boolean).before args s = true) {n h : Nat} (hn : n < 2 ^ 20) (hh : H.size = h) (hcells : cells + 1 ≤ R.cells) (hslots : slots + n ≤ R.slots) (hdg : decode cc pc = .ok (.newarray .boolean, 2))
    (kk : ∀ H1 : Heap, H1[h]? = some (aZ G n (fun _ => 0)) → H1.size = h + 1 → (∀ q, q < h → H1[q]? = H[q]?) → W p l e R s m args below meth c H1 locs (cells + 1) (slots + n) Q (F0 m (pc + 2) ls (.ref h :: rest))) : W p l e R s m args below meth c H locs cells slots Q (F0 m pc ls (.int (nI n) :: rest)) := by
  refine va_newaK (g := F0 m pc ls (.int (nI n) :: rest)) hx hb (atype := .boolean) harr rfl hdg rfl (nI_nn (by omega)) (nI_clamp (by omega)) (show n * 1 ≤ 536870912 by omega) hcells hslots hh fun H1 cA e1 z1 o1 _ hN => ?_
  have hc := va_nm_boolean (hK.2 1 _ rfl).2
  obtain rfl : G.2 1 = cA := Option.some.inj (hc.symm.trans hN)
  exact kk H1 e1 z1 o1
theorem m_newB (hx : p.tables.exec = Jvm.exec) (hb : c.code = cc) {G : gG} (hK : KK G s) (harr : (Cond.arrayClass .byte).before args s = true) {n h : Nat} (hn : n < 2 ^ 20) (hh : H.size = h) (hcells : cells + 1 ≤ R.cells) (hslots : slots + n ≤ R.slots) (hdg : decode cc pc = .ok (.newarray .byte, 2))
    (kk : ∀ H1 : Heap, H1[h]? = some (aB G n (fun _ => 0)) → H1.size = h + 1 → (∀ q, q < h → H1[q]? = H[q]?) → W p l e R s m args below meth c H1 locs (cells + 1) (slots + n) Q (F0 m (pc + 2) ls (.ref h :: rest))) : W p l e R s m args below meth c H locs cells slots Q (F0 m pc ls (.int (nI n) :: rest)) := by
  refine va_newaK (g := F0 m pc ls (.int (nI n) :: rest)) hx hb (atype := .byte) harr rfl hdg rfl (nI_nn (by omega)) (nI_clamp (by omega)) (show n * 1 ≤ 536870912 by omega) hcells hslots hh fun H1 cA e1 z1 o1 _ hN => ?_
  have hc := va_nm_byte (hK.2 2 _ rfl).2
  obtain rfl : G.2 2 = cA := Option.some.inj (hc.symm.trans hN)
  exact kk H1 e1 z1 o1
theorem m_newN (hx : p.tables.exec = Jvm.exec) (hb : c.code = cc) {G : gG} (hK : KK G s) (harr : (Cond.arrayClass .int).before args s = true) {n h : Nat} (hn : n < 2 ^ 20) (hh : H.size = h) (hcells : cells + 1 ≤ R.cells) (hslots : slots + n ≤ R.slots) (hdg : decode cc pc = .ok (.newarray .int, 2))
    (kk : ∀ H1 : Heap, H1[h]? = some (aN G n (fun _ => 0)) → H1.size = h + 1 → (∀ q, q < h → H1[q]? = H[q]?) → W p l e R s m args below meth c H1 locs (cells + 1) (slots + n) Q (F0 m (pc + 2) ls (.ref h :: rest))) : W p l e R s m args below meth c H locs cells slots Q (F0 m pc ls (.int (nI n) :: rest)) := by
  refine va_newaK (g := F0 m pc ls (.int (nI n) :: rest)) hx hb (atype := .int) harr rfl hdg rfl (nI_nn (by omega)) (nI_clamp (by omega)) (show n * 4 ≤ 536870912 by omega) hcells hslots hh fun H1 cA e1 z1 o1 _ hN => ?_
  have hc := va_nm_int (hK.2 4 _ rfl).2
  obtain rfl : G.2 4 = cA := Option.some.inj (hc.symm.trans hN)
  exact kk H1 e1 z1 o1
theorem aR_congr (G : gG) {n : Nat} {f : Nat → Value} {g : Nat → Nat} (h : ∀ j, j < n → f j = .ref (g j)) : arrV (G.2 3) n f = aR G n g := by
  unfold aR arrV
  congr 1
  apply Array.ext
  · simp
  · intro i h1 h2
    have hi : i < n := by simpa using h1
    simp [h i hi]
/-- an array of n arrays of k longs -/
theorem m_mna (hx : p.tables.exec = Jvm.exec) (hb : c.code = cc) {G : gG} (hK : KK G s) {own : String} {index : Nat} (hown : s.vm.findClass own = some m.cls) (hclink : (Cond.classLink own index "[[J").before args s = true) (hover : (Cond.arrayOver (.array .long)).before args s = true) (harr : (Cond.arrayClass .long).before args s = true) {n k h : Nat} (hn : n < 2 ^ 20) (hk : k < 2 ^ 20) (hh : H.size = h) (hcells : cells + (1 + n) ≤ R.cells) (hslots : slots + (n + n * k) ≤ R.slots) (hdg : decode cc pc = .ok (.multianewarray index 2, 4))
    (kk : ∀ H1 : Heap, H1[h]? = some (aR G n (fun j => h + 1 + j)) → (∀ j, j < n → H1[h + 1 + j]? = some (aJ G k (fun _ => 0))) → H1.size = h + 1 + n → (∀ q, q < h → H1[q]? = H[q]?) → W p l e R s m args below meth c H1 locs (cells + 1 + n) (slots + n + n * k) Q (F0 m (pc + 4) ls (.ref h :: rest))) : W p l e R s m args below meth c H locs cells slots Q (F0 m pc ls (.int (nI k) :: .int (nI n) :: rest)) := by
  subst hh
  intro T hT X
  have hn0 : (nI n).toNatClampNeg = n := nI_clamp (by omega)
  have hk0 : (nI k).toNatClampNeg = k := nI_clamp (by omega)
  obtain ⟨vm₁, cA, comp, -, fA, fC, -, -, X', step⟩ := X.multianewarray2F hx (ty := .long) hown hclink hover harr (g := F0 m pc ls (.int (nI k) :: .int (nI n) :: rest)) rfl (by rw [hb]; exact hdg) rfl (nI_nn (by omega)) (nI_nn (by omega)) (by rw [hn0]; omega) (by rw [hk0]; show k * 8 ≤ 536870912; omega) (by rw [hk0]; omega) rfl rfl (by rw [hn0]; exact hcells) (by rw [hn0, hk0]; exact hslots)
  rw [hn0, hk0] at X' step
  have hc3 : s.vm.findClass "[[J" = some (G.2 3) := (hK.2 3 _ rfl).2
  have hc0 := va_nm_long (hK.2 0 _ rfl).2
  obtain rfl : G.2 3 = cA := Option.some.inj (hc3.symm.trans fA)
  obtain rfl : G.2 0 = comp := Option.some.inj (hc0.symm.trans fC)
  generalize hF : Jvm.Free.Multi.fill (T.setVm vm₁) (G.2 3) (G.2 0) n k (defaultValue .long) n = F at X' step
  have hTh : (T.setVm vm₁).heap = H := hT
  obtain ⟨f1, f2, -, -⟩ := Jvm.Free.Multi.fill_facts (T.setVm vm₁) (G.2 3) (G.2 0) n k (defaultValue .long) n
  rw [hF, hTh] at f1 f2
  have hold : ∀ x : Nat, x < H.size → F.heap[x]? = H[x]? := fun x hx => by
    have := Jvm.Free.Multi.fill_old (T.setVm vm₁) (G.2 3) (G.2 0) n k (defaultValue .long) (a := x) (by rw [hTh]; exact hx) n
    rw [hF, hTh] at this
    exact this
  have hrow : ∀ j : Nat, j < n → F.heap[H.size + 1 + j]? = some (aJ G k (fun _ => 0)) := fun j hj => by
    have := Jvm.Free.Multi.fill_inner (T.setVm vm₁) (G.2 3) (G.2 0) n k (defaultValue .long) n j hj
    rw [hF, hTh] at this
    rw [this]
    show some ({ cls := G.2 0, slots := Array.replicate k (.long 0), vm := .none } : Cell) = _
    rw [arrV_new]
    rfl
  have hout : F.heap[H.size]? = some (aR G n (fun j => H.size + 1 + j)) := by
    rw [f2, vr_outer]
    exact congrArg some (aR_congr G (fun j hj => by rw [if_pos hj]; rfl))
  obtain ⟨t, a, b⟩ := kk F.heap hout hrow (by rw [f1]) hold F rfl X'
  have hTs : T.heap.size = H.size := by rw [hT]
  rw [hTs] at step
  exact ⟨t, step _ a, b⟩
/-- a final field, in the constructor -/
theorem m_putF (hx : p.tables.exec = Jvm.exec) (hb : c.code = cc) {own C : String} {T : u_T} {N ci index : Nat} {Ts : List Cond} {G : gG} {b0 a : Nat} (hts : ∀ w ∈ Ts, w.before args s = true) (hin : ∀ w ∈ u_ws C T N, w ∈ Ts) (ty0 : Nat → FieldType) (hty : ∀ k, k < N → parseFieldDescriptor (T k).2.2.1 = some (ty0 k)) (hnm : ∀ a, a < N → ∀ b, b < N → a ≠ b → (T a).2.1 ≠ (T b).2.1) (hown : s.vm.findClass own = some m.cls) (hK : KK G s) {fs : List Value} (hO : OB G ci a fs H) (hc : vwCl[ci]? = some (C, T, N)) (k : Nat) (hk : k < N) (hlink : (Cond.fieldLink own index (T k).1 (T k).2.1 (T k).2.2.1).before args s = true) (hfin : (T k).2.2.2 = true) (hin2 : meth.name = "<init>") (hdecl : (T k).1 = own) {ty : FieldType} {v : Value} (hd : parseFieldDescriptor (T k).2.2.1 = some ty) (hn : narrow ty v = v) (hfit : fits ty v = true) (hl : k < fs.length) (hba : b0 ≤ a) (hLc : lcs b0 locs)
    (hdg : decode cc pc = .ok (.putfield index, 3)) (kk : ∀ (H1 : Heap) (locs1 : List Loc), OB G ci a (fs.set k v) H1 → H1.size = H.size → (∀ q, q ≠ a → H1[q]? = H[q]?) → lcs b0 locs1 → W p l e R s m args below meth c H1 locs1 cells slots Q (F0 m (pc + 3) ls rest)) : W p l e R s m args below meth c H locs cells slots Q (F0 m pc ls (v :: .ref a :: rest)) := by
  have hap := va_apart (own := own) hts hin ty0 hty hnm hK hc
  obtain ⟨r, h1, cell, q1, q2, q3, q4⟩ := hO 0 _ rfl
  have hr : r = (C, T, N) := Option.some.inj (h1.symm.trans hc)
  subst hr
  obtain ⟨hS, hfc, kC, hkC, hkind⟩ := hK.1 ci _ hc
  obtain ⟨cf, kf, fi, f, hi, hsl⟩ := hS k hk
  have hlay := hts _ (hin _ (u_in_lay hk))
  unfold u_lay at hlay
  rw [if_pos hfin] at hlay
  have hst := (u_facts hfc hkC (u_lays hts hin hk) hi).1
  have hcf : m.cls = cf := by
    obtain ⟨_, _, c', _, _, _, -, -, hf', -, -, -, hown2, -⟩ := Cond.laysFinal_spec hlay
    have e1 : c' = cf := by have := hi.symm.trans hf'; simp at this; exact this.1.symm
    rw [hdecl] at hown2
    rw [← e1]; exact Option.some.inj (hown.symm.trans hown2)
  have h6 := u_fits hfc hkC hkind (Or.inr hlay) hi hd hn hfit
  refine W.putFinK hx hb hown hlink hi hst hcf hin2 (by rw [q2]; exact h6) q1 q3 (by rw [hsl]; exact k2_hasslot (q4 k hk)) rfl rfl hdg fun H' e1 e2 e3 => ?_
  rw [hsl] at e1 ⊢
  refine kk H' _ (fun k9 q hk9 => ?_) e2 e3 (lcs_add hLc hba)
  have hz : k9 < 1 := (List.getElem?_eq_some_iff.mp hk9).1
  rw [show k9 = 0 by omega] at hk9
  cases hk9
  exact ⟨_, hc, t_OB.to (V := updV (vp_V fs) k v) ⟨_, e1, q2, q3, t_set q4 hap hk v⟩ (fun j _ => vp_updV_set hl v j)⟩
/-- a new object, its fields as they begin -/
theorem m_new (hx : p.tables.exec = Jvm.exec) (hb : c.code = cc) {own C : String} {T : u_T} {N ci index : Nat} {Ts : List Cond} {G : gG} {h : Nat} (hts : ∀ w ∈ Ts, w.before args s = true) (hin : ∀ w ∈ u_ws C T N, w ∈ Ts) (ty : Nat → FieldType) (hty : ∀ k, k < N → parseFieldDescriptor (T k).2.2.1 = some (ty k)) (hown : s.vm.findClass own = some m.cls) (hcl : (Cond.classLink own index C).before args s = true) (hinst : (Cond.instantiable C N).before args s = true) (hini : (Cond.initialized C).before args s = true) (hK : KK G s) (hc : vwCl[ci]? = some (C, T, N)) {fs : List Value} (hfs : ∀ j, j < N → defaultValue (ty j) = vp_V fs j) (hh : H.size = h) (hcells : cells + 1 ≤ R.cells) (hslots : slots + N ≤ R.slots) (hdg : decode cc pc = .ok (.new index, 3))
    (kk : ∀ H1 : Heap, OB G ci h fs H1 → H1.size = h + 1 → (∀ q, q < h → H1[q]? = H[q]?) → W p l e R s m args below meth c H1 locs (cells + 1) (slots + N) Q (F0 m (pc + 3) ls (.ref h :: rest))) : W p l e R s m args below meth c H locs cells slots Q (F0 m pc ls rest) := by
  have hKn := hK.1 ci _ hc
  refine W.newcK hx hb hown hcl hinst hini rfl hdg hcells hslots hKn.2.1 hh fun H1 kC hkC e1 z1 o1 => ?_
  refine kk H1 (fun k x hx9 => ?_) z1 o1
  have hz : k < 1 := (List.getElem?_eq_some_iff.mp hx9).1
  rw [show k = 0 by omega] at hx9
  cases hx9
  exact ⟨_, hc, (u_born ty hts hin hKn hkC e1 hty).to hfs⟩
/-- a start that knows the class of arrays of arrays -/
def PcA (G : gG) (H : Heap) (As : List Value) : Array Value → State → Prop := va_Pc As (fun U => U.heap = H ∧ KK G U ∧ (Cond.arrayOver (.array .long)).before #[] U = true)
theorem PcA_blind (G : gG) (H : Heap) (As : List Value) : FrameBlind (PcA G H As) := fun a U g mk q => by
  obtain ⟨q0, q1, q2, q3⟩ := q
  exact ⟨q0, q1, KK.moved (u := U) (U := U.calling g mk a) (Vm.Alike.refl U.vm) q2, over_moved (u := U) (E := U.calling g mk a) (Vm.Alike.refl U.vm) q3⟩
theorem mp_A {G : gG} {As : List Value} (hK : KK G s) (hov : (Cond.arrayOver (.array .long)).before args s = true) : PreS s H (PcA G H As) As := ⟨PcA_blind G H As, fun U hU hW => ⟨rfl, hU, KK.moved hW.alike hK, over_moved hW.alike hov⟩⟩
theorem m_enterA {y : MethodName} {ws ws' : List Cond} {rm : Room} {Qc : Array Value → State → Outcome → State → Prop} {mc ms : Nat} {free : Addr → Prop} {maxL : Nat} {ret : Option FieldType} {G : gG} {H : Heap} {As : List Value} {own : String}
    (hy : plainName y.cls = true) (ho : y.cls = own) (hw : ws = Cond.code y cc maxL ret :: ws') (hlen : (lg_sl As).length ≤ maxL)
    (body : ∀ (p : Program) (e : Env) (s : State) (m : MethodId) (below : List Frame) (meth : Method) (c : Code) (ls : Array Slot), FxM p s m As.toArray meth c G cc maxL ret own ws → meth.name = y.name → s.heap = H → lv_has ls maxL (lv_args 0 As) → (Cond.arrayOver (.array .long)).before As.toArray s = true →
      W p l e rm s m As.toArray below meth c H [] 0 0 (MQ below Qc As.toArray s mc ms free) (F0 m 0 ls [])) : Met l y ws rm (PcA G H As) Qc mc ms free := by
  refine Met.ofW (cc := cc) (maxL := maxL) (ret := ret) hy hw ?_
  intro p e s m args below meth c s₁ B hml hv
  subst ho
  obtain ⟨rfl, hH, hK, hov⟩ := hv
  have hl := lv_entry As (n := maxL) hlen
  rw [lg_entry_eq, hH]
  exact body p e s m below meth c _ ⟨B.exec, B.bytes, B.returns, hml, findClass_of_methodNamed B.named, atoms_spec (ws := ws) B.pre, B.notSynchronized, hK⟩ (name_of_methodNamed B.named B.method).1 hH hl (over_moved (Vm.Alike.refl s.vm) hov)
end RN
/-- where the arrays of a new object of the class lie -/
def adX (h : Nat) : Nat → Nat
  | 0 => h
  | 1 => h + 65
  | 2 => h + 66
  | 3 => h + 67
  | 4 => h + 68
  | 5 => h + 69
  | 6 => h + 70
  | j + 7 => h + 1 + j
theorem adX_eq (h i : Nat) : adX h i = if i = 0 then h else if i < 7 then h + 64 + i else h + (i - 6) := by
  match i with
  | 0 => rfl
  | 1 => rfl
  | 2 => rfl
  | 3 => rfl
  | 4 => rfl
  | 5 => rfl
  | 6 => rfl
  | j + 7 =>
    rw [if_neg (by omega), if_neg (by omega)]
    show h + 1 + j = _
    omega
theorem adX_inj {h i j : Nat} (hi : i < 71) (hj : j < 71) (e : adX h i = adX h j) : i = j := by
  rw [adX_eq, adX_eq] at e
  (repeat' split at e) <;> omega
theorem adX_ge (h i : Nat) : h ≤ adX h i := by
  rw [adX_eq]
  (repeat' split) <;> omega
/-- the start: the classes and the array classes -/
theorem KK_of {s : State} {args : Array Value} {D : va_G} (h1 : ∀ (k : Nat) (q : vw_C), vwCl[k]? = some q → u_Kn s q.1 q.2.1 q.2.2 (D.1 k) (D.2 k)) (hJ : (Cond.arrayClass .long).before args s = true) (hZ : (Cond.arrayClass .boolean).before args s = true) (hB : (Cond.arrayClass .byte).before args s = true) (hI : (Cond.arrayClass .int).before args s = true) (hO : (Cond.arrayOver (.array .long)).before args s = true) : ∃ G : gG, KK G s := by
  obtain ⟨c0, k0, m0, a0, b0, d0⟩ := Cond.arrayClass_spec hJ
  obtain ⟨c1, k1, m1, a1, b1, d1⟩ := Cond.arrayClass_spec hZ
  obtain ⟨c2, k2, m2, a2, b2, d2⟩ := Cond.arrayClass_spec hB
  obtain ⟨c4, k4, m4, a4, b4, d4⟩ := Cond.arrayClass_spec hI
  obtain ⟨m3, c3, k3, -, -, b3, d3, a3⟩ := arrayOverA_spec hO
  refine ⟨(D, fun i => if i = 0 then c0 else if i = 1 then c1 else if i = 2 then c2 else if i = 3 then c3 else c4), h1, ?_⟩
  intro k q hk
  match k, hk with
  | 0, hk => cases hk; exact ⟨fun N z => ⟨(fun q hq => by cases hq), k0, b0, m0, d0⟩, a0⟩
  | 1, hk => cases hk; exact ⟨fun N z => ⟨(fun q hq => by cases hq), k1, b1, m1, d1⟩, a1⟩
  | 2, hk => cases hk; exact ⟨fun N z => ⟨(fun q hq => by cases hq), k2, b2, m2, d2⟩, a2⟩
  | 3, hk => cases hk; exact ⟨fun N z => ⟨(fun q hq => by cases hq), k3, b3, m3, d3⟩, a3⟩
  | 4, hk => cases hk; exact ⟨fun N z => ⟨(fun q hq => by cases hq), k4, b4, m4, d4⟩, a4⟩
  | k + 5, hk => simp [tyG] at hk
theorem ne_ho {h o : Nat} (k : Nat) (ho : o < h) : h + k ≠ o := by omega
theorem lt_hh (h : Nat) {a b : Nat} (hab : a < b) : h + a < h + b := by omega
theorem ne_hh (h : Nat) {a b : Nat} (hab : a ≠ b) : h + a ≠ h + b := by omega
