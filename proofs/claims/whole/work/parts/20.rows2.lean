/-! ROWS, SECOND: int arrays by numbers; fields put; receivers -/
def aN (G : gG) (n : Nat) (f : Nat → Nat) : Cell := arrV (G.2 4) n (fun j => .int (nI (f j)))
theorem aN_congr (G : gG) {n : Nat} {f g : Nat → Nat} (h : ∀ j, j < n → f j = g j) : aN G n f = aN G n g := by
  unfold aN arrV
  congr 1
  apply Array.ext
  · simp
  · intro i h1 h2
    have hi : i < n := by simpa using h1
    simp [h i hi]
section RW3
variable {p : Program} {l : Launch} {e : Env} {R : Room} {s : State} {m : MethodId} {args : Array Value} {below : List Frame} {meth : Method} {c : Code} {H : Heap} {locs : List Loc} {cells slots : Nat} {Q : State → Prop}
variable {cc : ByteArray} {pc : Nat} {ls : Array Slot} {rest : List Value}
theorem m_nald (hx : p.tables.exec = Jvm.exec) (hb : c.code = cc) {G : gG} (hK : KK G s) {a n i : Nat} {f : Nat → Nat} (ha : H[a]? = some (aN G n f)) (hi : i < n) (hn : n < 2 ^ 31) (hdg : decode cc pc = .ok (.iaload, 1)) (k : W p l e R s m args below meth c H locs cells slots Q (F0 m (pc + 1) ls (.int (nI (f i)) :: rest))) : W p l e R s m args below meth c H locs cells slots Q (F0 m pc ls (.int (nI i) :: .ref a :: rest)) := W.iald (v := .int (nI (f i))) hx hb ha ((hK.2 4 _ rfl).1 n (fun j => .int (nI (f j)))) (fun q => by cases q) (by show ¬ ((nI i) < 0 ∨ (arrV _ _ _).slots.size ≤ _); rw [arrV_size]; exact nI_in hi hn) (by show (arrV _ _ _).slots[_]? = _; rw [nI_clamp (Nat.lt_trans hi hn), arrV_read _ _ hi]) rfl rfl hdg k
theorem m_nast (hx : p.tables.exec = Jvm.exec) (hb : c.code = cc) {G : gG} (hK : KK G s) {b0 a n i x : Nat} {f : Nat → Nat} (ha : H[a]? = some (aN G n f)) (hi : i < n) (hn : n < 2 ^ 31) (hba : b0 ≤ a) (hLc : lcs b0 locs) (hdg : decode cc pc = .ok (.iastore, 1)) (k : ∀ locs : List Loc, lcs b0 locs → W p l e R s m args below meth c (hput H a (aN G n (fup f i x))) locs cells slots Q (F0 m (pc + 1) ls rest)) : W p l e R s m args below meth c H locs cells slots Q (F0 m pc ls (.int (nI x) :: .int (nI i) :: .ref a :: rest)) := by
  refine W.iast hx hb ha ((hK.2 4 _ rfl).1 n (fun j => .int (nI (f j)))) (fun q => by cases q) (by show ¬ ((nI i) < 0 ∨ (arrV _ _ _).slots.size ≤ _); rw [arrV_size]; exact nI_in hi hn) rfl rfl hdg fun H1 e1 z1 oq => ?_
  rw [nI_clamp (Nat.lt_trans hi hn)] at e1 ⊢
  have he : H1 = hput H a (aN G n (fup f i x)) := hput_of (by rw [e1]; unfold aN; rw [arrV_store, updV_N]) z1 oq
  rw [he]
  exact k _ (lcs_add hLc hba)
theorem m_alenN (hx : p.tables.exec = Jvm.exec) (hb : c.code = cc) {G : gG} (hK : KK G s) {a n : Nat} {f : Nat → Nat} (ha : H[a]? = some (aN G n f)) (hdg : decode cc pc = .ok (.arraylength, 1)) (k : W p l e R s m args below meth c H locs cells slots Q (F0 m (pc + 1) ls (.int (nI n) :: rest))) : W p l e R s m args below meth c H locs cells slots Q (F0 m pc ls (.ref a :: rest)) := W.alen (n := nI n) hx hb ha ((hK.2 4 _ rfl).1 n (fun j => .int (nI (f j)))) (by unfold aN; rw [arrV_size]; rfl) rfl rfl hdg k
/-- an object's fields -/
def OB (G : gG) (ci o : Nat) (fs : List Value) (H : Heap) : Prop := va_P G.1 vwCl [(o, .inr (ci, fs))] H
theorem OB.kept {G : gG} {ci o : Nat} {fs : List Value} {H H1 : Heap} (h : OB G ci o fs H) (hq : H1[o]? = H[o]?) : OB G ci o fs H1 := va_P.kept h (fun k q hk => by
  have hz : k < 1 := (List.getElem?_eq_some_iff.mp hk).1
  rw [show k = 0 by omega] at hk
  cases hk
  exact hq)
theorem OB.lt {G : gG} {ci o : Nat} {fs : List Value} {H : Heap} (h : OB G ci o fs H) : o < H.size := (h 0 _ rfl).lt
theorem m_put (hx : p.tables.exec = Jvm.exec) (hb : c.code = cc) {own C : String} {T : u_T} {N ci index : Nat} {Ts : List Cond} {G : gG} {b0 a : Nat} (hts : ∀ w ∈ Ts, w.before args s = true) (hin : ∀ w ∈ u_ws C T N, w ∈ Ts) (ty0 : Nat → FieldType) (hty : ∀ k, k < N → parseFieldDescriptor (T k).2.2.1 = some (ty0 k)) (hnm : ∀ a, a < N → ∀ b, b < N → a ≠ b → (T a).2.1 ≠ (T b).2.1) (hown : s.vm.findClass own = some m.cls) (hK : KK G s) {fs : List Value} (hO : OB G ci a fs H) (hc : vwCl[ci]? = some (C, T, N)) (k : Nat) (hk : k < N) (hlink : (Cond.fieldLink own index (T k).1 (T k).2.1 (T k).2.2.1).before args s = true) (hfin : (T k).2.2.2 = false) {ty : FieldType} {v : Value} (hd : parseFieldDescriptor (T k).2.2.1 = some ty) (hn : narrow ty v = v) (hfit : fits ty v = true) (hl : k < fs.length) (hba : b0 ≤ a) (hLc : lcs b0 locs)
    (hdg : decode cc pc = .ok (.putfield index, 3)) (kk : ∀ (H1 : Heap) (locs1 : List Loc), OB G ci a (fs.set k v) H1 → H1.size = H.size → (∀ q, q ≠ a → H1[q]? = H[q]?) → lcs b0 locs1 → W p l e R s m args below meth c H1 locs1 cells slots Q (F0 m (pc + 3) ls rest)) : W p l e R s m args below meth c H locs cells slots Q (F0 m pc ls (v :: .ref a :: rest)) := by
  have hap := va_apart (own := own) hts hin ty0 hty hnm hK hc
  have hO0 := hO
  obtain ⟨r, h1, cell, q1, q2, q3, q4⟩ := hO 0 _ rfl
  have hr : r = (C, T, N) := Option.some.inj (h1.symm.trans hc)
  subst hr
  obtain ⟨hS, hfc, kC, hkC, hkind⟩ := hK.1 ci _ hc
  obtain ⟨cf, kf, fi, f, hi, hsl⟩ := hS k hk
  have hlay := hts _ (hin _ (u_in_lay hk))
  unfold u_lay at hlay
  rw [if_neg (by rw [hfin]; decide)] at hlay
  have hst := (u_facts hfc hkC (u_lays hts hin hk) hi).1
  have h6 := u_store hfc hkC hkind hlay hi hd hn hfit
  refine W.putK hx hb (f := f) ⟨hown, hlink, ⟨_, _, _, hi⟩, hst⟩ (by rw [q2]; exact h6) q1 q3 (by rw [hsl]; exact k2_hasslot (q4 k hk)) rfl rfl hdg fun H' e1 e2 e3 => ?_
  rw [hsl] at e1 ⊢
  refine kk H' _ (fun k9 q hk9 => ?_) e2 e3 (lcs_add hLc hba)
  have hz : k9 < 1 := (List.getElem?_eq_some_iff.mp hk9).1
  rw [show k9 = 0 by omega] at hk9
  cases hk9
  exact ⟨_, hc, t_OB.to (V := updV (vp_V fs) k v) ⟨_, e1, q2, q3, t_set q4 hap hk v⟩ (fun j _ => vp_updV_set hl v j)⟩
theorem mp_V {G : gG} {ci o : Nat} {fs : List Value} {As : List Value} {r : vw_C} (hK : KK G s) (hO : OB G ci o fs H) (hc : vwCl[ci]? = some r) : PreV s H r.1 o (PcH G H (.ref o :: As)) As := ⟨PcH_blind G H _, va_recv hK hO hc (q0 := 0) rfl, fun U hU hW => ⟨rfl, hU, KK.moved hW.alike hK⟩⟩
end RW3
