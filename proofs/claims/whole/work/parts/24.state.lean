/-! THE STATE of an object: its fields, and its arrays at addresses ad 0, ad 1 ..; what else there is, is as it was in H0 -/
def WO (G : gG) (b0 ci o K : Nat) (ad : Nat → Nat) (H0 : Heap) (fs : List Value) (cl : Nat → Cell) (H : Heap) : Prop :=
  OB G ci o fs H ∧ (∀ i, i < K → H[ad i]? = some (cl i)) ∧ (∀ i j, i < K → j < K → ad i = ad j → i = j) ∧ (∀ i, i < K → ad i ≠ o ∧ b0 ≤ ad i) ∧ b0 ≤ o ∧ H.size = H0.size ∧ ∀ q, q ≠ o → (∀ i, i < K → q ≠ ad i) → H[q]? = H0[q]?
section WOS
variable {G : gG} {b0 ci o K : Nat} {ad : Nat → Nat} {H0 H : Heap} {fs : List Value} {cl : Nat → Cell}
theorem WO.ob (h : WO G b0 ci o K ad H0 fs cl H) : OB G ci o fs H := h.1
theorem WO.get (h : WO G b0 ci o K ad H0 fs cl H) (i : Nat) (hi : i < K) : H[ad i]? = some (cl i) := h.2.1 i hi
theorem WO.ne (h : WO G b0 ci o K ad H0 fs cl H) {i j : Nat} (hi : i < K) (hj : j < K) (hij : i ≠ j) : ad i ≠ ad j := fun e => hij (h.2.2.1 i j hi hj e)
theorem WO.b (h : WO G b0 ci o K ad H0 fs cl H) (i : Nat) (hi : i < K) : b0 ≤ ad i := (h.2.2.2.1 i hi).2
theorem WO.bo (h : WO G b0 ci o K ad H0 fs cl H) : b0 ≤ o := h.2.2.2.2.1
theorem WO.fr (h : WO G b0 ci o K ad H0 fs cl H) : ∀ q, q ≠ o → (∀ i, i < K → q ≠ ad i) → H[q]? = H0[q]? := h.2.2.2.2.2.2
theorem WO.sz (h : WO G b0 ci o K ad H0 fs cl H) : H.size = H0.size := h.2.2.2.2.2.1
theorem WO.rf (h : WO G b0 ci o K ad H0 fs cl H) : WO G b0 ci o K ad H fs cl H := ⟨h.1, h.2.1, h.2.2.1, h.2.2.2.1, h.2.2.2.2.1, rfl, fun _ _ _ => rfl⟩
theorem WO.congr {cl' : Nat → Cell} (h : WO G b0 ci o K ad H0 fs cl H) (he : ∀ i, i < K → cl i = cl' i) : WO G b0 ci o K ad H0 fs cl' H := ⟨h.1, fun i hi => (h.2.1 i hi).trans (congrArg some (he i hi)), h.2.2⟩
theorem WO.put (h : WO G b0 ci o K ad H0 fs cl H) (i : Nat) (hi : i < K) (x : Cell) : WO G b0 ci o K ad H0 fs (fup cl i x) (hput H (ad i) x) := by
  obtain ⟨h1, h2, h3, h4, h5, h6, h7⟩ := h
  refine ⟨h1.kept (hput_ne _ (h4 i hi).1.symm), fun j hj => ?_, h3, h4, h5, by rw [hput_size]; exact h6, fun q g1 g2 => by rw [hput_ne _ (g2 i hi)]; exact h7 q g1 g2⟩
  by_cases e : j = i
  · subst e
    rw [fup_s, hput_self _ (lt_of_at (h2 j hj))]
  · rw [fup_n _ _ e, hput_ne _ (fun z => e (h3 j i hj hi z))]
    exact h2 j hj
theorem WO.fld {fs' : List Value} {H1 : Heap} (h : WO G b0 ci o K ad H0 fs cl H) (hO : OB G ci o fs' H1) (hs : H1.size = H.size) (hq : ∀ q, q ≠ o → H1[q]? = H[q]?) : WO G b0 ci o K ad H0 fs' cl H1 := by
  obtain ⟨h1, h2, h3, h4, h5, h6, h7⟩ := h
  exact ⟨hO, fun j hj => by rw [hq _ (h4 j hj).1]; exact h2 j hj, h3, h4, h5, hs.trans h6, fun q g1 g2 => by rw [hq q g1]; exact h7 q g1 g2⟩
/-- the same object, later: someone else's cells have changed -/
theorem WO.later {H1 : Heap} (h : WO G b0 ci o K ad H0 fs cl H) (ho : H1[o]? = H[o]?) (ha : ∀ i, i < K → H1[ad i]? = H[ad i]?) : WO G b0 ci o K ad H1 fs cl H1 := ⟨h.1.kept ho, fun i hi => (ha i hi).trans (h.2.1 i hi), h.2.2.1, h.2.2.2.1, h.2.2.2.2.1, rfl, fun _ _ _ => rfl⟩
theorem WO.lt (h : WO G b0 ci o K ad H0 fs cl H) (i : Nat) (hi : i < K) : ad i < H.size := lt_of_at (h.get i hi)
end WOS

def clX (G : gG) (ad : Nat → Nat) (sz : Nat → Nat → Nat) (bl : Nat → Nat) (dv : Nat → Nat) (dc : Nat) (wr : Nat → Nat) (wf : Nat) (f1 : Nat → Nat) (f2 : Nat → Nat) (fw : Nat → Nat) : Nat → Cell
  | 0 => aR G 64 (fun i => ad (i + 7))
  | 1 => aZ G 64 bl
  | 2 => aB G 1008 dv
  | 3 => aB G 513 wr
  | 4 => aJ G 17 f1
  | 5 => aJ G 17 f2
  | 6 => aJ G 32 fw
  | i + 7 => aJ G 16 (sz i)
def fsX (ad : Nat → Nat) (sz : Nat → Nat → Nat) (bl : Nat → Nat) (dv : Nat → Nat) (dc : Nat) (wr : Nat → Nat) (wf : Nat) (f1 : Nat → Nat) (f2 : Nat → Nat) (fw : Nat → Nat) : List Value := [.ref (ad 0), .ref (ad 1), .ref (ad 2), .int (nI dc), .ref (ad 3), .int (nI wf), .ref (ad 4), .ref (ad 5), .ref (ad 6)]
def SX (G : gG) (b0 o : Nat) (ad : Nat → Nat) (H0 : Heap) (sz : Nat → Nat → Nat) (bl : Nat → Nat) (dv : Nat → Nat) (dc : Nat) (wr : Nat → Nat) (wf : Nat) (f1 : Nat → Nat) (f2 : Nat → Nat) (fw : Nat → Nat) (H : Heap) : Prop := WO G b0 0 o 71 ad H0 (fsX ad sz bl dv dc wr wf f1 f2 fw) (clX G ad sz bl dv dc wr wf f1 f2 fw) H
section SXS
variable {G : gG} {b0 o : Nat} {ad : Nat → Nat} {H0 H : Heap} {sz : Nat → Nat → Nat} {bl : Nat → Nat} {dv : Nat → Nat} {dc : Nat} {wr : Nat → Nat} {wf : Nat} {f1 : Nat → Nat} {f2 : Nat → Nat} {fw : Nat → Nat}
theorem SX.w (h : SX G b0 o ad H0 sz bl dv dc wr wf f1 f2 fw H) : WO G b0 0 o 71 ad H0 (fsX ad sz bl dv dc wr wf f1 f2 fw) (clX G ad sz bl dv dc wr wf f1 f2 fw) H := h
theorem SX.rf (h : SX G b0 o ad H0 sz bl dv dc wr wf f1 f2 fw H) : SX G b0 o ad H sz bl dv dc wr wf f1 f2 fw H := WO.rf h
theorem SX.p_bl (h : SX G b0 o ad H0 sz bl dv dc wr wf f1 f2 fw H) (x : Nat → Nat) : SX G b0 o ad H0 sz x dv dc wr wf f1 f2 fw (hput H (ad 1) (aZ G 64 x)) := (WO.put h 1 (by decide) (aZ G 64 x)).congr (fun i hi => by
  unfold fup
  by_cases e : i = 1
  · subst e; rfl
  · rw [if_neg e]
    unfold clX
    split <;> first | exact absurd rfl e | rfl)
theorem SX.p_dv (h : SX G b0 o ad H0 sz bl dv dc wr wf f1 f2 fw H) (x : Nat → Nat) : SX G b0 o ad H0 sz bl x dc wr wf f1 f2 fw (hput H (ad 2) (aB G 1008 x)) := (WO.put h 2 (by decide) (aB G 1008 x)).congr (fun i hi => by
  unfold fup
  by_cases e : i = 2
  · subst e; rfl
  · rw [if_neg e]
    unfold clX
    split <;> first | exact absurd rfl e | rfl)
theorem SX.p_wr (h : SX G b0 o ad H0 sz bl dv dc wr wf f1 f2 fw H) (x : Nat → Nat) : SX G b0 o ad H0 sz bl dv dc x wf f1 f2 fw (hput H (ad 3) (aB G 513 x)) := (WO.put h 3 (by decide) (aB G 513 x)).congr (fun i hi => by
  unfold fup
  by_cases e : i = 3
  · subst e; rfl
  · rw [if_neg e]
    unfold clX
    split <;> first | exact absurd rfl e | rfl)
theorem SX.p_f1 (h : SX G b0 o ad H0 sz bl dv dc wr wf f1 f2 fw H) (x : Nat → Nat) : SX G b0 o ad H0 sz bl dv dc wr wf x f2 fw (hput H (ad 4) (aJ G 17 x)) := (WO.put h 4 (by decide) (aJ G 17 x)).congr (fun i hi => by
  unfold fup
  by_cases e : i = 4
  · subst e; rfl
  · rw [if_neg e]
    unfold clX
    split <;> first | exact absurd rfl e | rfl)
theorem SX.p_f2 (h : SX G b0 o ad H0 sz bl dv dc wr wf f1 f2 fw H) (x : Nat → Nat) : SX G b0 o ad H0 sz bl dv dc wr wf f1 x fw (hput H (ad 5) (aJ G 17 x)) := (WO.put h 5 (by decide) (aJ G 17 x)).congr (fun i hi => by
  unfold fup
  by_cases e : i = 5
  · subst e; rfl
  · rw [if_neg e]
    unfold clX
    split <;> first | exact absurd rfl e | rfl)
theorem SX.p_fw (h : SX G b0 o ad H0 sz bl dv dc wr wf f1 f2 fw H) (x : Nat → Nat) : SX G b0 o ad H0 sz bl dv dc wr wf f1 f2 x (hput H (ad 6) (aJ G 32 x)) := (WO.put h 6 (by decide) (aJ G 32 x)).congr (fun i hi => by
  unfold fup
  by_cases e : i = 6
  · subst e; rfl
  · rw [if_neg e]
    unfold clX
    split <;> first | exact absurd rfl e | rfl)
theorem SX.p_sz (h : SX G b0 o ad H0 sz bl dv dc wr wf f1 f2 fw H) {k : Nat} (hk : k < 64) (x : Nat → Nat) : SX G b0 o ad H0 (fup sz k x) bl dv dc wr wf f1 f2 fw (hput H (ad (k + 7)) (aJ G 16 x)) := (WO.put h (k + 7) (by omega) (aJ G 16 x)).congr (fun i hi => by
  by_cases e : i = k + 7
  · subst e
    rw [fup_s]
    show _ = aJ G 16 (fup sz k x k)
    rw [fup_s]
  · rw [fup_n _ _ e]
    unfold clX
    split <;> first | (rw [fup_n _ _ (by omega)]) | rfl)
theorem SX.f_dc {H1 : Heap} {x : Nat} (h : SX G b0 o ad H0 sz bl dv dc wr wf f1 f2 fw H) (hO : OB G 0 o ((fsX ad sz bl dv dc wr wf f1 f2 fw).set 3 (.int (nI x))) H1) (hs : H1.size = H.size) (hq : ∀ q, q ≠ o → H1[q]? = H[q]?) : SX G b0 o ad H0 sz bl dv x wr wf f1 f2 fw H1 := WO.fld h hO hs hq
theorem SX.f_wf {H1 : Heap} {x : Nat} (h : SX G b0 o ad H0 sz bl dv dc wr wf f1 f2 fw H) (hO : OB G 0 o ((fsX ad sz bl dv dc wr wf f1 f2 fw).set 5 (.int (nI x))) H1) (hs : H1.size = H.size) (hq : ∀ q, q ≠ o → H1[q]? = H[q]?) : SX G b0 o ad H0 sz bl dv dc wr x f1 f2 fw H1 := WO.fld h hO hs hq
end SXS

def clM (G : gG) (ad : Nat → Nat) (th : Nat) (dg : Nat → Nat) (bw : Nat → Nat) (lm : Nat → Nat) (lf : Nat → Nat) (rt : Nat → Nat) (ou : Nat → Nat) (rs : Nat → Nat) (lb : Nat) (rb : Nat) (ob : Nat) (bL : Nat → Nat) (bR : Nat → Nat) (td : Nat) (tp : Nat → Nat) (wn : Nat) (tx : Nat → Nat) : Nat → Cell
  | 0 => aN G 10240 dg
  | 1 => aZ G 64 bw
  | 2 => aN G 330 lm
  | 3 => aN G 330 lf
  | 4 => aN G 330 rt
  | 5 => aN G 330 ou
  | 6 => aN G 330 rs
  | 7 => aN G 514 bL
  | 8 => aN G 514 bR
  | 9 => aN G 1000 tp
  | 10 => aN G 520 tx
  | _ => aN G 0 (fun _ => 0)
def fsM (ad : Nat → Nat) (th : Nat) (dg : Nat → Nat) (bw : Nat → Nat) (lm : Nat → Nat) (lf : Nat → Nat) (rt : Nat → Nat) (ou : Nat → Nat) (rs : Nat → Nat) (lb : Nat) (rb : Nat) (ob : Nat) (bL : Nat → Nat) (bR : Nat → Nat) (td : Nat) (tp : Nat → Nat) (wn : Nat) (tx : Nat → Nat) : List Value := [.int (nI th), .ref (ad 0), .ref (ad 1), .ref (ad 2), .ref (ad 3), .ref (ad 4), .ref (ad 5), .ref (ad 6), .int (nI lb), .int (nI rb), .int (nI ob), .ref (ad 7), .ref (ad 8), .int (nI td), .ref (ad 9), .int (nI wn), .ref (ad 10)]
def SM (G : gG) (b0 o : Nat) (ad : Nat → Nat) (H0 : Heap) (th : Nat) (dg : Nat → Nat) (bw : Nat → Nat) (lm : Nat → Nat) (lf : Nat → Nat) (rt : Nat → Nat) (ou : Nat → Nat) (rs : Nat → Nat) (lb : Nat) (rb : Nat) (ob : Nat) (bL : Nat → Nat) (bR : Nat → Nat) (td : Nat) (tp : Nat → Nat) (wn : Nat) (tx : Nat → Nat) (H : Heap) : Prop := WO G b0 1 o 11 ad H0 (fsM ad th dg bw lm lf rt ou rs lb rb ob bL bR td tp wn tx) (clM G ad th dg bw lm lf rt ou rs lb rb ob bL bR td tp wn tx) H
section SMS
variable {G : gG} {b0 o : Nat} {ad : Nat → Nat} {H0 H : Heap} {th : Nat} {dg : Nat → Nat} {bw : Nat → Nat} {lm : Nat → Nat} {lf : Nat → Nat} {rt : Nat → Nat} {ou : Nat → Nat} {rs : Nat → Nat} {lb : Nat} {rb : Nat} {ob : Nat} {bL : Nat → Nat} {bR : Nat → Nat} {td : Nat} {tp : Nat → Nat} {wn : Nat} {tx : Nat → Nat}
theorem SM.w (h : SM G b0 o ad H0 th dg bw lm lf rt ou rs lb rb ob bL bR td tp wn tx H) : WO G b0 1 o 11 ad H0 (fsM ad th dg bw lm lf rt ou rs lb rb ob bL bR td tp wn tx) (clM G ad th dg bw lm lf rt ou rs lb rb ob bL bR td tp wn tx) H := h
theorem SM.rf (h : SM G b0 o ad H0 th dg bw lm lf rt ou rs lb rb ob bL bR td tp wn tx H) : SM G b0 o ad H th dg bw lm lf rt ou rs lb rb ob bL bR td tp wn tx H := WO.rf h
theorem SM.p_dg (h : SM G b0 o ad H0 th dg bw lm lf rt ou rs lb rb ob bL bR td tp wn tx H) (x : Nat → Nat) : SM G b0 o ad H0 th x bw lm lf rt ou rs lb rb ob bL bR td tp wn tx (hput H (ad 0) (aN G 10240 x)) := (WO.put h 0 (by decide) (aN G 10240 x)).congr (fun i hi => by
  unfold fup
  by_cases e : i = 0
  · subst e; rfl
  · rw [if_neg e]
    unfold clM
    split <;> first | exact absurd rfl e | rfl)
theorem SM.p_bw (h : SM G b0 o ad H0 th dg bw lm lf rt ou rs lb rb ob bL bR td tp wn tx H) (x : Nat → Nat) : SM G b0 o ad H0 th dg x lm lf rt ou rs lb rb ob bL bR td tp wn tx (hput H (ad 1) (aZ G 64 x)) := (WO.put h 1 (by decide) (aZ G 64 x)).congr (fun i hi => by
  unfold fup
  by_cases e : i = 1
  · subst e; rfl
  · rw [if_neg e]
    unfold clM
    split <;> first | exact absurd rfl e | rfl)
theorem SM.p_lm (h : SM G b0 o ad H0 th dg bw lm lf rt ou rs lb rb ob bL bR td tp wn tx H) (x : Nat → Nat) : SM G b0 o ad H0 th dg bw x lf rt ou rs lb rb ob bL bR td tp wn tx (hput H (ad 2) (aN G 330 x)) := (WO.put h 2 (by decide) (aN G 330 x)).congr (fun i hi => by
  unfold fup
  by_cases e : i = 2
  · subst e; rfl
  · rw [if_neg e]
    unfold clM
    split <;> first | exact absurd rfl e | rfl)
theorem SM.p_lf (h : SM G b0 o ad H0 th dg bw lm lf rt ou rs lb rb ob bL bR td tp wn tx H) (x : Nat → Nat) : SM G b0 o ad H0 th dg bw lm x rt ou rs lb rb ob bL bR td tp wn tx (hput H (ad 3) (aN G 330 x)) := (WO.put h 3 (by decide) (aN G 330 x)).congr (fun i hi => by
  unfold fup
  by_cases e : i = 3
  · subst e; rfl
  · rw [if_neg e]
    unfold clM
    split <;> first | exact absurd rfl e | rfl)
theorem SM.p_rt (h : SM G b0 o ad H0 th dg bw lm lf rt ou rs lb rb ob bL bR td tp wn tx H) (x : Nat → Nat) : SM G b0 o ad H0 th dg bw lm lf x ou rs lb rb ob bL bR td tp wn tx (hput H (ad 4) (aN G 330 x)) := (WO.put h 4 (by decide) (aN G 330 x)).congr (fun i hi => by
  unfold fup
  by_cases e : i = 4
  · subst e; rfl
  · rw [if_neg e]
    unfold clM
    split <;> first | exact absurd rfl e | rfl)
theorem SM.p_ou (h : SM G b0 o ad H0 th dg bw lm lf rt ou rs lb rb ob bL bR td tp wn tx H) (x : Nat → Nat) : SM G b0 o ad H0 th dg bw lm lf rt x rs lb rb ob bL bR td tp wn tx (hput H (ad 5) (aN G 330 x)) := (WO.put h 5 (by decide) (aN G 330 x)).congr (fun i hi => by
  unfold fup
  by_cases e : i = 5
  · subst e; rfl
  · rw [if_neg e]
    unfold clM
    split <;> first | exact absurd rfl e | rfl)
theorem SM.p_rs (h : SM G b0 o ad H0 th dg bw lm lf rt ou rs lb rb ob bL bR td tp wn tx H) (x : Nat → Nat) : SM G b0 o ad H0 th dg bw lm lf rt ou x lb rb ob bL bR td tp wn tx (hput H (ad 6) (aN G 330 x)) := (WO.put h 6 (by decide) (aN G 330 x)).congr (fun i hi => by
  unfold fup
  by_cases e : i = 6
  · subst e; rfl
  · rw [if_neg e]
    unfold clM
    split <;> first | exact absurd rfl e | rfl)
theorem SM.p_bL (h : SM G b0 o ad H0 th dg bw lm lf rt ou rs lb rb ob bL bR td tp wn tx H) (x : Nat → Nat) : SM G b0 o ad H0 th dg bw lm lf rt ou rs lb rb ob x bR td tp wn tx (hput H (ad 7) (aN G 514 x)) := (WO.put h 7 (by decide) (aN G 514 x)).congr (fun i hi => by
  unfold fup
  by_cases e : i = 7
  · subst e; rfl
  · rw [if_neg e]
    unfold clM
    split <;> first | exact absurd rfl e | rfl)
theorem SM.p_bR (h : SM G b0 o ad H0 th dg bw lm lf rt ou rs lb rb ob bL bR td tp wn tx H) (x : Nat → Nat) : SM G b0 o ad H0 th dg bw lm lf rt ou rs lb rb ob bL x td tp wn tx (hput H (ad 8) (aN G 514 x)) := (WO.put h 8 (by decide) (aN G 514 x)).congr (fun i hi => by
  unfold fup
  by_cases e : i = 8
  · subst e; rfl
  · rw [if_neg e]
    unfold clM
    split <;> first | exact absurd rfl e | rfl)
theorem SM.p_tp (h : SM G b0 o ad H0 th dg bw lm lf rt ou rs lb rb ob bL bR td tp wn tx H) (x : Nat → Nat) : SM G b0 o ad H0 th dg bw lm lf rt ou rs lb rb ob bL bR td x wn tx (hput H (ad 9) (aN G 1000 x)) := (WO.put h 9 (by decide) (aN G 1000 x)).congr (fun i hi => by
  unfold fup
  by_cases e : i = 9
  · subst e; rfl
  · rw [if_neg e]
    unfold clM
    split <;> first | exact absurd rfl e | rfl)
theorem SM.p_tx (h : SM G b0 o ad H0 th dg bw lm lf rt ou rs lb rb ob bL bR td tp wn tx H) (x : Nat → Nat) : SM G b0 o ad H0 th dg bw lm lf rt ou rs lb rb ob bL bR td tp wn x (hput H (ad 10) (aN G 520 x)) := (WO.put h 10 (by decide) (aN G 520 x)).congr (fun i hi => by
  unfold fup
  by_cases e : i = 10
  · subst e; rfl
  · rw [if_neg e]
    unfold clM
    split <;> first | exact absurd rfl e | rfl)
theorem SM.f_th {H1 : Heap} {x : Nat} (h : SM G b0 o ad H0 th dg bw lm lf rt ou rs lb rb ob bL bR td tp wn tx H) (hO : OB G 1 o ((fsM ad th dg bw lm lf rt ou rs lb rb ob bL bR td tp wn tx).set 0 (.int (nI x))) H1) (hs : H1.size = H.size) (hq : ∀ q, q ≠ o → H1[q]? = H[q]?) : SM G b0 o ad H0 x dg bw lm lf rt ou rs lb rb ob bL bR td tp wn tx H1 := WO.fld h hO hs hq
theorem SM.f_lb {H1 : Heap} {x : Nat} (h : SM G b0 o ad H0 th dg bw lm lf rt ou rs lb rb ob bL bR td tp wn tx H) (hO : OB G 1 o ((fsM ad th dg bw lm lf rt ou rs lb rb ob bL bR td tp wn tx).set 8 (.int (nI x))) H1) (hs : H1.size = H.size) (hq : ∀ q, q ≠ o → H1[q]? = H[q]?) : SM G b0 o ad H0 th dg bw lm lf rt ou rs x rb ob bL bR td tp wn tx H1 := WO.fld h hO hs hq
theorem SM.f_rb {H1 : Heap} {x : Nat} (h : SM G b0 o ad H0 th dg bw lm lf rt ou rs lb rb ob bL bR td tp wn tx H) (hO : OB G 1 o ((fsM ad th dg bw lm lf rt ou rs lb rb ob bL bR td tp wn tx).set 9 (.int (nI x))) H1) (hs : H1.size = H.size) (hq : ∀ q, q ≠ o → H1[q]? = H[q]?) : SM G b0 o ad H0 th dg bw lm lf rt ou rs lb x ob bL bR td tp wn tx H1 := WO.fld h hO hs hq
theorem SM.f_ob {H1 : Heap} {x : Nat} (h : SM G b0 o ad H0 th dg bw lm lf rt ou rs lb rb ob bL bR td tp wn tx H) (hO : OB G 1 o ((fsM ad th dg bw lm lf rt ou rs lb rb ob bL bR td tp wn tx).set 10 (.int (nI x))) H1) (hs : H1.size = H.size) (hq : ∀ q, q ≠ o → H1[q]? = H[q]?) : SM G b0 o ad H0 th dg bw lm lf rt ou rs lb rb x bL bR td tp wn tx H1 := WO.fld h hO hs hq
theorem SM.f_td {H1 : Heap} {x : Nat} (h : SM G b0 o ad H0 th dg bw lm lf rt ou rs lb rb ob bL bR td tp wn tx H) (hO : OB G 1 o ((fsM ad th dg bw lm lf rt ou rs lb rb ob bL bR td tp wn tx).set 13 (.int (nI x))) H1) (hs : H1.size = H.size) (hq : ∀ q, q ≠ o → H1[q]? = H[q]?) : SM G b0 o ad H0 th dg bw lm lf rt ou rs lb rb ob bL bR x tp wn tx H1 := WO.fld h hO hs hq
theorem SM.f_wn {H1 : Heap} {x : Nat} (h : SM G b0 o ad H0 th dg bw lm lf rt ou rs lb rb ob bL bR td tp wn tx H) (hO : OB G 1 o ((fsM ad th dg bw lm lf rt ou rs lb rb ob bL bR td tp wn tx).set 15 (.int (nI x))) H1) (hs : H1.size = H.size) (hq : ∀ q, q ≠ o → H1[q]? = H[q]?) : SM G b0 o ad H0 th dg bw lm lf rt ou rs lb rb ob bL bR td tp x tx H1 := WO.fld h hO hs hq
end SMS

theorem hwsX1_init : ∀ w ∈ wsX10, w ∈ wsX1_init := fun w h => List.mem_cons_of_mem _ (List.mem_append_right _ h)
theorem hwsX1_store : ∀ w ∈ wsX10, w ∈ wsX1_store := fun w h => List.mem_cons_of_mem _ (List.mem_append_right _ h)
theorem hwsX1_set : ∀ w ∈ wsX10, w ∈ wsX1_set := fun w h => List.mem_cons_of_mem _ (List.mem_append_right _ h)
theorem hwsX1_digits : ∀ w ∈ wsX10, w ∈ wsX1_digits := fun w h => List.mem_cons_of_mem _ (List.mem_append_right _ h)
theorem hwsX1_areDigitsOf : ∀ w ∈ wsX10, w ∈ wsX1_areDigitsOf := fun w h => List.mem_cons_of_mem _ (List.mem_append_right _ h)
theorem hwsX1_read : ∀ w ∈ wsX10, w ∈ wsX1_read := fun w h => List.mem_cons_of_mem _ (List.mem_append_right _ h)
theorem hwsX1_sum : ∀ w ∈ wsX10, w ∈ wsX1_sum := fun w h => List.mem_cons_of_mem _ (List.mem_append_right _ h)
theorem hwsX1_quotientOrRest : ∀ w ∈ wsX10, w ∈ wsX1_quotientOrRest := fun w h => List.mem_cons_of_mem _ (List.mem_append_right _ h)
theorem hwsX1_signedCopy : ∀ w ∈ wsX10, w ∈ wsX1_signedCopy := fun w h => List.mem_cons_of_mem _ (List.mem_append_right _ h)
theorem hwsX1_bitByBit : ∀ w ∈ wsX10, w ∈ wsX1_bitByBit := fun w h => List.mem_cons_of_mem _ (List.mem_append_right _ h)
theorem hwsX1_work : ∀ w ∈ wsX10, w ∈ wsX1_work := fun w h => List.mem_cons_of_mem _ (List.mem_append_right _ h)
theorem hwsX1_shift : ∀ w ∈ wsX10, w ∈ wsX1_shift := fun w h => List.mem_cons_of_mem _ (List.mem_append_right _ h)
theorem hwsX1_turn : ∀ w ∈ wsX10, w ∈ wsX1_turn := fun w h => List.mem_cons_of_mem _ (List.mem_append_right _ h)
theorem hwsX1_compare : ∀ w ∈ wsX10, w ∈ wsX1_compare := fun w h => List.mem_cons_of_mem _ (List.mem_append_right _ h)
theorem hwsX1_bits : ∀ w ∈ wsX10, w ∈ wsX1_bits := fun w h => List.mem_cons_of_mem _ (List.mem_append_right _ h)
theorem hwsX1_fits : ∀ w ∈ wsX10, w ∈ wsX1_fits := fun w h => List.mem_cons_of_mem _ (List.mem_append_right _ h)
theorem hwsX1_cut : ∀ w ∈ wsX10, w ∈ wsX1_cut := fun w h => List.mem_cons_of_mem _ (List.mem_append_right _ h)
theorem hwsX1_put : ∀ w ∈ wsX10, w ∈ wsX1_put := fun w h => List.mem_cons_of_mem _ (List.mem_append_right _ h)
theorem hwsX1_putGroup : ∀ w ∈ wsX10, w ∈ wsX1_putGroup := fun w h => List.mem_cons_of_mem _ (List.mem_append_right _ h)
theorem hwsX1_write : ∀ w ∈ wsX10, w ∈ wsX1_write := fun w h => List.mem_cons_of_mem _ (List.mem_append_right _ h)
theorem hwsX1_byteOf : ∀ w ∈ wsX10, w ∈ wsX1_byteOf := fun w h => List.mem_cons_of_mem _ (List.mem_append_right _ h)
theorem hwsM0_init : ∀ w ∈ wsM00, w ∈ wsM0_init := fun w h => List.mem_cons_of_mem _ (List.mem_append_right _ h)
theorem hwsM0_keep : ∀ w ∈ wsM00, w ∈ wsM0_keep := fun w h => List.mem_cons_of_mem _ (List.mem_append_right _ h)
theorem hwsM0_set : ∀ w ∈ wsM00, w ∈ wsM0_set := fun w h => List.mem_cons_of_mem _ (List.mem_append_right _ h)
theorem hwsM0_digits : ∀ w ∈ wsM00, w ∈ wsM0_digits := fun w h => List.mem_cons_of_mem _ (List.mem_append_right _ h)
theorem hwsM0_read : ∀ w ∈ wsM00, w ∈ wsM0_read := fun w h => List.mem_cons_of_mem _ (List.mem_append_right _ h)
theorem hwsM0_load : ∀ w ∈ wsM00, w ∈ wsM0_load := fun w h => List.mem_cons_of_mem _ (List.mem_append_right _ h)
theorem hwsM0_loadBoth : ∀ w ∈ wsM00, w ∈ wsM0_loadBoth := fun w h => List.mem_cons_of_mem _ (List.mem_append_right _ h)
theorem hwsM0_sum : ∀ w ∈ wsM00, w ∈ wsM0_sum := fun w h => List.mem_cons_of_mem _ (List.mem_append_right _ h)
theorem hwsM0_times : ∀ w ∈ wsM00, w ∈ wsM0_times := fun w h => List.mem_cons_of_mem _ (List.mem_append_right _ h)
theorem hwsM0_divide : ∀ w ∈ wsM00, w ∈ wsM0_divide := fun w h => List.mem_cons_of_mem _ (List.mem_append_right _ h)
theorem hwsM0_toBits : ∀ w ∈ wsM00, w ∈ wsM0_toBits := fun w h => List.mem_cons_of_mem _ (List.mem_append_right _ h)
theorem hwsM0_fromBits : ∀ w ∈ wsM00, w ∈ wsM0_fromBits := fun w h => List.mem_cons_of_mem _ (List.mem_append_right _ h)
theorem hwsM0_bitwise : ∀ w ∈ wsM00, w ∈ wsM0_bitwise := fun w h => List.mem_cons_of_mem _ (List.mem_append_right _ h)
theorem hwsM0_work : ∀ w ∈ wsM00, w ∈ wsM0_work := fun w h => List.mem_cons_of_mem _ (List.mem_append_right _ h)
theorem hwsM0_shift : ∀ w ∈ wsM00, w ∈ wsM0_shift := fun w h => List.mem_cons_of_mem _ (List.mem_append_right _ h)
theorem hwsM0_turn : ∀ w ∈ wsM00, w ∈ wsM0_turn := fun w h => List.mem_cons_of_mem _ (List.mem_append_right _ h)
theorem hwsM0_compare : ∀ w ∈ wsM00, w ∈ wsM0_compare := fun w h => List.mem_cons_of_mem _ (List.mem_append_right _ h)
theorem hwsM0_bits : ∀ w ∈ wsM00, w ∈ wsM0_bits := fun w h => List.mem_cons_of_mem _ (List.mem_append_right _ h)
theorem hwsM0_fits : ∀ w ∈ wsM00, w ∈ wsM0_fits := fun w h => List.mem_cons_of_mem _ (List.mem_append_right _ h)
theorem hwsM0_cut : ∀ w ∈ wsM00, w ∈ wsM0_cut := fun w h => List.mem_cons_of_mem _ (List.mem_append_right _ h)
theorem hwsM0_write : ∀ w ∈ wsM00, w ∈ wsM0_write := fun w h => List.mem_cons_of_mem _ (List.mem_append_right _ h)
theorem hwsM0_byteOf : ∀ w ∈ wsM00, w ∈ wsM0_byteOf := fun w h => List.mem_cons_of_mem _ (List.mem_append_right _ h)
