def R_law : String := "ExactNumbersLaw"
def lw_P (b : Addr) (xs : List Int32) (args : Array Value) (s : State) : Prop := args = #[.ref b] ∧ s.IntsAt b xs ∧ xs.length ≤ 2560 ∧ (Jvm.Cond.and given_1 narrow_1).before args s = true
def lw_Q (_ : Array Value) (s : State) (o : Outcome) (t : State) : Prop := o = .returned (some (.int 1)) ∧ Framed s o t [] 600000 7302250
def lw_Z (below : List Frame) (a : Array Value) (s : State) : State → Prop := fun t => ∃ o, t.status = .running ∧ Ended t below o ∧ lw_Q a s o t
/-- the law's own end, with 1 on the stack, nothing written that was there before, its room as the claim has it -/
theorem lw_ret {p : Program} {l : Launch} {e : Env} {s : State} {m : MethodId} {below : List Frame} {meth : Method} {c : Code} {b : Nat} (hx : p.tables.exec = Jvm.exec) (hb : c.code = code) (hr : meth.sig.returnType = ret) (hlocks : meth.locks = false) {pc : Nat} {H : Heap} {ls : Array Slot} (hdg : decode code pc = .ok (.ireturn, 1)) : W p l e room_1 s m #[Value.ref b] below meth c H [] 600000 7302250 (lw_Z below #[Value.ref b] s) (F0 m pc ls [.int 1]) := by
  intro T hT X
  obtain ⟨fs, hret, hrun, hended, hW, hframe⟩ := X.leave (v := some (.int 1)) (hlocks := hlocks) (fun h => by rw [hr] at h; cases h)
  have hmeth' : T.vm.method? m = some meth := X.method'
  refine ⟨T.setFrames fs, ?_, .returned (some (.int 1)), hrun, hended, rfl, ⟨_, rfl⟩, hW, hframe⟩
  jvm_step X.here [X.here.top, hx, hb, hdg, hmeth', hr, ret, narrow_b1]
  (try refine ⟨rfl, ?_⟩); (try refine ⟨rfl, ?_⟩)
  first | (intro acts; rw [hret _ acts rfl rfl rfl]) | rw [hret _ _ rfl rfl rfl]
  exact Steps.refl _
/-- what holds at the law's entry: the machine, the code, the tables' words (any of lw_tbl by 'hts w (by decide +kernel)'), the script of L ints xs at the cell b, what the Statement gives of the start (any of its parts by flat_of_before) -/
def lw_At (p : Program) (s : State) (m : MethodId) (meth : Method) (c : Code) (b L : Nat) (xs : Nat → Int32) : Prop :=
  p.tables.exec = Jvm.exec ∧ c.code = code ∧ meth.sig.returnType = ret ∧ c.maxLocals = 4 ∧ s.vm.findClass R_law = some m.cls ∧ (∀ w ∈ lw_tbl, w.before #[Value.ref b] s = true) ∧ va_X b L xs s s.heap ∧ b < s.heap.size ∧ meth.locks = false ∧ (Jvm.Cond.and given_1 narrow_1).before #[Value.ref b] s = true

set_option maxRecDepth 100000 in
theorem gL_law_X1_init : GoodIn lw_tbl wsX1_init := goodIn_sub (by decide +kernel) (by decide +kernel)
set_option maxRecDepth 100000 in
theorem gL_law_M0_init : GoodIn lw_tbl wsM0_init := goodIn_sub (by decide +kernel) (by decide +kernel)
set_option maxRecDepth 100000 in
theorem gL_law_X1_set : GoodIn lw_tbl (wsV R_law 15 RX1 yX1_set wsX1_set) := goodIn_sub (by decide +kernel) (by decide +kernel)
set_option maxRecDepth 100000 in
theorem gL_law_M0_set : GoodIn lw_tbl (wsV R_law 19 RM0 yM0_set wsM0_set) := goodIn_sub (by decide +kernel) (by decide +kernel)
set_option maxRecDepth 100000 in
theorem gL_law_X1_digits : GoodIn lw_tbl (wsV R_law 20 RX1 yX1_digits wsX1_digits) := goodIn_sub (by decide +kernel) (by decide +kernel)
set_option maxRecDepth 100000 in
theorem gL_law_M0_digits : GoodIn lw_tbl (wsV R_law 24 RM0 yM0_digits wsM0_digits) := goodIn_sub (by decide +kernel) (by decide +kernel)
set_option maxRecDepth 100000 in
theorem gL_law_X1_read : GoodIn lw_tbl (wsV R_law 25 RX1 yX1_read wsX1_read) := goodIn_sub (by decide +kernel) (by decide +kernel)
set_option maxRecDepth 100000 in
theorem gL_law_M0_read : GoodIn lw_tbl (wsV R_law 29 RM0 yM0_read wsM0_read) := goodIn_sub (by decide +kernel) (by decide +kernel)
set_option maxRecDepth 100000 in
theorem gL_law_X1_work : GoodIn lw_tbl (wsV R_law 30 RX1 yX1_work wsX1_work) := goodIn_sub (by decide +kernel) (by decide +kernel)
set_option maxRecDepth 100000 in
theorem gL_law_M0_work : GoodIn lw_tbl (wsV R_law 34 RM0 yM0_work wsM0_work) := goodIn_sub (by decide +kernel) (by decide +kernel)
set_option maxRecDepth 100000 in
theorem gL_law_X1_shift : GoodIn lw_tbl (wsV R_law 35 RX1 yX1_shift wsX1_shift) := goodIn_sub (by decide +kernel) (by decide +kernel)
set_option maxRecDepth 100000 in
theorem gL_law_M0_shift : GoodIn lw_tbl (wsV R_law 39 RM0 yM0_shift wsM0_shift) := goodIn_sub (by decide +kernel) (by decide +kernel)
set_option maxRecDepth 100000 in
theorem gL_law_X1_turn : GoodIn lw_tbl (wsV R_law 40 RX1 yX1_turn wsX1_turn) := goodIn_sub (by decide +kernel) (by decide +kernel)
set_option maxRecDepth 100000 in
theorem gL_law_M0_turn : GoodIn lw_tbl (wsV R_law 44 RM0 yM0_turn wsM0_turn) := goodIn_sub (by decide +kernel) (by decide +kernel)
set_option maxRecDepth 100000 in
theorem gL_law_X1_compare : GoodIn lw_tbl (wsV R_law 45 RX1 yX1_compare wsX1_compare) := goodIn_sub (by decide +kernel) (by decide +kernel)
set_option maxRecDepth 100000 in
theorem gL_law_M0_compare : GoodIn lw_tbl (wsV R_law 48 RM0 yM0_compare wsM0_compare) := goodIn_sub (by decide +kernel) (by decide +kernel)
set_option maxRecDepth 100000 in
theorem gL_law_X1_bits : GoodIn lw_tbl (wsV R_law 49 RX1 yX1_bits wsX1_bits) := goodIn_sub (by decide +kernel) (by decide +kernel)
set_option maxRecDepth 100000 in
theorem gL_law_M0_bits : GoodIn lw_tbl (wsV R_law 53 RM0 yM0_bits wsM0_bits) := goodIn_sub (by decide +kernel) (by decide +kernel)
set_option maxRecDepth 100000 in
theorem gL_law_X1_fits : GoodIn lw_tbl (wsV R_law 54 RX1 yX1_fits wsX1_fits) := goodIn_sub (by decide +kernel) (by decide +kernel)
set_option maxRecDepth 100000 in
theorem gL_law_M0_fits : GoodIn lw_tbl (wsV R_law 58 RM0 yM0_fits wsM0_fits) := goodIn_sub (by decide +kernel) (by decide +kernel)
set_option maxRecDepth 100000 in
theorem gL_law_X1_cut : GoodIn lw_tbl (wsV R_law 59 RX1 yX1_cut wsX1_cut) := goodIn_sub (by decide +kernel) (by decide +kernel)
set_option maxRecDepth 100000 in
theorem gL_law_M0_cut : GoodIn lw_tbl (wsV R_law 63 RM0 yM0_cut wsM0_cut) := goodIn_sub (by decide +kernel) (by decide +kernel)
set_option maxRecDepth 100000 in
theorem gL_law_X1_write : GoodIn lw_tbl (wsV R_law 64 RX1 yX1_write wsX1_write) := goodIn_sub (by decide +kernel) (by decide +kernel)
set_option maxRecDepth 100000 in
theorem gL_law_M0_write : GoodIn lw_tbl (wsV R_law 67 RM0 yM0_write wsM0_write) := goodIn_sub (by decide +kernel) (by decide +kernel)
set_option maxRecDepth 100000 in
theorem gL_law_X1_byteOf : GoodIn lw_tbl (wsV R_law 68 RX1 yX1_byteOf wsX1_byteOf) := goodIn_sub (by decide +kernel) (by decide +kernel)
set_option maxRecDepth 100000 in
theorem gL_law_M0_byteOf : GoodIn lw_tbl (wsV R_law 71 RM0 yM0_byteOf wsM0_byteOf) := goodIn_sub (by decide +kernel) (by decide +kernel)
