/-! THE CLAIM OUT OF ONE WALK OF THE LAW'S BODY. Your part is whole_start (and what it stands on); all else here is the same for every law, but numbers. -/
def R_law : String := "LadderSignsLaw"
def lw_P (b : Addr) (xs : List Int32) (args : Array Value) (s : State) : Prop := args = #[.ref b] ∧ s.IntsAt b xs ∧ xs.length ≤ 2560 ∧ (Jvm.Cond.and given_1 narrow_1).before args s = true
def lw_Q (_ : Array Value) (s : State) (o : Outcome) (t : State) : Prop := o = .returned (some (.int 1)) ∧ Framed s o t [] 600000 7302250
def lw_Z (below : List Frame) (a : Array Value) (s : State) : State → Prop := fun t => ∃ o, t.status = .running ∧ Ended t below o ∧ lw_Q a s o t
/-- the law's own end, with 1 on the stack, nothing written that was there before, its room as the claim has it -/
theorem lw_ret {p : Program} {l : Launch} {e : Env} {s : State} {m : MethodId} {below : List Frame} {meth : Method} {c : Code} {b : Nat} (hx : p.tables.exec = Jvm.exec) (hb : c.code = code) (hr : meth.sig.returnType = ret) (hlocks : meth.locks = false) {pc : Nat} {H : Heap} {ls : Array Slot} (hdg : decode code pc = .ok (.ireturn, 1)) : W p l e room_1 s m #[Value.ref b] below meth c H [] 600000 7302250 (lw_Z below #[Value.ref b] s) (F0 m pc ls [.int 1]) := by
  intro T hT X
  obtain ⟨fs, hret, hrun, hended, hW, hframe⟩ := X.leave (v := some (.int 1)) (hlocks := hlocks) (fun h => by rw [hr] at h; cases h)
  have hmeth' : T.vm.method? m = some meth := X.method'
  refine ⟨T.setFrames fs, ?_, .returned (some (.int 1)), hrun, hended, rfl, ⟨_, rfl⟩, hW, hframe⟩
  jvm_step X.here [X.here.top, hx, hb, hdg, hmeth', hr, ret, narrow_b1]
  (try refine ⟨rfl, ?_⟩); (try refine ⟨rfl, ?_⟩)
  first | (intro acts; rw [hret _ acts rfl rfl rfl]) | rw [hret _ _ rfl rfl rfl]
  exact Steps.refl _
/-- what holds at the law's entry: the machine, the code, the tables' words (any of lw_tbl by 'hts w (by decide +kernel)'), the script of L ints xs at the cell b, what the Statement gives of the start (any of its parts by flat_of_before) -/
def lw_At (p : Program) (s : State) (m : MethodId) (meth : Method) (c : Code) (b L : Nat) (xs : Nat → Int32) : Prop :=
  p.tables.exec = Jvm.exec ∧ c.code = code ∧ meth.sig.returnType = ret ∧ c.maxLocals = 4 ∧ s.vm.findClass R_law = some m.cls ∧ (∀ w ∈ lw_tbl, w.before #[Value.ref b] s = true) ∧ va_X b L xs s s.heap ∧ b < s.heap.size ∧ meth.locks = false ∧ (Jvm.Cond.and given_1 narrow_1).before #[Value.ref b] s = true
theorem tn_0 : Cond.methodLinkNest RX9 18 yX7_init "LadderSigns" ∈ lw_tbl := List.mem_of_getElem? (i := 87) (by decide +kernel)
theorem tn_1 : Cond.methodLinkNest RX9 45 yX4_init "LadderSigns" ∈ lw_tbl := List.mem_of_getElem? (i := 144) (by decide +kernel)
theorem tn_2 : Cond.methodLinkNest RX9 68 yX5_init "LadderSigns" ∈ lw_tbl := List.mem_of_getElem? (i := 312) (by decide +kernel)
theorem tn_3 : Cond.methodLinkNest RX9 94 yX3_init "LadderSigns" ∈ lw_tbl := List.mem_of_getElem? (i := 375) (by decide +kernel)
theorem tn_4 : Cond.methodLinkNest RX0 9 yX3_init "LadderSigns" ∈ lw_tbl := List.mem_of_getElem? (i := 166) (by decide +kernel)
theorem tn_5 : Cond.methodLinkNest RX6 34 yX3_init "LadderSigns" ∈ lw_tbl := List.mem_of_getElem? (i := 336) (by decide +kernel)
theorem tn_6 : Cond.arrayOver (.object "LadderSigns$Point") ∈ lw_tbl := List.mem_of_getElem? (i := 188) (by decide +kernel)
theorem tn_7 : Cond.arrayOver (.array .long) ∈ lw_tbl := List.mem_of_getElem? (i := 84) (by decide +kernel)
theorem w_nw {args : Array Value} {s : State} (hts : ∀ w ∈ lw_tbl, w.before args s = true) : zNw s :=
  ⟨va_Nw.of rfl (hts _ tn_0), va_Nw.of rfl (hts _ tn_1), va_Nw.of rfl (hts _ tn_2), va_Nw.of rfl (hts _ tn_3), va_Nw.of rfl (hts _ tn_4), va_Nw.of rfl (hts _ tn_5), va_AO.of (hts _ tn_6), hts _ tn_7⟩
theorem w_prim {args : Array Value} {s : State} {ty : FieldType} (h : (Cond.arrayClass ty).before args s = true) : ∃ cA : ClassId, ArrOfT s cA ty ∧ s.vm.findClass ("[" ++ ty.toString) = some cA := by
  obtain ⟨cA, kA, comp, h1, h2, h3⟩ := Cond.arrayClass_spec h
  exact ⟨cA, fun n z => ⟨fun k h => (by cases h), kA, h2, comp, h3⟩, h1⟩
/-- the array classes -/
theorem w_arr {args : Array Value} {s : State} (hts : ∀ w ∈ lw_tbl, w.before args s = true) : ∃ kc : Nat → ClassId, (ArrOfT s (kc 0) .long ∧ va_RA s (kc 0) .long) ∧ (ArrOfT s (kc 1) .int ∧ va_RA s (kc 1) .int) ∧ (ArrOfT s (kc 2) .byte ∧ va_RA s (kc 2) .byte) ∧ (ArrOfT s (kc 3) (.array .long) ∧ va_RA s (kc 3) (.array .long)) ∧ (ArrOfT s (kc 4) (.object "LadderSigns$Point") ∧ va_RA s (kc 4) (.object "LadderSigns$Point")) := by
  obtain ⟨c0, a0, b0⟩ := w_prim (hts _ (tb_all _ mw_1_14))
  obtain ⟨c1, a1, b1⟩ := w_prim (hts _ (tb_all _ mw_9_4))
  obtain ⟨c2, a2, b2⟩ := w_prim (hts _ (tb_all _ mw_3_11))
  obtain ⟨comp3, c3, k3, -, -, h31, h32, h33⟩ := arrayOverA_spec (hts _ tn_7)
  obtain ⟨comp4, c4, k4, h40, -, h41, h42, h43⟩ := Cond.arrayOver_spec (hts _ tn_6)
  refine ⟨fun k => [c0, c1, c2, c3, c4].getD k 0, ⟨a0, b0⟩, ⟨a1, b1⟩, ⟨a2, b2⟩, ⟨fun n z => ⟨fun k h => (by cases h), k3, h31, comp3, h32⟩, h33⟩, ⟨fun n z => ⟨fun k h => (by cases h), k4, h41, comp4, h42⟩, ?_⟩⟩
  exact ⟨k4, comp4, h41, h42, h40, h43⟩
/-- the classes -/
theorem w_cls {args : Array Value} {s : State} (hts : ∀ w ∈ lw_tbl, w.before args s = true) : ∃ D : va_G, ∀ (c : Nat) (q : vw_C), vwCl[c]? = some q → u_Kn s q.1 q.2.1 q.2.2 (D.1 c) (D.2 c) := by
  obtain ⟨cX0, iX0, kX0⟩ := u_known (C := RX0) (T := TX0) (N := 14) (n := 14) hts (fun w hw => tb_all w (inlX0 w hw)) (hts _ (tb_all _ mw_2_9))
  obtain ⟨cX1, iX1, kX1⟩ := u_known (C := RX1) (T := TX1) (N := 8) (n := 8) hts (fun w hw => tb_all w (inlX1 w hw)) (hts _ (tb_all _ mw_2_1))
  obtain ⟨cX2, iX2, kX2⟩ := u_known (C := RX2) (T := TX2) (N := 11) (n := 11) hts (fun w hw => tb_all w (inlX2 w hw)) (hts _ (tb_all _ mw_2_13))
  obtain ⟨cX3, iX3, kX3⟩ := u_known (C := RX3) (T := TX3) (N := 4) (n := 4) hts (fun w hw => tb_all w (inlX3 w hw)) (hts _ (tb_all _ mw_3_4))
  obtain ⟨cX4, iX4, kX4⟩ := u_known (C := RX4) (T := TX4) (N := 3) (n := 3) hts (fun w hw => tb_all w (inlX4 w hw)) (hts _ (tb_all _ mw_2_5))
  obtain ⟨cX5, iX5, kX5⟩ := u_known (C := RX5) (T := TX5) (N := 4) (n := 4) hts (fun w hw => tb_all w (inlX5 w hw)) (hts _ (tb_all _ mw_2_17))
  obtain ⟨cX6, iX6, kX6⟩ := u_known (C := RX6) (T := TX6) (N := 12) (n := 12) hts (fun w hw => tb_all w (inlX6 w hw)) (hts _ (tb_all _ mw_2_21))
  obtain ⟨cX7, iX7, kX7⟩ := u_known (C := RX7) (T := TX7) (N := 2) (n := 2) hts (fun w hw => tb_all w (inlX7 w hw)) (hts _ (tb_all _ mw_1_17))
  obtain ⟨cX9, iX9, kX9⟩ := u_known (C := RX9) (T := TX9) (N := 17) (n := 17) hts (fun w hw => tb_all w (inlX9 w hw)) (hts _ (tb_all _ mw_1_1))
  obtain ⟨cX10, iX10, kX10⟩ := u_known (C := RX10) (T := TX10) (N := 23) (n := 23) hts (fun w hw => tb_all w (inlX10 w hw)) (hts _ (tb_all _ mw_1_4))
  refine ⟨(fun k => [cX0, cX1, cX2, cX3, cX4, cX5, cX6, cX7, cX9, cX10].getD k 0, fun k => [iX0, iX1, iX2, iX3, iX4, iX5, iX6, iX7, iX9, iX10].getD k (fun _ => 0)), fun c q hq => ?_⟩
  match c, hq with
  | 0, hq => cases hq; exact kX0
  | 1, hq => cases hq; exact kX1
  | 2, hq => cases hq; exact kX2
  | 3, hq => cases hq; exact kX3
  | 4, hq => cases hq; exact kX4
  | 5, hq => cases hq; exact kX5
  | 6, hq => cases hq; exact kX6
  | 7, hq => cases hq; exact kX7
  | 8, hq => cases hq; exact kX9
  | 9, hq => cases hq; exact kX10
  | k + 10, hq => cases hq
/-- the static rows -/
def nwL : List Cond := flatC (Cond.and given_1 narrow_1)
def sT (id : Nat) : Term := Term.static (soX id).1 (soX id).2 "[J"
theorem st_l : ∀ id, id < 11 → lw_tbl[([567, 515, 548, 110, 579, 614, 197, 204, 206, 759, 774] : List Nat).getD id 0]? = some (Cond.laysStatic (soX id).1 (soX id).2 "[J") := by decide +kernel
theorem st_i : ∀ id, id < 11 → lw_tbl[([64, 64, 64, 64, 65, 65, 66, 66, 66, 70, 70] : List Nat).getD id 0]? = some (Cond.initialized (soX id).1) := by decide +kernel
theorem st_a : ∀ id, id < 11 → Cond.arrayOf (sT id) .long ∈ nwL ∧ Cond.eq (.length (sT id)) (.int (Int32.ofNat (lnX id))) ∈ nwL := by decide +kernel
theorem st_e : ∀ id, id < 11 → ∀ j, j < lnX id → Cond.eq (.elem (sT id) (.int (Int32.ofNat j))) (.long (svX id j)) ∈ nwL := by decide +kernel
theorem st_n : ∀ id, id < 11 → lnX id < 2 ^ 31 := by decide +kernel
theorem w_stat {args : Array Value} {s : State} (hts : ∀ w ∈ lw_tbl, w.before args s = true) (hv : (Jvm.Cond.and given_1 narrow_1).before args s = true) (A : Nat → Prop) (hA : ∀ a : Nat, a < s.heap.size → ¬ A a) : ∃ sa : Nat → Nat, ∀ id, id < 11 → va_T .long (sa id) (lnX id) (fun j => .long (svX id j)) A s s.heap ∧ va_Z (soX id).1 (soX id).2 "[J" (.ref (sa id)) A s s.heap := by
  have hs := flat_of_before _ hv
  have h : ∀ id, ∃ t : Nat, id < 11 → va_T .long t (lnX id) (fun j => .long (svX id j)) A s s.heap ∧ va_Z (soX id).1 (soX id).2 "[J" (.ref t) A s s.heap := fun id => by
    by_cases hi : id < 11
    · obtain ⟨t, ht, hT⟩ := va_Tof (tm := sT id) (f := fun j => .long (svX id j)) (A := A) (st_n id hi) (hs _ (st_a id hi).1) (va_eqt (hs _ (st_a id hi).2)) (fun j hj => va_eqtl (hs _ (st_e id hi j hj))) hA
      exact ⟨t, fun _ => ⟨hT, va_Zref (hts _ (List.mem_of_getElem? (st_l id hi))) (hts _ (List.mem_of_getElem? (st_i id hi))) ht hA⟩⟩
    · exact ⟨0, fun q => absurd q hi⟩
  exact ⟨fun id => Classical.choose (h id), fun id hi => Classical.choose_spec (h id) hi⟩
