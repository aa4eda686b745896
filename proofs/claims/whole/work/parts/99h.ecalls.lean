/-! calls beside a world: methods, constructors -/
theorem e_run {p : Program} {l : Launch} {e : Env} {R : Room} {s : State} {m : MethodId} {args : Array Value} {below : List Frame} {meth : Method} {c : Code} {Q : State → Prop} {nL cells slots bc ns : Nat} {A : Nat → Prop} {w : zWl} {X : va_W} {pc : Nat} {lv : Nat → Option Value} {st rest : List Value} {σ : zSt} {H : Heap} {locs : List Loc} {ls : Array Slot} {Po : Option Value → zSt → Prop} {a : Array Value}
    (hr : va_Run p l e R s m args below meth c H locs bc ns 0 0 (F0 m pc ls st) rest (zQc w Po a) (zA w)) (hP : zPX w σ X A H) (hz : H.size = s.heap.size + bc) (hS : va_S A s.heap H locs) (hl : zh ls nL lv)
    (k : ∀ (v : Option Value) (σ' : zSt), Po v σ' → zJX (p, l, e, R, s, m, args, below, meth, c, Q, nL, cells, slots, A) w X bc ns (pc + 3) lv (v.toList ++ rest) σ') : W p l e R s m args below meth c H locs bc ns Q (F0 m pc ls st) := by
  intro T hT X0
  obtain ⟨v, st₀, t, T', L, h0, X', hL, e1, e2, ⟨⟨v', σ', hv, hp, hwd⟩, hz1, hk⟩, stp⟩ := hr T hT X0
  cases hv
  rw [h0] at hz1 hk
  have hsz := X'.heapSize
  rw [e1] at hsz
  obtain ⟨t2, a1, b1⟩ := k v σ' hp T'.heap (locs ++ L) ls (by rw [e1]; exact hP.call hwd.2.2 hk) (by rw [e1]; omega)
    ⟨Nat.le_trans hS.1 (by rw [e1]; exact hz1), fun q h1 h2 => by rw [e1, hk q (Nat.lt_of_lt_of_le h1 hS.1) (fun z => h2 (hP.inA z))]; exact hS.2.1 q h1 h2, fun q hq => by
      rcases List.mem_append.mp hq with h | h
      · exact hS.2.2 q h
      · exact hP.inA (hL q h)⟩ hl T' rfl X'
  exact ⟨t2, stp t2 a1, b1⟩
theorem zT.sub {A B : Nat → Prop} {w : zWl} {U : State} {H : Heap} (h : zT A w U H) (hAB : ∀ q, B q → A q) : zT B w U H := h.narrow hAB
theorem e_callV {κ : zK} {l : Launch} {w : zWl} {X : va_W} {bc ns K0 : Nat} {cc : ByteArray} {own : String} {rm : Room} {nL : Nat} (C : zCX κ l w cc own rm nL K0) {pc : Nat} {lv : Nat → Option Value} {st : List Value} {σ : zSt} {index id n mL : Nat} {y : MethodName} {cy : ByteArray} {ret : Option FieldType} {ry : Room} {As rest : List Value} {Po : Option Value → zSt → Prop} {T : u_T} {N : Nat} (hd : decode cc pc = .ok (.invokevirtual index, 3)) (hM : zM l y cy mL ret ry w (.ref (zad w id) :: As) σ Po) (hY : zYV y cy mL ret n) (hlk : Cond.methodLink own index y ∈ wsL_law) (hkd : zkd w id = 5) (hcl : w.2.1[(zob w id).1]? = some (y.cls, T, N)) (hs : zns w ≤ id) (hn : id < zn w) (hA : As.length = n) (hst : st = As.reverse ++ .ref (zad w id) :: rest) (hcat : (rest.map fun v => v.category).sum ≤ 8) (hR : ry.cells = 0 ∧ ry.slots = 0 ∧ ry.frames + 1 ≤ rm.frames ∧ 8 + (mL + 11) + ry.locals ≤ rm.locals) (hcs : bc ≤ rm.cells ∧ ns ≤ rm.slots)
    (k : ∀ (v : Option Value) (σ' : zSt), Po v σ' → zJX κ w X bc ns (pc + 3) lv (v.toList ++ rest) σ') : zJX κ w X bc ns pc lv st σ := by
  obtain ⟨p, l1, e, R, s, m, args, below, meth, c, Q, nL, cells, slots, A⟩ := κ
  intro H locs ls hP hz hS hl
  obtain ⟨hx, hb, hml, hown, hts, hK, hT, hAA, rfl, rfl, rfl, hsz, hnw⟩ := C
  subst hst
  obtain ⟨⟨hcode, hini, hdesc⟩, hin, hsel⟩ := hY
  have he := zl_at w σ hs hn
  rw [zE_ob hkd] at he
  have cw : CallW R s args own y.cls index y cy mL ret (.code y cy mL ret :: wsL_law) ry 0 0 n := ⟨callB_of n hts (zGood hcode) rfl hR.1 hR.2.1 (hts _ hini) (hts _ hlk) hdesc ⟨hR.2.2.1, hR.2.2.2⟩, hts _ hin, hts _ hsel⟩
  refine e_run (va_runV (As := As) (rest := rest) (b := zad w id) (C := y.cls) ⟨hx, hb, hml, hown, hts⟩ hM cw ⟨zPc_blind, va_recv hK hP.P.1 hcl he, fun U hU hW => ⟨rfl, ?_⟩⟩ rfl hA hl.1 rfl (lv_room hcat) hd ⟨by have := hcs.1; omega, by have := hcs.2; omega⟩) hP hz hS hl k
  rw [hU]
  exact ⟨hK.moved hW.alike, ((hT.kept hS).narrow (fun q hq => hP.inA hq)).moved hW.alike, hP.P⟩
theorem e_callV0 {κ : zK} {l : Launch} {w : zWl} {X : va_W} {bc ns K0 : Nat} {cc : ByteArray} {own : String} {rm : Room} {nL : Nat} (C : zCX κ l w cc own rm nL K0) {pc : Nat} {lv : Nat → Option Value} {st : List Value} {σ : zSt} {index id n mL : Nat} {y : MethodName} {cy : ByteArray} {ret : Option FieldType} {ry : Room} {As rest : List Value} {σ' : zSt} {T : u_T} {N : Nat} (hd : decode cc pc = .ok (.invokevirtual index, 3)) (hM : zM l y cy mL ret ry w (.ref (zad w id) :: As) σ (zV0 σ')) (hY : zYV y cy mL ret n) (hlk : Cond.methodLink own index y ∈ wsL_law) (hkd : zkd w id = 5) (hcl : w.2.1[(zob w id).1]? = some (y.cls, T, N)) (hs : zns w ≤ id) (hn : id < zn w) (hA : As.length = n) (hst : st = As.reverse ++ .ref (zad w id) :: rest) (hcat : (rest.map fun v => v.category).sum ≤ 8) (hR : ry.cells = 0 ∧ ry.slots = 0 ∧ ry.frames + 1 ≤ rm.frames ∧ 8 + (mL + 11) + ry.locals ≤ rm.locals) (hcs : bc ≤ rm.cells ∧ ns ≤ rm.slots)
    (k : zJX κ w X bc ns (pc + 3) lv rest σ') : zJX κ w X bc ns pc lv st σ := e_callV C hd hM hY hlk hkd hcl hs hn hA hst hcat hR hcs (fun v t q => by obtain ⟨rfl, rfl⟩ := q; exact k)
theorem e_callV1 {κ : zK} {l : Launch} {w : zWl} {X : va_W} {bc ns K0 : Nat} {cc : ByteArray} {own : String} {rm : Room} {nL : Nat} (C : zCX κ l w cc own rm nL K0) {pc : Nat} {lv : Nat → Option Value} {st : List Value} {σ : zSt} {index id n mL : Nat} {y : MethodName} {cy : ByteArray} {ret : Option FieldType} {ry : Room} {As rest : List Value} {σ' : zSt} {r : Value} {T : u_T} {N : Nat} (hd : decode cc pc = .ok (.invokevirtual index, 3)) (hM : zM l y cy mL ret ry w (.ref (zad w id) :: As) σ (zV1 r σ')) (hY : zYV y cy mL ret n) (hlk : Cond.methodLink own index y ∈ wsL_law) (hkd : zkd w id = 5) (hcl : w.2.1[(zob w id).1]? = some (y.cls, T, N)) (hs : zns w ≤ id) (hn : id < zn w) (hA : As.length = n) (hst : st = As.reverse ++ .ref (zad w id) :: rest) (hcat : (rest.map fun v => v.category).sum ≤ 8) (hR : ry.cells = 0 ∧ ry.slots = 0 ∧ ry.frames + 1 ≤ rm.frames ∧ 8 + (mL + 11) + ry.locals ≤ rm.locals) (hcs : bc ≤ rm.cells ∧ ns ≤ rm.slots)
    (k : zJX κ w X bc ns (pc + 3) lv (r :: rest) σ') : zJX κ w X bc ns pc lv st σ := e_callV C hd hM hY hlk hkd hcl hs hn hA hst hcat hR hcs (fun v t q => by obtain ⟨rfl, rfl⟩ := q; exact k)
/-! constructors: their contract -/
def zPcI (w : zWl) (a : Nat) (e0 : va_E) (av : List Value) (σ : zSt) (K0 : Nat) : Array Value → State → Prop := fun v U => v = av.toArray ∧ (va_K w.1 w.2.1 w.2.2.2.1 U ∧ zT (zFr w a K0) w U U.heap ∧ zNw U) ∧ zPX w σ [(a, e0)] (zFr w a K0) U.heap ∧ U.heap.size = K0
def zQcI (w' : zWl) (σ' : zSt) (A : Nat → Prop) (K1 : Nat) : Array Value → State → Outcome → State → Prop := fun _ st oc t => (oc = .returned none ∧ zPX w' σ' [] A t.heap ∧ t.heap.size = K1) ∧ va_F A st t
def zMI (l : Launch) (y : MethodName) (cc : ByteArray) (mL : Nat) (rm : Room) (w : zWl) (n' : Nat) (a : Nat) (e0 : va_E) (av : List Value) (σ σ' : zSt) (K0 mc ms : Nat) : Prop :=
  Met l y (.code y cc mL none :: wsL_law) rm (zPcI w a e0 av σ K0) (zQcI (zN w n') σ' (zFr w a K0) (K0 + mc)) mc ms (zFr w a K0)
def zRX (κ : zK) (w' : zWl) (σ' : zSt) (K0 mc ms : Nat) : Prop := match κ with
  | (_, _, _, _, s, _, args, below, meth, _, Q, _, _, _, A) => meth.sig.returnType = none ∧ meth.locks = false ∧ Q = MQ below (zQcI w' σ' A (K0 + mc)) args s mc ms A
theorem zI_of {l : Launch} {y : MethodName} {cc : ByteArray} {mL : Nat} {rm : Room} {w : zWl} {n' a : Nat} {e0 : va_E} {av : List Value} {σ σ' : zSt} {K0 mc ms : Nat} {own : String}
    (hy : plainName y.cls = true) (ho : y.cls = own) (hi : y.name = "<init>") (hn : (lg_sl av).length ≤ mL)
    (body : ∀ κ : zK, zCX κ l w cc own rm mL K0 → zNm κ → zRX κ (zN w n') σ' K0 mc ms → zJX κ w [(a, e0)] 0 0 0 (zlof (lv_args 0 av)) [] σ) : zMI l y cc mL rm w n' a e0 av σ σ' K0 mc ms := by
  refine Met.ofW (cc := cc) (maxL := mL) (ret := none) hy rfl ?_
  intro p e s m args below meth c s₁ B hml hv
  obtain ⟨rfl, ⟨hK, hT, hnw⟩, hP, hz⟩ := hv
  have hts := atoms_spec (ws := .code y cc mL none :: wsL_law) B.pre
  have hown : s.vm.findClass y.cls = some m.cls := findClass_of_methodNamed B.named
  rw [ho] at hown
  have hl := lv_entry av (n := mL) hn
  rw [lg_entry_eq]
  have hin : meth.name = "<init>" := by rw [← hi]; exact (name_of_methodNamed B.named B.method).1
  exact body (p, l, e, rm, s, m, av.toArray, below, meth, c, MQ below (zQcI (zN w n') σ' (zFr w a K0) (K0 + mc)) av.toArray s mc ms (zFr w a K0), mL, 0, 0, zFr w a K0)
    ⟨B.exec, B.bytes, hml, hown, fun x hx => hts x (List.mem_cons_of_mem _ hx), hK, hT, fun _ h => Or.inl h, rfl, rfl, rfl, hz, hnw⟩
    hin ⟨B.returns, B.notSynchronized, rfl⟩ s.heap [] _ hP rfl va_S.rf (zh.of hl)
theorem e_vret {κ : zK} {l : Launch} {w : zWl} {bc ns K0 : Nat} {cc : ByteArray} {own : String} {rm : Room} {nL : Nat} (C : zCX κ l w cc own rm nL K0) {pc : Nat} {lv : Nat → Option Value} {σ : zSt} (hR : zRX κ w σ K0 bc ns) (hd : decode cc pc = .ok (.return_, 1)) : zJX κ w [] bc ns pc lv [] σ := by
  obtain ⟨p, l1, e, R, s, m, args, below, meth, c, Q, nL, cells, slots, A⟩ := κ
  obtain ⟨hr, hlk, rfl⟩ := hR
  obtain ⟨hx, hb, hml, hown, hts, hK, hT, hAA, rfl, rfl, rfl, hsz, hnw⟩ := C
  intro H locs ls hP hz hS hl
  exact W.vret hx hb hr (fun t ht hW => ⟨⟨rfl, by rw [ht]; exact hP, by rw [ht]; omega⟩, hS.F ht⟩) hS.2.2 hd hlk
theorem zPcI_blind {w : zWl} {a : Nat} {e0 : va_E} {av : List Value} {σ : zSt} {K0 : Nat} : FrameBlind (zPcI w a e0 av σ K0) := fun b U g mk q =>
  ⟨q.1, ⟨va_K.moved (u := U) (U := U.calling g mk b) (Vm.Alike.refl U.vm) q.2.1.1, zT.moved (u := U) (U := U.calling g mk b) (Vm.Alike.refl U.vm) q.2.1.2.1, q.2.1.2.2⟩, q.2.2⟩
/-- behind the call of a constructor -/
theorem e_runI {p : Program} {l : Launch} {e : Env} {R : Room} {s : State} {m : MethodId} {args : Array Value} {below : List Frame} {meth : Method} {c : Code} {Q : State → Prop} {nL cells slots bc ns mc ms n' K0 : Nat} {A : Nat → Prop} {w : zWl} {a0 : Nat} {e0 : va_E} {Xr : va_W} {pc : Nat} {lv : Nat → Option Value} {st rest : List Value} {σ σ' : zSt} {H : Heap} {locs : List Loc} {ls : Array Slot} {a : Array Value}
    (hr : va_Run p l e R s m args below meth c H locs bc ns mc ms (F0 m pc ls st) rest (zQcI (zN w n') σ' (zFr w a0 K0) (K0 + mc) a) (zFr w a0 K0)) (hK0 : H.size = K0) (hP : zPX w σ ((a0, e0) :: Xr) A H) (hz : H.size = s.heap.size + bc) (hAA : ∀ q, s.heap.size ≤ q → A q) (hS : va_S A s.heap H locs) (hl : zh ls nL lv)
    (k : zJX (p, l, e, R, s, m, args, below, meth, c, Q, nL, cells, slots, A) (zN w n') Xr (bc + mc) (ns + ms) (pc + 3) lv rest σ') : W p l e R s m args below meth c H locs bc ns Q (F0 m pc ls st) := by
  subst hK0
  intro T hT X0
  obtain ⟨v, st₀, t, T', L, h0, X', hL, e1, e2, ⟨⟨hv, hp, hsz⟩, hz1, hk⟩, stp⟩ := hr T hT X0
  cases hv
  rw [h0] at hz1 hk
  have hA1 : ∀ q, H.size ≤ q → A q := fun q hq => hAA q (by omega)
  have hF : ∀ q, zFr w a0 H.size q → A q := fun q hq => by
    rcases hq with q1 | q1 | q1
    · exact hA1 q q1
    · exact hP.inA q1
    · rw [q1]; exact hP.in (x := (a0, e0)) (List.mem_append_right _ List.mem_cons_self)
  obtain ⟨t2, a1, b1⟩ := k T'.heap (locs ++ L) ls (by rw [e1]; exact hP.ctor hp hk hA1) (by rw [e1]; omega)
    ⟨Nat.le_trans hS.1 (by rw [e1]; exact hz1), fun q h1 h2 => by rw [e1, hk q (Nat.lt_of_lt_of_le h1 hS.1) (fun z => h2 (hF q z))]; exact hS.2.1 q h1 h2, fun q hq => by
      rcases List.mem_append.mp hq with h | h
      · exact hS.2.2 q h
      · exact hF _ (hL q h)⟩ hl T' rfl X'
  exact ⟨t2, stp t2 a1, b1⟩
def zYI (y : MethodName) (cy : ByteArray) (mL n : Nat) : Prop := zY y cy mL none n ∧ Cond.instanceMethod y ∈ wsL_law ∧ y.name = "<init>"
theorem e_pre {κ : zK} {l : Launch} {w : zWl} {cc : ByteArray} {own : String} {rm : Room} {nL K0 bc a0 : Nat} {e0 : va_E} {Xr : va_W} {σ : zSt} {p : Program} {l1 : Launch} {e : Env} {R : Room} {s : State} {m : MethodId} {args : Array Value} {below : List Frame} {meth : Method} {c : Code} {Q : State → Prop} {nL1 cells slots : Nat} {A : Nat → Prop} (hκ : κ = (p, l1, e, R, s, m, args, below, meth, c, Q, nL1, cells, slots, A)) (C : zCX κ l w cc own rm nL K0) {H : Heap} {locs : List Loc} (hP : zPX w σ ((a0, e0) :: Xr) A H) (hz : H.size = s.heap.size + bc) (hS : va_S A s.heap H locs) {av : List Value} : PreS s H (zPcI w a0 e0 av σ (K0 + bc)) av := by
  subst hκ
  obtain ⟨hx, hb, hml, hown, hts, hK, hT, hAA, rfl, rfl, rfl, hsz, hnw⟩ := C
  refine ⟨zPcI_blind, fun U hU hW => ⟨rfl, ⟨hK.moved hW.alike, ?_, hnw.warm hW⟩, by rw [hU]; exact hP.cut _, by rw [hU]; omega⟩⟩
  rw [hU]
  refine ((hT.kept hS).narrow (fun q hq => ?_)).moved hW.alike
  rcases hq with q1 | q1 | q1
  · exact hAA q (by omega)
  · exact hP.inA q1
  · rw [q1]; exact hP.in (x := (a0, e0)) (List.mem_append_right _ List.mem_cons_self)
theorem e_callI {κ : zK} {l : Launch} {w : zWl} {Xr : va_W} {bc ns K0 : Nat} {cc : ByteArray} {own : String} {rm : Room} {nL : Nat} (C : zCX κ l w cc own rm nL K0) {pc : Nat} {lv : Nat → Option Value} {st : List Value} {σ σ' : zSt} {index a0 n n' mL mc ms : Nat} {e0 : va_E} {y : MethodName} {cy : ByteArray} {ry : Room} {As rest : List Value} (hd : decode cc pc = .ok (.invokespecial index, 3)) (hM : zMI l y cy mL ry w n' a0 e0 (.ref a0 :: As) σ σ' (K0 + bc) mc ms) (hY : zYI y cy mL n) (hlk : Cond.methodLink own index y ∈ wsL_law) (hA : As.length = n) (hst : st = As.reverse ++ .ref a0 :: rest) (hcat : (rest.map fun v => v.category).sum ≤ 8) (hR : ry.cells = mc ∧ ry.slots = ms ∧ ry.frames + 1 ≤ rm.frames ∧ 8 + (mL + 11) + ry.locals ≤ rm.locals) (hcs : bc + mc ≤ rm.cells ∧ ns + ms ≤ rm.slots)
    (k : zJX κ (zN w n') Xr (bc + mc) (ns + ms) (pc + 3) lv rest σ') : zJX κ w ((a0, e0) :: Xr) bc ns pc lv st σ := by
  obtain ⟨p, l1, e, R, s, m, args, below, meth, c, Q, nL, cells, slots, A⟩ := κ
  intro H locs ls hP hz hS hl
  have hpre := e_pre (av := .ref a0 :: As) rfl C hP hz hS
  obtain ⟨hx, hb, hml, hown, hts, hK, hT, hAA, rfl, rfl, rfl, hsz, hnw⟩ := C
  subst hst
  obtain ⟨⟨hcode, hini, hdesc⟩, hin, hnm⟩ := hY
  exact e_runI (va_runI (As := As) (rest := rest) ⟨hx, hb, hml, hown, hts⟩ hM (cwI n hts (zGood hcode) rfl hR.1 hR.2.1 (hts _ hini) (hts _ hlk) (hts _ hin) hnm hdesc ⟨hR.2.2.1, hR.2.2.2⟩) hpre rfl hA hl.1 rfl (lv_room hcat) hd hcs) (by omega) hP hz (fun q hq => hAA q (by omega)) hS hl k
theorem e_callIN {κ : zK} {l : Launch} {w : zWl} {Xr : va_W} {bc ns K0 : Nat} {cc : ByteArray} {own : String} {rm : Room} {nL : Nat} (C : zCX κ l w cc own rm nL K0) {pc : Nat} {lv : Nat → Option Value} {st : List Value} {σ σ' : zSt} {index a0 n n' mL mc ms : Nat} {e0 : va_E} {y : MethodName} {cy : ByteArray} {ry : Room} {As rest : List Value} (hd : decode cc pc = .ok (.invokespecial index, 3)) (hM : zMI l y cy mL ry w n' a0 e0 (.ref a0 :: As) σ σ' (K0 + bc) mc ms) (hY : zYI y cy mL n) (hlk : ∀ U, zNw U → zLk own index y U) (hA : As.length = n) (hst : st = As.reverse ++ .ref a0 :: rest) (hcat : (rest.map fun v => v.category).sum ≤ 8) (hR : ry.cells = mc ∧ ry.slots = ms ∧ ry.frames + 1 ≤ rm.frames ∧ 8 + (mL + 11) + ry.locals ≤ rm.locals) (hcs : bc + mc ≤ rm.cells ∧ ns + ms ≤ rm.slots)
    (k : zJX κ (zN w n') Xr (bc + mc) (ns + ms) (pc + 3) lv rest σ') : zJX κ w ((a0, e0) :: Xr) bc ns pc lv st σ := by
  obtain ⟨p, l1, e, R, s, m, args, below, meth, c, Q, nL, cells, slots, A⟩ := κ
  intro H locs ls hP hz hS hl
  have hpre := e_pre (av := .ref a0 :: As) rfl C hP hz hS
  obtain ⟨hx, hb, hml, hown, hts, hK, hT, hAA, rfl, rfl, rfl, hsz, hnw⟩ := C
  subst hst
  obtain ⟨⟨hcode, hini, hdesc⟩, hin, hnm⟩ := hY
  exact e_runI (va_runIN (As := As) (rest := rest) ⟨hx, hb, hml, hown, hts⟩ hM ⟨va_cnB n hts (zGood hcode) rfl hR.1 hR.2.1 (hlk s hnw) (hts _ hini) hdesc ⟨hR.2.2.1, hR.2.2.2⟩, hnm, hts _ hin⟩ hpre rfl hA hl.1 rfl (lv_room hcat) hd hcs) (by omega) hP hz (fun q hq => hAA q (by omega)) hS hl k
