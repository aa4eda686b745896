/-! objects under construction: cells X beside the world, with the heap's end known -/
theorem va_P_iff {D : va_G} {cl : List vw_C} {ws : va_W} {H : Heap} : va_P D cl ws H ↔ ∀ q ∈ ws, va_at D cl q H :=
  ⟨fun h q hq => by obtain ⟨i, hi⟩ := List.getElem?_of_mem hq; exact h i q hi, fun h _ q hk => h q (List.mem_of_getElem? hk)⟩
theorem va_D_iff {A : Nat → Prop} {ws : va_W} : va_D A ws ↔ (ws.map Prod.fst).Pairwise (fun a b => a ≠ b) ∧ ∀ q ∈ ws, A q.1 := by
  constructor
  · intro h
    refine ⟨List.pairwise_iff_getElem.mpr fun i j hi hj hij e => ?_, fun q hq => ?_⟩
    · rw [List.getElem_map, List.getElem_map] at e
      have := h.1 i j _ _ (List.getElem?_eq_getElem (by simpa using hi)) (List.getElem?_eq_getElem (by simpa using hj)) e
      omega
    · obtain ⟨i, hi⟩ := List.getElem?_of_mem hq
      exact h.2 i q hi
  · intro h
    refine ⟨fun i j p q hi hj e => ?_, fun k q hk => h.2 q (List.mem_of_getElem? hk)⟩
    obtain ⟨i1, rfl⟩ := List.getElem?_eq_some_iff.mp hi
    obtain ⟨j1, rfl⟩ := List.getElem?_eq_some_iff.mp hj
    have hp := List.pairwise_iff_getElem.mp h.1
    rcases Nat.lt_trichotomy i j with c | c | c
    · exact absurd (by rw [List.getElem_map, List.getElem_map]; exact e) (hp i j (by simpa using i1) (by simpa using j1) c)
    · exact c
    · exact absurd (by rw [List.getElem_map, List.getElem_map]; exact e.symm) (hp j i (by simpa using j1) (by simpa using i1) c)
theorem zl_fst (w : zWl) (σ σ' : zSt) : (zl w σ).map Prod.fst = (zl w σ').map Prod.fst := by
  unfold zl
  rw [List.map_map, List.map_map]
  rfl
theorem zl_zA {w : zWl} {σ : zSt} {q : Nat × va_E} (h : q ∈ zl w σ) : zA w q.1 := by
  unfold zl at h
  obtain ⟨k, hk, rfl⟩ := List.mem_map.mp h
  have := List.mem_range.mp hk
  exact ⟨zns w + k, by omega, by omega, rfl⟩
theorem zA_zl {w : zWl} (σ : zSt) {q : Nat} (h : zA w q) : ∃ e, (q, e) ∈ zl w σ := by
  obtain ⟨id, h1, h2, rfl⟩ := h
  exact ⟨zE w σ id, List.mem_of_getElem? (zl_at w σ h1 h2)⟩
def zPX (w : zWl) (σ : zSt) (X : va_W) (A : Nat → Prop) (H : Heap) : Prop := va_P w.1 w.2.1 (zl w σ ++ X) H ∧ va_D A (zl w σ ++ X) ∧ ∀ id, id < zns w → ∀ j, j < zln w id → σ.1 id j = zsv w id j
theorem zPX.nd {w : zWl} {σ : zSt} {X : va_W} {A : Nat → Prop} {H : Heap} (h : zPX w σ X A H) : ((zl w σ).map Prod.fst).Pairwise (fun a b => a ≠ b) ∧ (X.map Prod.fst).Pairwise (fun a b => a ≠ b) ∧ ∀ a ∈ (zl w σ).map Prod.fst, ∀ b ∈ X.map Prod.fst, a ≠ b := by
  have q := (va_D_iff.mp h.2.1).1
  rw [List.map_append] at q
  exact List.pairwise_append.mp q
theorem zPX.at {w : zWl} {σ : zSt} {X : va_W} {A : Nat → Prop} {H : Heap} (h : zPX w σ X A H) {x : Nat × va_E} (hx : x ∈ zl w σ ++ X) : va_at w.1 w.2.1 x H := va_P_iff.mp h.1 x hx
theorem zPX.in {w : zWl} {σ : zSt} {X : va_W} {A : Nat → Prop} {H : Heap} (h : zPX w σ X A H) {x : Nat × va_E} (hx : x ∈ zl w σ ++ X) : A x.1 := (va_D_iff.mp h.2.1).2 x hx
theorem zPX.inA {w : zWl} {σ : zSt} {X : va_W} {A : Nat → Prop} {H : Heap} (h : zPX w σ X A H) {q : Nat} (hq : zA w q) : A q := by
  obtain ⟨e, he⟩ := zA_zl σ hq
  exact h.in (List.mem_append_left _ he)
theorem zPX.P {w : zWl} {σ : zSt} {X : va_W} {A : Nat → Prop} {H : Heap} (h : zPX w σ X A H) : zP w σ H :=
  ⟨va_P_iff.mpr fun x hx => h.at (List.mem_append_left _ hx), va_D_iff.mpr ⟨h.nd.1, fun x hx => zl_zA hx⟩, h.2.2⟩
theorem zPX.of {w : zWl} {σ : zSt} {A : Nat → Prop} {H : Heap} (h : zP w σ H) (hA : ∀ q, zA w q → A q) : zPX w σ [] A H := by
  refine ⟨?_, ?_, h.2.2⟩
  · rw [List.append_nil]; exact h.1
  · rw [List.append_nil]; exact va_D_iff.mpr ⟨(va_D_iff.mp h.2.1).1, fun x hx => hA _ (zl_zA hx)⟩
theorem zPX.perm {w : zWl} {σ : zSt} {X Y : va_W} {A : Nat → Prop} {H : Heap} (p : X.Perm Y) (h : zPX w σ X A H) : zPX w σ Y A H := by
  have q : (zl w σ ++ X).Perm (zl w σ ++ Y) := p.append_left _
  exact ⟨va_P_iff.mpr (fun x hx => h.at (q.mem_iff.mpr hx)), va_D_iff.mpr ⟨((q.map Prod.fst).pairwise_iff (fun h => Ne.symm h)).mp (va_D_iff.mp h.2.1).1, fun x hx => h.in (q.mem_iff.mpr hx)⟩, h.2.2⟩
/-- behind a call of a method on the world -/
theorem zPX.call {w : zWl} {σ σ' : zSt} {X : va_W} {A : Nat → Prop} {H H1 : Heap} (h : zPX w σ X A H) (h1 : zP w σ' H1) (hk : ∀ q : Nat, q < H.size → ¬ zA w q → H1[q]? = H[q]?) : zPX w σ' X A H1 := by
  refine ⟨va_P_iff.mpr fun x hx => ?_, va_D_iff.mpr ⟨?_, fun x hx => ?_⟩, h1.2.2⟩
  · rcases List.mem_append.mp hx with hx | hx
    · exact va_P_iff.mp h1.1 x hx
    · have h0 := h.at (List.mem_append_right _ hx)
      refine h0.kept (hk x.1 h0.lt (fun z => ?_))
      obtain ⟨e, he⟩ := zA_zl σ z
      exact h.nd.2.2 _ (List.mem_map.mpr ⟨_, he, rfl⟩) _ (List.mem_map.mpr ⟨_, hx, rfl⟩) rfl
  · rw [List.map_append, zl_fst w σ' σ, ← List.map_append]
    exact (va_D_iff.mp h.2.1).1
  · rcases List.mem_append.mp hx with hx | hx
    · exact h.inA (zl_zA hx)
    · exact h.in (List.mem_append_right _ hx)
/-- the world with n cells -/
def zN (w : zWl) (n : Nat) : zWl := (w.1, w.2.1, w.2.2.1, w.2.2.2.1, w.2.2.2.2.1, n, w.2.2.2.2.2.2)
/-- what a constructor may change: its world, its object, what it makes -/
def zFr (w : zWl) (a K0 : Nat) : Nat → Prop := fun q => K0 ≤ q ∨ zA w q ∨ q = a
theorem zPX.cut {w : zWl} {σ : zSt} {a : Nat} {e0 : va_E} {Xr : va_W} {A : Nat → Prop} {H : Heap} (h : zPX w σ ((a, e0) :: Xr) A H) (K : Nat) : zPX w σ [(a, e0)] (zFr w a K) H := by
  refine ⟨va_P_iff.mpr fun x hx => ?_, va_D_iff.mpr ⟨?_, fun x hx => ?_⟩, h.2.2⟩
  · rcases List.mem_append.mp hx with hx | hx
    · exact h.at (List.mem_append_left _ hx)
    · rw [List.mem_singleton.mp hx]
      exact h.at (List.mem_append_right _ List.mem_cons_self)
  · rw [List.map_append]
    exact List.pairwise_append.mpr ⟨h.nd.1, List.pairwise_singleton _ _, fun x hx y hy => h.nd.2.2 x hx y (by rw [List.mem_singleton.mp hy]; exact List.mem_cons_self)⟩
  · rcases List.mem_append.mp hx with hx | hx
    · exact Or.inr (Or.inl (zl_zA hx))
    · rw [List.mem_singleton.mp hx]
      exact Or.inr (Or.inr rfl)
theorem zPX.ctor {w : zWl} {n' : Nat} {σ σ' : zSt} {a : Nat} {e0 : va_E} {Xr : va_W} {A : Nat → Prop} {H H1 : Heap} (h : zPX w σ ((a, e0) :: Xr) A H) (h1 : zPX (zN w n') σ' [] (zFr w a H.size) H1) (hk : ∀ q : Nat, q < H.size → ¬ zFr w a H.size q → H1[q]? = H[q]?) (hA : ∀ q, H.size ≤ q → A q) : zPX (zN w n') σ' Xr A H1 := by
  have hin : ∀ q, zFr w a H.size q → A q := fun q hq => by
    rcases hq with q1 | q1 | q1
    · exact hA q q1
    · exact h.inA q1
    · rw [q1]; exact h.in (x := (a, e0)) (List.mem_append_right _ List.mem_cons_self)
  have hout : ∀ x ∈ Xr, x.1 < H.size ∧ ¬ zFr w a H.size x.1 := fun x hx => by
    have hx' : x ∈ zl w σ ++ (a, e0) :: Xr := List.mem_append_right _ (List.mem_cons_of_mem _ hx)
    have hlt := (h.at hx').lt
    refine ⟨hlt, fun z => ?_⟩
    rcases z with q1 | q1 | q1
    · omega
    · obtain ⟨e, he⟩ := zA_zl σ q1
      exact h.nd.2.2 _ (List.mem_map.mpr ⟨_, he, rfl⟩) _ (List.mem_map.mpr ⟨x, List.mem_cons_of_mem _ hx, rfl⟩) rfl
    · have hp := h.nd.2.1
      rw [List.map_cons] at hp
      exact (List.pairwise_cons.mp hp).1 x.1 (List.mem_map.mpr ⟨x, hx, rfl⟩) q1.symm
  refine ⟨va_P_iff.mpr fun x hx => ?_, va_D_iff.mpr ⟨?_, fun x hx => ?_⟩, h1.2.2⟩
  · rcases List.mem_append.mp hx with hx | hx
    · exact h1.at (List.mem_append_left _ hx)
    · exact (h.at (List.mem_append_right _ (List.mem_cons_of_mem _ hx))).kept (hk x.1 (hout x hx).1 (hout x hx).2)
  · rw [List.map_append]
    have hp := h.nd.2.1
    rw [List.map_cons] at hp
    refine List.pairwise_append.mpr ⟨h1.nd.1, (List.pairwise_cons.mp hp).2, fun y hy x hx e => ?_⟩
    obtain ⟨y', hy', rfl⟩ := List.mem_map.mp hy
    obtain ⟨x', hx', rfl⟩ := List.mem_map.mp hx
    exact (hout x' hx').2 (by rw [← e]; exact h1.in (List.mem_append_left _ hy'))
  · rcases List.mem_append.mp hx with hx | hx
    · exact hin _ (h1.in (List.mem_append_left _ hx))
    · exact h.in (List.mem_append_right _ (List.mem_cons_of_mem _ hx))
/-- new cells at the heap's end -/
theorem zPX.push {w : zWl} {σ : zSt} {X Y : va_W} {A : Nat → Prop} {H H1 : Heap} (h : zPX w σ X A H) (ho : ∀ q : Nat, q < H.size → H1[q]? = H[q]?) (hY : ∀ y ∈ Y, va_at w.1 w.2.1 y H1 ∧ H.size ≤ y.1 ∧ A y.1) (hp : (Y.map Prod.fst).Pairwise (fun a b => a ≠ b)) : zPX w σ (Y ++ X) A H1 := by
  refine zPX.perm (X := X ++ Y) List.perm_append_comm ⟨va_P_iff.mpr fun x hx => ?_, va_D_iff.mpr ⟨?_, fun x hx => ?_⟩, h.2.2⟩
  · rw [← List.append_assoc] at hx
    rcases List.mem_append.mp hx with hx | hx
    · exact (h.at hx).kept (ho _ (h.at hx).lt)
    · exact (hY x hx).1
  · rw [← List.append_assoc, List.map_append]
    refine List.pairwise_append.mpr ⟨(va_D_iff.mp h.2.1).1, hp, fun x hx y hy e => ?_⟩
    obtain ⟨x', hx', rfl⟩ := List.mem_map.mp hx
    obtain ⟨y', hy', rfl⟩ := List.mem_map.mp hy
    have := (h.at hx').lt
    have := (hY y' hy').2.1
    omega
  · rw [← List.append_assoc] at hx
    rcases List.mem_append.mp hx with hx | hx
    · exact h.in hx
    · exact (hY x hx).2.2
theorem zPX.set {w : zWl} {σ : zSt} {X : va_W} {A : Nat → Prop} {H H1 : Heap} (h : zPX w σ X A H) {i a : Nat} {e e' : va_E} (he : X[i]? = some (a, e)) (h1 : va_at w.1 w.2.1 (a, e') H1) (oq : ∀ q : Nat, q ≠ a → H1[q]? = H[q]?) : zPX w σ (X.set i (a, e')) A H1 := by
  have hq : (zl w σ ++ X)[(zl w σ).length + i]? = some (a, e) := by
    rw [List.getElem?_append_right (by omega), Nat.add_sub_cancel_left]
    exact he
  have es : (zl w σ ++ X).set ((zl w σ).length + i) (a, e') = zl w σ ++ X.set i (a, e') := by
    rw [List.set_append_right _ _ (by omega), Nat.add_sub_cancel_left]
  have g1 := h.1.set h.2.1 hq h1 oq
  have g2 : va_D A ((zl w σ ++ X).set ((zl w σ).length + i) (a, e')) := h.2.1.set hq
  rw [es] at g1 g2
  exact ⟨g1, g2, h.2.2⟩
theorem zl_N (w : zWl) (σ : zSt) (m : Nat) (h : zns w ≤ zn w) : zl (zN w (zn w + m)) σ = zl w σ ++ (List.range m).map (fun i => (zad w (zn w + i), zE w σ (zn w + i))) := by
  show (List.range (zn w + m - zns w)).map (fun k => (zad w (zns w + k), zE w σ (zns w + k))) = (List.range (zn w - zns w)).map (fun k => (zad w (zns w + k), zE w σ (zns w + k))) ++ _
  rw [show zn w + m - zns w = (zn w - zns w) + m by omega, List.range_add, List.map_append, List.map_map]
  congr 1
  refine List.map_congr_left (fun i _ => ?_)
  show (zad w (zns w + (zn w - zns w + i)), zE w σ (zns w + (zn w - zns w + i))) = _
  rw [show zns w + (zn w - zns w + i) = zn w + i by omega]
theorem zl_same' (w : zWl) {σ σ' : zSt} (h : ∀ id, zns w ≤ id → id < zn w → zE w σ' id = zE w σ id) : zl w σ' = zl w σ := by
  unfold zl
  refine List.map_congr_left (fun k hk => ?_)
  have := List.mem_range.mp hk
  rw [h (zns w + k) (by omega) (by omega)]
/-- cells that have become whole go into the world -/
theorem zPX.commits {w : zWl} {σ σ' : zSt} {X : va_W} {A : Nat → Prop} {H : Heap} (m : Nat) (h : zPX w σ ((List.range m).map (fun i => (zad w (zn w + i), zE w σ' (zn w + i))) ++ X) A H) (hns : zns w ≤ zn w) (hs : ∀ id, zns w ≤ id → id < zn w → zE w σ' id = zE w σ id) (h0 : ∀ id, id < zns w → σ'.1 id = σ.1 id) : zPX (zN w (zn w + m)) σ' X A H := by
  obtain ⟨h1, h2, h3⟩ := h
  rw [← List.append_assoc, ← zl_same' w hs, ← zl_N w σ' m hns] at h1 h2
  exact ⟨h1, h2, fun id hi j hj => by rw [h0 id hi]; exact h3 id hi j hj⟩
/-! the judgement: bc cells of ns slots are made since the method's start -/
def zAA (U : State) : Prop := (Cond.arrayOver (.array .long)).before #[] U = true
theorem zAA.moved {u U : State} (hvm : u.vm.Alike U.vm) (h : zAA u) : zAA U := over_moved hvm h
def zLk (own : String) (index : Nat) (y : MethodName) (U : State) : Prop := va_Nw (.methodLinkNest own index y "LadderSigns") U
/-- the words that a call doesn't bear: nest mates' constructors, arrays of rows and of points -/
def zNw (U : State) : Prop := zLk RX9 18 yX7_init U ∧ zLk RX9 45 yX4_init U ∧ zLk RX9 68 yX5_init U ∧ zLk RX9 94 yX3_init U ∧ zLk RX0 9 yX3_init U ∧ zLk RX6 34 yX3_init U ∧ va_AO "LadderSigns$Point" U ∧ zAA U
theorem zNw.warm {s U : State} (hW : s.WarmedH U.vm) (h : zNw s) : zNw U :=
  ⟨va_Nw.warmM hW h.1, va_Nw.warmM hW h.2.1, va_Nw.warmM hW h.2.2.1, va_Nw.warmM hW h.2.2.2.1, va_Nw.warmM hW h.2.2.2.2.1, va_Nw.warmM hW h.2.2.2.2.2.1, h.2.2.2.2.2.2.1.moved hW.alike, h.2.2.2.2.2.2.2.moved hW.alike⟩
def zJX (κ : zK) (w : zWl) (X : va_W) (bc ns : Nat) (pc : Nat) (lv : Nat → Option Value) (st : List Value) (σ : zSt) : Prop := match κ with
  | (p, l, e, R, s, m, args, below, meth, c, Q, nL, _, _, A) => ∀ (H : Heap) (locs : List Loc) (ls : Array Slot), zPX w σ X A H → H.size = s.heap.size + bc → va_S A s.heap H locs → zh ls nL lv → W p l e R s m args below meth c H locs bc ns Q (F0 m pc ls st)
def zCX (κ : zK) (l0 : Launch) (w : zWl) (cc : ByteArray) (own : String) (rm : Room) (nL0 K0 : Nat) : Prop := match κ with
  | (p, l, _, R, s, m, args, _, _, c, _, nL, _, _, A) => p.tables.exec = Jvm.exec ∧ c.code = cc ∧ c.maxLocals = nL0 ∧ s.vm.findClass own = some m.cls ∧ (∀ w ∈ wsL_law, w.before args s = true) ∧ va_K w.1 w.2.1 w.2.2.2.1 s ∧ zT A w s s.heap ∧ (∀ q, K0 ≤ q → A q) ∧ R = rm ∧ l = l0 ∧ nL = nL0 ∧ s.heap.size = K0 ∧ zNw s
def zNm (κ : zK) : Prop := match κ with
  | (_, _, _, _, _, _, _, _, meth, _, _, _, _, _, _) => meth.name = "<init>"
theorem zCX.N {κ : zK} {l : Launch} {w : zWl} {cc : ByteArray} {own : String} {rm : Room} {nL K0 : Nat} (C : zCX κ l w cc own rm nL K0) (n : Nat) : zCX κ l (zN w n) cc own rm nL K0 := by
  obtain ⟨p, l1, e, R, s, m, args, below, meth, c, Q, nL, cells, slots, A⟩ := κ
  exact C
theorem e_iadd {κ : zK} {l : Launch} {w : zWl} {X : va_W} {bc ns K0 : Nat} {cc : ByteArray} {own : String} {rm : Room} {nL : Nat} (C : zCX κ l w cc own rm nL K0) {pc : Nat} {lv : Nat → Option Value} {st : List Value} {σ : zSt} {x y : Int32} (hd : decode cc pc = .ok (.iadd, 1)) (k : zJX κ w X bc ns (pc + 1) lv (.int (x + y) :: st) σ) : zJX κ w X bc ns pc lv (.int y :: .int x :: st) σ := by
  obtain ⟨p, l1, e, R, s, m, args, below, meth, c, Q, nL, cells, slots, A⟩ := κ
  exact fun H locs ls hP0 hz hS hl => lv_iadd C.1 C.2.1 hd (k H locs ls hP0 hz hS hl)
theorem e_isub {κ : zK} {l : Launch} {w : zWl} {X : va_W} {bc ns K0 : Nat} {cc : ByteArray} {own : String} {rm : Room} {nL : Nat} (C : zCX κ l w cc own rm nL K0) {pc : Nat} {lv : Nat → Option Value} {st : List Value} {σ : zSt} {x y : Int32} (hd : decode cc pc = .ok (.isub, 1)) (k : zJX κ w X bc ns (pc + 1) lv (.int (x - y) :: st) σ) : zJX κ w X bc ns pc lv (.int y :: .int x :: st) σ := by
  obtain ⟨p, l1, e, R, s, m, args, below, meth, c, Q, nL, cells, slots, A⟩ := κ
  exact fun H locs ls hP0 hz hS hl => lv_isub C.1 C.2.1 hd (k H locs ls hP0 hz hS hl)
theorem e_imul {κ : zK} {l : Launch} {w : zWl} {X : va_W} {bc ns K0 : Nat} {cc : ByteArray} {own : String} {rm : Room} {nL : Nat} (C : zCX κ l w cc own rm nL K0) {pc : Nat} {lv : Nat → Option Value} {st : List Value} {σ : zSt} {x y : Int32} (hd : decode cc pc = .ok (.imul, 1)) (k : zJX κ w X bc ns (pc + 1) lv (.int (x * y) :: st) σ) : zJX κ w X bc ns pc lv (.int y :: .int x :: st) σ := by
  obtain ⟨p, l1, e, R, s, m, args, below, meth, c, Q, nL, cells, slots, A⟩ := κ
  exact fun H locs ls hP0 hz hS hl => lv_imul C.1 C.2.1 hd (k H locs ls hP0 hz hS hl)
theorem e_iand {κ : zK} {l : Launch} {w : zWl} {X : va_W} {bc ns K0 : Nat} {cc : ByteArray} {own : String} {rm : Room} {nL : Nat} (C : zCX κ l w cc own rm nL K0) {pc : Nat} {lv : Nat → Option Value} {st : List Value} {σ : zSt} {x y : Int32} (hd : decode cc pc = .ok (.iand, 1)) (k : zJX κ w X bc ns (pc + 1) lv (.int (x &&& y) :: st) σ) : zJX κ w X bc ns pc lv (.int y :: .int x :: st) σ := by
  obtain ⟨p, l1, e, R, s, m, args, below, meth, c, Q, nL, cells, slots, A⟩ := κ
  exact fun H locs ls hP0 hz hS hl => lv_iand C.1 C.2.1 hd (k H locs ls hP0 hz hS hl)
theorem e_ior {κ : zK} {l : Launch} {w : zWl} {X : va_W} {bc ns K0 : Nat} {cc : ByteArray} {own : String} {rm : Room} {nL : Nat} (C : zCX κ l w cc own rm nL K0) {pc : Nat} {lv : Nat → Option Value} {st : List Value} {σ : zSt} {x y : Int32} (hd : decode cc pc = .ok (.ior, 1)) (k : zJX κ w X bc ns (pc + 1) lv (.int (x ||| y) :: st) σ) : zJX κ w X bc ns pc lv (.int y :: .int x :: st) σ := by
  obtain ⟨p, l1, e, R, s, m, args, below, meth, c, Q, nL, cells, slots, A⟩ := κ
  exact fun H locs ls hP0 hz hS hl => lv_ior C.1 C.2.1 hd (k H locs ls hP0 hz hS hl)
theorem e_ixor {κ : zK} {l : Launch} {w : zWl} {X : va_W} {bc ns K0 : Nat} {cc : ByteArray} {own : String} {rm : Room} {nL : Nat} (C : zCX κ l w cc own rm nL K0) {pc : Nat} {lv : Nat → Option Value} {st : List Value} {σ : zSt} {x y : Int32} (hd : decode cc pc = .ok (.ixor, 1)) (k : zJX κ w X bc ns (pc + 1) lv (.int (x ^^^ y) :: st) σ) : zJX κ w X bc ns pc lv (.int y :: .int x :: st) σ := by
  obtain ⟨p, l1, e, R, s, m, args, below, meth, c, Q, nL, cells, slots, A⟩ := κ
  exact fun H locs ls hP0 hz hS hl => lv_ixor C.1 C.2.1 hd (k H locs ls hP0 hz hS hl)
theorem e_ladd {κ : zK} {l : Launch} {w : zWl} {X : va_W} {bc ns K0 : Nat} {cc : ByteArray} {own : String} {rm : Room} {nL : Nat} (C : zCX κ l w cc own rm nL K0) {pc : Nat} {lv : Nat → Option Value} {st : List Value} {σ : zSt} {x y : Int64} (hd : decode cc pc = .ok (.ladd, 1)) (k : zJX κ w X bc ns (pc + 1) lv (.long (x + y) :: st) σ) : zJX κ w X bc ns pc lv (.long y :: .long x :: st) σ := by
  obtain ⟨p, l1, e, R, s, m, args, below, meth, c, Q, nL, cells, slots, A⟩ := κ
  exact fun H locs ls hP0 hz hS hl => lv_ladd C.1 C.2.1 hd (k H locs ls hP0 hz hS hl)
theorem e_lsub {κ : zK} {l : Launch} {w : zWl} {X : va_W} {bc ns K0 : Nat} {cc : ByteArray} {own : String} {rm : Room} {nL : Nat} (C : zCX κ l w cc own rm nL K0) {pc : Nat} {lv : Nat → Option Value} {st : List Value} {σ : zSt} {x y : Int64} (hd : decode cc pc = .ok (.lsub, 1)) (k : zJX κ w X bc ns (pc + 1) lv (.long (x - y) :: st) σ) : zJX κ w X bc ns pc lv (.long y :: .long x :: st) σ := by
  obtain ⟨p, l1, e, R, s, m, args, below, meth, c, Q, nL, cells, slots, A⟩ := κ
  exact fun H locs ls hP0 hz hS hl => lv_lsub C.1 C.2.1 hd (k H locs ls hP0 hz hS hl)
theorem e_lmul {κ : zK} {l : Launch} {w : zWl} {X : va_W} {bc ns K0 : Nat} {cc : ByteArray} {own : String} {rm : Room} {nL : Nat} (C : zCX κ l w cc own rm nL K0) {pc : Nat} {lv : Nat → Option Value} {st : List Value} {σ : zSt} {x y : Int64} (hd : decode cc pc = .ok (.lmul, 1)) (k : zJX κ w X bc ns (pc + 1) lv (.long (x * y) :: st) σ) : zJX κ w X bc ns pc lv (.long y :: .long x :: st) σ := by
  obtain ⟨p, l1, e, R, s, m, args, below, meth, c, Q, nL, cells, slots, A⟩ := κ
  exact fun H locs ls hP0 hz hS hl => lv_lmul C.1 C.2.1 hd (k H locs ls hP0 hz hS hl)
theorem e_land {κ : zK} {l : Launch} {w : zWl} {X : va_W} {bc ns K0 : Nat} {cc : ByteArray} {own : String} {rm : Room} {nL : Nat} (C : zCX κ l w cc own rm nL K0) {pc : Nat} {lv : Nat → Option Value} {st : List Value} {σ : zSt} {x y : Int64} (hd : decode cc pc = .ok (.land, 1)) (k : zJX κ w X bc ns (pc + 1) lv (.long (x &&& y) :: st) σ) : zJX κ w X bc ns pc lv (.long y :: .long x :: st) σ := by
  obtain ⟨p, l1, e, R, s, m, args, below, meth, c, Q, nL, cells, slots, A⟩ := κ
  exact fun H locs ls hP0 hz hS hl => lv_land C.1 C.2.1 hd (k H locs ls hP0 hz hS hl)
theorem e_lor {κ : zK} {l : Launch} {w : zWl} {X : va_W} {bc ns K0 : Nat} {cc : ByteArray} {own : String} {rm : Room} {nL : Nat} (C : zCX κ l w cc own rm nL K0) {pc : Nat} {lv : Nat → Option Value} {st : List Value} {σ : zSt} {x y : Int64} (hd : decode cc pc = .ok (.lor, 1)) (k : zJX κ w X bc ns (pc + 1) lv (.long (x ||| y) :: st) σ) : zJX κ w X bc ns pc lv (.long y :: .long x :: st) σ := by
  obtain ⟨p, l1, e, R, s, m, args, below, meth, c, Q, nL, cells, slots, A⟩ := κ
  exact fun H locs ls hP0 hz hS hl => lv_lor C.1 C.2.1 hd (k H locs ls hP0 hz hS hl)
theorem e_lxor {κ : zK} {l : Launch} {w : zWl} {X : va_W} {bc ns K0 : Nat} {cc : ByteArray} {own : String} {rm : Room} {nL : Nat} (C : zCX κ l w cc own rm nL K0) {pc : Nat} {lv : Nat → Option Value} {st : List Value} {σ : zSt} {x y : Int64} (hd : decode cc pc = .ok (.lxor, 1)) (k : zJX κ w X bc ns (pc + 1) lv (.long (x ^^^ y) :: st) σ) : zJX κ w X bc ns pc lv (.long y :: .long x :: st) σ := by
  obtain ⟨p, l1, e, R, s, m, args, below, meth, c, Q, nL, cells, slots, A⟩ := κ
  exact fun H locs ls hP0 hz hS hl => lv_lxor C.1 C.2.1 hd (k H locs ls hP0 hz hS hl)
theorem e_lushr {κ : zK} {l : Launch} {w : zWl} {X : va_W} {bc ns K0 : Nat} {cc : ByteArray} {own : String} {rm : Room} {nL : Nat} (C : zCX κ l w cc own rm nL K0) {pc : Nat} {lv : Nat → Option Value} {st : List Value} {σ : zSt} {x : Int64} {a : Nat} (hd : decode cc pc = .ok (.lushr, 1)) (ha : a < 64) (k : zJX κ w X bc ns (pc + 1) lv (.long (zus x a) :: st) σ) : zJX κ w X bc ns pc lv (.int (nI a) :: .long x :: st) σ := by
  obtain ⟨p, l1, e, R, s, m, args, below, meth, c, Q, nL, cells, slots, A⟩ := κ
  exact fun H locs ls hP0 hz hS hl => lv_lushr C.1 C.2.1 hd (zus_eq x ha) (k H locs ls hP0 hz hS hl)
theorem e_lshl {κ : zK} {l : Launch} {w : zWl} {X : va_W} {bc ns K0 : Nat} {cc : ByteArray} {own : String} {rm : Room} {nL : Nat} (C : zCX κ l w cc own rm nL K0) {pc : Nat} {lv : Nat → Option Value} {st : List Value} {σ : zSt} {x : Int64} {a : Nat} (hd : decode cc pc = .ok (.lshl, 1)) (ha : a < 64) (k : zJX κ w X bc ns (pc + 1) lv (.long (zsl x a) :: st) σ) : zJX κ w X bc ns pc lv (.int (nI a) :: .long x :: st) σ := by
  obtain ⟨p, l1, e, R, s, m, args, below, meth, c, Q, nL, cells, slots, A⟩ := κ
  exact fun H locs ls hP0 hz hS hl => lv_lshl C.1 C.2.1 hd (zsl_eq x ha) (k H locs ls hP0 hz hS hl)
theorem e_lshr {κ : zK} {l : Launch} {w : zWl} {X : va_W} {bc ns K0 : Nat} {cc : ByteArray} {own : String} {rm : Room} {nL : Nat} (C : zCX κ l w cc own rm nL K0) {pc : Nat} {lv : Nat → Option Value} {st : List Value} {σ : zSt} {x : Int64} {a : Nat} (hd : decode cc pc = .ok (.lshr, 1)) (ha : a < 64) (k : zJX κ w X bc ns (pc + 1) lv (.long (zsr x a) :: st) σ) : zJX κ w X bc ns pc lv (.int (nI a) :: .long x :: st) σ := by
  obtain ⟨p, l1, e, R, s, m, args, below, meth, c, Q, nL, cells, slots, A⟩ := κ
  exact fun H locs ls hP0 hz hS hl => lv_lshr C.1 C.2.1 hd (zsr_eq x ha) (k H locs ls hP0 hz hS hl)
theorem e_i2l {κ : zK} {l : Launch} {w : zWl} {X : va_W} {bc ns K0 : Nat} {cc : ByteArray} {own : String} {rm : Room} {nL : Nat} (C : zCX κ l w cc own rm nL K0) {pc : Nat} {lv : Nat → Option Value} {st : List Value} {σ : zSt} {x : Int32} (hd : decode cc pc = .ok (.i2l, 1)) (k : zJX κ w X bc ns (pc + 1) lv (.long x.toInt64 :: st) σ) : zJX κ w X bc ns pc lv (.int x :: st) σ := by
  obtain ⟨p, l1, e, R, s, m, args, below, meth, c, Q, nL, cells, slots, A⟩ := κ
  exact fun H locs ls hP0 hz hS hl => lv_i2l C.1 C.2.1 hd rfl (k H locs ls hP0 hz hS hl)
theorem e_l2i {κ : zK} {l : Launch} {w : zWl} {X : va_W} {bc ns K0 : Nat} {cc : ByteArray} {own : String} {rm : Room} {nL : Nat} (C : zCX κ l w cc own rm nL K0) {pc : Nat} {lv : Nat → Option Value} {st : List Value} {σ : zSt} {x : Int64} (hd : decode cc pc = .ok (.l2i, 1)) (k : zJX κ w X bc ns (pc + 1) lv (.int x.toInt32 :: st) σ) : zJX κ w X bc ns pc lv (.long x :: st) σ := by
  obtain ⟨p, l1, e, R, s, m, args, below, meth, c, Q, nL, cells, slots, A⟩ := κ
  exact fun H locs ls hP0 hz hS hl => lv_l2i C.1 C.2.1 hd rfl (k H locs ls hP0 hz hS hl)
theorem e_iconst {κ : zK} {l : Launch} {w : zWl} {X : va_W} {bc ns K0 : Nat} {cc : ByteArray} {own : String} {rm : Room} {nL : Nat} (C : zCX κ l w cc own rm nL K0) {pc : Nat} {lv : Nat → Option Value} {st : List Value} {σ : zSt} {n : Int} {v : Int32} (hd : decode cc pc = .ok (.iconst n, 1)) (hv : Int32.ofInt n = v) (k : zJX κ w X bc ns (pc + 1) lv (.int v :: st) σ) : zJX κ w X bc ns pc lv (st) σ := by
  obtain ⟨p, l1, e, R, s, m, args, below, meth, c, Q, nL, cells, slots, A⟩ := κ
  exact fun H locs ls hP0 hz hS hl => lv_iconst C.1 C.2.1 hd hv (k H locs ls hP0 hz hS hl)
theorem e_bipush {κ : zK} {l : Launch} {w : zWl} {X : va_W} {bc ns K0 : Nat} {cc : ByteArray} {own : String} {rm : Room} {nL : Nat} (C : zCX κ l w cc own rm nL K0) {pc : Nat} {lv : Nat → Option Value} {st : List Value} {σ : zSt} {n : Int} {v : Int32} (hd : decode cc pc = .ok (.bipush n, 2)) (hv : (Int8.ofInt n).toInt32 = v) (k : zJX κ w X bc ns (pc + 2) lv (.int v :: st) σ) : zJX κ w X bc ns pc lv (st) σ := by
  obtain ⟨p, l1, e, R, s, m, args, below, meth, c, Q, nL, cells, slots, A⟩ := κ
  exact fun H locs ls hP0 hz hS hl => lv_bipush C.1 C.2.1 hd hv (k H locs ls hP0 hz hS hl)
theorem e_sipush {κ : zK} {l : Launch} {w : zWl} {X : va_W} {bc ns K0 : Nat} {cc : ByteArray} {own : String} {rm : Room} {nL : Nat} (C : zCX κ l w cc own rm nL K0) {pc : Nat} {lv : Nat → Option Value} {st : List Value} {σ : zSt} {n : Int} {v : Int32} (hd : decode cc pc = .ok (.sipush n, 3)) (hv : (Int16.ofInt n).toInt32 = v) (k : zJX κ w X bc ns (pc + 3) lv (.int v :: st) σ) : zJX κ w X bc ns pc lv (st) σ := by
  obtain ⟨p, l1, e, R, s, m, args, below, meth, c, Q, nL, cells, slots, A⟩ := κ
  exact fun H locs ls hP0 hz hS hl => lv_sipush C.1 C.2.1 hd hv (k H locs ls hP0 hz hS hl)
theorem e_lconst {κ : zK} {l : Launch} {w : zWl} {X : va_W} {bc ns K0 : Nat} {cc : ByteArray} {own : String} {rm : Room} {nL : Nat} (C : zCX κ l w cc own rm nL K0) {pc : Nat} {lv : Nat → Option Value} {st : List Value} {σ : zSt} {n : Fin 2} {v : Int64} (hd : decode cc pc = .ok (.lconst n, 1)) (hv : Int64.ofNat (n : Nat) = v) (k : zJX κ w X bc ns (pc + 1) lv (.long v :: st) σ) : zJX κ w X bc ns pc lv (st) σ := by
  obtain ⟨p, l1, e, R, s, m, args, below, meth, c, Q, nL, cells, slots, A⟩ := κ
  exact fun H locs ls hP0 hz hS hl => lv_lconst C.1 C.2.1 hd hv (k H locs ls hP0 hz hS hl)
theorem e_ldc2 {κ : zK} {l : Launch} {w : zWl} {X : va_W} {bc ns K0 : Nat} {cc : ByteArray} {own : String} {rm : Room} {nL : Nat} (C : zCX κ l w cc own rm nL K0) {pc : Nat} {lv : Nat → Option Value} {st : List Value} {σ : zSt} {index : Nat} {v : Int64} (hd : decode cc pc = .ok (.ldc2_w index, 3)) (hw : Cond.constantLong own index v ∈ wsL_law) (k : zJX κ w X bc ns (pc + 3) lv (.long v :: st) σ) : zJX κ w X bc ns pc lv (st) σ := by
  obtain ⟨p, l1, e, R, s, m, args, below, meth, c, Q, nL, cells, slots, A⟩ := κ
  exact fun H locs ls hP0 hz hS hl => lv_ldc2 C.1 C.2.1 C.2.2.2.1 (C.2.2.2.2.1 _ hw) hd (k H locs ls hP0 hz hS hl)
theorem e_ldc {κ : zK} {l : Launch} {w : zWl} {X : va_W} {bc ns K0 : Nat} {cc : ByteArray} {own : String} {rm : Room} {nL : Nat} (C : zCX κ l w cc own rm nL K0) {pc : Nat} {lv : Nat → Option Value} {st : List Value} {σ : zSt} {index : Nat} {v : Int32} (hd : decode cc pc = .ok (.ldc index, 2)) (hw : Cond.constant own index v ∈ wsL_law) (k : zJX κ w X bc ns (pc + 2) lv (.int v :: st) σ) : zJX κ w X bc ns pc lv (st) σ := by
  obtain ⟨p, l1, e, R, s, m, args, below, meth, c, Q, nL, cells, slots, A⟩ := κ
  exact fun H locs ls hP0 hz hS hl => lv_ldc C.1 C.2.1 C.2.2.2.1 (C.2.2.2.2.1 _ hw) hd (k H locs ls hP0 hz hS hl)
theorem e_iload_n {κ : zK} {l : Launch} {w : zWl} {X : va_W} {bc ns K0 : Nat} {cc : ByteArray} {own : String} {rm : Room} {nL : Nat} (C : zCX κ l w cc own rm nL K0) {pc : Nat} {lv : Nat → Option Value} {st : List Value} {σ : zSt} {k0 : Fin 4} {i : Nat} {x : Int32} (hd : decode cc pc = .ok (.iload_n k0, 1)) (hi : (k0 : Nat) = i) (hv : lv i = some (.int x)) (k : zJX κ w X bc ns (pc + 1) lv (.int x :: st) σ) : zJX κ w X bc ns pc lv (st) σ := by
  obtain ⟨p, l1, e, R, s, m, args, below, meth, c, Q, nL, cells, slots, A⟩ := κ
  exact fun H locs ls hP0 hz hS hl => lv_iload_n C.1 C.2.1 hd hi (hl.2.2 _ _ hv) (k H locs ls hP0 hz hS hl)
theorem e_iload {κ : zK} {l : Launch} {w : zWl} {X : va_W} {bc ns K0 : Nat} {cc : ByteArray} {own : String} {rm : Room} {nL : Nat} (C : zCX κ l w cc own rm nL K0) {pc : Nat} {lv : Nat → Option Value} {st : List Value} {σ : zSt} {i : Nat} {x : Int32} (hd : decode cc pc = .ok (.iload i, 2)) (hv : lv i = some (.int x)) (k : zJX κ w X bc ns (pc + 2) lv (.int x :: st) σ) : zJX κ w X bc ns pc lv (st) σ := by
  obtain ⟨p, l1, e, R, s, m, args, below, meth, c, Q, nL, cells, slots, A⟩ := κ
  exact fun H locs ls hP0 hz hS hl => lv_iload C.1 C.2.1 hd (hl.2.2 _ _ hv) (k H locs ls hP0 hz hS hl)
theorem e_lload_n {κ : zK} {l : Launch} {w : zWl} {X : va_W} {bc ns K0 : Nat} {cc : ByteArray} {own : String} {rm : Room} {nL : Nat} (C : zCX κ l w cc own rm nL K0) {pc : Nat} {lv : Nat → Option Value} {st : List Value} {σ : zSt} {k0 : Fin 4} {i : Nat} {x : Int64} (hd : decode cc pc = .ok (.lload_n k0, 1)) (hi : (k0 : Nat) = i) (hv : lv i = some (.long x)) (k : zJX κ w X bc ns (pc + 1) lv (.long x :: st) σ) : zJX κ w X bc ns pc lv (st) σ := by
  obtain ⟨p, l1, e, R, s, m, args, below, meth, c, Q, nL, cells, slots, A⟩ := κ
  exact fun H locs ls hP0 hz hS hl => lv_lload_n C.1 C.2.1 hd hi (hl.2.2 _ _ hv) (k H locs ls hP0 hz hS hl)
theorem e_lload {κ : zK} {l : Launch} {w : zWl} {X : va_W} {bc ns K0 : Nat} {cc : ByteArray} {own : String} {rm : Room} {nL : Nat} (C : zCX κ l w cc own rm nL K0) {pc : Nat} {lv : Nat → Option Value} {st : List Value} {σ : zSt} {i : Nat} {x : Int64} (hd : decode cc pc = .ok (.lload i, 2)) (hv : lv i = some (.long x)) (k : zJX κ w X bc ns (pc + 2) lv (.long x :: st) σ) : zJX κ w X bc ns pc lv (st) σ := by
  obtain ⟨p, l1, e, R, s, m, args, below, meth, c, Q, nL, cells, slots, A⟩ := κ
  exact fun H locs ls hP0 hz hS hl => lv_lload C.1 C.2.1 hd (hl.2.2 _ _ hv) (k H locs ls hP0 hz hS hl)
theorem e_aload_n {κ : zK} {l : Launch} {w : zWl} {X : va_W} {bc ns K0 : Nat} {cc : ByteArray} {own : String} {rm : Room} {nL : Nat} (C : zCX κ l w cc own rm nL K0) {pc : Nat} {lv : Nat → Option Value} {st : List Value} {σ : zSt} {k0 : Fin 4} {i : Nat} {x : Nat} (hd : decode cc pc = .ok (.aload_n k0, 1)) (hi : (k0 : Nat) = i) (hv : lv i = some (.ref x)) (k : zJX κ w X bc ns (pc + 1) lv (.ref x :: st) σ) : zJX κ w X bc ns pc lv (st) σ := by
  obtain ⟨p, l1, e, R, s, m, args, below, meth, c, Q, nL, cells, slots, A⟩ := κ
  exact fun H locs ls hP0 hz hS hl => lv_aload_n C.1 C.2.1 hd hi (hl.2.2 _ _ hv) (k H locs ls hP0 hz hS hl)
theorem e_aload {κ : zK} {l : Launch} {w : zWl} {X : va_W} {bc ns K0 : Nat} {cc : ByteArray} {own : String} {rm : Room} {nL : Nat} (C : zCX κ l w cc own rm nL K0) {pc : Nat} {lv : Nat → Option Value} {st : List Value} {σ : zSt} {i : Nat} {x : Nat} (hd : decode cc pc = .ok (.aload i, 2)) (hv : lv i = some (.ref x)) (k : zJX κ w X bc ns (pc + 2) lv (.ref x :: st) σ) : zJX κ w X bc ns pc lv (st) σ := by
  obtain ⟨p, l1, e, R, s, m, args, below, meth, c, Q, nL, cells, slots, A⟩ := κ
  exact fun H locs ls hP0 hz hS hl => lv_aload C.1 C.2.1 hd (hl.2.2 _ _ hv) (k H locs ls hP0 hz hS hl)
theorem e_istore_n {κ : zK} {l : Launch} {w : zWl} {X : va_W} {bc ns K0 : Nat} {cc : ByteArray} {own : String} {rm : Room} {nL : Nat} (C : zCX κ l w cc own rm nL K0) {pc : Nat} {lv : Nat → Option Value} {st : List Value} {σ : zSt} {k0 : Fin 4} {i : Nat} {x : Int32} (hd : decode cc pc = .ok (.istore_n k0, 1)) (hi : (k0 : Nat) = i) (hn : i < nL) (k : zJX κ w X bc ns (pc + 1) (zs1 lv i (.int x)) st σ) : zJX κ w X bc ns pc lv (.int x :: st) σ := by
  obtain ⟨p, l1, e, R, s, m, args, below, meth, c, Q, nL, cells, slots, A⟩ := κ
  obtain ⟨hx, hb, -, -, -, -, -, -, -, -, rfl, -⟩ := C
  intro H locs ls hP0 hz hS hl
  have hP := hP0.P
  obtain ⟨ls1, e1, -⟩ := lv_store1 (v := .int x) hl.nil hn rfl
  have hl1 := zh.set1 hl hn rfl e1
  subst hi
  intro T hT X
  obtain ⟨t, a, b⟩ := k H locs ls1 hP0 hz hS hl1 T hT X
  refine ⟨t, ?_, b⟩
  jvm_step X.here [X.here.top, ↓top_set X.here.top, hx, hb, hd, e1]
  exact a
theorem e_istore {κ : zK} {l : Launch} {w : zWl} {X : va_W} {bc ns K0 : Nat} {cc : ByteArray} {own : String} {rm : Room} {nL : Nat} (C : zCX κ l w cc own rm nL K0) {pc : Nat} {lv : Nat → Option Value} {st : List Value} {σ : zSt} {i : Nat} {x : Int32} (hd : decode cc pc = .ok (.istore i, 2)) (hn : i < nL) (k : zJX κ w X bc ns (pc + 2) (zs1 lv i (.int x)) st σ) : zJX κ w X bc ns pc lv (.int x :: st) σ := by
  obtain ⟨p, l1, e, R, s, m, args, below, meth, c, Q, nL, cells, slots, A⟩ := κ
  obtain ⟨hx, hb, -, -, -, -, -, -, -, -, rfl, -⟩ := C
  intro H locs ls hP0 hz hS hl
  have hP := hP0.P
  obtain ⟨ls1, e1, -⟩ := lv_store1 (v := .int x) hl.nil hn rfl
  have hl1 := zh.set1 hl hn rfl e1
  intro T hT X
  obtain ⟨t, a, b⟩ := k H locs ls1 hP0 hz hS hl1 T hT X
  refine ⟨t, ?_, b⟩
  jvm_step X.here [X.here.top, ↓top_set X.here.top, hx, hb, hd, e1]
  exact a
theorem e_astore_n {κ : zK} {l : Launch} {w : zWl} {X : va_W} {bc ns K0 : Nat} {cc : ByteArray} {own : String} {rm : Room} {nL : Nat} (C : zCX κ l w cc own rm nL K0) {pc : Nat} {lv : Nat → Option Value} {st : List Value} {σ : zSt} {k0 : Fin 4} {i : Nat} {x : Nat} (hd : decode cc pc = .ok (.astore_n k0, 1)) (hi : (k0 : Nat) = i) (hn : i < nL) (k : zJX κ w X bc ns (pc + 1) (zs1 lv i (.ref x)) st σ) : zJX κ w X bc ns pc lv (.ref x :: st) σ := by
  obtain ⟨p, l1, e, R, s, m, args, below, meth, c, Q, nL, cells, slots, A⟩ := κ
  obtain ⟨hx, hb, -, -, -, -, -, -, -, -, rfl, -⟩ := C
  intro H locs ls hP0 hz hS hl
  have hP := hP0.P
  obtain ⟨ls1, e1, -⟩ := lv_store1 (v := .ref x) hl.nil hn rfl
  have hl1 := zh.set1 hl hn rfl e1
  subst hi
  intro T hT X
  obtain ⟨t, a, b⟩ := k H locs ls1 hP0 hz hS hl1 T hT X
  refine ⟨t, ?_, b⟩
  jvm_step X.here [X.here.top, ↓top_set X.here.top, hx, hb, hd, e1, Value.isRef]
  exact a
theorem e_astore {κ : zK} {l : Launch} {w : zWl} {X : va_W} {bc ns K0 : Nat} {cc : ByteArray} {own : String} {rm : Room} {nL : Nat} (C : zCX κ l w cc own rm nL K0) {pc : Nat} {lv : Nat → Option Value} {st : List Value} {σ : zSt} {i : Nat} {x : Nat} (hd : decode cc pc = .ok (.astore i, 2)) (hn : i < nL) (k : zJX κ w X bc ns (pc + 2) (zs1 lv i (.ref x)) st σ) : zJX κ w X bc ns pc lv (.ref x :: st) σ := by
  obtain ⟨p, l1, e, R, s, m, args, below, meth, c, Q, nL, cells, slots, A⟩ := κ
  obtain ⟨hx, hb, -, -, -, -, -, -, -, -, rfl, -⟩ := C
  intro H locs ls hP0 hz hS hl
  have hP := hP0.P
  obtain ⟨ls1, e1, -⟩ := lv_store1 (v := .ref x) hl.nil hn rfl
  have hl1 := zh.set1 hl hn rfl e1
  intro T hT X
  obtain ⟨t, a, b⟩ := k H locs ls1 hP0 hz hS hl1 T hT X
  refine ⟨t, ?_, b⟩
  jvm_step X.here [X.here.top, ↓top_set X.here.top, hx, hb, hd, e1, Value.isRef]
  exact a
theorem e_iinc {κ : zK} {l : Launch} {w : zWl} {X : va_W} {bc ns K0 : Nat} {cc : ByteArray} {own : String} {rm : Room} {nL : Nat} (C : zCX κ l w cc own rm nL K0) {pc : Nat} {lv : Nat → Option Value} {st : List Value} {σ : zSt} {i : Nat} {n : Int} {x v : Int32} (hd : decode cc pc = .ok (.iinc i n, 3)) (hg0 : lv i = some (.int x)) (hv : x + Int32.ofInt n = v) (hn : i < nL) (k : zJX κ w X bc ns (pc + 3) (zs1 lv i (.int v)) st σ) : zJX κ w X bc ns pc lv st σ := by
  obtain ⟨p, l1, e, R, s, m, args, below, meth, c, Q, nL, cells, slots, A⟩ := κ
  obtain ⟨hx, hb, -, -, -, -, -, -, -, -, rfl, -⟩ := C
  subst hv
  intro H locs ls hP0 hz hS hl
  have hP := hP0.P
  have hg := hl.2.2 _ _ hg0
  obtain ⟨ls1, e1, -⟩ := lv_store1 (v := .int (x + Int32.ofInt n)) hl.nil hn rfl
  have hl1 := zh.set1 hl hn rfl e1
  intro T hT X
  obtain ⟨t, a, b⟩ := k H locs ls1 hP0 hz hS hl1 T hT X
  refine ⟨t, ?_, b⟩
  jvm_step X.here [X.here.top, ↓top_set X.here.top, hx, hb, hd, hg, e1]
  exact a
theorem e_dup {κ : zK} {l : Launch} {w : zWl} {X : va_W} {bc ns K0 : Nat} {cc : ByteArray} {own : String} {rm : Room} {nL : Nat} (C : zCX κ l w cc own rm nL K0) {pc : Nat} {lv : Nat → Option Value} {st : List Value} {σ : zSt} {va : Value} (hd : decode cc pc = .ok (.dup, 1)) (hva : va.category = 1) (k : zJX κ w X bc ns (pc + 1) lv (va :: va :: st) σ) : zJX κ w X bc ns pc lv (va :: st) σ := by
  obtain ⟨p, l1, e, R, s, m, args, below, meth, c, Q, nL, cells, slots, A⟩ := κ
  exact fun H locs ls hP0 hz hS hl => lv_dup C.1 C.2.1 hd hva (k H locs ls hP0 hz hS hl)
theorem e_pop {κ : zK} {l : Launch} {w : zWl} {X : va_W} {bc ns K0 : Nat} {cc : ByteArray} {own : String} {rm : Room} {nL : Nat} (C : zCX κ l w cc own rm nL K0) {pc : Nat} {lv : Nat → Option Value} {st : List Value} {σ : zSt} {va : Value} (hd : decode cc pc = .ok (.pop, 1)) (hva : va.category = 1) (k : zJX κ w X bc ns (pc + 1) lv (st) σ) : zJX κ w X bc ns pc lv (va :: st) σ := by
  obtain ⟨p, l1, e, R, s, m, args, below, meth, c, Q, nL, cells, slots, A⟩ := κ
  exact fun H locs ls hP0 hz hS hl => lv_pop C.1 C.2.1 hd hva (k H locs ls hP0 hz hS hl)
theorem e_goto {κ : zK} {l : Launch} {w : zWl} {X : va_W} {bc ns K0 : Nat} {cc : ByteArray} {own : String} {rm : Room} {nL : Nat} (C : zCX κ l w cc own rm nL K0) {pc : Nat} {lv : Nat → Option Value} {st : List Value} {σ : zSt} {off : Int} {tgt : Nat} (hd : decode cc pc = .ok (.goto off, 3)) (ht : (pc : Int) + off = (tgt : Int)) (k : zJX κ w X bc ns (tgt) lv (st) σ) : zJX κ w X bc ns pc lv (st) σ := by
  obtain ⟨p, l1, e, R, s, m, args, below, meth, c, Q, nL, cells, slots, A⟩ := κ
  exact fun H locs ls hP0 hz hS hl => lv_goto C.1 C.2.1 hd ht (k H locs ls hP0 hz hS hl)
theorem e_if_eq {κ : zK} {l : Launch} {w : zWl} {X : va_W} {bc ns K0 : Nat} {cc : ByteArray} {own : String} {rm : Room} {nL : Nat} (C : zCX κ l w cc own rm nL K0) {pc : Nat} {lv : Nat → Option Value} {st : List Value} {σ : zSt} {x : Int32} {off : Int} {tgt : Nat} (hd : decode cc pc = .ok (.ifCond .eq off, 3)) (ht : (pc : Int) + off = (tgt : Int)) (kt : x = 0 → zJX κ w X bc ns tgt lv st σ) (kf : ¬ x = 0 → zJX κ w X bc ns (pc + 3) lv st σ) : zJX κ w X bc ns pc lv (.int x :: st) σ := by
  obtain ⟨p, l1, e, R, s, m, args, below, meth, c, Q, nL, cells, slots, A⟩ := κ
  exact fun H locs ls hP0 hz hS hl => lv_if_eq C.1 C.2.1 hd ht (fun q => kt q H locs ls hP0 hz hS hl) (fun q => kf q H locs ls hP0 hz hS hl)
theorem e_icmp_eq {κ : zK} {l : Launch} {w : zWl} {X : va_W} {bc ns K0 : Nat} {cc : ByteArray} {own : String} {rm : Room} {nL : Nat} (C : zCX κ l w cc own rm nL K0) {pc : Nat} {lv : Nat → Option Value} {st : List Value} {σ : zSt} {x y : Int32} {off : Int} {tgt : Nat} (hd : decode cc pc = .ok (.if_icmp .eq off, 3)) (ht : (pc : Int) + off = (tgt : Int)) (kt : x = y → zJX κ w X bc ns tgt lv st σ) (kf : ¬ x = y → zJX κ w X bc ns (pc + 3) lv st σ) : zJX κ w X bc ns pc lv (.int y :: .int x :: st) σ := by
  obtain ⟨p, l1, e, R, s, m, args, below, meth, c, Q, nL, cells, slots, A⟩ := κ
  exact fun H locs ls hP0 hz hS hl => lv_icmp_eq C.1 C.2.1 hd ht (fun q => kt q H locs ls hP0 hz hS hl) (fun q => kf q H locs ls hP0 hz hS hl)
theorem e_if_ne {κ : zK} {l : Launch} {w : zWl} {X : va_W} {bc ns K0 : Nat} {cc : ByteArray} {own : String} {rm : Room} {nL : Nat} (C : zCX κ l w cc own rm nL K0) {pc : Nat} {lv : Nat → Option Value} {st : List Value} {σ : zSt} {x : Int32} {off : Int} {tgt : Nat} (hd : decode cc pc = .ok (.ifCond .ne off, 3)) (ht : (pc : Int) + off = (tgt : Int)) (kt : ¬ x = 0 → zJX κ w X bc ns tgt lv st σ) (kf : x = 0 → zJX κ w X bc ns (pc + 3) lv st σ) : zJX κ w X bc ns pc lv (.int x :: st) σ := by
  obtain ⟨p, l1, e, R, s, m, args, below, meth, c, Q, nL, cells, slots, A⟩ := κ
  exact fun H locs ls hP0 hz hS hl => lv_if_ne C.1 C.2.1 hd ht (fun q => kt q H locs ls hP0 hz hS hl) (fun q => kf q H locs ls hP0 hz hS hl)
theorem e_icmp_ne {κ : zK} {l : Launch} {w : zWl} {X : va_W} {bc ns K0 : Nat} {cc : ByteArray} {own : String} {rm : Room} {nL : Nat} (C : zCX κ l w cc own rm nL K0) {pc : Nat} {lv : Nat → Option Value} {st : List Value} {σ : zSt} {x y : Int32} {off : Int} {tgt : Nat} (hd : decode cc pc = .ok (.if_icmp .ne off, 3)) (ht : (pc : Int) + off = (tgt : Int)) (kt : ¬ x = y → zJX κ w X bc ns tgt lv st σ) (kf : x = y → zJX κ w X bc ns (pc + 3) lv st σ) : zJX κ w X bc ns pc lv (.int y :: .int x :: st) σ := by
  obtain ⟨p, l1, e, R, s, m, args, below, meth, c, Q, nL, cells, slots, A⟩ := κ
  exact fun H locs ls hP0 hz hS hl => lv_icmp_ne C.1 C.2.1 hd ht (fun q => kt q H locs ls hP0 hz hS hl) (fun q => kf q H locs ls hP0 hz hS hl)
theorem e_if_lt {κ : zK} {l : Launch} {w : zWl} {X : va_W} {bc ns K0 : Nat} {cc : ByteArray} {own : String} {rm : Room} {nL : Nat} (C : zCX κ l w cc own rm nL K0) {pc : Nat} {lv : Nat → Option Value} {st : List Value} {σ : zSt} {x : Int32} {off : Int} {tgt : Nat} (hd : decode cc pc = .ok (.ifCond .lt off, 3)) (ht : (pc : Int) + off = (tgt : Int)) (kt : x < 0 → zJX κ w X bc ns tgt lv st σ) (kf : ¬ x < 0 → zJX κ w X bc ns (pc + 3) lv st σ) : zJX κ w X bc ns pc lv (.int x :: st) σ := by
  obtain ⟨p, l1, e, R, s, m, args, below, meth, c, Q, nL, cells, slots, A⟩ := κ
  exact fun H locs ls hP0 hz hS hl => lv_if_lt C.1 C.2.1 hd ht (fun q => kt q H locs ls hP0 hz hS hl) (fun q => kf q H locs ls hP0 hz hS hl)
theorem e_icmp_lt {κ : zK} {l : Launch} {w : zWl} {X : va_W} {bc ns K0 : Nat} {cc : ByteArray} {own : String} {rm : Room} {nL : Nat} (C : zCX κ l w cc own rm nL K0) {pc : Nat} {lv : Nat → Option Value} {st : List Value} {σ : zSt} {x y : Int32} {off : Int} {tgt : Nat} (hd : decode cc pc = .ok (.if_icmp .lt off, 3)) (ht : (pc : Int) + off = (tgt : Int)) (kt : x < y → zJX κ w X bc ns tgt lv st σ) (kf : ¬ x < y → zJX κ w X bc ns (pc + 3) lv st σ) : zJX κ w X bc ns pc lv (.int y :: .int x :: st) σ := by
  obtain ⟨p, l1, e, R, s, m, args, below, meth, c, Q, nL, cells, slots, A⟩ := κ
  exact fun H locs ls hP0 hz hS hl => lv_icmp_lt C.1 C.2.1 hd ht (fun q => kt q H locs ls hP0 hz hS hl) (fun q => kf q H locs ls hP0 hz hS hl)
theorem e_if_ge {κ : zK} {l : Launch} {w : zWl} {X : va_W} {bc ns K0 : Nat} {cc : ByteArray} {own : String} {rm : Room} {nL : Nat} (C : zCX κ l w cc own rm nL K0) {pc : Nat} {lv : Nat → Option Value} {st : List Value} {σ : zSt} {x : Int32} {off : Int} {tgt : Nat} (hd : decode cc pc = .ok (.ifCond .ge off, 3)) (ht : (pc : Int) + off = (tgt : Int)) (kt : 0 ≤ x → zJX κ w X bc ns tgt lv st σ) (kf : ¬ 0 ≤ x → zJX κ w X bc ns (pc + 3) lv st σ) : zJX κ w X bc ns pc lv (.int x :: st) σ := by
  obtain ⟨p, l1, e, R, s, m, args, below, meth, c, Q, nL, cells, slots, A⟩ := κ
  exact fun H locs ls hP0 hz hS hl => lv_if_ge C.1 C.2.1 hd ht (fun q => kt q H locs ls hP0 hz hS hl) (fun q => kf q H locs ls hP0 hz hS hl)
theorem e_icmp_ge {κ : zK} {l : Launch} {w : zWl} {X : va_W} {bc ns K0 : Nat} {cc : ByteArray} {own : String} {rm : Room} {nL : Nat} (C : zCX κ l w cc own rm nL K0) {pc : Nat} {lv : Nat → Option Value} {st : List Value} {σ : zSt} {x y : Int32} {off : Int} {tgt : Nat} (hd : decode cc pc = .ok (.if_icmp .ge off, 3)) (ht : (pc : Int) + off = (tgt : Int)) (kt : y ≤ x → zJX κ w X bc ns tgt lv st σ) (kf : ¬ y ≤ x → zJX κ w X bc ns (pc + 3) lv st σ) : zJX κ w X bc ns pc lv (.int y :: .int x :: st) σ := by
  obtain ⟨p, l1, e, R, s, m, args, below, meth, c, Q, nL, cells, slots, A⟩ := κ
  exact fun H locs ls hP0 hz hS hl => lv_icmp_ge C.1 C.2.1 hd ht (fun q => kt q H locs ls hP0 hz hS hl) (fun q => kf q H locs ls hP0 hz hS hl)
theorem e_if_gt {κ : zK} {l : Launch} {w : zWl} {X : va_W} {bc ns K0 : Nat} {cc : ByteArray} {own : String} {rm : Room} {nL : Nat} (C : zCX κ l w cc own rm nL K0) {pc : Nat} {lv : Nat → Option Value} {st : List Value} {σ : zSt} {x : Int32} {off : Int} {tgt : Nat} (hd : decode cc pc = .ok (.ifCond .gt off, 3)) (ht : (pc : Int) + off = (tgt : Int)) (kt : 0 < x → zJX κ w X bc ns tgt lv st σ) (kf : ¬ 0 < x → zJX κ w X bc ns (pc + 3) lv st σ) : zJX κ w X bc ns pc lv (.int x :: st) σ := by
  obtain ⟨p, l1, e, R, s, m, args, below, meth, c, Q, nL, cells, slots, A⟩ := κ
  exact fun H locs ls hP0 hz hS hl => lv_if_gt C.1 C.2.1 hd ht (fun q => kt q H locs ls hP0 hz hS hl) (fun q => kf q H locs ls hP0 hz hS hl)
theorem e_icmp_gt {κ : zK} {l : Launch} {w : zWl} {X : va_W} {bc ns K0 : Nat} {cc : ByteArray} {own : String} {rm : Room} {nL : Nat} (C : zCX κ l w cc own rm nL K0) {pc : Nat} {lv : Nat → Option Value} {st : List Value} {σ : zSt} {x y : Int32} {off : Int} {tgt : Nat} (hd : decode cc pc = .ok (.if_icmp .gt off, 3)) (ht : (pc : Int) + off = (tgt : Int)) (kt : y < x → zJX κ w X bc ns tgt lv st σ) (kf : ¬ y < x → zJX κ w X bc ns (pc + 3) lv st σ) : zJX κ w X bc ns pc lv (.int y :: .int x :: st) σ := by
  obtain ⟨p, l1, e, R, s, m, args, below, meth, c, Q, nL, cells, slots, A⟩ := κ
  exact fun H locs ls hP0 hz hS hl => lv_icmp_gt C.1 C.2.1 hd ht (fun q => kt q H locs ls hP0 hz hS hl) (fun q => kf q H locs ls hP0 hz hS hl)
theorem e_if_le {κ : zK} {l : Launch} {w : zWl} {X : va_W} {bc ns K0 : Nat} {cc : ByteArray} {own : String} {rm : Room} {nL : Nat} (C : zCX κ l w cc own rm nL K0) {pc : Nat} {lv : Nat → Option Value} {st : List Value} {σ : zSt} {x : Int32} {off : Int} {tgt : Nat} (hd : decode cc pc = .ok (.ifCond .le off, 3)) (ht : (pc : Int) + off = (tgt : Int)) (kt : x ≤ 0 → zJX κ w X bc ns tgt lv st σ) (kf : ¬ x ≤ 0 → zJX κ w X bc ns (pc + 3) lv st σ) : zJX κ w X bc ns pc lv (.int x :: st) σ := by
  obtain ⟨p, l1, e, R, s, m, args, below, meth, c, Q, nL, cells, slots, A⟩ := κ
  exact fun H locs ls hP0 hz hS hl => lv_if_le C.1 C.2.1 hd ht (fun q => kt q H locs ls hP0 hz hS hl) (fun q => kf q H locs ls hP0 hz hS hl)
theorem e_icmp_le {κ : zK} {l : Launch} {w : zWl} {X : va_W} {bc ns K0 : Nat} {cc : ByteArray} {own : String} {rm : Room} {nL : Nat} (C : zCX κ l w cc own rm nL K0) {pc : Nat} {lv : Nat → Option Value} {st : List Value} {σ : zSt} {x y : Int32} {off : Int} {tgt : Nat} (hd : decode cc pc = .ok (.if_icmp .le off, 3)) (ht : (pc : Int) + off = (tgt : Int)) (kt : x ≤ y → zJX κ w X bc ns tgt lv st σ) (kf : ¬ x ≤ y → zJX κ w X bc ns (pc + 3) lv st σ) : zJX κ w X bc ns pc lv (.int y :: .int x :: st) σ := by
  obtain ⟨p, l1, e, R, s, m, args, below, meth, c, Q, nL, cells, slots, A⟩ := κ
  exact fun H locs ls hP0 hz hS hl => lv_icmp_le C.1 C.2.1 hd ht (fun q => kt q H locs ls hP0 hz hS hl) (fun q => kf q H locs ls hP0 hz hS hl)
theorem e_iaddN {κ : zK} {l : Launch} {w : zWl} {X : va_W} {bc ns K0 : Nat} {cc : ByteArray} {own : String} {rm : Room} {nL : Nat} (C : zCX κ l w cc own rm nL K0) {pc : Nat} {lv : Nat → Option Value} {st : List Value} {σ : zSt} {a b : Nat} (hd : decode cc pc = .ok (.iadd, 1)) (k : zJX κ w X bc ns (pc + 1) lv (.int (nI (a + b)) :: st) σ) : zJX κ w X bc ns pc lv (.int (nI b) :: .int (nI a) :: st) σ := e_iadd C hd (by rw [nI_add]; exact k)
theorem e_isubN {κ : zK} {l : Launch} {w : zWl} {X : va_W} {bc ns K0 : Nat} {cc : ByteArray} {own : String} {rm : Room} {nL : Nat} (C : zCX κ l w cc own rm nL K0) {pc : Nat} {lv : Nat → Option Value} {st : List Value} {σ : zSt} {a b : Nat} (hd : decode cc pc = .ok (.isub, 1)) (h : b ≤ a) (k : zJX κ w X bc ns (pc + 1) lv (.int (nI (a - b)) :: st) σ) : zJX κ w X bc ns pc lv (.int (nI b) :: .int (nI a) :: st) σ := e_isub C hd (by rw [pk_sub h]; exact k)
theorem e_iincN {κ : zK} {l : Launch} {w : zWl} {X : va_W} {bc ns K0 : Nat} {cc : ByteArray} {own : String} {rm : Room} {nL : Nat} (C : zCX κ l w cc own rm nL K0) {pc : Nat} {lv : Nat → Option Value} {st : List Value} {σ : zSt} {i : Nat} {n : Int} {a b : Nat} (hd : decode cc pc = .ok (.iinc i n, 3)) (hg0 : lv i = some (.int (nI a))) (hb : Int32.ofInt n = nI b) (hn : i < nL) (k : zJX κ w X bc ns (pc + 3) (zs1 lv i (.int (nI (a + b)))) st σ) : zJX κ w X bc ns pc lv st σ := e_iinc C hd hg0 (by rw [hb, nI_add]) hn k
theorem e_lcmp {κ : zK} {l : Launch} {w : zWl} {X : va_W} {bc ns K0 : Nat} {cc : ByteArray} {own : String} {rm : Room} {nL : Nat} (C : zCX κ l w cc own rm nL K0) {pc : Nat} {lv : Nat → Option Value} {st : List Value} {σ : zSt} {x y : Int64} (hd : decode cc pc = .ok (.lcmp, 1)) (k : zJX κ w X bc ns (pc + 1) lv (.int (lg_cmp x y) :: st) σ) : zJX κ w X bc ns pc lv (.long y :: .long x :: st) σ := by
  obtain ⟨p, l1, e, R, s, m, args, below, meth, c, Q, nL, cells, slots, A⟩ := κ
  exact fun H locs ls hP0 hz hS hl => W.lcmp C.1 C.2.1 hd (k H locs ls hP0 hz hS hl)
theorem e_icmp_geN {κ : zK} {l : Launch} {w : zWl} {X : va_W} {bc ns K0 : Nat} {cc : ByteArray} {own : String} {rm : Room} {nL : Nat} (C : zCX κ l w cc own rm nL K0) {pc : Nat} {lv : Nat → Option Value} {st : List Value} {σ : zSt} {a b : Nat} {off : Int} {tgt : Nat} (hd : decode cc pc = .ok (.if_icmp .ge off, 3)) (ht : (pc : Int) + off = (tgt : Int)) (ha : a < 2 ^ 31) (hb : b < 2 ^ 31) (kt : b ≤ a → zJX κ w X bc ns tgt lv st σ) (kf : a < b → zJX κ w X bc ns (pc + 3) lv st σ) : zJX κ w X bc ns pc lv (.int (nI b) :: .int (nI a) :: st) σ :=
  e_icmp_ge C hd ht (fun q => kt ((nI_leI hb ha).mp q)) (fun q => kf (Nat.not_le.mp fun z => q ((nI_leI hb ha).mpr z)))
theorem e_icmp_ltN {κ : zK} {l : Launch} {w : zWl} {X : va_W} {bc ns K0 : Nat} {cc : ByteArray} {own : String} {rm : Room} {nL : Nat} (C : zCX κ l w cc own rm nL K0) {pc : Nat} {lv : Nat → Option Value} {st : List Value} {σ : zSt} {a b : Nat} {off : Int} {tgt : Nat} (hd : decode cc pc = .ok (.if_icmp .lt off, 3)) (ht : (pc : Int) + off = (tgt : Int)) (ha : a < 2 ^ 31) (hb : b < 2 ^ 31) (kt : a < b → zJX κ w X bc ns tgt lv st σ) (kf : b ≤ a → zJX κ w X bc ns (pc + 3) lv st σ) : zJX κ w X bc ns pc lv (.int (nI b) :: .int (nI a) :: st) σ :=
  e_icmp_lt C hd ht (fun q => kt ((nI_ltI ha hb).mp q)) (fun q => kf (Nat.not_lt.mp fun z => q ((nI_ltI ha hb).mpr z)))
theorem e_icmp_gtN {κ : zK} {l : Launch} {w : zWl} {X : va_W} {bc ns K0 : Nat} {cc : ByteArray} {own : String} {rm : Room} {nL : Nat} (C : zCX κ l w cc own rm nL K0) {pc : Nat} {lv : Nat → Option Value} {st : List Value} {σ : zSt} {a b : Nat} {off : Int} {tgt : Nat} (hd : decode cc pc = .ok (.if_icmp .gt off, 3)) (ht : (pc : Int) + off = (tgt : Int)) (ha : a < 2 ^ 31) (hb : b < 2 ^ 31) (kt : b < a → zJX κ w X bc ns tgt lv st σ) (kf : a ≤ b → zJX κ w X bc ns (pc + 3) lv st σ) : zJX κ w X bc ns pc lv (.int (nI b) :: .int (nI a) :: st) σ :=
  e_icmp_gt C hd ht (fun q => kt ((nI_ltI hb ha).mp q)) (fun q => kf (Nat.not_lt.mp fun z => q ((nI_ltI hb ha).mpr z)))
theorem e_icmp_leN {κ : zK} {l : Launch} {w : zWl} {X : va_W} {bc ns K0 : Nat} {cc : ByteArray} {own : String} {rm : Room} {nL : Nat} (C : zCX κ l w cc own rm nL K0) {pc : Nat} {lv : Nat → Option Value} {st : List Value} {σ : zSt} {a b : Nat} {off : Int} {tgt : Nat} (hd : decode cc pc = .ok (.if_icmp .le off, 3)) (ht : (pc : Int) + off = (tgt : Int)) (ha : a < 2 ^ 31) (hb : b < 2 ^ 31) (kt : a ≤ b → zJX κ w X bc ns tgt lv st σ) (kf : b < a → zJX κ w X bc ns (pc + 3) lv st σ) : zJX κ w X bc ns pc lv (.int (nI b) :: .int (nI a) :: st) σ :=
  e_icmp_le C hd ht (fun q => kt ((nI_leI ha hb).mp q)) (fun q => kf (Nat.not_le.mp fun z => q ((nI_leI ha hb).mpr z)))
theorem e_if_eqB {κ : zK} {l : Launch} {w : zWl} {X : va_W} {bc ns K0 : Nat} {cc : ByteArray} {own : String} {rm : Room} {nL : Nat} (C : zCX κ l w cc own rm nL K0) {pc : Nat} {lv : Nat → Option Value} {st : List Value} {σ : zSt} {b : Bool} {off : Int} {tgt : Nat} (hd : decode cc pc = .ok (.ifCond .eq off, 3)) (ht : (pc : Int) + off = (tgt : Int)) (kt : b = false → zJX κ w X bc ns tgt lv st σ) (kf : b = true → zJX κ w X bc ns (pc + 3) lv st σ) : zJX κ w X bc ns pc lv (.int (bI b) :: st) σ := by
  cases b with
  | false => exact e_if_eq C hd ht (fun _ => kt rfl) (fun q => absurd rfl q)
  | true => exact e_if_eq C hd ht (fun q => absurd q (by decide)) (fun _ => kf rfl)
theorem e_if_neB {κ : zK} {l : Launch} {w : zWl} {X : va_W} {bc ns K0 : Nat} {cc : ByteArray} {own : String} {rm : Room} {nL : Nat} (C : zCX κ l w cc own rm nL K0) {pc : Nat} {lv : Nat → Option Value} {st : List Value} {σ : zSt} {b : Bool} {off : Int} {tgt : Nat} (hd : decode cc pc = .ok (.ifCond .ne off, 3)) (ht : (pc : Int) + off = (tgt : Int)) (kt : b = true → zJX κ w X bc ns tgt lv st σ) (kf : b = false → zJX κ w X bc ns (pc + 3) lv st σ) : zJX κ w X bc ns pc lv (.int (bI b) :: st) σ := by
  cases b with
  | false => exact e_if_ne C hd ht (fun q => absurd rfl q) (fun _ => kf rfl)
  | true => exact e_if_ne C hd ht (fun _ => kt rfl) (fun q => absurd q (by decide))
theorem e_top {κ : zK} {w : zWl} {X : va_W} {bc ns : Nat} {pc : Nat} {lv : Nat → Option Value} {st : List Value} {σ : zSt} {u v : Value} (h : u = v) (k : zJX κ w X bc ns pc lv (v :: st) σ) : zJX κ w X bc ns pc lv (u :: st) σ := h ▸ k
theorem e_st {κ : zK} {w : zWl} {X : va_W} {bc ns : Nat} {pc : Nat} {lv : Nat → Option Value} {st : List Value} {σ σ' : zSt} (h : σ = σ') (k : zJX κ w X bc ns pc lv st σ') : zJX κ w X bc ns pc lv st σ := h ▸ k
theorem e_lv {κ : zK} {w : zWl} {X : va_W} {bc ns : Nat} {pc : Nat} {lv lv' : Nat → Option Value} {st : List Value} {σ : zSt} (h : ∀ i v, lv' i = some v → lv i = some v) (k : zJX κ w X bc ns pc lv' st σ) : zJX κ w X bc ns pc lv st σ := by
  obtain ⟨p, l1, e, R, s, m, args, below, meth, c, Q, nL, cells, slots, A⟩ := κ
  exact fun H locs ls hP0 hz hS hl => k H locs ls hP0 hz hS ⟨hl.1, hl.2.1, fun i v hv => hl.2.2 i v (h i v hv)⟩
theorem e_at {κ : zK} {w : zWl} {X : va_W} {bc ns : Nat} {pc : Nat} {lv : Nat → Option Value} {st : List Value} {σ : zSt} (l : List (Nat × Value)) (h : zall lv l) (k : zJX κ w X bc ns pc (zlof l) st σ) : zJX κ w X bc ns pc lv st σ := e_lv (zall_of l h) k
theorem e_gets {κ : zK} {l : Launch} {w : zWl} {X : va_W} {bc ns K0 : Nat} {cc : ByteArray} {own : String} {rm : Room} {nL : Nat} (C : zCX κ l w cc own rm nL K0) {pc : Nat} {lv : Nat → Option Value} {st : List Value} {σ : zSt} {id index : Nat} {C0 nm : String} (hd : decode cc pc = .ok (.getstatic index, 3)) (hi : id < zns w) (ho : zso w id = (C0, nm)) (hw : Cond.fieldLink own index C0 nm "[J" ∈ wsL_law) (k : zJX κ w X bc ns (pc + 3) lv (.ref (zad w id) :: st) σ) : zJX κ w X bc ns pc lv st σ := by
  obtain ⟨p, l1, e, R, s, m, args, below, meth, c, Q, nL, cells, slots, A⟩ := κ
  intro H locs ls hP0 hz hS hl
  have hP := hP0.P
  have hT := (C.2.2.2.2.2.2.1 id hi).2
  rw [ho] at hT
  exact va_gets C.1 C.2.1 hT hS C.2.2.2.1 (C.2.2.2.2.1 _ hw) (fun _ h => h) hd (k H locs ls hP0 hz hS hl)
theorem e_get {κ : zK} {l : Launch} {w : zWl} {X : va_W} {bc ns K0 : Nat} {cc : ByteArray} {own : String} {rm : Room} {nL : Nat} (C : zCX κ l w cc own rm nL K0) {pc : Nat} {lv : Nat → Option Value} {st : List Value} {σ : zSt} {id index k0 : Nat} {f : Nat ⊕ Nat} (hd : decode cc pc = .ok (.getfield index, 3)) (hF : zFld w own index id k0 f) (hs : zns w ≤ id) (hn : id < zn w) (k : zJX κ w X bc ns (pc + 3) lv (zfv w σ f :: st) σ) : zJX κ w X bc ns pc lv (.ref (zad w id) :: st) σ := by
  obtain ⟨p, l1, e, R, s, m, args, below, meth, c, Q, nL, cells, slots, A⟩ := κ
  intro H locs ls hP0 hz hS hl
  have hP := hP0.P
  obtain ⟨C0, T, N, h1, h2, h3, h4, h5, h6⟩ := hF
  have he := zl_at w σ hs hn
  rw [zE_ob h1] at he
  exact va_get (D := w.1) C.1 C.2.1 C.2.2.2.2.1 h4 C.2.2.2.1 C.2.2.2.2.2.1 hP.1 (id - zns w) he h3 k0 h5 (C.2.2.2.2.1 _ h6) (fun _ h => h) (v := zfv w σ f) (by rw [List.getElem?_map, h2]; rfl) hd (k H locs ls hP0 hz hS hl)
theorem e_getR {κ : zK} {l : Launch} {w : zWl} {X : va_W} {bc ns K0 : Nat} {cc : ByteArray} {own : String} {rm : Room} {nL : Nat} (C : zCX κ l w cc own rm nL K0) {pc : Nat} {lv : Nat → Option Value} {st : List Value} {σ : zSt} {id index k0 a : Nat} (hd : decode cc pc = .ok (.getfield index, 3)) (hF : zFld w own index id k0 (.inl a)) (hs : zns w ≤ id) (hn : id < zn w) (k : zJX κ w X bc ns (pc + 3) lv (.ref (zad w a) :: st) σ) : zJX κ w X bc ns pc lv (.ref (zad w id) :: st) σ := e_get C hd hF hs hn k
theorem e_getI {κ : zK} {l : Launch} {w : zWl} {X : va_W} {bc ns K0 : Nat} {cc : ByteArray} {own : String} {rm : Room} {nL : Nat} (C : zCX κ l w cc own rm nL K0) {pc : Nat} {lv : Nat → Option Value} {st : List Value} {σ : zSt} {id index k0 q : Nat} (hd : decode cc pc = .ok (.getfield index, 3)) (hF : zFld w own index id k0 (.inr q)) (hs : zns w ≤ id) (hn : id < zn w) (k : zJX κ w X bc ns (pc + 3) lv (.int (σ.2.2 q) :: st) σ) : zJX κ w X bc ns pc lv (.ref (zad w id) :: st) σ := e_get C hd hF hs hn k
theorem e_tabIn {κ : zK} {l : Launch} {w : zWl} {X : va_W} {bc ns K0 : Nat} {cc : ByteArray} {own : String} {rm : Room} {nL : Nat} (C : zCX κ l w cc own rm nL K0) {pc : Nat} {lv : Nat → Option Value} {st : List Value} {σ : zSt} {dflt lo hi : Int} {offs : Array Int} {len c : Nat} {off : Int} {tgt : Nat} (hd : decode cc pc = .ok (.tableswitch dflt lo hi offs, len)) (hc : ¬ (nI c).toInt < lo ∧ ¬ hi < (nI c).toInt ∧ offs[((nI c).toInt - lo).toNat]? = some off) (ht : (pc : Int) + off = (tgt : Int)) (k : zJX κ w X bc ns tgt lv st σ) : zJX κ w X bc ns pc lv (.int (nI c) :: st) σ := by
  obtain ⟨p, l1, e, R, s, m, args, below, meth, c, Q, nL, cells, slots, A⟩ := κ
  exact fun H locs ls hP0 hz hS hl => lv_tableIn C.1 C.2.1 hd hc.1 hc.2.1 hc.2.2 ht (k H locs ls hP0 hz hS hl)
theorem e_tabOut {κ : zK} {l : Launch} {w : zWl} {X : va_W} {bc ns K0 : Nat} {cc : ByteArray} {own : String} {rm : Room} {nL : Nat} (C : zCX κ l w cc own rm nL K0) {pc : Nat} {lv : Nat → Option Value} {st : List Value} {σ : zSt} {dflt lo hi : Int} {offs : Array Int} {len : Nat} {x : Int32} {tgt : Nat} (hd : decode cc pc = .ok (.tableswitch dflt lo hi offs, len)) (hc : x.toInt < lo ∨ hi < x.toInt) (ht : (pc : Int) + dflt = (tgt : Int)) (k : zJX κ w X bc ns tgt lv st σ) : zJX κ w X bc ns pc lv (.int x :: st) σ := by
  obtain ⟨p, l1, e, R, s, m, args, below, meth, c, Q, nL, cells, slots, A⟩ := κ
  exact fun H locs ls hP0 hz hS hl => lv_tableOut C.1 C.2.1 hd hc ht (k H locs ls hP0 hz hS hl)
theorem e_obj {κ : zK} {l : Launch} {w : zWl} {X : va_W} {bc ns K0 : Nat} {cc : ByteArray} {own : String} {rm : Room} {nL : Nat} (C : zCX κ l w cc own rm nL K0) {pc : Nat} {lv : Nat → Option Value} {st : List Value} {σ : zSt} {index a : Nat} (hd : decode cc pc = .ok (.invokespecial index, 3)) (hw : Cond.methodLink own index objectInit ∈ wsL_law) (hf : 1 ≤ rm.frames) (hlo : (st.map fun v => v.category).sum + 12 ≤ rm.locals) (k : zJX κ w X bc ns (pc + 3) lv st σ) : zJX κ w X bc ns pc lv (.ref a :: st) σ := by
  obtain ⟨p, l1, e, R, s, m, args, below, meth, c, Q, nL, cells, slots, A⟩ := κ
  obtain ⟨hx, hb, hml, hown, hts, hK, hT, hAA, rfl, rfl, rfl, hsz, hnw⟩ := C
  intro H locs ls hP hz hS hl
  refine W.objInit hx hb hown (hts _ hw) (hts _ mw_1_11) (hts _ mw_1_12) rfl (by rw [hml]; exact hl.1) rfl hd hf (by show 2 * 0 + _ + 12 ≤ _; omega) ?_
  exact k H locs ls hP hz hS hl
theorem e_newL {κ : zK} {l : Launch} {w : zWl} {X : va_W} {bc ns K0 : Nat} {cc : ByteArray} {own : String} {rm : Room} {nL : Nat} (C : zCX κ l w cc own rm nL K0) {pc : Nat} {lv : Nat → Option Value} {st : List Value} {σ : zSt} {N t0 : Nat} (hd : decode cc pc = .ok (.newarray .long, 2)) (ht0 : w.2.2.2.1[t0]? = some (w.2.2.1 0, .long)) (hk : zkd w (zn w) = 0) (hl0 : zln w (zn w) = N) (ha : zad w (zn w) = K0 + bc) (hns : zns w ≤ zn w) (hN : N ≤ 10000) (hbc : bc + 1 ≤ rm.cells) (hsl : ns + N ≤ rm.slots) (k : zJX κ (zN w (zn w + 1)) X (bc + 1) (ns + N) (pc + 2) lv (.ref (zad w (zn w)) :: st) (zL σ (zn w) (fun _ => 0))) : zJX κ w X bc ns pc lv (.int (nI N) :: st) σ := by
  obtain ⟨p, l1, e, R, s, m, args, below, meth, c, Q, nL, cells, slots, A⟩ := κ
  obtain ⟨hx, hb, hml, hown, hts, hK, hT, hAA, rfl, rfl, rfl, hsz, hnw⟩ := C
  intro H locs ls hP hz hS hl
  have hA : A H.size := hAA _ (by omega)
  refine va_newaK (atype := .long) hx hb (hts _ mw_1_14) rfl hd rfl (nI_pos (by omega)) (nI_clamp (by omega)) (by show N * 8 ≤ _; omega) hbc hsl rfl (fun H1 cA e1 z1 o1 hAr hNm => ?_)
  have hc : cA = w.2.2.1 0 := by
    have h2 : s.vm.findClass ("[" ++ (FieldType.long).toString) = some (w.2.2.1 0) := (hK.2 t0 _ ht0).2
    exact Option.some.inj (hNm.symm.trans h2)
  subst hc
  have ha2 : zad w (zn w) = H.size := by omega
  rw [ha2] at k
  refine k H1 locs ls ?_ (by omega) ⟨Nat.le_trans hS.1 (by omega), fun q h1 h2 => (o1 q (Nat.lt_of_lt_of_le h1 hS.1)).trans (hS.2.1 q h1 h2), hS.2.2⟩ hl
  refine zPX.commits 1 ?_ hns (fun id h1 h2 => zE_zL w σ _ (by omega)) (fun id hi => zL_n σ _ (by omega))
  have e0 : (List.range 1).map (fun i => (zad w (zn w + i), zE w (zL σ (zn w) (fun _ => 0)) (zn w + i))) = [(H.size, .inl (w.2.2.1 0, N, .inr (.inl (fun _ => 0))))] := by
    show [(zad w (zn w), zE w (zL σ (zn w) (fun _ => 0)) (zn w))] = _
    unfold zE
    rw [hk, ha2, zL_s, hl0]
    rfl
  rw [e0]
  refine hP.push o1 (fun y hy => ?_) (List.pairwise_singleton _ _)
  rw [List.mem_singleton.mp hy]
  exact ⟨e1, Nat.le_refl _, hA⟩
theorem e_newI {κ : zK} {l : Launch} {w : zWl} {X : va_W} {bc ns K0 : Nat} {cc : ByteArray} {own : String} {rm : Room} {nL : Nat} (C : zCX κ l w cc own rm nL K0) {pc : Nat} {lv : Nat → Option Value} {st : List Value} {σ : zSt} {N t0 : Nat} (hd : decode cc pc = .ok (.newarray .int, 2)) (ht0 : w.2.2.2.1[t0]? = some (w.2.2.1 1, .int)) (hk : zkd w (zn w) = 1) (hl0 : zln w (zn w) = N) (ha : zad w (zn w) = K0 + bc) (hns : zns w ≤ zn w) (hN : N ≤ 10000) (hbc : bc + 1 ≤ rm.cells) (hsl : ns + N ≤ rm.slots) (k : zJX κ (zN w (zn w + 1)) X (bc + 1) (ns + N) (pc + 2) lv (.ref (zad w (zn w)) :: st) (zB σ (zn w) (fun _ => 0))) : zJX κ w X bc ns pc lv (.int (nI N) :: st) σ := by
  obtain ⟨p, l1, e, R, s, m, args, below, meth, c, Q, nL, cells, slots, A⟩ := κ
  obtain ⟨hx, hb, hml, hown, hts, hK, hT, hAA, rfl, rfl, rfl, hsz, hnw⟩ := C
  intro H locs ls hP hz hS hl
  have hA : A H.size := hAA _ (by omega)
  refine va_newaK (atype := .int) hx hb (hts _ mw_9_4) rfl hd rfl (nI_pos (by omega)) (nI_clamp (by omega)) (by show N * 4 ≤ _; omega) hbc hsl rfl (fun H1 cA e1 z1 o1 hAr hNm => ?_)
  have hc : cA = w.2.2.1 1 := by
    have h2 : s.vm.findClass ("[" ++ (FieldType.int).toString) = some (w.2.2.1 1) := (hK.2 t0 _ ht0).2
    exact Option.some.inj (hNm.symm.trans h2)
  subst hc
  have ha2 : zad w (zn w) = H.size := by omega
  rw [ha2] at k
  refine k H1 locs ls ?_ (by omega) ⟨Nat.le_trans hS.1 (by omega), fun q h1 h2 => (o1 q (Nat.lt_of_lt_of_le h1 hS.1)).trans (hS.2.1 q h1 h2), hS.2.2⟩ hl
  refine zPX.commits 1 ?_ hns (fun id h1 h2 => zE_zB w σ _ (by omega)) (fun _ _ => rfl)
  have e0 : (List.range 1).map (fun i => (zad w (zn w + i), zE w (zB σ (zn w) (fun _ => 0)) (zn w + i))) = [(H.size, .inl (w.2.2.1 1, N, .inl (fun _ => 0)))] := by
    show [(zad w (zn w), zE w (zB σ (zn w) (fun _ => 0)) (zn w))] = _
    unfold zE
    rw [hk, ha2, zB_s, hl0]
    rfl
  rw [e0]
  refine hP.push o1 (fun y hy => ?_) (List.pairwise_singleton _ _)
  rw [List.mem_singleton.mp hy]
  exact ⟨e1, Nat.le_refl _, hA⟩
theorem e_newB {κ : zK} {l : Launch} {w : zWl} {X : va_W} {bc ns K0 : Nat} {cc : ByteArray} {own : String} {rm : Room} {nL : Nat} (C : zCX κ l w cc own rm nL K0) {pc : Nat} {lv : Nat → Option Value} {st : List Value} {σ : zSt} {N t0 : Nat} (hd : decode cc pc = .ok (.newarray .byte, 2)) (ht0 : w.2.2.2.1[t0]? = some (w.2.2.1 2, .byte)) (hk : zkd w (zn w) = 2) (hl0 : zln w (zn w) = N) (ha : zad w (zn w) = K0 + bc) (hns : zns w ≤ zn w) (hN : N ≤ 10000) (hbc : bc + 1 ≤ rm.cells) (hsl : ns + N ≤ rm.slots) (k : zJX κ (zN w (zn w + 1)) X (bc + 1) (ns + N) (pc + 2) lv (.ref (zad w (zn w)) :: st) (zB σ (zn w) (fun _ => 0))) : zJX κ w X bc ns pc lv (.int (nI N) :: st) σ := by
  obtain ⟨p, l1, e, R, s, m, args, below, meth, c, Q, nL, cells, slots, A⟩ := κ
  obtain ⟨hx, hb, hml, hown, hts, hK, hT, hAA, rfl, rfl, rfl, hsz, hnw⟩ := C
  intro H locs ls hP hz hS hl
  have hA : A H.size := hAA _ (by omega)
  refine va_newaK (atype := .byte) hx hb (hts _ mw_3_11) rfl hd rfl (nI_pos (by omega)) (nI_clamp (by omega)) (by show N * 1 ≤ _; omega) hbc hsl rfl (fun H1 cA e1 z1 o1 hAr hNm => ?_)
  have hc : cA = w.2.2.1 2 := by
    have h2 : s.vm.findClass ("[" ++ (FieldType.byte).toString) = some (w.2.2.1 2) := (hK.2 t0 _ ht0).2
    exact Option.some.inj (hNm.symm.trans h2)
  subst hc
  have ha2 : zad w (zn w) = H.size := by omega
  rw [ha2] at k
  refine k H1 locs ls ?_ (by omega) ⟨Nat.le_trans hS.1 (by omega), fun q h1 h2 => (o1 q (Nat.lt_of_lt_of_le h1 hS.1)).trans (hS.2.1 q h1 h2), hS.2.2⟩ hl
  refine zPX.commits 1 ?_ hns (fun id h1 h2 => zE_zB w σ _ (by omega)) (fun _ _ => rfl)
  have e0 : (List.range 1).map (fun i => (zad w (zn w + i), zE w (zB σ (zn w) (fun _ => 0)) (zn w + i))) = [(H.size, .inl (w.2.2.1 2, N, .inl (fun _ => 0)))] := by
    show [(zad w (zn w), zE w (zB σ (zn w) (fun _ => 0)) (zn w))] = _
    unfold zE
    rw [hk, ha2, zB_s, hl0]
    rfl
  rw [e0]
  refine hP.push o1 (fun y hy => ?_) (List.pairwise_singleton _ _)
  rw [List.mem_singleton.mp hy]
  exact ⟨e1, Nat.le_refl _, hA⟩
def zZ (σ : zSt) (n N : Nat) : zSt := (fun b => bif Nat.ble n b && Nat.blt b (n + N) then (fun _ => 0) else σ.1 b, σ.2)
theorem zZ_in (σ : zSt) {n N b : Nat} (h1 : n ≤ b) (h2 : b < n + N) : (zZ σ n N).1 b = fun _ => 0 := by
  unfold zZ
  have a : Nat.ble n b = true := Nat.ble_eq_true_of_le h1
  have c : Nat.blt b (n + N) = true := Nat.ble_eq_true_of_le h2
  simp [a, c]
theorem zZ_out (σ : zSt) {n N b : Nat} (h : b < n ∨ n + N ≤ b) : (zZ σ n N).1 b = σ.1 b := by
  unfold zZ
  have a : (Nat.ble n b && Nat.blt b (n + N)) = false := by
    cases q : (Nat.ble n b && Nat.blt b (n + N)) with
    | false => rfl
    | true =>
      have q1 := Nat.le_of_ble_eq_true (Bool.and_eq_true _ _ ▸ q).1
      have q2 : b + 1 ≤ n + N := Nat.le_of_ble_eq_true (Bool.and_eq_true _ _ ▸ q).2
      omega
  simp [a]
theorem zouter (c : ClassId) (N h0 : Nat) : ∀ i : Nat, Jvm.Free.Multi.outerC c N h0 i = arrV c N (fun j => va_rf (if j < i then some (h0 + 1 + j) else none))
  | 0 => by
    show ({ cls := c, slots := Array.replicate N .null, vm := .none } : Cell) = _
    rw [arrV_new]
    refine congrArg (arrV c N) (funext fun j => ?_)
    simp [va_rf]
  | i + 1 => by
    show (Jvm.Free.Multi.outerC c N h0 i).setSlot i (.ref (h0 + 1 + i)) = _
    rw [zouter c N h0 i, arrV_store]
    refine congrArg (arrV c N) (funext fun j => ?_)
    by_cases e : j = i
    · subst e
      simp [updV, va_rf]
    · by_cases h : j < i
      · simp [updV, e, h, Nat.lt_succ_of_lt h]
      · simp [updV, e, h, show ¬ j < i + 1 by omega]
theorem arrV_eq (c : ClassId) {N : Nat} {f g : Nat → Value} (h : ∀ j, j < N → f j = g j) : arrV c N f = arrV c N g := by
  unfold arrV
  congr 1
  exact congrArg Array.ofFn (funext fun j => h j.1 j.2)
/-- new long[N][M] -/
theorem e_mna {κ : zK} {l : Launch} {w : zWl} {X : va_W} {bc ns K0 : Nat} {cc : ByteArray} {own : String} {rm : Room} {nL : Nat} (C : zCX κ l w cc own rm nL K0) {pc : Nat} {lv : Nat → Option Value} {st : List Value} {σ : zSt} {N M t0 t3 index : Nat} (hd : decode cc pc = .ok (.multianewarray index 2, 4)) (hw : Cond.classLink own index ("[" ++ (FieldType.array .long).toString) ∈ wsL_law) (ht0 : w.2.2.2.1[t0]? = some (w.2.2.1 0, .long)) (ht3 : w.2.2.2.1[t3]? = some (w.2.2.1 3, .array .long))
    (hr : ∀ i, i < N → zkd w (zn w + i) = 0 ∧ zln w (zn w + i) = M ∧ zad w (zn w + i) = K0 + bc + 1 + i) (ho : zkd w (zn w + N) = 3 ∧ zln w (zn w + N) = N ∧ zad w (zn w + N) = K0 + bc ∧ ∀ j, j < N → zrf w (zn w + N) j = zn w + j) (hns : zns w ≤ zn w) (hN : N ≤ 10000) (hM : M ≤ 10000) (hbc : bc + (1 + N) ≤ rm.cells) (hsl : ns + (N + N * M) ≤ rm.slots)
    (k : zJX κ (zN w (zn w + (N + 1))) X (bc + 1 + N) (ns + N + N * M) (pc + 4) lv (.ref (zad w (zn w + N)) :: st) (zZ σ (zn w) N)) : zJX κ w X bc ns pc lv (.int (nI M) :: .int (nI N) :: st) σ := by
  obtain ⟨p, l1, e, R, s, m, args, below, meth, c, Q, nL, cells, slots, A⟩ := κ
  obtain ⟨hx, hb, hml, hown, hts, hK, hT, hAA, rfl, rfl, rfl, hsz, hnw⟩ := C
  intro H locs ls hP hz hS hl T hTh Xs
  have cN : (nI N).toNatClampNeg = N := nI_clamp (by omega)
  have cM : (nI M).toNatClampNeg = M := nI_clamp (by omega)
  obtain ⟨vm₁, cA, comp, -, fA, fC, hO, -, X', step⟩ := Xs.multianewarray2F hx hown (hts _ hw) hnw.2.2.2.2.2.2.2 (hts _ mw_1_14) (g := F0 m pc ls (.int (nI M) :: .int (nI N) :: st)) rfl (by rw [hb]; exact hd) rfl (nI_pos (by omega)) (nI_pos (by omega)) (by rw [cN]; omega) (by rw [cM]; show M * 8 ≤ _; omega) (by rw [cM]; omega) rfl rfl (by rw [cN]; exact hbc) (by rw [cN, cM]; exact hsl)
  have hcy : s.vm.findClass ("[" ++ (FieldType.long).toString) = some (w.2.2.1 0) := (hK.2 t0 _ ht0).2
  have hc3 : s.vm.findClass ("[" ++ (FieldType.array .long).toString) = some (w.2.2.1 3) := (hK.2 t3 _ ht3).2
  have ec : comp = w.2.2.1 0 := Option.some.inj (fC.symm.trans hcy)
  have eA : cA = w.2.2.1 3 := Option.some.inj (fA.symm.trans hc3)
  subst ec
  subst eA
  rw [cN, cM] at X' step
  generalize hF : Jvm.Free.Multi.fill (T.setVm vm₁) (w.2.2.1 3) (w.2.2.1 0) N M (defaultValue .long) N = F at X' step
  have hTh2 : (T.setVm vm₁).heap = H := hTh
  obtain ⟨f1, f2, -, -⟩ := Jvm.Free.Multi.fill_facts (T.setVm vm₁) (w.2.2.1 3) (w.2.2.1 0) N M (defaultValue .long) N
  rw [hF, hTh2] at f1 f2
  have hold : ∀ x : Nat, x < H.size → F.heap[x]? = H[x]? := fun x hx => by
    have h9 := Jvm.Free.Multi.fill_old (T.setVm vm₁) (w.2.2.1 3) (w.2.2.1 0) N M (defaultValue .long) (a := x) (by rw [hTh2]; exact hx) N
    rw [hF, hTh2] at h9
    exact h9
  have hrow : ∀ j : Nat, j < N → F.heap[H.size + 1 + j]? = some (vp_cell (w.2.2.1 0) (M, .inr (.inl (fun _ => 0)))) := fun j hj => by
    have h9 := Jvm.Free.Multi.fill_inner (T.setVm vm₁) (w.2.2.1 3) (w.2.2.1 0) N M (defaultValue .long) N j hj
    rw [hF, hTh2] at h9
    rw [h9, vp_cell_l]
    exact congrArg some (arrV_new _ _ _)
  have ha2 : zad w (zn w + N) = H.size := by have := ho.2.2.1; omega
  have hA : ∀ q, H.size ≤ q → A q := fun q hq => hAA q (by omega)
  rw [ha2] at k
  have key : zPX (zN w (zn w + (N + 1))) (zZ σ (zn w) N) X A F.heap := by
    refine zPX.commits (N + 1) ?_ hns (fun id h1 h2 => ?_) (fun id hi => zZ_out σ (by omega))
    · refine hP.push hold (fun y hy => ?_) ?_
      · obtain ⟨i, hi, rfl⟩ := List.mem_map.mp hy
        have hi2 := List.mem_range.mp hi
        by_cases q : i < N
        · obtain ⟨r1, r2, r3⟩ := hr i q
          have e3 : zad w (zn w + i) = H.size + 1 + i := by omega
          refine ⟨?_, by show H.size ≤ zad w (zn w + i); omega, hA _ (by show H.size ≤ zad w (zn w + i); omega)⟩
          unfold zE
          rw [r1, r2, e3, zZ_in σ (by omega) (by omega)]
          exact hrow i q
        · have e4 : i = N := by omega
          subst e4
          obtain ⟨r1, r2, r3, r4⟩ := ho
          refine ⟨?_, by show H.size ≤ zad w (zn w + i); omega, hA _ (by show H.size ≤ zad w (zn w + i); omega)⟩
          unfold zE
          rw [r1, r2, ha2]
          show F.heap[H.size]? = some (vp_cell _ _)
          rw [f2, vp_cell_q, zouter]
          refine congrArg some (arrV_eq _ fun j hj => ?_)
          rw [if_pos hj, r4 j hj]
          have := (hr j hj).2.2
          rw [show H.size + 1 + j = zad w (zn w + j) by omega]
      · rw [List.map_map]
        refine List.pairwise_iff_getElem.mpr fun i j hi hj hij => ?_
        rw [List.length_map, List.length_range] at hi hj
        rw [List.getElem_map, List.getElem_map, List.getElem_range, List.getElem_range]
        show zad w (zn w + i) ≠ zad w (zn w + j)
        have h1 := (hr i (by omega)).2.2
        by_cases q : j < N
        · have h2 := (hr j q).2.2
          omega
        · rw [show j = N by omega, ha2]
          omega
    · unfold zE
      rw [zZ_out σ (by omega)]
      rfl
  obtain ⟨t2, a1, b1⟩ := k F.heap locs ls key (by omega) ⟨by have := hS.1; omega, fun x h1 h2 => (hold x (Nat.lt_of_lt_of_le h1 hS.1)).trans (hS.2.1 x h1 h2), hS.2.2⟩ hl F rfl X'
  refine ⟨t2, step t2 ?_, b1⟩
  have e9 : T.heap.size = H.size := by rw [hTh]
  rw [e9]
  exact a1
/-- new Point[N]: the row goes beside the world -/
theorem e_anew {κ : zK} {l : Launch} {w : zWl} {X : va_W} {bc ns K0 : Nat} {cc : ByteArray} {own : String} {rm : Room} {nL : Nat} (C : zCX κ l w cc own rm nL K0) {pc : Nat} {lv : Nat → Option Value} {st : List Value} {σ : zSt} {N t0 index : Nat} (hd : decode cc pc = .ok (.anewarray index, 3)) (hw : Cond.classLink own index "LadderSigns$Point" ∈ wsL_law) (ht0 : w.2.2.2.1[t0]? = some (w.2.2.1 4, .object "LadderSigns$Point")) (hN : N ≤ 10000) (hbc : bc + 1 ≤ rm.cells) (hsl : ns + N ≤ rm.slots)
    (k : zJX κ w ((K0 + bc, .inl (w.2.2.1 4, N, .inr (.inr (.inr (.inr (fun _ => none)))))) :: X) (bc + 1) (ns + N) (pc + 3) lv (.ref (K0 + bc) :: st) σ) : zJX κ w X bc ns pc lv (.int (nI N) :: st) σ := by
  obtain ⟨p, l1, e, R, s, m, args, below, meth, c, Q, nL, cells, slots, A⟩ := κ
  obtain ⟨hx, hb, hml, hown, hts, hK, hT, hAA, rfl, rfl, rfl, hsz, hnw⟩ := C
  intro H locs ls hP hz hS hl
  have hA : A H.size := hAA _ (by omega)
  have cN : (nI N).toNatClampNeg = N := nI_clamp (by omega)
  have hcells : bc + 1 ≤ R.cells := hbc
  refine W.anew hx hb hown (hts _ hw) (va_AO.use hnw.2.2.2.2.2.2.1) rfl hd rfl (nI_pos (by omega)) (by rw [cN]; omega) hbc (by rw [cN]; exact hsl) fun cA kA comp f1 f2 f3 f4 => ?_
  rw [cN]
  obtain ⟨kA', comp', k1, k2, k3, k4⟩ := (hK.2 t0 _ ht0).2
  have ec : cA = w.2.2.1 4 := Option.some.inj (f1.symm.trans k4)
  subst ec
  generalize hH1 : H.push ({ cls := w.2.2.1 4, slots := Array.replicate N .null, vm := .none } : Cell) = H1
  have z1 : H1.size = H.size + 1 := by rw [← hH1, Array.size_push]
  have e1 : H1[H.size]? = some (arrV (w.2.2.1 4) N (fun _ => .null)) := by rw [← hH1, Array.getElem?_push_size, ← arrV_new]
  have o1 : ∀ q : Nat, q < H.size → H1[q]? = H[q]? := fun q hq => by rw [← hH1, Array.getElem?_push, if_neg (Nat.ne_of_lt hq)]
  have ha2 : K0 + bc = H.size := by omega
  rw [ha2] at k
  refine k H1 locs ls ?_ (by omega) ⟨Nat.le_trans hS.1 (by omega), fun q h1 h2 => (o1 q (Nat.lt_of_lt_of_le h1 hS.1)).trans (hS.2.1 q h1 h2), hS.2.2⟩ hl
  refine hP.push (Y := [_]) o1 (fun y hy => ?_) (List.pairwise_singleton _ _)
  rw [List.mem_singleton.mp hy]
  exact ⟨e1, Nat.le_refl _, hA⟩
/-- new C -/
theorem e_new {κ : zK} {l : Launch} {w : zWl} {X : va_W} {bc ns K0 : Nat} {cc : ByteArray} {own : String} {rm : Room} {nL : Nat} (C : zCX κ l w cc own rm nL K0) {pc : Nat} {lv : Nat → Option Value} {st : List Value} {σ : zSt} {index ci N : Nat} {Cn : String} {T : u_T} (fs : List Value) (ty : Nat → FieldType) (hd : decode cc pc = .ok (.new index, 3)) (hc : w.2.1[ci]? = some (Cn, T, N)) (hin : ∀ x ∈ u_ws Cn T N, x ∈ wsL_law) (hty : ∀ k, k < N → parseFieldDescriptor (T k).2.2.1 = some (ty k)) (hcl : Cond.classLink own index Cn ∈ wsL_law) (hins : Cond.instantiable Cn N ∈ wsL_law) (hini : Cond.initialized Cn ∈ wsL_law) (hfs : ∀ j, j < N → defaultValue (ty j) = vp_V fs j) (hbc : bc + 1 ≤ rm.cells) (hsl : ns + N ≤ rm.slots)
    (k : zJX κ w ((K0 + bc, .inr (ci, fs)) :: X) (bc + 1) (ns + N) (pc + 3) lv (.ref (K0 + bc) :: st) σ) : zJX κ w X bc ns pc lv st σ := by
  obtain ⟨p, l1, e, R, s, m, args, below, meth, c, Q, nL, cells, slots, A⟩ := κ
  obtain ⟨hx, hb, hml, hown, hts, hK, hT, hAA, rfl, rfl, rfl, hsz, hnw⟩ := C
  intro H locs ls hP hz hS hl
  have hA : A H.size := hAA _ (by omega)
  have hKn := hK.1 ci _ hc
  refine W.newcK hx hb hown (hts _ hcl) (hts _ hins) (hts _ hini) rfl hd hbc hsl hKn.2.1 rfl fun H1 kC hkC e1 z1 o1 => ?_
  have ha2 : K0 + bc = H.size := by omega
  rw [ha2] at k
  refine k H1 locs ls ?_ (by omega) ⟨Nat.le_trans hS.1 (by omega), fun q h1 h2 => (o1 q (Nat.lt_of_lt_of_le h1 hS.1)).trans (hS.2.1 q h1 h2), hS.2.2⟩ hl
  refine hP.push (Y := [_]) o1 (fun y hy => ?_) (List.pairwise_singleton _ _)
  rw [List.mem_singleton.mp hy]
  exact ⟨⟨_, hc, (u_born ty hts hin hKn hkC e1 hty).to hfs⟩, Nat.le_refl _, hA⟩
/-! fields of a cell beside the world -/
def zFi (w : zWl) (own : String) (index ci kf : Nat) (fin : Bool) (ty : FieldType) : Prop := ∃ (Cn : String) (T : u_T) (N : Nat) (ty0 : Nat → FieldType), w.2.1[ci]? = some (Cn, T, N) ∧ (∀ x ∈ u_ws Cn T N, x ∈ wsL_law) ∧ (∀ k, k < N → parseFieldDescriptor (T k).2.2.1 = some (ty0 k)) ∧ (∀ a, a < N → ∀ b, b < N → a ≠ b → (T a).2.1 ≠ (T b).2.1) ∧ kf < N ∧ Cond.fieldLink own index (T kf).1 (T kf).2.1 (T kf).2.2.1 ∈ wsL_law ∧ (T kf).2.2.2 = fin ∧ (T kf).1 = own ∧ ty0 kf = ty
theorem e_putF {κ : zK} {l : Launch} {w : zWl} {X : va_W} {bc ns K0 : Nat} {cc : ByteArray} {own : String} {rm : Room} {nL : Nat} (C : zCX κ l w cc own rm nL K0) (hN : zNm κ) {pc : Nat} {lv : Nat → Option Value} {st : List Value} {σ : zSt} {index a ci kf : Nat} {fs : List Value} {ty : FieldType} {v : Value} (i : Nat) (hd : decode cc pc = .ok (.putfield index, 3)) (hF : zFi w own index ci kf true ty) (he : X[i]? = some (a, .inr (ci, fs))) (hnar : narrow ty v = v) (hfit : fits ty v = true) (hl0 : kf < fs.length) (k : zJX κ w (X.set i (a, .inr (ci, fs.set kf v))) bc ns (pc + 3) lv st σ) : zJX κ w X bc ns pc lv (v :: .ref a :: st) σ := by
  obtain ⟨p, l1, e, R, s, m, args, below, meth, c, Q, nL, cells, slots, A⟩ := κ
  obtain ⟨hx, hb, hml, hown, hts, hK, hT, hAA, rfl, rfl, rfl, hsz, hnw⟩ := C
  intro H locs ls hP hz hS hl
  obtain ⟨Cn, T, N, ty0, hc, hin, hty, hnm, hk, hw, hfin, hdecl, rfl⟩ := hF
  have hap := va_apart (own := own) hts hin ty0 hty hnm hK hc
  have hin2 : meth.name = "<init>" := hN
  have hmem : (a, Sum.inr (ci, fs)) ∈ zl w σ ++ X := List.mem_append_right _ (List.mem_of_getElem? he)
  obtain ⟨r, h1, cell, q1, q2, q3, q4⟩ := hP.at hmem
  have hr : r = (Cn, T, N) := Option.some.inj (h1.symm.trans hc)
  subst hr
  obtain ⟨hSl, hfc, kC, hkC, hkind⟩ := hK.1 ci _ hc
  obtain ⟨cf, kf', fi, f, hi, hsl⟩ := hSl kf hk
  have hlay := hts _ (hin _ (u_in_lay hk))
  unfold u_lay at hlay
  rw [if_pos hfin] at hlay
  have hst := (u_facts hfc hkC (u_lays hts hin hk) hi).1
  have hcf : m.cls = cf := by
    obtain ⟨_, _, c', _, _, _, -, -, hf', -, -, -, hown2, -⟩ := Cond.laysFinal_spec hlay
    have e1 : c' = cf := by have := hi.symm.trans hf'; simp at this; exact this.1.symm
    rw [hdecl] at hown2
    rw [← e1]; exact Option.some.inj (hown.symm.trans hown2)
  have h6 := u_fits hfc hkC hkind (Or.inr hlay) hi (hty kf hk) hnar hfit
  refine W.putFinK hx hb hown (hts _ hw) hi hst hcf hin2 (by rw [q2]; exact h6) q1 q3 (by rw [hsl]; exact k2_hasslot (q4 kf hk)) rfl rfl hd fun H' e1 e2 e3 => ?_
  rw [hsl] at e1 ⊢
  exact k H' _ ls (hP.set he ⟨_, hc, t_OB.to (V := updV (vp_V fs) kf v) ⟨_, e1, q2, q3, t_set q4 hap hk v⟩ (fun j _ => vp_updV_set hl0 v j)⟩ e3) (by omega) (hS.put e2 e3 (hP.in hmem)) hl
theorem e_putN {κ : zK} {l : Launch} {w : zWl} {X : va_W} {bc ns K0 : Nat} {cc : ByteArray} {own : String} {rm : Room} {nL : Nat} (C : zCX κ l w cc own rm nL K0) {pc : Nat} {lv : Nat → Option Value} {st : List Value} {σ : zSt} {index a ci kf : Nat} {fs : List Value} {ty : FieldType} {v : Value} (i : Nat) (hd : decode cc pc = .ok (.putfield index, 3)) (hF : zFi w own index ci kf false ty) (he : X[i]? = some (a, .inr (ci, fs))) (hnar : narrow ty v = v) (hfit : fits ty v = true) (hl0 : kf < fs.length) (k : zJX κ w (X.set i (a, .inr (ci, fs.set kf v))) bc ns (pc + 3) lv st σ) : zJX κ w X bc ns pc lv (v :: .ref a :: st) σ := by
  obtain ⟨p, l1, e, R, s, m, args, below, meth, c, Q, nL, cells, slots, A⟩ := κ
  obtain ⟨hx, hb, hml, hown, hts, hK, hT, hAA, rfl, rfl, rfl, hsz, hnw⟩ := C
  intro H locs ls hP hz hS hl
  obtain ⟨Cn, T, N, ty0, hc, hin, hty, hnm, hk, hw, hfin, hdecl, rfl⟩ := hF
  have hap := va_apart (own := own) hts hin ty0 hty hnm hK hc
  have hmem : (a, Sum.inr (ci, fs)) ∈ zl w σ ++ X := List.mem_append_right _ (List.mem_of_getElem? he)
  obtain ⟨r, h1, cell, q1, q2, q3, q4⟩ := hP.at hmem
  have hr : r = (Cn, T, N) := Option.some.inj (h1.symm.trans hc)
  subst hr
  obtain ⟨hSl, hfc, kC, hkC, hkind⟩ := hK.1 ci _ hc
  obtain ⟨cf, kf', fi, f, hi, hsl⟩ := hSl kf hk
  have hlay := hts _ (hin _ (u_in_lay hk))
  unfold u_lay at hlay
  rw [if_neg (by rw [hfin]; decide)] at hlay
  have hst := (u_facts hfc hkC (u_lays hts hin hk) hi).1
  have h6 := u_store hfc hkC hkind hlay hi (hty kf hk) hnar hfit
  refine W.putK hx hb (f := f) ⟨hown, hts _ hw, ⟨_, _, _, hi⟩, hst⟩ (by rw [q2]; exact h6) q1 q3 (by rw [hsl]; exact k2_hasslot (q4 kf hk)) rfl rfl hd fun H' e1 e2 e3 => ?_
  rw [hsl] at e1 ⊢
  exact k H' _ ls (hP.set he ⟨_, hc, t_OB.to (V := updV (vp_V fs) kf v) ⟨_, e1, q2, q3, t_set q4 hap hk v⟩ (fun j _ => vp_updV_set hl0 v j)⟩ e3) (by omega) (hS.put e2 e3 (hP.in hmem)) hl
theorem e_getX {κ : zK} {l : Launch} {w : zWl} {X : va_W} {bc ns K0 : Nat} {cc : ByteArray} {own : String} {rm : Room} {nL : Nat} (C : zCX κ l w cc own rm nL K0) {pc : Nat} {lv : Nat → Option Value} {st : List Value} {σ : zSt} {index a ci kf : Nat} {fs : List Value} {fin : Bool} {ty : FieldType} {v : Value} (i : Nat) (hd : decode cc pc = .ok (.getfield index, 3)) (hF : zFi w own index ci kf fin ty) (he : X[i]? = some (a, .inr (ci, fs))) (hv : fs[kf]? = some v) (k : zJX κ w X bc ns (pc + 3) lv (v :: st) σ) : zJX κ w X bc ns pc lv (.ref a :: st) σ := by
  obtain ⟨p, l1, e, R, s, m, args, below, meth, c, Q, nL, cells, slots, A⟩ := κ
  intro H locs ls hP hz hS hl
  obtain ⟨Cn, T, N, ty0, hc, hin, hty, hnm, hk, hw, hfin, hdecl, rfl⟩ := hF
  have hq : (zl w σ ++ X)[(zl w σ).length + i]? = some (a, .inr (ci, fs)) := by
    rw [List.getElem?_append_right (by omega), Nat.add_sub_cancel_left]
    exact he
  exact va_get (D := w.1) C.1 C.2.1 C.2.2.2.2.1 hin C.2.2.2.1 C.2.2.2.2.2.1 hP.1 _ hq hc kf hk (C.2.2.2.2.1 _ hw) (fun _ h => h) hv hd (k H locs ls hP hz hS hl)
/-- a row of points beside the world: its length, a store -/
theorem e_alenX {κ : zK} {l : Launch} {w : zWl} {X : va_W} {bc ns K0 : Nat} {cc : ByteArray} {own : String} {rm : Room} {nL : Nat} (C : zCX κ l w cc own rm nL K0) {pc : Nat} {lv : Nat → Option Value} {st : List Value} {σ : zSt} {a N t0 : Nat} {f : Nat → Option Nat} (i : Nat) (hd : decode cc pc = .ok (.arraylength, 1)) (ht0 : w.2.2.2.1[t0]? = some (w.2.2.1 4, .object "LadderSigns$Point")) (he : X[i]? = some (a, .inl (w.2.2.1 4, N, .inr (.inr (.inr (.inr f)))))) (k : zJX κ w X bc ns (pc + 1) lv (.int (nI N) :: st) σ) : zJX κ w X bc ns pc lv (.ref a :: st) σ := by
  obtain ⟨p, l1, e, R, s, m, args, below, meth, c, Q, nL, cells, slots, A⟩ := κ
  intro H locs ls hP hz hS hl
  have hq : (zl w σ ++ X)[(zl w σ).length + i]? = some (a, .inl (w.2.2.1 4, N, .inr (.inr (.inr (.inr f))))) := by
    rw [List.getElem?_append_right (by omega), Nat.add_sub_cancel_left]
    exact he
  exact va_alen C.1 C.2.1 C.2.2.2.2.2.1 hP.1 _ t0 hq ht0 rfl hd (k H locs ls hP hz hS hl)
/-- into place j of a row of points beside the world goes a point of the world -/
theorem e_astX {κ : zK} {l : Launch} {w : zWl} {X : va_W} {bc ns K0 : Nat} {cc : ByteArray} {own : String} {rm : Room} {nL : Nat} (C : zCX κ l w cc own rm nL K0) {pc : Nat} {lv : Nat → Option Value} {st : List Value} {σ : zSt} {a N t0 j id : Nat} {f : Nat → Option Nat} {T : u_T} {Np : Nat} (i : Nat) (hd : decode cc pc = .ok (.aastore, 1)) (ht0 : w.2.2.2.1[t0]? = some (w.2.2.1 4, .object "LadderSigns$Point")) (he : X[i]? = some (a, .inl (w.2.2.1 4, N, .inr (.inr (.inr (.inr f)))))) (hj : j < N) (hN : N ≤ 10000) (hkd : zkd w id = 5) (hcl : w.2.1[(zob w id).1]? = some ("LadderSigns$Point", T, Np)) (hs : zns w ≤ id) (hn : id < zn w) (k : zJX κ w (X.set i (a, .inl (w.2.2.1 4, N, .inr (.inr (.inr (.inr (va_up f j (some (zad w id)))))))) ) bc ns (pc + 1) lv st σ) : zJX κ w X bc ns pc lv (.ref (zad w id) :: .int (nI j) :: .ref a :: st) σ := by
  obtain ⟨p, l1, e, R, s, m, args, below, meth, c, Q, nL, cells, slots, A⟩ := κ
  obtain ⟨hx, hb, hml, hown, hts, hK, hT, hAA, rfl, rfl, rfl, hsz, hnw⟩ := C
  intro H locs ls hP hz hS hl
  have cj : (nI j).toNatClampNeg = j := nI_clamp (by omega)
  have hmem : (a, Sum.inl (w.2.2.1 4, N, Sum.inr (Sum.inr (Sum.inr (Sum.inr f))))) ∈ zl w σ ++ X := List.mem_append_right _ (List.mem_of_getElem? he)
  have hcell : H[a]? = some (vp_cell (w.2.2.1 4) (N, .inr (.inr (.inr (.inr f))))) := hP.at hmem
  have hv := zl_at w σ hs hn
  rw [zE_ob hkd] at hv
  obtain ⟨r', hr', cellV, g1, g2, g3, -⟩ := hP.at (List.mem_append_left _ (List.mem_of_getElem? hv))
  have hcls := (hK.1 _ _ hcl).2
  obtain ⟨kA, comp, k1, k2, k3, -⟩ := (hK.2 t0 _ ht0).2
  have hcomp : comp = w.1.1 (zob w id).1 := Option.some.inj (k3.symm.trans hcls.1)
  subst hcomp
  obtain ⟨kC, hkC, -⟩ := hcls.2
  refine W.aast hx hb hcell (fun q h => by cases h) (fun h => by cases h) k1 k2 rfl hkC ⟨nI_pos (by omega), by show _ < (arrV _ _ _).slots.size; rw [arrV_size, cj]; exact hj⟩ g1 (fun q h => by rw [g3] at h; cases h) (by rw [g2]; exact hkC) (by rw [g2]; exact va_assign hcls) rfl rfl hd fun H1 e1 z oq => ?_
  rw [cj] at e1 ⊢
  refine k H1 _ ls (hP.set he ?_ oq) (by omega) (hS.put z oq (hP.in hmem)) hl
  show H1[a]? = some (vp_cell _ _)
  rw [e1, vp_cell_q, vp_cell_q, arrV_store]
  congr 2
  funext q
  by_cases hq : q = j
  · subst hq
    simp [updV, va_up, va_rf]
  · simp [updV, va_up, hq]
/-! what has become whole goes into the world -/
theorem e_commit {κ : zK} {w : zWl} {X X' : va_W} {bc ns : Nat} {pc : Nat} {lv : Nat → Option Value} {st : List Value} {σ : zSt} (hp : X.Perm ((zad w (zn w), zE w σ (zn w)) :: X')) (hns : zns w ≤ zn w) (k : zJX κ (zN w (zn w + 1)) X' bc ns pc lv st σ) : zJX κ w X bc ns pc lv st σ := by
  obtain ⟨p, l1, e, R, s, m, args, below, meth, c, Q, nL, cells, slots, A⟩ := κ
  intro H locs ls hP hz hS hl
  exact k H locs ls (zPX.commits 1 (zPX.perm hp hP) hns (fun _ _ _ => rfl) (fun _ _ => rfl)) hz hS hl
theorem e_perm {κ : zK} {w : zWl} {X Y : va_W} {bc ns : Nat} {pc : Nat} {lv : Nat → Option Value} {st : List Value} {σ : zSt} (hp : X.Perm Y) (k : zJX κ w Y bc ns pc lv st σ) : zJX κ w X bc ns pc lv st σ := by
  obtain ⟨p, l1, e, R, s, m, args, below, meth, c, Q, nL, cells, slots, A⟩ := κ
  intro H locs ls hP hz hS hl
  exact k H locs ls (zPX.perm hp hP) hz hS hl
