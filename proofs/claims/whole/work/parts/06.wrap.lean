/-! the two worlds' rows -/
def ra (n m id : Nat) : Prop := kdX id = 0 ∧ lnX id = m ∧ id < n ∧ m < 2 ^ 31
def wa (n m id : Nat) : Prop := ra n m id ∧ 11 ≤ id
def ba (n m id : Nat) : Prop := kdX id = 2 ∧ lnX id = m ∧ id < n ∧ m < 2 ^ 31 ∧ 11 ≤ id
def ma (m id : Nat) : Prop := kdM id = 0 ∧ lnM id = m ∧ id < 18 ∧ m < 2 ^ 31
def mi (m id : Nat) : Prop := kdM id = 1 ∧ lnM id = m ∧ id < 18 ∧ m < 2 ^ 31
theorem x_lald {κ : zK} {l : Launch} {D : va_G} {kc : Nat → ClassId} {ad : Nat → Nat} {n : Nat} {cc : ByteArray} {own : String} {rm : Room} {nL : Nat} (C : zC κ l (wX D kc ad n) cc own rm nL) {pc : Nat} {lv : Nat → Option Value} {st : List Value} {σ : zSt} {id i m : Nat} (hd : decode cc pc = .ok (.laload, 1)) (h : ra n m id) (hi : i < m) (k : zJ κ (wX D kc ad n) (pc + 1) lv (.long (σ.1 id i) :: st) σ) : zJ κ (wX D kc ad n) pc lv (.int (nI i) :: .ref (zad (wX D kc ad n) id) :: st) σ := by
  obtain ⟨h1, rfl, h3, h4⟩ := h
  exact j_lald C hd rfl h1 h3 hi h4 k
theorem x_last {κ : zK} {l : Launch} {D : va_G} {kc : Nat → ClassId} {ad : Nat → Nat} {n : Nat} {cc : ByteArray} {own : String} {rm : Room} {nL : Nat} (C : zC κ l (wX D kc ad n) cc own rm nL) {pc : Nat} {lv : Nat → Option Value} {st : List Value} {σ : zSt} {id i m : Nat} {x : Int64} (hd : decode cc pc = .ok (.lastore, 1)) (h : wa n m id) (hi : i < m) (k : zJ κ (wX D kc ad n) (pc + 1) lv st (zW σ id i x)) : zJ κ (wX D kc ad n) pc lv (.long x :: .int (nI i) :: .ref (zad (wX D kc ad n) id) :: st) σ := by
  obtain ⟨⟨h1, rfl, h3, h4⟩, h5⟩ := h
  exact j_last C hd rfl h1 h5 h3 hi h4 k
theorem x_alen {κ : zK} {l : Launch} {D : va_G} {kc : Nat → ClassId} {ad : Nat → Nat} {n : Nat} {cc : ByteArray} {own : String} {rm : Room} {nL : Nat} (C : zC κ l (wX D kc ad n) cc own rm nL) {pc : Nat} {lv : Nat → Option Value} {st : List Value} {σ : zSt} {id m : Nat} (hd : decode cc pc = .ok (.arraylength, 1)) (h : wa n m id) (k : zJ κ (wX D kc ad n) (pc + 1) lv (.int (nI m) :: st) σ) : zJ κ (wX D kc ad n) pc lv (.ref (zad (wX D kc ad n) id) :: st) σ := by
  obtain ⟨⟨h1, rfl, h3, h4⟩, h5⟩ := h
  exact j_alen (t0 := 0) C hd rfl h1 h5 h3 rfl k
theorem x_bald {κ : zK} {l : Launch} {D : va_G} {kc : Nat → ClassId} {ad : Nat → Nat} {n : Nat} {cc : ByteArray} {own : String} {rm : Room} {nL : Nat} (C : zC κ l (wX D kc ad n) cc own rm nL) {pc : Nat} {lv : Nat → Option Value} {st : List Value} {σ : zSt} {id i m : Nat} (hd : decode cc pc = .ok (.baload, 1)) (h : ba n m id) (hi : i < m) (k : zJ κ (wX D kc ad n) (pc + 1) lv (.int (σ.2.1 id i) :: st) σ) : zJ κ (wX D kc ad n) pc lv (.int (nI i) :: .ref (zad (wX D kc ad n) id) :: st) σ := by
  obtain ⟨h1, rfl, h3, h4, h5⟩ := h
  exact j_bald (t0 := 1) C hd rfl h1 h5 h3 hi h4 k
theorem x_bast {κ : zK} {l : Launch} {D : va_G} {kc : Nat → ClassId} {ad : Nat → Nat} {n : Nat} {cc : ByteArray} {own : String} {rm : Room} {nL : Nat} (C : zC κ l (wX D kc ad n) cc own rm nL) {pc : Nat} {lv : Nat → Option Value} {st : List Value} {σ : zSt} {id i m : Nat} {x : Int32} (hd : decode cc pc = .ok (.bastore, 1)) (h : ba n m id) (hi : i < m) (k : zJ κ (wX D kc ad n) (pc + 1) lv st (zV σ id i (vp_nar .byte x))) : zJ κ (wX D kc ad n) pc lv (.int x :: .int (nI i) :: .ref (zad (wX D kc ad n) id) :: st) σ := by
  obtain ⟨h1, rfl, h3, h4, h5⟩ := h
  exact j_bast (t0 := 1) C hd rfl h1 h5 h3 hi h4 k
/-- an element of a row of rows: 35 the slots, 61 the powers; 164 the table of points -/
theorem x_aald35 {κ : zK} {l : Launch} {D : va_G} {kc : Nat → ClassId} {ad : Nat → Nat} {n : Nat} {cc : ByteArray} {own : String} {rm : Room} {nL : Nat} (C : zC κ l (wX D kc ad n) cc own rm nL) {pc : Nat} {lv : Nat → Option Value} {st : List Value} {σ : zSt} {i : Nat} (hd : decode cc pc = .ok (.aaload, 1)) (h : 35 < n) (hi : i < 24) (k : zJ κ (wX D kc ad n) (pc + 1) lv (.ref (zad (wX D kc ad n) (11 + i)) :: st) σ) : zJ κ (wX D kc ad n) pc lv (.int (nI i) :: .ref (zad (wX D kc ad n) 35) :: st) σ :=
  j_aald (id := 35) (t0 := 2) (q := 3) (ty := .array .long) C hd (Or.inl rfl) rfl rfl rfl (show 11 ≤ 35 by decide) h hi (show 24 < 2 ^ 31 by decide) k
theorem x_aald61 {κ : zK} {l : Launch} {D : va_G} {kc : Nat → ClassId} {ad : Nat → Nat} {n : Nat} {cc : ByteArray} {own : String} {rm : Room} {nL : Nat} (C : zC κ l (wX D kc ad n) cc own rm nL) {pc : Nat} {lv : Nat → Option Value} {st : List Value} {σ : zSt} {i : Nat} (hd : decode cc pc = .ok (.aaload, 1)) (h : 61 < n) (hi : i < 16) (k : zJ κ (wX D kc ad n) (pc + 1) lv (.ref (zad (wX D kc ad n) (45 + i)) :: st) σ) : zJ κ (wX D kc ad n) pc lv (.int (nI i) :: .ref (zad (wX D kc ad n) 61) :: st) σ :=
  j_aald (id := 61) (t0 := 2) (q := 3) (ty := .array .long) C hd (Or.inl rfl) rfl rfl rfl (show 11 ≤ 61 by decide) h hi (show 16 < 2 ^ 31 by decide) k
theorem x_aald164 {κ : zK} {l : Launch} {D : va_G} {kc : Nat → ClassId} {ad : Nat → Nat} {n : Nat} {cc : ByteArray} {own : String} {rm : Room} {nL : Nat} (C : zC κ l (wX D kc ad n) cc own rm nL) {pc : Nat} {lv : Nat → Option Value} {st : List Value} {σ : zSt} {i : Nat} (hd : decode cc pc = .ok (.aaload, 1)) (h : 164 < n) (hi : i < 16) (k : zJ κ (wX D kc ad n) (pc + 1) lv (.ref (zad (wX D kc ad n) (84 + 5 * i + 4)) :: st) σ) : zJ κ (wX D kc ad n) pc lv (.int (nI i) :: .ref (zad (wX D kc ad n) 164) :: st) σ :=
  j_aald (id := 164) (t0 := 3) (q := 4) (ty := .object "LadderSigns$Point") C hd (Or.inr rfl) rfl rfl rfl (show 11 ≤ 164 by decide) h hi (show 16 < 2 ^ 31 by decide) k
theorem x_alen61 {κ : zK} {l : Launch} {D : va_G} {kc : Nat → ClassId} {ad : Nat → Nat} {n : Nat} {cc : ByteArray} {own : String} {rm : Room} {nL : Nat} (C : zC κ l (wX D kc ad n) cc own rm nL) {pc : Nat} {lv : Nat → Option Value} {st : List Value} {σ : zSt} (hd : decode cc pc = .ok (.arraylength, 1)) (h : 61 < n) (k : zJ κ (wX D kc ad n) (pc + 1) lv (.int (nI 16) :: st) σ) : zJ κ (wX D kc ad n) pc lv (.ref (zad (wX D kc ad n) 61) :: st) σ :=
  j_alenq (id := 61) (t0 := 2) (q := 3) (ty := .array .long) C hd (Or.inl rfl) rfl rfl (show 11 ≤ 61 by decide) h rfl k
theorem x_alen164 {κ : zK} {l : Launch} {D : va_G} {kc : Nat → ClassId} {ad : Nat → Nat} {n : Nat} {cc : ByteArray} {own : String} {rm : Room} {nL : Nat} (C : zC κ l (wX D kc ad n) cc own rm nL) {pc : Nat} {lv : Nat → Option Value} {st : List Value} {σ : zSt} (hd : decode cc pc = .ok (.arraylength, 1)) (h : 164 < n) (k : zJ κ (wX D kc ad n) (pc + 1) lv (.int (nI 16) :: st) σ) : zJ κ (wX D kc ad n) pc lv (.ref (zad (wX D kc ad n) 164) :: st) σ :=
  j_alenq (id := 164) (t0 := 3) (q := 4) (ty := .object "LadderSigns$Point") C hd (Or.inr rfl) rfl rfl (show 11 ≤ 164 by decide) h rfl k
theorem m_lald {κ : zK} {l : Launch} {D : va_G} {kc : Nat → ClassId} {ad : Nat → Nat} {cc : ByteArray} {own : String} {rm : Room} {nL : Nat} (C : zC κ l (wM D kc ad) cc own rm nL) {pc : Nat} {lv : Nat → Option Value} {st : List Value} {σ : zSt} {id i m : Nat} (hd : decode cc pc = .ok (.laload, 1)) (h : ma m id) (hi : i < m) (k : zJ κ (wM D kc ad) (pc + 1) lv (.long (σ.1 id i) :: st) σ) : zJ κ (wM D kc ad) pc lv (.int (nI i) :: .ref (zad (wM D kc ad) id) :: st) σ := by
  obtain ⟨h1, rfl, h3, h4⟩ := h
  exact j_lald C hd rfl h1 h3 hi h4 k
theorem m_last {κ : zK} {l : Launch} {D : va_G} {kc : Nat → ClassId} {ad : Nat → Nat} {cc : ByteArray} {own : String} {rm : Room} {nL : Nat} (C : zC κ l (wM D kc ad) cc own rm nL) {pc : Nat} {lv : Nat → Option Value} {st : List Value} {σ : zSt} {id i m : Nat} {x : Int64} (hd : decode cc pc = .ok (.lastore, 1)) (h : ma m id) (hi : i < m) (k : zJ κ (wM D kc ad) (pc + 1) lv st (zW σ id i x)) : zJ κ (wM D kc ad) pc lv (.long x :: .int (nI i) :: .ref (zad (wM D kc ad) id) :: st) σ := by
  obtain ⟨h1, rfl, h3, h4⟩ := h
  exact j_last C hd rfl h1 (Nat.zero_le _) h3 hi h4 k
theorem m_iald {κ : zK} {l : Launch} {D : va_G} {kc : Nat → ClassId} {ad : Nat → Nat} {cc : ByteArray} {own : String} {rm : Room} {nL : Nat} (C : zC κ l (wM D kc ad) cc own rm nL) {pc : Nat} {lv : Nat → Option Value} {st : List Value} {σ : zSt} {id i m : Nat} (hd : decode cc pc = .ok (.iaload, 1)) (h : mi m id) (hi : i < m) (k : zJ κ (wM D kc ad) (pc + 1) lv (.int (σ.2.1 id i) :: st) σ) : zJ κ (wM D kc ad) pc lv (.int (nI i) :: .ref (zad (wM D kc ad) id) :: st) σ := by
  obtain ⟨h1, rfl, h3, h4⟩ := h
  exact j_iald (t0 := 1) C hd rfl h1 (Nat.zero_le _) h3 hi h4 k
theorem m_iast {κ : zK} {l : Launch} {D : va_G} {kc : Nat → ClassId} {ad : Nat → Nat} {cc : ByteArray} {own : String} {rm : Room} {nL : Nat} (C : zC κ l (wM D kc ad) cc own rm nL) {pc : Nat} {lv : Nat → Option Value} {st : List Value} {σ : zSt} {id i m : Nat} {x : Int32} (hd : decode cc pc = .ok (.iastore, 1)) (h : mi m id) (hi : i < m) (k : zJ κ (wM D kc ad) (pc + 1) lv st (zV σ id i x)) : zJ κ (wM D kc ad) pc lv (.int x :: .int (nI i) :: .ref (zad (wM D kc ad) id) :: st) σ := by
  obtain ⟨h1, rfl, h3, h4⟩ := h
  exact j_iast (t0 := 1) C hd rfl h1 (Nat.zero_le _) h3 hi h4 k
/-! naming; calls that come to one thing -/
theorem j_nmL {κ : zK} {w : zWl} {pc : Nat} {lv : Nat → Option Value} {st : List Value} {σ : zSt} {v : Int64} (k : ∀ x : Int64, x = v → zJ κ w pc lv (.long x :: st) σ) : zJ κ w pc lv (.long v :: st) σ := k v rfl
theorem j_nmI {κ : zK} {w : zWl} {pc : Nat} {lv : Nat → Option Value} {st : List Value} {σ : zSt} {v : Int32} (k : ∀ x : Int32, x = v → zJ κ w pc lv (.int x :: st) σ) : zJ κ w pc lv (.int v :: st) σ := k v rfl
theorem j_nmN {κ : zK} {w : zWl} {pc : Nat} {lv : Nat → Option Value} {st : List Value} {σ : zSt} {v : Nat} (k : ∀ x : Nat, x = v → zJ κ w pc lv (.int (nI x) :: st) σ) : zJ κ w pc lv (.int (nI v) :: st) σ := k v rfl
theorem j_nmS {κ : zK} {w : zWl} {pc : Nat} {lv : Nat → Option Value} {st : List Value} {σ : zSt} (k : ∀ s : zSt, s = σ → zJ κ w pc lv st s) : zJ κ w pc lv st σ := k σ rfl
theorem z_nm {α : Type} {P : α → Prop} {v : α} (k : ∀ x, x = v → P x) : P v := k v rfl
theorem j_callV0 {κ : zK} {l : Launch} {w : zWl} {cc : ByteArray} {own : String} {rm : Room} {nL : Nat} (C : zC κ l w cc own rm nL) {pc : Nat} {lv : Nat → Option Value} {st : List Value} {σ : zSt} {index id n mL : Nat} {y : MethodName} {cy : ByteArray} {ret : Option FieldType} {ry : Room} {As rest : List Value} {σ' : zSt} {T : u_T} {N : Nat} (hd : decode cc pc = .ok (.invokevirtual index, 3)) (hM : zM l y cy mL ret ry w (.ref (zad w id) :: As) σ (zV0 σ')) (hY : zYV y cy mL ret n) (hlk : Cond.methodLink own index y ∈ wsL_law) (hkd : zkd w id = 5) (hcl : w.2.1[(zob w id).1]? = some (y.cls, T, N)) (hs : zns w ≤ id) (hn : id < zn w) (hA : As.length = n) (hst : st = As.reverse ++ .ref (zad w id) :: rest) (hcat : (rest.map fun v => v.category).sum ≤ 8) (hR : ry.cells = 0 ∧ ry.slots = 0 ∧ ry.frames + 1 ≤ rm.frames ∧ 8 + (mL + 11) + ry.locals ≤ rm.locals)
    (k : zJ κ w (pc + 3) lv rest σ') : zJ κ w pc lv st σ := j_callV C hd hM hY hlk hkd hcl hs hn hA hst hcat hR (fun v t q => by obtain ⟨rfl, rfl⟩ := q; exact k)
theorem j_callV1 {κ : zK} {l : Launch} {w : zWl} {cc : ByteArray} {own : String} {rm : Room} {nL : Nat} (C : zC κ l w cc own rm nL) {pc : Nat} {lv : Nat → Option Value} {st : List Value} {σ : zSt} {index id n mL : Nat} {y : MethodName} {cy : ByteArray} {ret : Option FieldType} {ry : Room} {As rest : List Value} {σ' : zSt} {r : Value} {T : u_T} {N : Nat} (hd : decode cc pc = .ok (.invokevirtual index, 3)) (hM : zM l y cy mL ret ry w (.ref (zad w id) :: As) σ (zV1 r σ')) (hY : zYV y cy mL ret n) (hlk : Cond.methodLink own index y ∈ wsL_law) (hkd : zkd w id = 5) (hcl : w.2.1[(zob w id).1]? = some (y.cls, T, N)) (hs : zns w ≤ id) (hn : id < zn w) (hA : As.length = n) (hst : st = As.reverse ++ .ref (zad w id) :: rest) (hcat : (rest.map fun v => v.category).sum ≤ 8) (hR : ry.cells = 0 ∧ ry.slots = 0 ∧ ry.frames + 1 ≤ rm.frames ∧ 8 + (mL + 11) + ry.locals ≤ rm.locals)
    (k : zJ κ w (pc + 3) lv (r :: rest) σ') : zJ κ w pc lv st σ := j_callV C hd hM hY hlk hkd hcl hs hn hA hst hcat hR (fun v t q => by obtain ⟨rfl, rfl⟩ := q; exact k)
theorem j_callS0 {κ : zK} {l : Launch} {w : zWl} {cc : ByteArray} {own : String} {rm : Room} {nL : Nat} (C : zC κ l w cc own rm nL) {pc : Nat} {lv : Nat → Option Value} {st : List Value} {σ : zSt} {index n mL : Nat} {y : MethodName} {cy : ByteArray} {ret : Option FieldType} {ry : Room} {As rest : List Value} {σ' : zSt} (hd : decode cc pc = .ok (.invokestatic index, 3)) (hM : zM l y cy mL ret ry w As σ (zV0 σ')) (hY : zYS y cy mL ret n) (hlk : Cond.methodLink own index y ∈ wsL_law) (hA : As.length = n) (hst : st = As.reverse ++ rest) (hcat : (rest.map fun v => v.category).sum ≤ 8) (hR : ry.cells = 0 ∧ ry.slots = 0 ∧ ry.frames + 1 ≤ rm.frames ∧ 8 + (mL + 11) + ry.locals ≤ rm.locals)
    (k : zJ κ w (pc + 3) lv rest σ') : zJ κ w pc lv st σ := j_callS C hd hM hY hlk hA hst hcat hR (fun v t q => by obtain ⟨rfl, rfl⟩ := q; exact k)
theorem j_callS1 {κ : zK} {l : Launch} {w : zWl} {cc : ByteArray} {own : String} {rm : Room} {nL : Nat} (C : zC κ l w cc own rm nL) {pc : Nat} {lv : Nat → Option Value} {st : List Value} {σ : zSt} {index n mL : Nat} {y : MethodName} {cy : ByteArray} {ret : Option FieldType} {ry : Room} {As rest : List Value} {σ' : zSt} {r : Value} (hd : decode cc pc = .ok (.invokestatic index, 3)) (hM : zM l y cy mL ret ry w As σ (zV1 r σ')) (hY : zYS y cy mL ret n) (hlk : Cond.methodLink own index y ∈ wsL_law) (hA : As.length = n) (hst : st = As.reverse ++ rest) (hcat : (rest.map fun v => v.category).sum ≤ 8) (hR : ry.cells = 0 ∧ ry.slots = 0 ∧ ry.frames + 1 ≤ rm.frames ∧ 8 + (mL + 11) + ry.locals ≤ rm.locals)
    (k : zJ κ w (pc + 3) lv (r :: rest) σ') : zJ κ w pc lv st σ := j_callS C hd hM hY hlk hA hst hcat hR (fun v t q => by obtain ⟨rfl, rfl⟩ := q; exact k)
theorem sl_all : ∀ i, i < 24 → kdX (11 + i) = 0 ∧ lnX (11 + i) = 4 := by decide +kernel
theorem pw_all : ∀ i, i < 16 → kdX (45 + i) = 0 ∧ lnX (45 + i) = 10 := by decide +kernel
theorem sl_wa {n : Nat} (i : Nat) (h : i < 24) (hn : 35 ≤ n) : wa n 4 (11 + i) := ⟨⟨(sl_all i h).1, (sl_all i h).2, by omega, by decide⟩, by omega⟩
theorem pw_wa {n : Nat} (i : Nat) (h : i < 16) (hn : 61 ≤ n) : wa n 10 (45 + i) := ⟨⟨(pw_all i h).1, (pw_all i h).2, by omega, by decide⟩, by omega⟩
theorem pt_lo67 {P : Nat} (hp : ptB P = true) : 67 ≤ P := (pt_all P (pt_mem hp)).2.2.2.2.2.2.1
theorem pt_lo {P : Nat} (hp : ptB P = true) : 11 ≤ P + 4 := by have := pt_lo67 hp; omega
theorem pt_wa0 {n P : Nat} (hp : ptB P = true) (h : P + 4 < n) : wa n 10 (P + 0) := ⟨⟨(pt_all P (pt_mem hp)).2.2.1.1, (pt_all P (pt_mem hp)).2.2.1.2, by omega, by decide⟩, by have := pt_lo67 hp; omega⟩
theorem pt_wa1 {n P : Nat} (hp : ptB P = true) (h : P + 4 < n) : wa n 10 (P + 1) := ⟨⟨(pt_all P (pt_mem hp)).2.2.2.1.1, (pt_all P (pt_mem hp)).2.2.2.1.2, by omega, by decide⟩, by have := pt_lo67 hp; omega⟩
theorem pt_wa2 {n P : Nat} (hp : ptB P = true) (h : P + 4 < n) : wa n 10 (P + 2) := ⟨⟨(pt_all P (pt_mem hp)).2.2.2.2.1.1, (pt_all P (pt_mem hp)).2.2.2.2.1.2, by omega, by decide⟩, by have := pt_lo67 hp; omega⟩
theorem pt_wa3 {n P : Nat} (hp : ptB P = true) (h : P + 4 < n) : wa n 10 (P + 3) := ⟨⟨(pt_all P (pt_mem hp)).2.2.2.2.2.1.1, (pt_all P (pt_mem hp)).2.2.2.2.2.1.2, by omega, by decide⟩, by have := pt_lo67 hp; omega⟩
theorem j_if_leN1 {κ : zK} {l : Launch} {w : zWl} {cc : ByteArray} {own : String} {rm : Room} {nL : Nat} (C : zC κ l w cc own rm nL) {pc : Nat} {lv : Nat → Option Value} {st : List Value} {σ : zSt} {a : Nat} {off : Int} (hd : decode cc pc = .ok (.ifCond .le off, 3)) (ha : a + 1 < 2 ^ 31) (tgt : Nat) (ht : (pc : Int) + off = (tgt : Int)) (kf : zJ κ w (pc + 3) lv st σ) : zJ κ w pc lv (.int (nI (a + 1)) :: st) σ := j_if_le C hd ht (fun q => absurd q (nI_nle (Nat.succ_pos a) ha)) (fun _ => kf)
theorem j_if_le0 {κ : zK} {l : Launch} {w : zWl} {cc : ByteArray} {own : String} {rm : Room} {nL : Nat} (C : zC κ l w cc own rm nL) {pc : Nat} {lv : Nat → Option Value} {st : List Value} {σ : zSt} {off : Int} {tgt : Nat} (hd : decode cc pc = .ok (.ifCond .le off, 3)) (ht : (pc : Int) + off = (tgt : Int)) (kt : zJ κ w tgt lv st σ) : zJ κ w pc lv (.int (nI 0) :: st) σ := j_if_le C hd ht (fun _ => kt) (fun q => absurd (by decide) q)
/-! System.arraycopy of longs: from a row of ours or from a table -/
theorem zsrc {p : Program} {l1 : Launch} {e : Env} {R : Room} {s : State} {m : MethodId} {args : Array Value} {below : List Frame} {meth : Method} {c : Code} {Q : State → Prop} {nL1 cells slots : Nat} {A : Nat → Prop} {l : Launch} {w : zWl} {cc : ByteArray} {own : String} {rm : Room} {nL : Nat} (C : zC (p, l1, e, R, s, m, args, below, meth, c, Q, nL1, cells, slots, A) l w cc own rm nL) {H : Heap} {locs : List Loc} {σ : zSt} (hP : zP w σ H) (hS : va_S A s.heap H locs) {id : Nat} (ht0 : w.2.2.2.1[0]? = some (w.2.2.1 0, .long)) (hk : zkd w id = 0) (hn : id < zn w) : ∃ cell : Cell, H[zad w id]? = some cell ∧ s.isArrayOf cell .long ∧ cell.vm ≠ .unknown ∧ zln w id ≤ cell.slots.size ∧ ∀ j, j < zln w id → cell.slots[j]? = some (.long (σ.1 id j)) := by
  by_cases hs : zns w ≤ id
  · have he := zl_at w σ hs hn
    unfold zE at he
    rw [hk] at he
    exact ⟨_, hP.1 _ _ he, (C.2.2.2.2.2.1.2 0 _ ht0).1 _ (fun j => .long (σ.1 id j)), (fun h => by cases h), (by show _ ≤ (arrV (w.2.2.1 0) (zln w id) (fun j => Value.long (σ.1 id j))).slots.size; rw [arrV_size]; exact Nat.le_refl _), (fun j hj => by show (arrV (w.2.2.1 0) (zln w id) (fun j => Value.long (σ.1 id j))).slots[j]? = _; rw [arrV_read _ _ hj])⟩
  · obtain ⟨cell, h1, h2, h3, h4, h5, h6, h7⟩ := ((C.2.2.2.2.2.2.1.kept hS) id (by omega)).1
    refine ⟨cell, h1, h2, h3, h4, fun j hj => ?_⟩
    rw [hP.2.2 id (by omega) j hj]
    exact h6 j hj
theorem j_copyl {κ : zK} {l : Launch} {w : zWl} {cc : ByteArray} {own : String} {rm : Room} {nL : Nat} (C : zC κ l w cc own rm nL) {pc : Nat} {lv : Nat → Option Value} {st : List Value} {σ : zSt} {index a b sp dp q : Nat} (hd : decode cc pc = .ok (.invokestatic index, 3)) (hlk : Cond.methodLink own index arraycopyName ∈ wsL_law) (ht0 : w.2.2.2.1[0]? = some (w.2.2.1 0, .long)) (hka : zkd w a = 0) (hna : a < zn w) (hkb : zkd w b = 0) (hsb : zns w ≤ b) (hnb : b < zn w) (h4 : sp + q ≤ zln w a) (h5 : dp + q ≤ zln w b) (hb1 : sp + q < 2 ^ 31) (hb2 : dp + q < 2 ^ 31) (hR : 1 ≤ rm.frames ∧ (st.map fun v => v.category).sum + 18 ≤ rm.locals)
    (k : zJ κ w (pc + 3) lv st (zL σ b (va_cpy (σ.1 a) (σ.1 b) sp dp q))) : zJ κ w pc lv (.int (nI q) :: .int (nI dp) :: .ref (zad w b) :: .int (nI sp) :: .ref (zad w a) :: st) σ := by
  obtain ⟨p, l1, e, R, s, m, args, below, meth, c, Q, nL, cells, slots, A⟩ := κ
  intro H locs ls hP hS hl
  have C0 := C
  obtain ⟨hx, hb, hml, hown, hts, hK, hT, hAA, rfl, rfl, rfl, hc1, hc2⟩ := C
  intro T hT1 X
  obtain ⟨scr, g1, g2, g3, g4, g6⟩ := zsrc C0 hP hS ht0 hka hna
  have he := zl_at w σ hsb hnb
  unfold zE at he
  rw [hkb] at he
  have he' : (zl w σ)[b - zns w]? = some (zad w b, .inl (w.2.2.1 0, zln w b, .inr (.inl (σ.1 b)))) := he
  have hc1' : H[zad w b]? = some (vp_cell (w.2.2.1 0) (zln w b, .inr (.inl (σ.1 b)))) := hP.1 _ _ he
  obtain ⟨hst0, k0, hk0, cm0, hkk0⟩ := g2
  obtain ⟨-, k1, hk1, cm1, hkk1⟩ := (hK.2 0 _ ht0).1 (zln w b) (fun j => .long (σ.1 b j))
  have nsp : (nI sp).toNatClampNeg = sp := nI_clamp (by omega)
  have ndp : (nI dp).toNatClampNeg = dp := nI_clamp (by omega)
  have nq : (nI q).toNatClampNeg = q := nI_clamp (by omega)
  have isp : (nI sp).toInt = (sp : Int) := nI_toInt (by omega)
  have idp : (nI dp).toInt = (dp : Int) := nI_toInt (by omega)
  have iq : (nI q).toInt = (q : Int) := nI_toInt (by omega)
  obtain ⟨vm', X', step⟩ := X.arraycopy hx hown (hts _ hlk) (hts _ mw_16_2) (hts _ mw_16_3) (hts _ mw_16_4) (src := zad w a) (dst := zad w b) (cs := scr) (cd := vp_cell (w.2.2.1 0) (zln w b, .inr (.inl (σ.1 b)))) (srcPos := nI sp) (destPos := nI dp) (n := nI q) (by rw [hT1]; exact g1) (by rw [hT1]; exact hc1')
    hst0 (fun _ h => by cases h) g3 (fun h => by cases h) hk0 hk1 hkk0 hkk1 (by simp [refKind]) (nI_pos (by omega)) (nI_pos (by omega)) (nI_pos (by omega))
    (by rw [isp, iq]; omega)
    (by rw [idp, iq]; show ¬ _ > ((arrV (w.2.2.1 0) (zln w b) (fun j => .long (σ.1 b j))).slots.size : Int); rw [arrV_size]; omega)
    (fun vm₁ _ i hi => by
      rw [nq] at hi
      have e : scr.slots.getD ((nI sp).toNatClampNeg + i) .null = .long (σ.1 a (sp + i)) := by
        rw [nsp, Array.getD_eq_getD_getElem?, g6 _ (by omega)]
        rfl
      refine ⟨?_, ?_⟩
      · rw [e]
        rfl
      · rw [e]
        exact trivial)
    (g := F0 m pc ls (.int (nI q) :: .int (nI dp) :: .ref (zad w b) :: .int (nI sp) :: .ref (zad w a) :: st)) rfl (by rw [hml]; exact hl.1) (rest := st) rfl (by rw [hb]; exact hd) hR.1 (by show 2 * 0 + _ + (7 + 11) ≤ _; have := hR.2; omega)
  have e1 : copied scr (vp_cell (w.2.2.1 0) (zln w b, .inr (.inl (σ.1 b)))) (nI sp) (nI dp) (nI q) = vp_cell (w.2.2.1 0) (zln w b, .inr (.inl (va_cpy (σ.1 a) (σ.1 b) sp dp q))) := by
    have h := va_copiedX (fun z : Int64 => Value.long z) scr (w.2.2.1 0) (n0 := zln w a) (n1 := zln w b) (sp := sp) (dp := dp) (n := q) (σ.1 a) (σ.1 b) g6 h4
    have h2 : copied scr (vp_cell (w.2.2.1 0) (zln w b, .inr (.inl (σ.1 b)))) (nI sp) (nI dp) (nI q) = (arrV (w.2.2.1 0) (zln w b) (fun j => Value.long (σ.1 b j))).storeRun (nI dp).toNatClampNeg (scr.stretch (nI sp).toNatClampNeg (nI q).toNatClampNeg) := rfl
    rw [h2, nsp, ndp, nq, h]
    rfl
  rw [e1] at X' step
  have hlt : zad w b < H.size := (Array.getElem?_eq_some_iff.mp hc1').1
  have hheap : ((T.setVm vm').setCell (zad w b) (vp_cell (w.2.2.1 0) (zln w b, .inr (.inl (va_cpy (σ.1 a) (σ.1 b) sp dp q))))).heap = H.setIfInBounds (zad w b) (vp_cell (w.2.2.1 0) (zln w b, .inr (.inl (va_cpy (σ.1 a) (σ.1 b) sp dp q)))) := by rw [← hT1]; rfl
  have oq : ∀ x : Nat, x ≠ zad w b → (H.setIfInBounds (zad w b) (vp_cell (w.2.2.1 0) (zln w b, .inr (.inl (va_cpy (σ.1 a) (σ.1 b) sp dp q)))))[x]? = H[x]? := fun x hx => by simp [Array.getElem?_setIfInBounds, Ne.symm hx]
  have hAb : A (zad w b) := hAA _ ⟨b, hsb, hnb, rfl⟩
  have he2 : zE w (zL σ b (va_cpy (σ.1 a) (σ.1 b) sp dp q)) b = .inl (w.2.2.1 0, zln w b, .inr (.inl (va_cpy (σ.1 a) (σ.1 b) sp dp q))) := by
    unfold zE
    rw [hkb, zL_s]
    rfl
  have es := zl_set w σ (zL σ b (va_cpy (σ.1 a) (σ.1 b) sp dp q)) hsb hnb he2 (fun j hj => zE_zL w σ _ hj)
  have hP1 : va_P w.1 w.2.1 ((zl w σ).set (b - zns w) (zad w b, .inl (w.2.2.1 0, zln w b, .inr (.inl (va_cpy (σ.1 a) (σ.1 b) sp dp q))))) (H.setIfInBounds (zad w b) (vp_cell (w.2.2.1 0) (zln w b, .inr (.inl (va_cpy (σ.1 a) (σ.1 b) sp dp q))))) := hP.1.set hP.2.1 he' (show (H.setIfInBounds (zad w b) (vp_cell (w.2.2.1 0) (zln w b, .inr (.inl (va_cpy (σ.1 a) (σ.1 b) sp dp q)))))[zad w b]? = some (vp_cell (w.2.2.1 0) (zln w b, .inr (.inl (va_cpy (σ.1 a) (σ.1 b) sp dp q)))) by simp [Array.getElem?_setIfInBounds, hlt]) oq
  have hD1 : va_D (zA w) ((zl w σ).set (b - zns w) (zad w b, .inl (w.2.2.1 0, zln w b, .inr (.inl (va_cpy (σ.1 a) (σ.1 b) sp dp q))))) := hP.2.1.set he'
  have hP2 : zP w (zL σ b (va_cpy (σ.1 a) (σ.1 b) sp dp q)) (H.setIfInBounds (zad w b) (vp_cell (w.2.2.1 0) (zln w b, .inr (.inl (va_cpy (σ.1 a) (σ.1 b) sp dp q))))) := by
    refine ⟨?_, ?_, fun i hi j hj => by rw [zL_n σ _ (by omega)]; exact hP.2.2 i hi j hj⟩
    · rw [← es]; exact hP1
    · rw [← es]; exact hD1
  obtain ⟨t, a1, b1⟩ := k _ _ ls hP2 ⟨by simp; exact hS.1, fun x y1 y2 => by
      rw [oq x (fun z => y2 (by rw [z]; exact hAb))]
      exact hS.2.1 x y1 y2, fun x hx2 => by
      rcases List.mem_append.mp hx2 with h | h
      · exact hS.2.2 x h
      · obtain ⟨z, -, hz⟩ := List.mem_map.mp h
        rw [← hz]
        exact hAb⟩ hl _ hheap X'
  exact ⟨t, step t a1, b1⟩
theorem x_copyl {κ : zK} {l : Launch} {D : va_G} {kc : Nat → ClassId} {ad : Nat → Nat} {n : Nat} {cc : ByteArray} {own : String} {rm : Room} {nL : Nat} (C : zC κ l (wX D kc ad n) cc own rm nL) {pc : Nat} {lv : Nat → Option Value} {st : List Value} {σ : zSt} {index a b sp dp q ma mb : Nat} (hd : decode cc pc = .ok (.invokestatic index, 3)) (hlk : Cond.methodLink own index arraycopyName ∈ wsL_law) (ha : ra n ma a) (hb : wa n mb b) (h4 : sp + q ≤ ma) (h5 : dp + q ≤ mb) (hR : 1 ≤ rm.frames ∧ (st.map fun v => v.category).sum + 18 ≤ rm.locals)
    (k : zJ κ (wX D kc ad n) (pc + 3) lv st (zL σ b (va_cpy (σ.1 a) (σ.1 b) sp dp q))) : zJ κ (wX D kc ad n) pc lv (.int (nI q) :: .int (nI dp) :: .ref (zad (wX D kc ad n) b) :: .int (nI sp) :: .ref (zad (wX D kc ad n) a) :: st) σ := by
  obtain ⟨h1, rfl, h3, h4'⟩ := ha
  obtain ⟨⟨g1, rfl, g3, g4⟩, g5⟩ := hb
  exact j_copyl C hd hlk rfl h1 h3 g1 g5 g3 h4 h5 (by omega) (by omega) hR k
/-- a counter that goes down, not below 0 -/
theorem j_iincP {κ : zK} {l : Launch} {w : zWl} {cc : ByteArray} {own : String} {rm : Room} {nL : Nat} (C : zC κ l w cc own rm nL) {pc : Nat} {lv : Nat → Option Value} {st : List Value} {σ : zSt} {i : Nat} {a : Nat} (hd : decode cc pc = .ok (.iinc i (-1), 3)) (hg0 : lv i = some (.int (nI (a + 1)))) (hn : i < nL) (k : zJ κ w (pc + 3) (zs1 lv i (.int (nI a))) st σ) : zJ κ w pc lv st σ := j_iinc C hd hg0 (v := nI a) (pk_m1 a) hn k
/-! what a loop keeps -/
theorem ziter_keep {α β : Type} (g : α → β) (f : Nat → α → α) (h : ∀ i x, g (f i x) = g x) : ∀ (n i : Nat) (x : α), g (ziter f i n x) = g x
  | 0, _, _ => rfl
  | n + 1, i, x => (ziter_keep g f h n (i + 1) (f i x)).trans (h i x)
theorem zdown_keep {α β : Type} (g : α → β) (f : Nat → α → α) (h : ∀ i x, g (f i x) = g x) : ∀ (j : Nat) (x : α), g (zdown f j x) = g x
  | 0, _ => rfl
  | j + 1, x => (zdown_keep g f h j (f j x)).trans (h j x)
theorem ziter_I {α : Type} (f : Nat → α → α) (I : Nat → α → Prop) (N : Nat) (h : ∀ i x, i < N → I i x → I (i + 1) (f i x)) : ∀ (n i : Nat) (x : α), i + n = N → I i x → I N (ziter f i n x)
  | 0, i, x, e, hi => by have e2 : i = N := e; subst e2; exact hi
  | n + 1, i, x, e, hi => ziter_I f I N h n (i + 1) (f i x) (by omega) (h i x (by omega) hi)
theorem zdown_I {α : Type} (f : Nat → α → α) (I : Nat → α → Prop) (h : ∀ j x, I (j + 1) x → I j (f j x)) : ∀ (j : Nat) (x : α), I j x → I 0 (zdown f j x)
  | 0, _, hi => hi
  | j + 1, x, hi => zdown_I f I h j (f j x) (h j x hi)
def zk2 (σ : zSt) : (Nat → Nat → Int32) × (Nat → Int32) := σ.2
theorem zW_2 (σ : zSt) (a i : Nat) (v : Int64) : zk2 (zW σ a i v) = zk2 σ := id rfl
theorem zL_2 (σ : zSt) (a : Nat) (f : Nat → Int64) : zk2 (zL σ a f) = zk2 σ := id rfl
theorem z2_I {σ τ : zSt} (h : zk2 σ = zk2 τ) (k : Nat) : σ.2.2 k = τ.2.2 k := congrArg (fun x => x.2 k) h
theorem z2_B {σ τ : zSt} (h : zk2 σ = zk2 τ) (a : Nat) : σ.2.1 a = τ.2.1 a := congrArg (fun x => x.1 a) h
theorem cond_keep {α β : Type} (g : α → β) (b : Bool) {x y : α} {c : β} (hx : g x = c) (hy : g y = c) : g (bif b then x else y) = c := by cases b <;> assumption
theorem ite_keep {α β : Type} (g : α → β) (p : Prop) (hp : Decidable p) {x y : α} {c : β} (hx : g x = c) (hy : g y = c) : g (@ite α p hp x y) = c := by
  by_cases h : p
  · rw [if_pos h]; exact hx
  · rw [if_neg h]; exact hy
def zfst {α β : Type} (x : α × β) : α := x.1
def zsnd {α β : Type} (x : α × β) : β := x.2
theorem zfst_mk {α β : Type} (a : α) (b : β) : zfst (a, b) = a := id rfl
theorem zsnd_mk {α β : Type} (a : α) (b : β) : zsnd (a, b) = b := id rfl
/-- a number of the store -/
def zi (σ : zSt) (k : Nat) : Int32 := (zk2 σ).2 k
theorem zi_of {σ τ : zSt} (h : zk2 σ = zk2 τ) (k : Nat) : zi σ k = zi τ k := by unfold zi; rw [h]
theorem zi_o {σ τ : zSt} {k : Nat} (h : σ.2.2 k = τ.2.2 k) : zi σ k = zi τ k := h
theorem zo_i {σ τ : zSt} {k : Nat} (h : zi σ k = zi τ k) : σ.2.2 k = τ.2.2 k := h
theorem zi_c {σ : zSt} {k : Nat} {v : Int32} (h : σ.2.2 k = v) : zi σ k = v := h
theorem zo_c {σ : zSt} {k : Nat} {v : Int32} (h : zi σ k = v) : σ.2.2 k = v := h
def zk2s {α : Type} (x : α × zSt) : (Nat → Nat → Int32) × (Nat → Int32) := zk2 (zsnd x)
def zk2f {α : Type} (x : zSt × α) : (Nat → Nat → Int32) × (Nat → Int32) := zk2 x.1
theorem zk2s_mk {α : Type} (a : α) (t : zSt) : zk2s (a, t) = zk2 t := id rfl
theorem zk2f_mk {α : Type} (a : α) (t : zSt) : zk2f (t, a) = zk2 t := id rfl
/-- a loop that counts down, and may be left before -/
theorem z_brk {α : Type} (G : Nat → α → Prop) (K : α → Prop) (f : Nat → α → α) (done : α → Prop) (I : Nat → α → Prop) (hd : ∀ j x, done x → f j x = x) (hK : ∀ j x, I j x → (j = 0 ∨ done x) → K x → G j x) (hs : ∀ j x, I (j + 1) x → ¬ done x → (I j (f j x) → G j (f j x)) → G (j + 1) x) (hI : ∀ j x, I (j + 1) x → I j (f j x)) : ∀ (j : Nat) (x : α), I j x → K (zdown f j x) → G j x
  | 0, x, hi, k => hK 0 x hi (Or.inl rfl) k
  | j + 1, x, hi, k => by
    have idd : ∀ (m : Nat) (y : α), done y → zdown f m y = y := fun m => by
      induction m with
      | zero => exact fun _ _ => rfl
      | succ m ih => exact fun y hy => by show zdown f m (f m y) = y; rw [hd m y hy]; exact ih y hy
    rcases Classical.em (done x) with h | h
    · refine hK (j + 1) x hi (Or.inr h) ?_
      rw [idd (j + 1) x h] at k
      exact k
    · exact hs j x hi h (fun h2 => z_brk G K f done I hd hK hs hI j (f j x) h2 k)
theorem zit {f : Nat → zSt → zSt} {k : Nat} (h : ∀ i x, zi (f i x) k = zi x k) (n i : Nat) (x : zSt) : zi (ziter f i n x) k = zi x k := ziter_keep (fun z => zi z k) f h n i x
theorem zdt {f : Nat → zSt → zSt} {k : Nat} (h : ∀ i x, zi (f i x) k = zi x k) (n : Nat) (x : zSt) : zi (zdown f n x) k = zi x k := zdown_keep (fun z => zi z k) f h n x
theorem zI_zi (σ : zSt) (a : Nat) (v : Int32) {k : Nat} (h : k ≠ a) : zi (zI σ a v) k = zi σ k := zi_o (zI_n σ v h)
theorem zV_zi (σ : zSt) (a i : Nat) (v : Int32) (k : Nat) : zi (zV σ a i v) k = zi σ k := id rfl
theorem j_tabIn {κ : zK} {l : Launch} {w : zWl} {cc : ByteArray} {own : String} {rm : Room} {nL : Nat} (C : zC κ l w cc own rm nL) {pc : Nat} {lv : Nat → Option Value} {st : List Value} {σ : zSt} {dflt lo hi : Int} {offs : Array Int} {len c : Nat} {off : Int} {tgt : Nat} (hd : decode cc pc = .ok (.tableswitch dflt lo hi offs, len)) (hc : ¬ (nI c).toInt < lo ∧ ¬ hi < (nI c).toInt ∧ offs[((nI c).toInt - lo).toNat]? = some off) (ht : (pc : Int) + off = (tgt : Int)) (k : zJ κ w tgt lv st σ) : zJ κ w pc lv (.int (nI c) :: st) σ := by
  obtain ⟨p, l1, e, R, s, m, args, below, meth, c, Q, nL, cells, slots, A⟩ := κ
  exact fun H locs ls hP hS hl => lv_tableIn C.1 C.2.1 hd hc.1 hc.2.1 hc.2.2 ht (k H locs ls hP hS hl)
theorem j_tabOut {κ : zK} {l : Launch} {w : zWl} {cc : ByteArray} {own : String} {rm : Room} {nL : Nat} (C : zC κ l w cc own rm nL) {pc : Nat} {lv : Nat → Option Value} {st : List Value} {σ : zSt} {dflt lo hi : Int} {offs : Array Int} {len : Nat} {x : Int32} {tgt : Nat} (hd : decode cc pc = .ok (.tableswitch dflt lo hi offs, len)) (hc : x.toInt < lo ∨ hi < x.toInt) (ht : (pc : Int) + dflt = (tgt : Int)) (k : zJ κ w tgt lv st σ) : zJ κ w pc lv (.int x :: st) σ := by
  obtain ⟨p, l1, e, R, s, m, args, below, meth, c, Q, nL, cells, slots, A⟩ := κ
  exact fun H locs ls hP hS hl => lv_tableOut C.1 C.2.1 hd hc ht (k H locs ls hP hS hl)
theorem tab_out {x : Int32} (n : Nat) (hn : n < 2 ^ 31) (h : ∀ c, c < n → ¬ x = nI c) : x.toInt < 0 ∨ (n : Int) - 1 < x.toInt := by
  rcases Int.lt_or_le x.toInt 0 with h1 | h1
  · exact Or.inl h1
  · right
    rcases Int.lt_or_le ((n : Int) - 1) x.toInt with h2 | h2
    · exact h2
    · obtain ⟨j, hj, e⟩ := nI_of (x := x) (fun q => by have := Int32.lt_iff_toInt_lt.mp q; simp at this; omega)
      subst e
      rw [nI_toInt hj] at h1 h2
      exact absurd rfl (h j (by omega))
theorem nI_self {x : Int32} {n : Nat} (hn : n ≤ 2 ^ 31) (h0 : ¬ x < 0) (h : x < nI n ∨ ∃ m, m < n ∧ x = nI m) : x = nI x.toNatClampNeg ∧ x.toNatClampNeg < n := by
  obtain ⟨j, hj, e⟩ := nI_of h0
  subst e
  rw [nI_clamp hj]
  refine ⟨rfl, ?_⟩
  rcases h with h | ⟨m, hm, e⟩
  · rcases Nat.lt_or_ge n (2 ^ 31) with q | q
    · exact (nI_ltI hj q).mp h
    · omega
  · have := congrArg Int32.toNatClampNeg e
    rw [nI_clamp hj, nI_clamp (by omega)] at this
    omega
