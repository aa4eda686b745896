/-! constructors: rows for the two worlds as they grow -/
def wMn (D : va_G) (kc : Nat → ClassId) (ad : Nat → Nat) (n : Nat) : zWl := zN (wM D kc ad) n
def offXl : List Nat := [0, 0, 0, 0, 0, 0, 0, 0, 0, 0, 0, 2, 3, 4, 5, 6, 7, 8, 9, 10, 11, 12, 13, 14, 15, 16, 17, 18, 19, 20, 21, 22, 23, 24, 25, 1, 27, 26, 29, 30, 31, 32, 33, 34, 35, 37, 38, 39, 40, 41, 42, 43, 44, 45, 46, 47, 48, 49, 50, 51, 52, 36, 28, 54, 55, 56, 53, 59, 60, 61, 62, 58, 63, 64, 65, 66, 67, 68, 69, 70, 71, 72, 73, 57, 76, 77, 78, 79, 75, 81, 82, 83, 84, 80, 86, 87, 88, 89, 85, 91, 92, 93, 94, 90, 96, 97, 98, 99, 95, 101, 102, 103, 104, 100, 106, 107, 108, 109, 105, 111, 112, 113, 114, 110, 116, 117, 118, 119, 115, 121, 122, 123, 124, 120, 126, 127, 128, 129, 125, 131, 132, 133, 134, 130, 136, 137, 138, 139, 135, 141, 142, 143, 144, 140, 146, 147, 148, 149, 145, 151, 152, 153, 154, 150, 74, 156, 157, 158, 159, 160, 161, 162, 163, 164, 165, 155, 167, 168, 169, 166, 171, 172, 173, 174, 175, 176, 178, 179, 180, 181, 177, 183, 184, 185, 186, 182, 188, 189, 190, 191, 187, 170, 192, 193, 194, 196, 197, 198, 199, 195, 201, 202, 203, 204, 200, 0]
def offX (id : Nat) : Nat := offXl.getD id 0
def offM (id : Nat) : Nat := bif Nat.beq id 17 then 205 else 206 + id
def aX (B : Nat) (ad : Nat → Nat) : Prop := ∀ id, 11 ≤ id → ad id = B + offX id
def aM (B : Nat) (ad : Nat → Nat) : Prop := ∀ id, ad id = B + offM id
theorem aX.of {B : Nat} {ad : Nat → Nat} (h : aX B ad) {id k b : Nat} (h1 : 11 ≤ id) (h2 : offX id = k + b) : ad id = B + k + b := by rw [h id h1, h2, Nat.add_assoc]
theorem aM.of {B : Nat} {ad : Nat → Nat} (h : aM B ad) {id k b : Nat} (h2 : offM id = k + b) : ad id = B + k + b := by rw [h id, h2, Nat.add_assoc]
/-- what isn't made yet is 0, and so are the numbers -/
def Z0 (n m : Nat) (σ : zSt) : Prop := (∀ id, n ≤ id → σ.1 id = (fun _ => 0) ∧ σ.2.1 id = (fun _ => 0)) ∧ ∀ k, σ.2.2 k = bif Nat.beq k m then nI 400 else nI 0
theorem Z0.up {n n' m : Nat} {σ : zSt} (h : Z0 n m σ) (q : n ≤ n') : Z0 n' m σ := ⟨fun id hi => h.1 id (Nat.le_trans q hi), h.2⟩
theorem zL_id {σ : zSt} {a : Nat} {f : Nat → Int64} (h : σ.1 a = f) : zL σ a f = σ := by
  refine Prod.ext (funext fun b => ?_) rfl
  show (bif Nat.beq b a then f else σ.1 b) = σ.1 b
  cases q : Nat.beq b a with
  | false => rfl
  | true => rw [Nat.eq_of_beq_eq_true q, h]; rfl
theorem zB_id {σ : zSt} {a : Nat} {f : Nat → Int32} (h : σ.2.1 a = f) : zB σ a f = σ := by
  refine Prod.ext rfl (Prod.ext (funext fun b => ?_) rfl)
  show (bif Nat.beq b a then f else σ.2.1 b) = σ.2.1 b
  cases q : Nat.beq b a with
  | false => rfl
  | true => rw [Nat.eq_of_beq_eq_true q, h]; rfl
theorem zZ_id {σ : zSt} {n N : Nat} (h : ∀ b, n ≤ b → b < n + N → σ.1 b = (fun _ => 0)) : zZ σ n N = σ := by
  refine Prod.ext (funext fun b => ?_) rfl
  by_cases q : n ≤ b ∧ b < n + N
  · rw [zZ_in σ q.1 q.2, h b q.1 q.2]
  · exact zZ_out σ (by omega)
theorem e_new2 {κ : zK} {l : Launch} {w : zWl} {X : va_W} {bc ns K0 : Nat} {cc : ByteArray} {own : String} {rm : Room} {nL : Nat} (C : zCX κ l w cc own rm nL K0) {pc : Nat} {lv : Nat → Option Value} {st : List Value} {σ : zSt} {index ci N : Nat} {Cn : String} {T : u_T} (a b2 s2 : Nat) (fs : List Value) (ty : Nat → FieldType) (hd : decode cc pc = .ok (.new index, 3)) (hc : w.2.1[ci]? = some (Cn, T, N)) (hin : ∀ x ∈ u_ws Cn T N, x ∈ wsL_law) (hty : ∀ k, k < N → parseFieldDescriptor (T k).2.2.1 = some (ty k)) (hcl : Cond.classLink own index Cn ∈ wsL_law) (hins : Cond.instantiable Cn N ∈ wsL_law) (hini : Cond.initialized Cn ∈ wsL_law) (hfs : ∀ j, j < N → defaultValue (ty j) = vp_V fs j) (hbc : b2 ≤ rm.cells) (hsl : s2 ≤ rm.slots) (ha : a = K0 + bc) (h2 : bc + 1 = b2) (h3 : ns + N = s2)
    (k : zJX κ w ((a, .inr (ci, fs)) :: X) b2 s2 (pc + 3) lv (.ref a :: st) σ) : zJX κ w X bc ns pc lv st σ := by
  subst ha; subst h2; subst h3
  exact e_new C fs ty hd hc hin hty hcl hins hini hfs hbc hsl k
theorem e_anew2 {κ : zK} {l : Launch} {w : zWl} {X : va_W} {bc ns K0 : Nat} {cc : ByteArray} {own : String} {rm : Room} {nL : Nat} (C : zCX κ l w cc own rm nL K0) {pc : Nat} {lv : Nat → Option Value} {st : List Value} {σ : zSt} {N t0 index : Nat} (a b2 s2 : Nat) (hd : decode cc pc = .ok (.anewarray index, 3)) (hw : Cond.classLink own index "LadderSigns$Point" ∈ wsL_law) (ht0 : w.2.2.2.1[t0]? = some (w.2.2.1 4, .object "LadderSigns$Point")) (hN : N ≤ 10000) (hbc : b2 ≤ rm.cells) (hsl : s2 ≤ rm.slots) (ha : a = K0 + bc) (h2 : bc + 1 = b2) (h3 : ns + N = s2)
    (k : zJX κ w ((a, .inl (w.2.2.1 4, N, .inr (.inr (.inr (.inr (fun _ => none)))))) :: X) b2 s2 (pc + 3) lv (.ref a :: st) σ) : zJX κ w X bc ns pc lv (.int (nI N) :: st) σ := by
  subst ha; subst h2; subst h3
  exact e_anew C hd hw ht0 hN hbc hsl k
theorem e_putF2 {κ : zK} {l : Launch} {w : zWl} {X : va_W} {bc ns K0 : Nat} {cc : ByteArray} {own : String} {rm : Room} {nL : Nat} (C : zCX κ l w cc own rm nL K0) (hN : zNm κ) {pc : Nat} {lv : Nat → Option Value} {st : List Value} {σ : zSt} {index a ci kf : Nat} {fs : List Value} {ty : FieldType} {v : Value} (i : Nat) (X' : va_W) (hd : decode cc pc = .ok (.putfield index, 3)) (hF : zFi w own index ci kf true ty) (he : X[i]? = some (a, .inr (ci, fs))) (hnar : narrow ty v = v) (hfit : fits ty v = true) (hl0 : kf < fs.length) (hX : X.set i (a, .inr (ci, fs.set kf v)) = X') (k : zJX κ w X' bc ns (pc + 3) lv st σ) : zJX κ w X bc ns pc lv (v :: .ref a :: st) σ := by
  subst hX
  exact e_putF C hN i hd hF he hnar hfit hl0 k
theorem e_putN2 {κ : zK} {l : Launch} {w : zWl} {X : va_W} {bc ns K0 : Nat} {cc : ByteArray} {own : String} {rm : Room} {nL : Nat} (C : zCX κ l w cc own rm nL K0) {pc : Nat} {lv : Nat → Option Value} {st : List Value} {σ : zSt} {index a ci kf : Nat} {fs : List Value} {ty : FieldType} {v : Value} (i : Nat) (X' : va_W) (hd : decode cc pc = .ok (.putfield index, 3)) (hF : zFi w own index ci kf false ty) (he : X[i]? = some (a, .inr (ci, fs))) (hnar : narrow ty v = v) (hfit : fits ty v = true) (hl0 : kf < fs.length) (hX : X.set i (a, .inr (ci, fs.set kf v)) = X') (k : zJX κ w X' bc ns (pc + 3) lv st σ) : zJX κ w X bc ns pc lv (v :: .ref a :: st) σ := by
  subst hX
  exact e_putN C i hd hF he hnar hfit hl0 k
theorem e_commit2 {κ : zK} {w : zWl} {X' : va_W} {bc ns : Nat} {pc : Nat} {lv : Nat → Option Value} {st : List Value} {σ : zSt} {a : Nat} {e : va_E} (w' : zWl) (ha : a = zad w (zn w)) (he : zE w σ (zn w) = e) (hns : zns w ≤ zn w) (hw : zN w (zn w + 1) = w') (k : zJX κ w' X' bc ns pc lv st σ) : zJX κ w ((a, e) :: X') bc ns pc lv st σ := by
  subst ha; subst he; subst hw
  exact e_commit (List.Perm.refl _) hns k
theorem e_callI2 {κ : zK} {l : Launch} {w : zWl} {Xr : va_W} {bc ns K0 : Nat} {cc : ByteArray} {own : String} {rm : Room} {nL : Nat} (C : zCX κ l w cc own rm nL K0) {pc : Nat} {lv : Nat → Option Value} {st : List Value} {σ σ' : zSt} {index a0 n n' mL mc ms : Nat} {e0 : va_E} {y : MethodName} {cy : ByteArray} {ry : Room} {As rest : List Value} (w' : zWl) (b2 s2 : Nat) (hd : decode cc pc = .ok (.invokespecial index, 3)) (hM : zMI l y cy mL ry w n' a0 e0 (.ref a0 :: As) σ σ' (K0 + bc) mc ms) (hY : zYI y cy mL n) (hlk : Cond.methodLink own index y ∈ wsL_law) (hA : As.length = n) (hst : st = As.reverse ++ .ref a0 :: rest) (hcat : (rest.map fun v => v.category).sum ≤ 8) (hR : ry.cells = mc ∧ ry.slots = ms ∧ ry.frames + 1 ≤ rm.frames ∧ 8 + (mL + 11) + ry.locals ≤ rm.locals) (hcs : b2 ≤ rm.cells ∧ s2 ≤ rm.slots) (h2 : bc + mc = b2) (h3 : ns + ms = s2) (hw : zN w n' = w')
    (k : zJX κ w' Xr b2 s2 (pc + 3) lv rest σ') : zJX κ w ((a0, e0) :: Xr) bc ns pc lv st σ := by
  subst h2; subst h3; subst hw
  exact e_callI C hd hM hY hlk hA hst hcat hR hcs k
theorem e_callIN2 {κ : zK} {l : Launch} {w : zWl} {Xr : va_W} {bc ns K0 : Nat} {cc : ByteArray} {own : String} {rm : Room} {nL : Nat} (C : zCX κ l w cc own rm nL K0) {pc : Nat} {lv : Nat → Option Value} {st : List Value} {σ σ' : zSt} {index a0 n n' mL mc ms : Nat} {e0 : va_E} {y : MethodName} {cy : ByteArray} {ry : Room} {As rest : List Value} (w' : zWl) (b2 s2 : Nat) (hd : decode cc pc = .ok (.invokespecial index, 3)) (hM : zMI l y cy mL ry w n' a0 e0 (.ref a0 :: As) σ σ' (K0 + bc) mc ms) (hY : zYI y cy mL n) (hlk : ∀ U, zNw U → zLk own index y U) (hA : As.length = n) (hst : st = As.reverse ++ .ref a0 :: rest) (hcat : (rest.map fun v => v.category).sum ≤ 8) (hR : ry.cells = mc ∧ ry.slots = ms ∧ ry.frames + 1 ≤ rm.frames ∧ 8 + (mL + 11) + ry.locals ≤ rm.locals) (hcs : b2 ≤ rm.cells ∧ s2 ≤ rm.slots) (h2 : bc + mc = b2) (h3 : ns + ms = s2) (hw : zN w n' = w')
    (k : zJX κ w' Xr b2 s2 (pc + 3) lv rest σ') : zJX κ w ((a0, e0) :: Xr) bc ns pc lv st σ := by
  subst h2; subst h3; subst hw
  exact e_callIN C hd hM hY hlk hA hst hcat hR hcs k
theorem x_mna {κ : zK} {l : Launch} {D : va_G} {kc : Nat → ClassId} {ad : Nat → Nat} {n : Nat} {X : va_W} {bc ns K0 : Nat} {cc : ByteArray} {own : String} {rm : Room} {nL : Nat} (C : zCX κ l (wX D kc ad 11) cc own rm nL K0) {pc : Nat} {lv : Nat → Option Value} {st : List Value} {σ : zSt} {index : Nat} (N M o n2 b2 s2 : Nat) (hd : decode cc pc = .ok (.multianewarray index 2, 4)) (hw : Cond.classLink own index "[[J" ∈ wsL_law) (hr : ∀ i, i < N → kdX (n + i) = 0 ∧ lnX (n + i) = M ∧ ad (n + i) = K0 + bc + 1 + i) (ho : kdX o = 3 ∧ lnX o = N ∧ ad o = K0 + bc ∧ ∀ j, j < N → rfX o j = n + j) (hns : 11 ≤ n) (hN : N ≤ 10000) (hM : M ≤ 10000) (hbc : b2 ≤ rm.cells) (hsl : s2 ≤ rm.slots) (hz : Z0 n 0 σ) (h0 : n + N = o) (h1 : o + 1 = n2) (h2 : bc + (1 + N) = b2) (h3 : ns + (N + N * M) = s2)
    (k : zJX κ (wX D kc ad n2) X b2 s2 (pc + 4) lv (.ref (ad o) :: st) σ) : zJX κ (wX D kc ad n) X bc ns pc lv (.int (nI M) :: .int (nI N) :: st) σ := by
  subst h0; subst h1; subst h2; subst h3
  refine e_mna (w := wX D kc ad n) (t0 := 0) (t3 := 2) (C.N n) hd hw rfl rfl hr ho hns hN hM hbc hsl ?_
  have e : zZ σ (zn (wX D kc ad n)) N = σ := zZ_id (fun b h1 _ => (hz.1 b h1).1)
  rw [e, show bc + 1 + N = bc + (1 + N) by omega, show ns + N + N * M = ns + (N + N * M) by omega]
  exact k
theorem x_newL {κ : zK} {l : Launch} {D : va_G} {kc : Nat → ClassId} {ad : Nat → Nat} {n : Nat} {X : va_W} {bc ns K0 : Nat} {cc : ByteArray} {own : String} {rm : Room} {nL : Nat} (C : zCX κ l (wX D kc ad 11) cc own rm nL K0) {pc : Nat} {lv : Nat → Option Value} {st : List Value} {σ : zSt} (N n2 b2 s2 : Nat) (hd : decode cc pc = .ok (.newarray .long, 2)) (hk : kdX n = 0) (hl0 : lnX n = N) (ha : ad n = K0 + bc) (hns : 11 ≤ n) (hN : N ≤ 10000) (hbc : b2 ≤ rm.cells) (hsl : s2 ≤ rm.slots) (hz : Z0 n 0 σ) (h1 : n + 1 = n2) (h2 : bc + 1 = b2) (h3 : ns + N = s2) (k : zJX κ (wX D kc ad n2) X b2 s2 (pc + 2) lv (.ref (ad n) :: st) σ) : zJX κ (wX D kc ad n) X bc ns pc lv (.int (nI N) :: st) σ := by
  subst h1; subst h2; subst h3
  refine e_newL (w := wX D kc ad n) (t0 := 0) (C.N n) hd rfl hk hl0 ha hns hN hbc hsl ?_
  have e : zL σ (zn (wX D kc ad n)) (fun _ => 0) = σ := zL_id (hz.1 n (Nat.le_refl n)).1
  rw [e]
  exact k
theorem x_newB {κ : zK} {l : Launch} {D : va_G} {kc : Nat → ClassId} {ad : Nat → Nat} {n : Nat} {X : va_W} {bc ns K0 : Nat} {cc : ByteArray} {own : String} {rm : Room} {nL : Nat} (C : zCX κ l (wX D kc ad 11) cc own rm nL K0) {pc : Nat} {lv : Nat → Option Value} {st : List Value} {σ : zSt} (N n2 b2 s2 : Nat) (hd : decode cc pc = .ok (.newarray .byte, 2)) (hk : kdX n = 2) (hl0 : lnX n = N) (ha : ad n = K0 + bc) (hns : 11 ≤ n) (hN : N ≤ 10000) (hbc : b2 ≤ rm.cells) (hsl : s2 ≤ rm.slots) (hz : Z0 n 0 σ) (h1 : n + 1 = n2) (h2 : bc + 1 = b2) (h3 : ns + N = s2) (k : zJX κ (wX D kc ad n2) X b2 s2 (pc + 2) lv (.ref (ad n) :: st) σ) : zJX κ (wX D kc ad n) X bc ns pc lv (.int (nI N) :: st) σ := by
  subst h1; subst h2; subst h3
  refine e_newB (w := wX D kc ad n) (t0 := 1) (C.N n) hd rfl hk hl0 ha hns hN hbc hsl ?_
  have e : zB σ (zn (wX D kc ad n)) (fun _ => 0) = σ := zB_id (hz.1 n (Nat.le_refl n)).2
  rw [e]
  exact k
theorem m_newL {κ : zK} {l : Launch} {D : va_G} {kc : Nat → ClassId} {ad : Nat → Nat} {n : Nat} {X : va_W} {bc ns K0 : Nat} {cc : ByteArray} {own : String} {rm : Room} {nL : Nat} (C : zCX κ l (wMn D kc ad 0) cc own rm nL K0) {pc : Nat} {lv : Nat → Option Value} {st : List Value} {σ : zSt} (N n2 b2 s2 : Nat) (hd : decode cc pc = .ok (.newarray .long, 2)) (hk : kdM n = 0) (hl0 : lnM n = N) (ha : ad n = K0 + bc) (hns : 0 ≤ n) (hN : N ≤ 10000) (hbc : b2 ≤ rm.cells) (hsl : s2 ≤ rm.slots) (hz : Z0 n 1 σ) (h1 : n + 1 = n2) (h2 : bc + 1 = b2) (h3 : ns + N = s2) (k : zJX κ (wMn D kc ad n2) X b2 s2 (pc + 2) lv (.ref (ad n) :: st) σ) : zJX κ (wMn D kc ad n) X bc ns pc lv (.int (nI N) :: st) σ := by
  subst h1; subst h2; subst h3
  refine e_newL (w := wMn D kc ad n) (t0 := 0) (C.N n) hd rfl hk hl0 ha hns hN hbc hsl ?_
  have e : zL σ (zn (wMn D kc ad n)) (fun _ => 0) = σ := zL_id (hz.1 n (Nat.le_refl n)).1
  rw [e]
  exact k
theorem m_newI {κ : zK} {l : Launch} {D : va_G} {kc : Nat → ClassId} {ad : Nat → Nat} {n : Nat} {X : va_W} {bc ns K0 : Nat} {cc : ByteArray} {own : String} {rm : Room} {nL : Nat} (C : zCX κ l (wMn D kc ad 0) cc own rm nL K0) {pc : Nat} {lv : Nat → Option Value} {st : List Value} {σ : zSt} (N n2 b2 s2 : Nat) (hd : decode cc pc = .ok (.newarray .int, 2)) (hk : kdM n = 1) (hl0 : lnM n = N) (ha : ad n = K0 + bc) (hns : 0 ≤ n) (hN : N ≤ 10000) (hbc : b2 ≤ rm.cells) (hsl : s2 ≤ rm.slots) (hz : Z0 n 1 σ) (h1 : n + 1 = n2) (h2 : bc + 1 = b2) (h3 : ns + N = s2) (k : zJX κ (wMn D kc ad n2) X b2 s2 (pc + 2) lv (.ref (ad n) :: st) σ) : zJX κ (wMn D kc ad n) X bc ns pc lv (.int (nI N) :: st) σ := by
  subst h1; subst h2; subst h3
  refine e_newI (w := wMn D kc ad n) (t0 := 1) (C.N n) hd rfl hk hl0 ha hns hN hbc hsl ?_
  have e : zB σ (zn (wMn D kc ad n)) (fun _ => 0) = σ := zB_id (hz.1 n (Nat.le_refl n)).2
  rw [e]
  exact k
