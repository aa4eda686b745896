/-! the law: the script; two worlds in turn -/
def zLw (κ : zK) (b L : Nat) (xs : Nat → Int32) : Prop := match κ with
  | (_, _, _, _, s, _, _, _, _, _, _, _, _, _, A) => va_X b L xs s s.heap ∧ b < s.heap.size ∧ ¬ A b
theorem e_sld {κ : zK} {l : Launch} {w : zWl} {X : va_W} {bc ns K0 : Nat} {cc : ByteArray} {own : String} {rm : Room} {nL : Nat} (C : zCX κ l w cc own rm nL K0) {b L : Nat} {xs : Nat → Int32} (LW : zLw κ b L xs) {pc : Nat} {lv : Nat → Option Value} {st : List Value} {σ : zSt} {j : Nat} (hd : decode cc pc = .ok (.iaload, 1)) (hj : j < L) (hL : L ≤ 2560) (k : zJX κ w X bc ns (pc + 1) lv (.int (xs j) :: st) σ) : zJX κ w X bc ns pc lv (.int (nI j) :: .ref b :: st) σ := by
  obtain ⟨p, l1, e, R, s, m, args, below, meth, c, Q, nL, cells, slots, A⟩ := κ
  intro H locs ls hP hz hS hl
  refine va_sld C.1 C.2.1 LW.1 LW.2.1 LW.2.2 hS (zin hj (by omega)) hd ?_
  rw [nI_clamp (by omega)]
  exact k H locs ls hP hz hS hl
theorem e_slen {κ : zK} {l : Launch} {w : zWl} {X : va_W} {bc ns K0 : Nat} {cc : ByteArray} {own : String} {rm : Room} {nL : Nat} (C : zCX κ l w cc own rm nL K0) {b L : Nat} {xs : Nat → Int32} (LW : zLw κ b L xs) {pc : Nat} {lv : Nat → Option Value} {st : List Value} {σ : zSt} (hd : decode cc pc = .ok (.arraylength, 1)) (k : zJX κ w X bc ns (pc + 1) lv (.int (nI L) :: st) σ) : zJX κ w X bc ns pc lv (.ref b :: st) σ := by
  obtain ⟨p, l1, e, R, s, m, args, below, meth, c, Q, nL, cells, slots, A⟩ := κ
  intro H locs ls hP hz hS hl
  exact va_slen C.1 C.2.1 LW.1 LW.2.1 LW.2.2 hS hd (k H locs ls hP hz hS hl)
def zStat (w : zWl) (σ : zSt) : Prop := ∀ id, id < zns w → ∀ j, j < zln w id → σ.1 id j = zsv w id j
theorem e_static {κ : zK} {w : zWl} {X : va_W} {bc ns : Nat} {pc : Nat} {lv : Nat → Option Value} {st : List Value} {σ : zSt} (k : zStat w σ → zJX κ w X bc ns pc lv st σ) : zJX κ w X bc ns pc lv st σ := by
  obtain ⟨p, l1, e, R, s, m, args, below, meth, c, Q, nL, cells, slots, A⟩ := κ
  exact fun H locs ls hP hz hS hl => k hP.2.2 H locs ls hP hz hS hl
/-- the two worlds change places -/
theorem e_flip {κ : zK} {w1 w2 : zWl} {bc ns : Nat} {pc : Nat} {lv : Nat → Option Value} {st : List Value} {σ1 σ2 : zSt} (hD : w2.1 = w1.1) (hc : w2.2.1 = w1.2.1) (hs : zStat w2 σ2) (k : zJX κ w2 (zl w1 σ1) bc ns pc lv st σ2) : zJX κ w1 (zl w2 σ2) bc ns pc lv st σ1 := by
  obtain ⟨p, l1, e, R, s, m, args, below, meth, c, Q, nL, cells, slots, A⟩ := κ
  intro H locs ls hP hz hS hl
  refine k H locs ls ⟨?_, ?_, hs⟩ hz hS hl
  · rw [hD, hc]
    exact va_P_iff.mpr fun x hx => hP.at (List.mem_append.mpr (List.mem_append.mp hx).symm)
  · have q : (zl w1 σ1 ++ zl w2 σ2).Perm (zl w2 σ2 ++ zl w1 σ1) := List.perm_append_comm
    exact va_D_iff.mpr ⟨((q.map Prod.fst).pairwise_iff (fun h => Ne.symm h)).mp (va_D_iff.mp hP.2.1).1, fun x hx => hP.in (q.mem_iff.mpr hx)⟩
theorem stM (D : va_G) (kc : Nat → ClassId) (ad : Nat → Nat) (τ : zSt) : zStat (wM D kc ad) τ := fun _ h => absurd h (Nat.not_lt_zero _)
theorem cmp_0 {x y : Int64} (h : x = y) : lg_cmp x y = 0 := by
  subst h
  unfold lg_cmp
  rw [if_neg (show ¬ x > x from fun q => by have := Int64.lt_iff_toInt_lt.mp q; omega), if_pos rfl]
