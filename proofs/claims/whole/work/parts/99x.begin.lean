/-! the law from its entry -/
def s0X : zSt := (fun id => bif Nat.blt id 11 then svX id else fun _ => 0, fun _ _ => 0, fun k => bif Nat.beq k 0 then nI 400 else nI 0)
def s0M : zSt := (fun _ _ => 0, fun _ _ => 0, fun k => bif Nat.beq k 1 then nI 400 else nI 0)
theorem s0X_s : ZS s0X := fun id hi j _ => by
  show (bif Nat.blt id 11 then svX id else fun _ => 0) j = _
  rw [show Nat.blt id 11 = true from Nat.ble_eq_true_of_le hi]
  rfl
theorem s0X_z : Z0 11 0 s0X := ⟨fun id hi => ⟨by
  show (bif Nat.blt id 11 then svX id else fun _ => 0) = _
  have e : Nat.blt id 11 = false := by
    cases h : Nat.blt id 11 with
    | false => rfl
    | true =>
      have : id + 1 ≤ 11 := Nat.le_of_ble_eq_true h
      omega
  rw [e]
  rfl, rfl⟩, fun _ => rfl⟩
theorem s0M_z : Z0 0 1 s0M := ⟨fun _ _ => ⟨rfl, rfl⟩, fun _ => rfl⟩
set_option maxHeartbeats 4000000 in
set_option maxRecDepth 100000 in
theorem whole_start {p : Program} {e : Env} {s : State} {m : MethodId} {below : List Frame} {meth : Method} {c : Code} (l : Launch) (hflags : l.flags = flags0) {b L : Nat} {xs : Nat → Int32} (hL : L ≤ 2560) (C0 : lw_At p s m meth c b L xs) : W p l e room_1 s m #[Value.ref b] below meth c s.heap [] 0 0 (lw_Z below #[Value.ref b] s) (entryFrame m ([Value.ref b] : List Value).toArray 4) := by
  obtain ⟨hx, hb, hr, hml, hown, hts, hX, hbl, hlocks, hgv⟩ := id C0
  obtain ⟨kc, k0, k1, k2, k3, k4⟩ := w_arr hts
  obtain ⟨D, hD⟩ := w_cls hts
  obtain ⟨sa, hsa⟩ := w_stat hts hgv (fun q : Nat => s.heap.size ≤ q) (fun a ha => Nat.not_le.mpr ha)
  obtain ⟨adx, hadx⟩ : ∃ adx : Nat → Nat, adx = fun id => if id < 11 then sa id else s.heap.size + offX id := ⟨_, rfl⟩
  obtain ⟨adm, hadm⟩ : ∃ adm : Nat → Nat, adm = fun id => s.heap.size + offM id := ⟨_, rfl⟩
  have hA : aX s.heap.size adx := fun id hi => by rw [hadx]; exact if_neg (by omega)
  have hM : aM s.heap.size adm := fun id => by rw [hadm]
  have hst : zT (fun q : Nat => s.heap.size ≤ q) (wX D kc adx 11) s s.heap := fun id hi => by
    have h := hsa id hi
    have e1 : zad (wX D kc adx 11) id = sa id := by
      show adx id = _
      rw [hadx]
      exact if_pos hi
    rw [e1]
    exact h
  have hKX : va_K D vwCl (tysX kc) s := ⟨hD, fun k q hq => by
    match k, hq with
    | 0, hq => cases hq; exact k0
    | 1, hq => cases hq; exact k2
    | 2, hq => cases hq; exact k3
    | 3, hq => cases hq; exact k4
    | k + 4, hq => cases hq⟩
  have hKM : va_K D vwCl (tysM kc) s := ⟨hD, fun k q hq => by
    match k, hq with
    | 0, hq => cases hq; exact k0
    | 1, hq => cases hq; exact k1
    | k + 2, hq => cases hq⟩
  obtain ⟨κ, hκ⟩ : ∃ κ : zK, κ = (p, l, e, room_1, s, m, #[Value.ref b], below, meth, c, lw_Z below #[Value.ref b] s, 4, 0, 0, fun q : Nat => s.heap.size ≤ q) := ⟨_, rfl⟩
  have C : zCX κ l (wX D kc adx 11) cL_law RL room_1 4 s.heap.size := by
    rw [hκ]
    exact ⟨hx, hb, hml, hown, fun w hw => hts w (tb_all w hw), hKX, hst, fun _ h => h, rfl, rfl, rfl, rfl, w_nw hts⟩
  have CM : zCX κ l (wMn D kc adm 0) cL_law RL room_1 4 s.heap.size := by
    rw [hκ]
    exact ⟨hx, hb, hml, hown, fun w hw => hts w (tb_all w hw), hKM, fun id hi => absurd hi (Nat.not_lt_zero _), fun _ h => h, rfl, rfl, rfl, rfl, w_nw hts⟩
  have LW : zLw κ b L xs := by
    rw [hκ]
    exact ⟨hX, hbl, Nat.not_le.mpr hbl⟩
  have kE : ∀ (σ τ : zSt) (lv : Nat → Option Value), zJX κ (wX D kc adx 216) (zl (wM D kc adm) τ) 223 5190 1117 lv [] σ := fun σ τ lv => by
    rw [hκ]
    intro H locs ls hP hz hS hl
    refine lv_iconst (v := 1) hx hb dL_law_1117 (by decide +kernel) ?_
    refine W.widen (k := 600000) (n := 7302250) (Nat.le_of_ble_eq_true rfl) (Nat.le_of_ble_eq_true rfl) ?_
    refine va_forget hS.2.2 ?_
    exact lw_ret hx hb hr hlocks dL_law_1118
  have key : zJX κ (wX D kc adx 11) [] 0 0 0 (zlof [(0, .ref b)]) [] s0X := by
    refine e_new2 (ci := 8) C (adx 215) 1 17 [.null, .null, .int 0, .int 0, .int 0, .int 0, .null, .null, .null, .null, .null, .null, .null, .null, .null, .null, .null] tyX9 dL_law_0 rfl inlX9 tyX9_ok mw_1_0 mw_1_1 mw_1_2 (fun j hj => nd_X9 j hj) (Nat.le_of_ble_eq_true rfl) (Nat.le_of_ble_eq_true rfl) (hA.eq 0 (by decide) rfl (by omega)) rfl rfl ?_
    refine e_dup C dL_law_3 rfl ?_
    refine e_callI2 C (wX D kc adx 216) 205 2697 dL_law_4 (i_X9_init l D kc adx s.heap.size hA s0X s0X_z s0X_s) zi_X9 mw_1_7 rfl rfl (Nat.le_of_ble_eq_true rfl) ⟨rfl, rfl, Nat.le_of_ble_eq_true rfl, Nat.le_of_ble_eq_true rfl⟩ ⟨Nat.le_of_ble_eq_true rfl, Nat.le_of_ble_eq_true rfl⟩ rfl rfl rfl ?_
    refine e_astore_n (C.N 216) dL_law_7 rfl (by decide) ?_
    refine e_static (fun hs9 => ?_)
    refine e_flip (w2 := wMn D kc adm 0) (σ2 := s0M) rfl rfl (fun _ h => absurd h (Nat.not_lt_zero _)) ?_
    refine e_new2 (ci := 9) CM (adm 17) 206 2720 [.null, .null, .int 0, .int 0, .int 0, .int 0, .int 0, .null, .null, .null, .null, .null, .null, .null, .null, .null, .int 0, .null, .null, .null, .null, .null, .null] tyX10 dL_law_8 rfl inlX10 tyX10_ok mw_1_3 mw_1_4 mw_1_5 (fun j hj => nd_X10 j hj) (Nat.le_of_ble_eq_true rfl) (Nat.le_of_ble_eq_true rfl) (hM.eq 205 rfl (by omega)) rfl rfl ?_
    refine e_dup CM dL_law_11 rfl ?_
    refine e_callI2 CM (wM D kc adm) 223 5190 dL_law_12 (i_X10_init l D kc adm s.heap.size hM s0M s0M_z (M_start s0M_z).1) zi_X10 mw_8_23 rfl rfl (Nat.le_of_ble_eq_true rfl) ⟨rfl, rfl, Nat.le_of_ble_eq_true rfl, Nat.le_of_ble_eq_true rfl⟩ ⟨Nat.le_of_ble_eq_true rfl, Nat.le_of_ble_eq_true rfl⟩ rfl rfl rfl ?_
    refine e_astore_n (CM.N 18) dL_law_15 rfl (by decide) ?_
    refine e_iconst (v := nI 0) (CM.N 18) dL_law_16 (by decide +kernel) ?_
    refine e_istore_n (CM.N 18) dL_law_17 rfl (by decide) ?_
    refine e_at [(0, .ref b), (1, .ref (adx 215)), (2, .ref (adm 17)), (3, .int (nI 0))] ⟨rfl, rfl, rfl, rfl, trivial⟩ ?_
    refine e_flip (w2 := wX D kc adx 216) rfl rfl hs9 ?_
    exact law_loop (C.N 216) (CM.N 18) LW ⟨Nat.le_of_ble_eq_true rfl, Nat.le_of_ble_eq_true rfl⟩ hL kE (L + 1) 0 0 (sX s0X) (tM s0M) (Nat.zero_le _) (by omega) (GI_start s0X_s s0X_z s0M_z)
  have hl := lv_entry ([.ref b]) (n := 4) (Nat.le_of_ble_eq_true rfl)
  rw [lg_entry_eq]
  rw [hκ] at key
  refine key s.heap [] _ ⟨?_, ?_, s0X_s⟩ rfl va_S.rf (zh.of hl)
  · exact fun k q h => by cases h
  · exact ⟨fun i j p q h => (by cases h), fun k q h => (by cases h)⟩
