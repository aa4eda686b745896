def fX9_isWithin_a1 (s0 : zSt) : Bool :=
    false
def fX9_isWithin_a2 (s0 : zSt) : Bool :=
    false
def fX9_isWithin_a3 (s0 : zSt) : Bool :=
    true
def fX9_isWithin_a4 (v : Int32) (b : Int32) (s0 : zSt) : Bool :=
    if b ≤ v then
      fX9_isWithin_a2 s0
    else
      fX9_isWithin_a3 s0
def vX9_isWithin (v : Int32) (b : Int32) (s0 : zSt) : Bool :=
    if v < 0 then
      fX9_isWithin_a1 s0
    else
      fX9_isWithin_a4 v b s0
set_option maxHeartbeats 4000000 in
set_option maxRecDepth 100000 in
theorem k_X9_isWithin (l : Launch) (D : va_G) (kc : Nat → ClassId) (ad : Nat → Nat) (n : Nat) (hn : 11 ≤ n) (v : Int32) (b : Int32) (s0 : zSt) : zM l yX9_isWithin cX9_isWithin 2 (some .boolean) rX9_isWithin (wX D kc ad n) [.int v, .int b] s0 (zV1 (.int (bI (vX9_isWithin v b s0))) s0) := by
  refine z_of (own := RX9) (by decide +kernel) rfl (Nat.le_of_ble_eq_true rfl) ?_
  intro κ C R0
  refine j_at [(0, .int v), (1, .int b)] ⟨rfl, rfl, trivial⟩ ?_
  refine j_iload_n C dX9_isWithin_0 rfl rfl ?_
  refine j_if_lt (tgt := 13) C dX9_isWithin_1 (by decide) (fun q1 => ?_) (fun q1 => ?_)
  · have hA2 : vX9_isWithin v b s0 = fX9_isWithin_a1 s0 := by have q1z := q1; (try dsimp only at q1z); unfold vX9_isWithin; (try dsimp only); rw [if_pos q1z]; (try rfl)
    refine j_iconst (v := nI 0) C dX9_isWithin_13 (by decide +kernel) ?_
    refine j_top (v := .int (bI false)) (by decide +kernel) ?_
    exact j_zret (st := []) C R0 dX9_isWithin_14 ⟨(by rw [hA2]; unfold fX9_isWithin_a1; (try dsimp only); all_goals ((try simp only [zfst_mk, zsnd_mk]); all_goals rfl)), ((by rfl))⟩
  · have hA3 : vX9_isWithin v b s0 = fX9_isWithin_a4 v b s0 := by have q1z := q1; (try dsimp only at q1z); unfold vX9_isWithin; (try dsimp only); rw [if_neg q1z]; (try rfl)
    refine j_iload_n C dX9_isWithin_4 rfl rfl ?_
    refine j_iload_n C dX9_isWithin_5 rfl rfl ?_
    refine j_icmp_ge (tgt := 13) C dX9_isWithin_6 (by decide) (fun q4 => ?_) (fun q4 => ?_)
    · have hA5 : fX9_isWithin_a4 v b s0 = fX9_isWithin_a2 s0 := by have q4z := q4; (try dsimp only at q4z); unfold fX9_isWithin_a4; (try dsimp only); rw [if_pos q4z]; (try rfl)
      refine j_iconst (v := nI 0) C dX9_isWithin_13 (by decide +kernel) ?_
      refine j_top (v := .int (bI false)) (by decide +kernel) ?_
      exact j_zret (st := []) C R0 dX9_isWithin_14 ⟨(by rw [hA3, hA5]; unfold fX9_isWithin_a2; (try dsimp only); all_goals ((try simp only [zfst_mk, zsnd_mk]); all_goals rfl)), ((by rfl))⟩
    · have hA6 : fX9_isWithin_a4 v b s0 = fX9_isWithin_a3 s0 := by have q4z := q4; (try dsimp only at q4z); unfold fX9_isWithin_a4; (try dsimp only); rw [if_neg q4z]; (try rfl)
      refine j_iconst (v := nI 1) C dX9_isWithin_9 (by decide +kernel) ?_
      refine j_goto (tgt := 14) C dX9_isWithin_10 (by decide) ?_
      refine j_top (v := .int (bI true)) (by decide +kernel) ?_
      exact j_zret (st := []) C R0 dX9_isWithin_14 ⟨(by rw [hA3, hA6]; unfold fX9_isWithin_a3; (try dsimp only); all_goals ((try simp only [zfst_mk, zsnd_mk]); all_goals rfl)), ((by rfl))⟩

def vX9_isSlot (v : Int32) (s0 : zSt) : Bool :=
    vX9_isWithin v (nI (24)) s0
set_option maxHeartbeats 4000000 in
set_option maxRecDepth 100000 in
theorem k_X9_isSlot (l : Launch) (D : va_G) (kc : Nat → ClassId) (ad : Nat → Nat) (n : Nat) (hn : 11 ≤ n) (v : Int32) (s0 : zSt) : zM l yX9_isSlot cX9_isSlot 1 (some .boolean) rX9_isSlot (wX D kc ad n) [.int v] s0 (zV1 (.int (bI (vX9_isSlot v s0))) s0) := by
  refine z_of (own := RX9) (by decide +kernel) rfl (Nat.le_of_ble_eq_true rfl) ?_
  intro κ C R0
  refine j_at [(0, .int v)] ⟨rfl, trivial⟩ ?_
  refine j_iload_n C dX9_isSlot_0 rfl rfl ?_
  refine j_bipush (v := nI 24) C dX9_isSlot_1 (by decide +kernel) ?_
  refine j_callS1 C dX9_isSlot_3 (k_X9_isWithin l D kc ad n (by omega) (v) (nI (24)) _ ) zy_X9_isWithin mw_14_20 rfl rfl (Nat.le_of_ble_eq_true rfl) ⟨rfl, rfl, Nat.le_of_ble_eq_true rfl, Nat.le_of_ble_eq_true rfl⟩ ?_
  exact j_zret (st := []) C R0 dX9_isSlot_6 ⟨(by unfold vX9_isSlot; (try dsimp only); all_goals ((try simp only [zfst_mk, zsnd_mk]); all_goals rfl)), ((by rfl))⟩

def vX9_isPair (v : Int32) (s0 : zSt) : Bool :=
    vX9_isWithin v (nI (23)) s0
set_option maxHeartbeats 4000000 in
set_option maxRecDepth 100000 in
theorem k_X9_isPair (l : Launch) (D : va_G) (kc : Nat → ClassId) (ad : Nat → Nat) (n : Nat) (hn : 11 ≤ n) (v : Int32) (s0 : zSt) : zM l yX9_isPair cX9_isPair 1 (some .boolean) rX9_isPair (wX D kc ad n) [.int v] s0 (zV1 (.int (bI (vX9_isPair v s0))) s0) := by
  refine z_of (own := RX9) (by decide +kernel) rfl (Nat.le_of_ble_eq_true rfl) ?_
  intro κ C R0
  refine j_at [(0, .int v)] ⟨rfl, trivial⟩ ?_
  refine j_iload_n C dX9_isPair_0 rfl rfl ?_
  refine j_bipush (v := nI 23) C dX9_isPair_1 (by decide +kernel) ?_
  refine j_callS1 C dX9_isPair_3 (k_X9_isWithin l D kc ad n (by omega) (v) (nI (23)) _ ) zy_X9_isWithin mw_14_20 rfl rfl (Nat.le_of_ble_eq_true rfl) ⟨rfl, rfl, Nat.le_of_ble_eq_true rfl, Nat.le_of_ble_eq_true rfl⟩ ?_
  exact j_zret (st := []) C R0 dX9_isPair_6 ⟨(by unfold vX9_isPair; (try dsimp only); all_goals ((try simp only [zfst_mk, zsnd_mk]); all_goals rfl)), ((by rfl))⟩

def fX9_told_a1 (s0 : zSt) : Int32 :=
    nI (0)
def fX9_told_a2 (s0 : zSt) : Int32 :=
    nI (1)
def vX9_told (v : Bool) (s0 : zSt) : Int32 :=
    bif v then
      fX9_told_a2 s0
    else
      fX9_told_a1 s0
set_option maxHeartbeats 4000000 in
set_option maxRecDepth 100000 in
theorem k_X9_told (l : Launch) (D : va_G) (kc : Nat → ClassId) (ad : Nat → Nat) (n : Nat) (hn : 11 ≤ n) (v : Bool) (s0 : zSt) : zM l yX9_told cX9_told 1 (some .int) rX9_told (wX D kc ad n) [.int (bI v)] s0 (zV1 (.int (vX9_told v s0)) s0) := by
  refine z_of (own := RX9) (by decide +kernel) rfl (Nat.le_of_ble_eq_true rfl) ?_
  intro κ C R0
  refine j_at [(0, .int (bI v))] ⟨rfl, trivial⟩ ?_
  refine j_iload_n C dX9_told_0 rfl rfl ?_
  refine j_if_eqB (tgt := 8) C dX9_told_1 (by decide) (fun q1 => ?_) (fun q1 => ?_)
  · have hA2 : vX9_told v s0 = fX9_told_a1 s0 := by have q1z := q1; (try dsimp only at q1z); unfold vX9_told; (try dsimp only); rw [q1z, cond_false]; (try rfl)
    refine j_iconst (v := nI 0) C dX9_told_8 (by decide +kernel) ?_
    exact j_iret (st := []) C R0 dX9_told_9 ⟨(by rw [hA2]; unfold fX9_told_a1; (try dsimp only); all_goals ((try simp only [zfst_mk, zsnd_mk]); all_goals rfl)), ((by rfl))⟩
  · have hA3 : vX9_told v s0 = fX9_told_a2 s0 := by have q1z := q1; (try dsimp only at q1z); unfold vX9_told; (try dsimp only); rw [q1z, cond_true]; (try rfl)
    refine j_iconst (v := nI 1) C dX9_told_4 (by decide +kernel) ?_
    refine j_goto (tgt := 9) C dX9_told_5 (by decide) ?_
    exact j_iret (st := []) C R0 dX9_told_9 ⟨(by rw [hA3]; unfold fX9_told_a2; (try dsimp only); all_goals ((try simp only [zfst_mk, zsnd_mk]); all_goals rfl)), ((by rfl))⟩

theorem wi_of {x : Int32} {b : Nat} {s : zSt} (hb : b < 2 ^ 31) (h : vX9_isWithin x (nI b) s = true) : x = nI x.toNatClampNeg ∧ x.toNatClampNeg < b := by
  unfold vX9_isWithin fX9_isWithin_a1 fX9_isWithin_a4 fX9_isWithin_a2 fX9_isWithin_a3 at h
  by_cases h1 : x < 0
  · rw [if_pos h1] at h; cases h
  · rw [if_neg h1] at h
    by_cases h2 : nI b ≤ x
    · rw [if_pos h2] at h; cases h
    · exact nI_self (by omega) h1 (Or.inl (Int32.not_le.mp h2))
theorem sl_of {x : Int32} {s : zSt} (h : vX9_isSlot x s = true) : x = nI x.toNatClampNeg ∧ x.toNatClampNeg < 24 := wi_of (by decide) h
theorem pr_of {x : Int32} {s : zSt} (h : vX9_isPair x s = true) : x = nI x.toNatClampNeg ∧ x.toNatClampNeg < 23 := wi_of (by decide) h