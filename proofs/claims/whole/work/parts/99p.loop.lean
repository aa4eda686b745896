/-! the law's loop -/
set_option maxHeartbeats 4000000 in
set_option maxRecDepth 100000 in
theorem law_loop {κ : zK} {l : Launch} {D : va_G} {kc : Nat → ClassId} {adx adm : Nat → Nat} {bc ns b L B : Nat} {xs : Nat → Int32} (C : zCX κ l (wX D kc adx 216) cL_law RL room_1 4 B) (CM : zCX κ l (wM D kc adm) cL_law RL room_1 4 B) (LW : zLw κ b L xs) (hcs : bc ≤ 600000 ∧ ns ≤ 7302250) (hL : L ≤ 2560) (kE : ∀ (σ τ : zSt) (lv : Nat → Option Value), zJX κ (wX D kc adx 216) (zl (wM D kc adm) τ) bc ns 1117 lv [] σ) : ∀ (n i T : Nat) (σ τ : zSt), i ≤ L → L - i < n → GI T σ τ → zJX κ (wX D kc adx 216) (zl (wM D kc adm) τ) bc ns 18 (zlof [(0, .ref b), (1, .ref (adx 215)), (2, .ref (adm 17)), (3, .int (nI i))]) [] σ := by
  intro n
  induction n with
  | zero => exact fun i T σ τ _ h _ => absurd h (Nat.not_lt_zero _)
  | succ n ih =>
    intro i T σ τ hi hn hG
    refine e_iload_n C dL_law_18 rfl rfl ?_
    refine e_aload_n C dL_law_19 rfl rfl ?_
    refine e_slen C LW dL_law_20 ?_
    refine e_iconst (v := nI 5) C dL_law_21 (by decide +kernel) ?_
    refine e_isub C dL_law_22 ?_
    refine e_icmp_gt (tgt := 1117) C dL_law_23 (by decide) (fun _ => kE _ _ _) (fun q => ?_)
    have hi5 : i + 5 ≤ L := by
      rcases Nat.lt_or_ge L (i + 5) with h | h
      · refine absurd ?_ q
        rw [Int32.lt_iff_toInt_lt, pk_sub_toInt (by omega) (by omega), nI_toInt (by omega)]
        omega
      · exact h
    have kN : ∀ (T' : Nat) (σ' τ' : zSt), GI T' σ' τ' → zJX κ (wX D kc adx 216) (zl (wM D kc adm) τ') bc ns 1111 (zlof [(0, .ref b), (1, .ref (adx 215)), (2, .ref (adm 17)), (3, .int (nI i))]) [] σ' := fun T' σ' τ' g => by
      refine e_iincN (b := 5) C dL_law_1111 rfl (by decide +kernel) (by decide) ?_
      refine e_goto (tgt := 18) C dL_law_1114 (by decide) ?_
      refine e_at [(0, .ref b), (1, .ref (adx 215)), (2, .ref (adm 17)), (3, .int (nI (i + 5)))] ⟨rfl, rfl, rfl, rfl, trivial⟩ ?_
      exact ih (i + 5) T' σ' τ' hi5 (by omega) g
    refine e_aload_n C dL_law_26 rfl rfl ?_
    refine e_iload_n C dL_law_27 rfl rfl ?_
    refine e_sld C LW dL_law_28 (show i < L by omega) hL ?_
    refine e_bipush (v := nI 31) C dL_law_29 (by decide +kernel) ?_
    refine e_iand C dL_law_31 ?_
    obtain ⟨c, hc, ec⟩ := pk_andE (xs i) (m := nI 31) 5 (by decide +kernel)
    refine e_top (congrArg Value.int ec) ?_
    by_cases h26 : 26 ≤ c
    · refine e_tabOut (dflt := 1079) (lo := 0) (hi := 25) (tgt := 1111) C dL_law_32 (Or.inr (by rw [nI_toInt (by omega)]; omega)) (by decide) ?_
      exact kN T σ τ hG
    · rcases (show c = 0 ∨ c = 1 ∨ c = 2 ∨ c = 3 ∨ c = 4 ∨ c = 5 ∨ c = 6 ∨ c = 7 ∨ c = 8 ∨ c = 9 ∨ c = 10 ∨ c = 11 ∨ c = 12 ∨ c = 13 ∨ c = 14 ∨ c = 15 ∨ c = 16 ∨ c = 17 ∨ c = 18 ∨ c = 19 ∨ c = 20 ∨ c = 21 ∨ c = 22 ∨ c = 23 ∨ c = 24 ∨ c = 25 by omega) with rfl | rfl | rfl | rfl | rfl | rfl | rfl | rfl | rfl | rfl | rfl | rfl | rfl | rfl | rfl | rfl | rfl | rfl | rfl | rfl | rfl | rfl | rfl | rfl | rfl | rfl
      · refine e_tabIn (dflt := 1079) (lo := 0) (hi := 25) (off := 120) (tgt := 152) C dL_law_32 (by decide +kernel) (by decide) ?_
        exact law_set C CM LW hcs hi5 hL hG kN
      · refine e_tabIn (dflt := 1079) (lo := 0) (hi := 25) (off := 193) (tgt := 225) C dL_law_32 (by decide +kernel) (by decide) ?_
        exact law_word C CM LW hcs hi5 hL hG kN
      · refine e_tabIn (dflt := 1079) (lo := 0) (hi := 25) (off := 227) (tgt := 259) C dL_law_32 (by decide +kernel) (by decide) ?_
        exact law_copy C CM LW hcs hi5 hL hG kN
      · refine e_tabIn (dflt := 1079) (lo := 0) (hi := 25) (off := 260) (tgt := 292) C dL_law_32 (by decide +kernel) (by decide) ?_
        exact law_type C CM LW hcs hi5 hL hG kN
      · refine e_tabIn (dflt := 1079) (lo := 0) (hi := 25) (off := 323) (tgt := 355) C dL_law_32 (by decide +kernel) (by decide) ?_
        exact law_clear C CM LW hcs hi5 hL hG kN
      · refine e_tabIn (dflt := 1079) (lo := 0) (hi := 25) (off := 336) (tgt := 368) C dL_law_32 (by decide +kernel) (by decide) ?_
        exact law_at C CM LW hcs hi5 hL hG kN
      · refine e_tabIn (dflt := 1079) (lo := 0) (hi := 25) (off := 359) (tgt := 391) C dL_law_32 (by decide +kernel) (by decide) ?_
        exact law_flip C CM LW hcs hi5 hL hG kN
      · refine e_tabIn (dflt := 1079) (lo := 0) (hi := 25) (off := 402) (tgt := 434) C dL_law_32 (by decide +kernel) (by decide) ?_
        exact law_field C CM LW hcs hi5 hL hG kN
      · refine e_tabIn (dflt := 1079) (lo := 0) (hi := 25) (off := 455) (tgt := 487) C dL_law_32 (by decide +kernel) (by decide) ?_
        exact law_power C CM LW hcs hi5 hL hG kN
      · refine e_tabIn (dflt := 1079) (lo := 0) (hi := 25) (off := 498) (tgt := 530) C dL_law_32 (by decide +kernel) (by decide) ?_
        exact law_root C CM LW hcs hi5 hL hG kN
      · refine e_tabIn (dflt := 1079) (lo := 0) (hi := 25) (off := 531) (tgt := 563) C dL_law_32 (by decide +kernel) (by decide) ?_
        exact law_about C CM LW hcs hi5 hL hG kN
      · refine e_tabIn (dflt := 1079) (lo := 0) (hi := 25) (off := 564) (tgt := 596) C dL_law_32 (by decide +kernel) (by decide) ?_
        exact law_compare C CM LW hcs hi5 hL hG kN
      · refine e_tabIn (dflt := 1079) (lo := 0) (hi := 25) (off := 597) (tgt := 629) C dL_law_32 (by decide +kernel) (by decide) ?_
        exact law_scalar C CM LW hcs hi5 hL hG kN
      · refine e_tabIn (dflt := 1079) (lo := 0) (hi := 25) (off := 650) (tgt := 682) C dL_law_32 (by decide +kernel) (by decide) ?_
        exact law_isPoint C CM LW hcs hi5 hL hG kN
      · refine e_tabIn (dflt := 1079) (lo := 0) (hi := 25) (off := 673) (tgt := 705) C dL_law_32 (by decide +kernel) (by decide) ?_
        exact law_across C CM LW hcs hi5 hL hG kN
      · refine e_tabIn (dflt := 1079) (lo := 0) (hi := 25) (off := 706) (tgt := 738) C dL_law_32 (by decide +kernel) (by decide) ?_
        exact law_sum C CM LW hcs hi5 hL hG kN
      · refine e_tabIn (dflt := 1079) (lo := 0) (hi := 25) (off := 759) (tgt := 791) C dL_law_32 (by decide +kernel) (by decide) ?_
        exact law_times C CM LW hcs hi5 hL hG kN
      · refine e_tabIn (dflt := 1079) (lo := 0) (hi := 25) (off := 802) (tgt := 834) C dL_law_32 (by decide +kernel) (by decide) ?_
        exact law_base C CM LW hcs hi5 hL hG kN
      · refine e_tabIn (dflt := 1079) (lo := 0) (hi := 25) (off := 835) (tgt := 867) C dL_law_32 (by decide +kernel) (by decide) ?_
        exact law_small C CM LW hcs hi5 hL hG kN
      · refine e_tabIn (dflt := 1079) (lo := 0) (hi := 25) (off := 858) (tgt := 890) C dL_law_32 (by decide +kernel) (by decide) ?_
        exact law_other C CM LW hcs hi5 hL hG kN
      · refine e_tabIn (dflt := 1079) (lo := 0) (hi := 25) (off := 891) (tgt := 923) C dL_law_32 (by decide +kernel) (by decide) ?_
        exact law_share C CM LW hcs hi5 hL hG kN
      · refine e_tabIn (dflt := 1079) (lo := 0) (hi := 25) (off := 934) (tgt := 966) C dL_law_32 (by decide +kernel) (by decide) ?_
        exact law_digest C CM LW hcs hi5 hL hG kN
      · refine e_tabIn (dflt := 1079) (lo := 0) (hi := 25) (off := 957) (tgt := 989) C dL_law_32 (by decide +kernel) (by decide) ?_
        exact law_key C CM LW hcs hi5 hL hG kN
      · refine e_tabIn (dflt := 1079) (lo := 0) (hi := 25) (off := 990) (tgt := 1022) C dL_law_32 (by decide +kernel) (by decide) ?_
        exact law_sign C CM LW hcs hi5 hL hG kN
      · refine e_tabIn (dflt := 1079) (lo := 0) (hi := 25) (off := 1023) (tgt := 1055) C dL_law_32 (by decide +kernel) (by decide) ?_
        exact law_judge C CM LW hcs hi5 hL hG kN
      · refine e_tabIn (dflt := 1079) (lo := 0) (hi := 25) (off := 1056) (tgt := 1088) C dL_law_32 (by decide +kernel) (by decide) ?_
        exact law_count C CM LW hcs hi5 hL hG kN
