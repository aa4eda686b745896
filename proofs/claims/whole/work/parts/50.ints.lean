/-! numbers of longs, rows of limbs -/
def tN (x : Int64) : Nat := x.toBitVec.toNat
theorem tN_lt (x : Int64) : tN x < 18446744073709551616 := x.toBitVec.isLt
theorem tN_int (x : Int64) : x.toInt = if 2 * tN x < 18446744073709551616 then (tN x : Int) else (tN x : Int) - 18446744073709551616 := BitVec.toInt_eq_toNat_cond _
theorem tN_inj {x y : Int64} (h : tN x = tN y) : x = y := Int64.toBitVec_inj.mp (BitVec.eq_of_toNat_eq h)
theorem tN_mod (x : Int64) : (tN x : Int) = x.toInt % 18446744073709551616 := by
  have h := tN_lt x
  have h2 := tN_int x
  split at h2 <;> omega
theorem tN_pos {x : Int64} (h : 0 ≤ x.toInt) : (tN x : Int) = x.toInt := by
  have h1 := tN_lt x
  have h2 := tN_int x
  split at h2 <;> omega
theorem tN_and (x m : Int64) {k : Nat} (hm : m.toBitVec.toNat = 2 ^ k - 1) : tN (x &&& m) = tN x % 2 ^ k := by
  unfold tN
  rw [Int64.toBitVec_and, BitVec.toNat_and, hm, Nat.and_two_pow_sub_one_eq_mod]
theorem tN_or (x y : Int64) : tN (x ||| y) = tN x ||| tN y := by
  unfold tN
  rw [Int64.toBitVec_or, BitVec.toNat_or]
theorem tN_xor (x y : Int64) : tN (x ^^^ y) = tN x ^^^ tN y := by
  unfold tN
  rw [Int64.toBitVec_xor, BitVec.toNat_xor]
theorem tN_add (x y : Int64) : tN (x + y) = (tN x + tN y) % 18446744073709551616 := by
  unfold tN
  rw [Int64.toBitVec_add, BitVec.toNat_add]
theorem mq_and (x m : Int64) {k : Nat} (hk : k < 63) (hm : m.toBitVec.toNat = 2 ^ k - 1) : (x &&& m).toInt = x.toInt % ((2 ^ k : Nat) : Int) := by
  have h1 := tN_and x m hm
  have h2 : 2 ^ k ≤ 2 ^ 62 := Nat.pow_le_pow_right (by decide) (by omega)
  have h3 : tN x % 2 ^ k < 2 ^ k := Nat.mod_lt _ (Nat.two_pow_pos k)
  have h5 : ((2 ^ k : Nat) : Int) ∣ 18446744073709551616 := by
    have h6 : (2 ^ k : Nat) ∣ 2 ^ 64 := Nat.pow_dvd_pow 2 (by omega)
    have h7 := Int.natCast_dvd_natCast.mpr h6
    exact h7
  have h8 := tN_int (x &&& m)
  rw [h1, if_pos (by omega)] at h8
  rw [h8, Int.natCast_emod, tN_mod x, Int.emod_emod_of_dvd _ h5]
theorem mq_m26 (x : Int64) : (x &&& 67108863).toInt = x.toInt % 67108864 := mq_and x 67108863 (k := 26) (by decide) (by decide)
theorem mq_m21 (x : Int64) : (x &&& 2097151).toInt = x.toInt % 2097152 := mq_and x 2097151 (k := 21) (by decide) (by decide)
theorem mq_m16 (x : Int64) : (x &&& 65535).toInt = x.toInt % 65536 := mq_and x 65535 (k := 16) (by decide) (by decide)
theorem mq_m15 (x : Int64) : (x &&& 32767).toInt = x.toInt % 32768 := mq_and x 32767 (k := 15) (by decide) (by decide)
theorem mq_m1 (x : Int64) : (x &&& 1).toInt = x.toInt % 2 := mq_and x 1 (k := 1) (by decide) (by decide)
theorem mq_sm : ∀ k, k < 64 → ((lN k).toBitVec.smod 64).toNat = k := by decide +kernel
theorem mq_us : ∀ k, k < 64 → (UInt64.ofNat k).toNat % 64 = k := by decide +kernel
theorem mq_zsr (x : Int64) {k : Nat} (hk : k < 64) : (zsr x k).toInt = x.toInt / ((2 ^ k : Nat) : Int) := by
  show (x.toBitVec.sshiftRight ((lN k).toBitVec.smod 64).toNat).toInt = _
  rw [mq_sm k hk, BitVec.toInt_sshiftRight, Int.shiftRight_eq_div_pow]
  rfl
theorem mq_r26 (x : Int64) : (zsr x 26).toInt = x.toInt / 67108864 := mq_zsr x (k := 26) (by decide)
theorem mq_r21 (x : Int64) : (zsr x 21).toInt = x.toInt / 2097152 := mq_zsr x (k := 21) (by decide)
theorem mq_r16 (x : Int64) : (zsr x 16).toInt = x.toInt / 65536 := mq_zsr x (k := 16) (by decide)
theorem mq_zus (x : Int64) {k : Nat} (hk : k < 64) : tN (zus x k) = tN x / 2 ^ k := by
  show (x.toUInt64 >>> UInt64.ofNat k).toNat = _
  rw [UInt64.toNat_shiftRight, Nat.shiftRight_eq_div_pow, mq_us k hk]
  rfl
theorem mq_zsl (x : Int64) {k : Nat} (hk : k < 64) : tN (zsl x k) = tN x * 2 ^ k % 18446744073709551616 := by
  unfold tN zsl
  rw [Int64.toBitVec_shiftLeft, BitVec.shiftLeft_eq', BitVec.toNat_shiftLeft, mq_sm k hk, Nat.shiftLeft_eq]
theorem mq_or {a b k : Nat} (h : a < 2 ^ k) : a ||| (b * 2 ^ k) = b * 2 ^ k + a := by
  rw [Nat.or_comm, Nat.mul_comm, ← Nat.two_pow_add_eq_or_of_lt h]
theorem mq_addL {x y : Int64} (h1 : -9223372036854775808 ≤ x.toInt + y.toInt) (h2 : x.toInt + y.toInt < 9223372036854775808) : (x + y).toInt = x.toInt + y.toInt := by
  rw [Int64.toInt_add]
  exact Int.bmod_eq_of_le (by omega) (by omega)
theorem mq_subL {x y : Int64} (h1 : -9223372036854775808 ≤ x.toInt - y.toInt) (h2 : x.toInt - y.toInt < 9223372036854775808) : (x - y).toInt = x.toInt - y.toInt := by
  rw [Int64.toInt_sub]
  exact Int.bmod_eq_of_le (by omega) (by omega)
theorem mq_mulL {x y : Int64} (h1 : -9223372036854775808 ≤ x.toInt * y.toInt) (h2 : x.toInt * y.toInt < 9223372036854775808) : (x * y).toInt = x.toInt * y.toInt := by
  rw [Int64.toInt_mul]
  exact Int.bmod_eq_of_le (by omega) (by omega)
/-- a row of limbs, w bits each -/
def zvl (w : Nat) (f : Nat → Int) : Nat → Int
  | 0 => 0
  | n + 1 => zvl w f n + f n * 2 ^ (w * n)
theorem zvl_congr {w : Nat} {f g : Nat → Int} : ∀ {n : Nat}, (∀ i, i < n → f i = g i) → zvl w f n = zvl w g n
  | 0, _ => rfl
  | n + 1, h => by
    show zvl w f n + f n * 2 ^ (w * n) = zvl w g n + g n * 2 ^ (w * n)
    rw [zvl_congr (n := n) (fun i hi => h i (by omega)), h n (by omega)]
theorem zvl_upd {w k : Nat} {f : Nat → Int} {v : Int} : ∀ {n : Nat}, zvl w (fun i => if i = k then v else f i) n = if k < n then zvl w f n + (v - f k) * 2 ^ (w * k) else zvl w f n
  | 0 => rfl
  | n + 1 => by
    show zvl w (fun i => if i = k then v else f i) n + (if n = k then v else f n) * 2 ^ (w * n) = _
    rw [zvl_upd (n := n)]
    show _ = if k < n + 1 then (zvl w f n + f n * 2 ^ (w * n)) + (v - f k) * 2 ^ (w * k) else (zvl w f n + f n * 2 ^ (w * n))
    by_cases h1 : k < n
    · rw [if_pos h1, if_neg (by omega), if_pos (by omega)]
      omega
    · by_cases h2 : n = k
      · subst h2
        rw [if_neg h1, if_pos rfl, if_pos (by omega), Int.sub_mul]
        omega
      · rw [if_neg h1, if_neg h2, if_neg (by omega)]
theorem zpw (w n : Nat) : (2 : Int) ^ (w * (n + 1)) = 2 ^ w * 2 ^ (w * n) := by
  rw [Nat.mul_succ, Int.pow_add, Int.mul_comm]
theorem zpw0 (k : Nat) : (0 : Int) < 2 ^ k := Int.pow_pos (by decide)
theorem zvl_range {w : Nat} {f : Nat → Int} : ∀ {n : Nat}, (∀ i, i < n → 0 ≤ f i ∧ f i < 2 ^ w) → 0 ≤ zvl w f n ∧ zvl w f n < 2 ^ (w * n)
  | 0, _ => by
    show (0 : Int) ≤ 0 ∧ (0 : Int) < 2 ^ (w * 0)
    exact ⟨Int.le_refl 0, zpw0 _⟩
  | n + 1, h => by
    have ih := zvl_range (n := n) (fun i hi => h i (by omega))
    have hn := h n (by omega)
    show 0 ≤ zvl w f n + f n * 2 ^ (w * n) ∧ zvl w f n + f n * 2 ^ (w * n) < 2 ^ (w * (n + 1))
    rw [zpw]
    have h1 := Int.mul_nonneg hn.1 (Int.le_of_lt (zpw0 (w * n)))
    have h2 := Int.mul_le_mul_of_nonneg_right (show f n ≤ 2 ^ w - 1 by omega) (Int.le_of_lt (zpw0 (w * n)))
    rw [Int.sub_mul] at h2
    omega
def rv (w : Nat) (r : Nat → Int64) (n : Nat) : Int := zvl w (fun i => (r i).toInt) n
theorem rv_succ (w : Nat) (r : Nat → Int64) (n : Nat) : rv w r (n + 1) = rv w r n + (r n).toInt * 2 ^ (w * n) := rfl
theorem rv_0 (w : Nat) (r : Nat → Int64) : rv w r 0 = 0 := rfl
theorem rv_congr {w n : Nat} {r r' : Nat → Int64} (h : ∀ i, i < n → r i = r' i) : rv w r n = rv w r' n := zvl_congr (fun i hi => by rw [h i hi])
theorem rv_upd {w n k : Nat} {r : Nat → Int64} {x : Int64} (h : k < n) : rv w (vp_updL r k x) n = rv w r n + (x.toInt - (r k).toInt) * 2 ^ (w * k) := by
  have e : (fun i => (vp_updL r k x i).toInt) = fun i => if i = k then x.toInt else (r i).toInt := by
    funext i
    unfold vp_updL
    split <;> rfl
  unfold rv
  rw [e, zvl_upd, if_pos h]
theorem rv_range {w n : Nat} {r : Nat → Int64} (h : ∀ i, i < n → 0 ≤ (r i).toInt ∧ (r i).toInt < 2 ^ w) : 0 ≤ rv w r n ∧ rv w r n < 2 ^ (w * n) := zvl_range h
theorem mq_mulb {x y A B : Int} (hx : -A ≤ x ∧ x ≤ A) (hy : -B ≤ y ∧ y ≤ B) : -(A * B) ≤ x * y ∧ x * y ≤ A * B := by
  have h1 := Int.mul_nonneg (show 0 ≤ A - x by omega) (show 0 ≤ B + y by omega)
  have h2 := Int.mul_nonneg (show 0 ≤ A + x by omega) (show 0 ≤ B - y by omega)
  have h3 := Int.mul_nonneg (show 0 ≤ A - x by omega) (show 0 ≤ B - y by omega)
  have h4 := Int.mul_nonneg (show 0 ≤ A + x by omega) (show 0 ≤ B + y by omega)
  rw [Int.sub_mul, Int.mul_add, Int.mul_add] at h1
  rw [Int.add_mul, Int.mul_sub, Int.mul_sub] at h2
  rw [Int.sub_mul, Int.mul_sub, Int.mul_sub] at h3
  rw [Int.add_mul, Int.mul_add, Int.mul_add] at h4
  omega
/-! stores -/
theorem zW_at (σ : zSt) (a i : Nat) (v : Int64) : (zW σ a i v).1 a = vp_updL (σ.1 a) i v := zL_s _ _ _
theorem zW_ne (σ : zSt) {a b : Nat} (i : Nat) (v : Int64) (h : b ≠ a) : (zW σ a i v).1 b = σ.1 b := zL_n _ _ h
/-- a loop that writes one element after the other -/
theorem zmap {F : Nat → zSt → zSt} {s0 : zSt} (out off n : Nat) (v : Nat → Int64)
    (hF : ∀ i σ, i < n → (∀ id j, (id ≠ out ∨ j < off ∨ off + i ≤ j) → σ.1 id j = s0.1 id j) → F i σ = zW σ out (off + i) (v i)) :
    (∀ id j, (id ≠ out ∨ j < off ∨ off + n ≤ j) → (ziter F 0 n s0).1 id j = s0.1 id j) ∧ ∀ i, i < n → (ziter F 0 n s0).1 out (off + i) = v i := by
  refine ziter_I F (fun i σ => (∀ id j, (id ≠ out ∨ j < off ∨ off + i ≤ j) → σ.1 id j = s0.1 id j) ∧ ∀ k, k < i → σ.1 out (off + k) = v k) n ?_ n 0 s0 (by omega) ⟨fun _ _ _ => rfl, fun k hk => absurd hk (Nat.not_lt_zero k)⟩
  intro i σ hi ⟨h1, h2⟩
  rw [hF i σ hi h1]
  refine ⟨fun id j h => ?_, fun k hk => ?_⟩
  · by_cases e : id = out
    · subst e
      rw [zW_at, pk_uLn (by omega)]
      exact h1 id j (by omega)
    · rw [zW_ne _ _ _ e]
      exact h1 id j (Or.inl e)
  · rw [zW_at]
    by_cases e : k = i
    · rw [e, pk_uLs]
    · rw [pk_uLn (by omega)]
      exact h2 k (by omega)
theorem zmap0 {F : Nat → zSt → zSt} {s0 : zSt} (out n : Nat) (v : Nat → Int64)
    (hF : ∀ i σ, i < n → (∀ id j, (id ≠ out ∨ i ≤ j) → σ.1 id j = s0.1 id j) → F i σ = zW σ out i (v i)) :
    (∀ id j, (id ≠ out ∨ n ≤ j) → (ziter F 0 n s0).1 id j = s0.1 id j) ∧ ∀ i, i < n → (ziter F 0 n s0).1 out i = v i := by
  have h := zmap (F := F) (s0 := s0) out 0 n v (fun i σ hi h => by
    rw [Nat.zero_add]
    exact hF i σ hi (fun id j q => h id j (by omega)))
  refine ⟨fun id j q => h.1 id j (by omega), fun i hi => ?_⟩
  have := h.2 i hi
  rw [Nat.zero_add] at this
  exact this
theorem zmapR {F : Nat → zSt → zSt} {s0 : zSt} {out n : Nat} (h : ∀ id j, (id ≠ out ∨ n ≤ j) → (ziter F 0 n s0).1 id j = s0.1 id j) {id : Nat} (hid : id ≠ out) : (ziter F 0 n s0).1 id = s0.1 id := funext fun j => h id j (Or.inl hid)
