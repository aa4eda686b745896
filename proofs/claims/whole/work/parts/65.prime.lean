/-! primes; Fermat; Pocklington -/
def isPr (n : Nat) : Prop := 2 ≤ n ∧ ∀ d, d ∣ n → d = 1 ∨ d = n
theorem pr_mul {q a b : Nat} (h : isPr q) (hd : q ∣ a * b) : q ∣ a ∨ q ∣ b := by
  rcases h.2 (Nat.gcd q a) (Nat.gcd_dvd_left q a) with h1 | h1
  · exact Or.inr (Nat.Coprime.dvd_of_dvd_mul_left h1 hd)
  · exact Or.inl (by rw [← h1]; exact Nat.gcd_dvd_right q a)
theorem pr_ex : ∀ n, 2 ≤ n → ∃ q, isPr q ∧ q ∣ n := by
  intro n
  induction n using Nat.strongRecOn with
  | ind n ih =>
    intro hn
    by_cases h : ∀ d, d ∣ n → d = 1 ∨ d = n
    · exact ⟨n, ⟨hn, h⟩, Nat.dvd_refl n⟩
    · obtain ⟨d, h1⟩ := Classical.not_forall.mp h
      have h2 : d ∣ n := Classical.byContradiction fun z => h1 (fun w => absurd w z)
      have h3 : d ≠ 1 := fun e => h1 (fun _ => Or.inl e)
      have h4 : d ≠ n := fun e => h1 (fun _ => Or.inr e)
      have h5 := Nat.le_of_dvd (by omega) h2
      have h6 : d ≠ 0 := fun e => by
        subst e
        have := Nat.eq_zero_of_zero_dvd h2
        omega
      obtain ⟨q, q1, q2⟩ := ih d (by omega) (by omega)
      exact ⟨q, q1, Nat.dvd_trans q2 h2⟩
theorem pr_by {n : Nat} (hn : 2 ≤ n) (h : ∀ q, isPr q → q ∣ n → q * q ≤ n → False) : isPr n := by
  refine ⟨hn, fun d hd => ?_⟩
  obtain ⟨e, he⟩ := hd
  have hd0 : d ≠ 0 := fun z => by
    subst z
    omega
  have he0 : e ≠ 0 := fun z => by
    subst z
    omega
  by_cases h1 : d = 1
  · exact Or.inl h1
  · by_cases h2 : e = 1
    · exact Or.inr (by rw [he, h2, Nat.mul_one])
    · exfalso
      rcases Nat.le_total d e with h3 | h3
      · obtain ⟨q, q1, q2⟩ := pr_ex d (by omega)
        have q3 := Nat.le_of_dvd (by omega) q2
        have q4 : q * q ≤ d * e := Nat.mul_le_mul q3 (Nat.le_trans q3 h3)
        exact h q q1 (Nat.dvd_trans q2 ⟨e, he⟩) (by rw [he]; exact q4)
      · obtain ⟨q, q1, q2⟩ := pr_ex e (by omega)
        have q3 := Nat.le_of_dvd (by omega) q2
        have q4 : q * q ≤ d * e := Nat.mul_le_mul (Nat.le_trans q3 h3) q3
        exact h q q1 (Nat.dvd_trans q2 ⟨d, by rw [he, Nat.mul_comm]⟩) (by rw [he]; exact q4)
/-- trial division -/
def tdv (n : Nat) : Nat → Bool
  | 0 => true
  | 1 => true
  | k + 1 => if n % (k + 1) = 0 then false else tdv n k
theorem tdv_ok (n : Nat) : ∀ k, tdv n k = true → ∀ d, 2 ≤ d → d ≤ k → ¬ d ∣ n
  | 0, _, d, h1, h2 => by omega
  | 1, _, d, h1, h2 => by omega
  | k + 2, h, d, h1, h2 => by
    have e : tdv n (k + 2) = if n % (k + 2) = 0 then false else tdv n (k + 1) := rfl
    rw [e] at h
    by_cases q : n % (k + 2) = 0
    · rw [if_pos q] at h
      cases h
    · rw [if_neg q] at h
      by_cases q2 : d = k + 2
      · subst q2
        intro z
        exact q (Nat.mod_eq_zero_of_dvd z)
      · exact tdv_ok n (k + 1) h d h1 (by omega)
theorem pr_small {n : Nat} (k : Nat) (hn : 2 ≤ n) (hk : n < (k + 1) * (k + 1)) (h : tdv n k = true) : isPr n := by
  refine pr_by hn (fun q q1 q2 q3 => ?_)
  refine tdv_ok n k h q q1.1 ?_ q2
  apply Nat.le_of_lt_succ
  apply Nat.lt_of_not_le
  intro z
  have := Nat.mul_le_mul z z
  exact absurd hk (by rw [Nat.succ_eq_add_one] at this; omega)
/-- binomial coefficients -/
def bc : Nat → Nat → Nat
  | _, 0 => 1
  | 0, _ + 1 => 0
  | n + 1, k + 1 => bc n k + bc n (k + 1)
theorem bc_0 (n : Nat) : bc n 0 = 1 := by cases n <;> rfl
theorem bc_s (n k : Nat) : bc (n + 1) (k + 1) = bc n k + bc n (k + 1) := rfl
theorem bc_big : ∀ n k, n < k → bc n k = 0
  | 0, 0, h => by omega
  | 0, k + 1, _ => rfl
  | n + 1, 0, h => by omega
  | n + 1, k + 1, h => by rw [bc_s, bc_big n k (by omega), bc_big n (k + 1) (by omega)]
theorem bc_n : ∀ n, bc n n = 1
  | 0 => rfl
  | n + 1 => by rw [bc_s, bc_n n, bc_big n (n + 1) (by omega)]
theorem bc_mul : ∀ n k, (k + 1) * bc (n + 1) (k + 1) = (n + 1) * bc n k
  | 0, 0 => rfl
  | 0, k + 1 => by rw [bc_big (0 + 1) (k + 1 + 1) (by omega), bc_big 0 (k + 1) (by omega), Nat.mul_zero, Nat.mul_zero]
  | n + 1, 0 => by
    have ih := bc_mul n 0
    rw [bc_0] at ih
    rw [bc_s, bc_0]
    omega
  | n + 1, k + 1 => by
    have h1 := bc_mul n (k + 1)
    have h2 := bc_mul n k
    have e1 := bc_s (n + 1) (k + 1)
    have e2 := bc_s n k
    rw [e1]
    generalize bc (n + 1) (k + 1 + 1) = A at *
    generalize bc (n + 1) (k + 1) = B at *
    generalize bc n (k + 1) = C at *
    generalize bc n k = D at *
    have : (k + 1 + 1) * (B + A) = (k + 1) * B + B + (k + 1 + 1) * A := by grind
    rw [this, h1, h2, e2]
    grind
def bs (n x : Nat) : Nat → Nat
  | 0 => 0
  | m + 1 => bs n x m + bc n m * x ^ m
theorem bs_step (n x : Nat) : ∀ m, bs (n + 1) x (m + 1) = x * bs n x m + bs n x (m + 1)
  | 0 => by
    show 0 + bc (n + 1) 0 * x ^ 0 = x * 0 + (0 + bc n 0 * x ^ 0)
    rw [bc_0, bc_0]
    omega
  | m + 1 => by
    show bs (n + 1) x (m + 1) + bc (n + 1) (m + 1) * x ^ (m + 1) = x * (bs n x m + bc n m * x ^ m) + (bs n x (m + 1) + bc n (m + 1) * x ^ (m + 1))
    rw [bs_step n x m, bc_s, Nat.pow_succ]
    grind
theorem binom (x : Nat) : ∀ n, (x + 1) ^ n = bs n x (n + 1)
  | 0 => rfl
  | n + 1 => by
    rw [Nat.pow_succ, binom x n, bs_step]
    have : bs n x (n + 1 + 1) = bs n x (n + 1) := by
      show bs n x (n + 1) + bc n (n + 1) * x ^ (n + 1) = _
      rw [bc_big n (n + 1) (by omega)]
      omega
    rw [this]
    grind
theorem bc_dvd {q k : Nat} (h : isPr q) (h1 : 1 ≤ k) (h2 : k < q) : q ∣ bc q k := by
  obtain ⟨m, rfl⟩ : ∃ m, k = m + 1 := ⟨k - 1, by omega⟩
  obtain ⟨n, rfl⟩ : ∃ n, q = n + 1 := ⟨q - 1, by omega⟩
  have e := bc_mul n m
  rcases pr_mul h (a := m + 1) (b := bc (n + 1) (m + 1)) ⟨bc n m, e⟩ with h3 | h3
  · have := Nat.le_of_dvd (by omega) h3
    omega
  · exact h3
theorem frob {q : Nat} (h : isPr q) (x : Nat) : (x + 1) ^ q % q = (x ^ q + 1) % q := by
  have key : ∀ m, 1 ≤ m → m ≤ q → bs q x m % q = 1 % q := by
    intro m
    induction m with
    | zero => intro h1; omega
    | succ m ih =>
      intro h1 h2
      by_cases e : m = 0
      · subst e
        show (0 + bc q 0 * x ^ 0) % q = _
        rw [bc_0]
        rfl
      · show (bs q x m + bc q m * x ^ m) % q = _
        obtain ⟨c, hc⟩ := bc_dvd h (k := m) (by omega) (by omega)
        rw [hc, Nat.mul_assoc, Nat.add_mul_mod_self_left]
        exact ih (by omega) (by omega)
  rw [binom]
  show (bs q x q + bc q q * x ^ q) % q = _
  rw [bc_n, Nat.one_mul, Nat.add_comm (x ^ q), Nat.add_mod, key q (by have := h.1; omega) (Nat.le_refl q), ← Nat.add_mod]
theorem fermat0 {q : Nat} (h : isPr q) : ∀ x, x ^ q % q = x % q
  | 0 => by rw [Nat.zero_pow (by have := h.1; omega)]
  | x + 1 => by rw [frob h x, Nat.add_mod, fermat0 h x, ← Nat.add_mod]
theorem fermat {q x : Nat} (h : isPr q) (hx : ¬ q ∣ x) : x ^ (q - 1) % q = 1 := by
  have h2 := h.1
  have h0 := fermat0 h x
  have hp : x ^ q = x * x ^ (q - 1) := by
    rw [Nat.mul_comm, ← Nat.pow_succ]
    congr 1
    omega
  have hx0 : 1 ≤ x ^ (q - 1) := Nat.one_le_iff_ne_zero.mpr (fun z => by
    have : x = 0 := (Nat.pow_eq_zero.mp z).1
    exact hx (by rw [this]; exact Nat.dvd_zero q))
  have hd : q ∣ x * (x ^ (q - 1) - 1) := by
    rw [Nat.mul_sub, Nat.mul_one, ← hp]
    exact Nat.dvd_of_mod_eq_zero (Nat.sub_mod_eq_zero_of_mod_eq h0)
  rcases pr_mul h hd with h3 | h3
  · exact absurd h3 hx
  · obtain ⟨c, hc⟩ := h3
    have : x ^ (q - 1) = 1 + q * c := by omega
    rw [this, Nat.add_mul_mod_self_left, Nat.mod_eq_of_lt (by omega)]
theorem pow_gcd {q b : Nat} (hq : 2 ≤ q) : ∀ x y, b ^ x % q = 1 → b ^ y % q = 1 → b ^ Nat.gcd x y % q = 1 := by
  intro x y
  induction x, y using Nat.gcd.induction with
  | H0 n => intro _ h; rw [Nat.gcd_zero_left]; exact h
  | H1 m n hm ih =>
    intro h1 h2
    rw [Nat.gcd_rec]
    refine ih ?_ h1
    have e : b ^ n = (b ^ m) ^ (n / m) * b ^ (n % m) := by rw [← Nat.pow_mul, ← Nat.pow_add, Nat.div_add_mod]
    rw [e, Nat.mul_mod, Nat.pow_mod, h1, Nat.one_pow, Nat.mod_eq_of_lt (show 1 < q by omega), Nat.one_mul, Nat.mod_mod] at h2
    exact h2
/-- powers modulo n, by squaring -/
def pwm (n : Nat) : Nat → Nat → Nat → Nat
  | 0, _, _ => 1 % n
  | k + 1, b, e => if e % 2 = 1 then b * pwm n k (b * b % n) (e / 2) % n else pwm n k (b * b % n) (e / 2)
theorem pwm_ok (n : Nat) : ∀ k b e, e < 2 ^ k → pwm n k b e = b ^ e % n
  | 0, b, e, h => by
    have : e = 0 := by
      have : (2 : Nat) ^ 0 = 1 := rfl
      omega
    subst this
    rfl
  | k + 1, b, e, h => by
    have e1 : pwm n (k + 1) b e = if e % 2 = 1 then b * pwm n k (b * b % n) (e / 2) % n else pwm n k (b * b % n) (e / 2) := rfl
    have h2 : e / 2 < 2 ^ k := by
      rw [Nat.pow_succ] at h
      omega
    have e3 : (b * b % n) ^ (e / 2) % n = b ^ (2 * (e / 2)) % n := by
      rw [← Nat.pow_mod, Nat.pow_mul, show b ^ 2 = b * b from by rw [Nat.pow_succ, Nat.pow_one]]
    rw [e1, pwm_ok n k _ _ h2, e3]
    by_cases q : e % 2 = 1
    · rw [if_pos q, Nat.mul_mod_mod, Nat.mul_comm, ← Nat.pow_succ]
      congr 2
      omega
    · rw [if_neg q]
      congr 2
      omega
/-- a prime f of n - 1 divides q - 1, for each prime q of n -/
theorem pock1 {n a f m q : Nat} (hf : isPr f) (hn : n - 1 = f * m) (h1 : a ^ (n - 1) % n = 1) (h2 : Nat.gcd (a ^ m % n + (n - 1)) n = 1) (hq : isPr q) (hqn : q ∣ n) (hn2 : 2 ≤ n) : f ∣ q - 1 := by
  have q2 := hq.1
  have h3 : a ^ (n - 1) % q = 1 := by
    obtain ⟨c, hc⟩ := hqn
    have e := Nat.mod_mul_right_mod (a ^ (n - 1)) q c
    rw [← hc, h1] at e
    rw [← e]
    exact Nat.mod_eq_of_lt (by omega)
  have h4 : (a ^ m) ^ f % q = 1 := by
    rw [← Nat.pow_mul, Nat.mul_comm m f, ← hn]
    exact h3
  have h5 : ¬ q ∣ a ^ m := fun z => by
    have f2 := hf.1
    obtain ⟨k, hk⟩ : ∃ k, f = k + 1 := ⟨f - 1, by omega⟩
    rw [hk, Nat.pow_succ, Nat.mul_mod, Nat.mod_eq_zero_of_dvd z, Nat.mul_zero, Nat.zero_mod] at h4
    omega
  have h6 := fermat hq h5
  have h7 := pow_gcd q2 f (q - 1) h4 h6
  rcases hf.2 (Nat.gcd f (q - 1)) (Nat.gcd_dvd_left _ _) with h8 | h8
  · rw [h8, Nat.pow_one] at h7
    exfalso
    have h9 : q ∣ Nat.gcd (a ^ m % n + (n - 1)) n := by
      refine Nat.dvd_gcd ?_ hqn
      obtain ⟨c, hc⟩ := hqn
      have e := Nat.mod_mul_right_mod (a ^ m) q c
      rw [← hc, h7] at e
      refine Nat.dvd_of_mod_eq_zero ?_
      obtain ⟨d, hd⟩ : ∃ d, a ^ m % n = q * d + 1 := ⟨a ^ m % n / q, by have := Nat.div_add_mod (a ^ m % n) q; rw [e] at this; omega⟩
      have hc0 : 1 ≤ q * c := by omega
      rw [hd, show q * d + 1 + (n - 1) = q * d + q * c by omega, ← Nat.mul_add]
      exact Nat.mul_mod_right q _
    rw [h2] at h9
    have := Nat.le_of_dvd (by omega) h9
    omega
  · rw [← h8]
    exact Nat.gcd_dvd_right _ _
theorem pock_a {n f : Nat} (a k m : Nat) (hf : isPr f) (hn : n - 1 = f * m) (hk : n < 2 ^ k) (h1 : pwm n k a (n - 1) = 1) (h2 : Nat.gcd (pwm n k a m + (n - 1)) n = 1) (hn2 : 2 ≤ n) (hb : n < (f + 1) * (f + 1)) : isPr n := by
  have hm : m ≤ n - 1 := by rw [hn]; exact Nat.le_mul_of_pos_left m (by have := hf.1; omega)
  rw [pwm_ok n k a (n - 1) (by omega)] at h1
  rw [pwm_ok n k a m (by omega)] at h2
  refine pr_by hn2 (fun q q1 q2 q3 => ?_)
  have h3 := pock1 hf hn h1 h2 q1 q2 hn2
  have h4 := Nat.le_of_dvd (by have := q1.1; omega) h3
  have h50 : f + 1 ≤ q := by have := q1.1; omega
  have h5 : (f + 1) * (f + 1) ≤ q * q := Nat.mul_le_mul h50 h50
  omega
theorem pock_b {n f g : Nat} (a k m w : Nat) (hf : isPr f) (hg : isPr g) (hfg : Nat.gcd f g = 1) (hn : n - 1 = f * m) (hw : n - 1 = g * w) (hk : n < 2 ^ k) (h1 : pwm n k a (n - 1) = 1) (h2 : Nat.gcd (pwm n k a m + (n - 1)) n = 1) (h3 : Nat.gcd (pwm n k a w + (n - 1)) n = 1) (hn2 : 2 ≤ n) (hb : n < (f * g + 1) * (f * g + 1)) : isPr n := by
  have hm : m ≤ n - 1 := by rw [hn]; exact Nat.le_mul_of_pos_left m (by have := hf.1; omega)
  have hw2 : w ≤ n - 1 := by rw [hw]; exact Nat.le_mul_of_pos_left w (by have := hg.1; omega)
  rw [pwm_ok n k a (n - 1) (by omega)] at h1
  rw [pwm_ok n k a m (by omega)] at h2
  rw [pwm_ok n k a w (by omega)] at h3
  refine pr_by hn2 (fun q q1 q2 q3 => ?_)
  have h4 := pock1 hf hn h1 h2 q1 q2 hn2
  have h5 := pock1 hg hw h1 h3 q1 q2 hn2
  have h6 := Nat.le_of_dvd (by have := q1.1; omega) (Nat.Coprime.mul_dvd_of_dvd_of_dvd hfg h4 h5)
  have h70 : f * g + 1 ≤ q := by have := q1.1; omega
  have h7 : (f * g + 1) * (f * g + 1) ≤ q * q := Nat.mul_le_mul h70 h70
  omega
set_option maxRecDepth 100000 in
theorem pr_127 : isPr 127 := pr_small 11 (by decide) (by decide) (by decide +kernel)
set_option maxRecDepth 100000 in
theorem pr_C : isPr 8574133 := pr_small 2928 (by decide) (by decide) (by decide +kernel)
set_option maxRecDepth 100000 in
theorem pr_75707 : isPr 75707 := pr_small 275 (by decide) (by decide) (by decide +kernel)
set_option maxRecDepth 100000 in
theorem pr_1923133 : isPr 1923133 := pr_small 1386 (by decide) (by decide) (by decide +kernel)
theorem pr_B : isPr 1919519569386763 := pock_b 2 51 223873314 15114327318006 pr_C pr_127 (by decide +kernel) (by decide +kernel) (by decide +kernel) (by decide +kernel) (by decide +kernel) (by decide +kernel) (by decide +kernel) (by decide +kernel) (by decide +kernel)
theorem pr_A : isPr 75445702479781427272750846543864801 := pock_b 2 116 39304471641247389600 996548568557483816196003626400 pr_B pr_75707 (by decide +kernel) (by decide +kernel) (by decide +kernel) (by decide +kernel) (by decide +kernel) (by decide +kernel) (by decide +kernel) (by decide +kernel) (by decide +kernel)
theorem pr_q1 : isPr 74058212732561358302231226437062788676166966415465897661863160754340907 := pock_b 2 236 981609426360740691344999861639072106 38509147694185143878364744631319200843710219946028640589009268082 pr_A pr_1923133 (by decide +kernel) (by decide +kernel) (by decide +kernel) (by decide +kernel) (by decide +kernel) (by decide +kernel) (by decide +kernel) (by decide +kernel) (by decide +kernel)
theorem pr_p : isPr 57896044618658097711785492504343953926634992332820282019728792003956564819949 := pock_a 2 255 781764 pr_q1 (by decide +kernel) (by decide +kernel) (by decide +kernel) (by decide +kernel) (by decide +kernel) (by decide +kernel)
