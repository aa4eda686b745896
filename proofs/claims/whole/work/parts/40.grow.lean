/-! the class's world grows by one cell -/
theorem zl_grow (D : va_G) (kc : Nat → ClassId) (ad : Nat → Nat) (n : Nat) (σ : zSt) (h : 11 ≤ n) : zl (wX D kc ad (n + 1)) σ = zl (wX D kc ad n) σ ++ [(ad n, zE (wX D kc ad n) σ n)] := by
  show (List.range (n + 1 - 11)).map (fun k => (ad (11 + k), zE (wX D kc ad n) σ (11 + k))) = (List.range (n - 11)).map (fun k => (ad (11 + k), zE (wX D kc ad n) σ (11 + k))) ++ [(ad n, zE (wX D kc ad n) σ n)]
  rw [show n + 1 - 11 = (n - 11) + 1 by omega, List.range_succ, List.map_append, List.map_singleton, show 11 + (n - 11) = n by omega]
theorem zl_same (D : va_G) (kc : Nat → ClassId) (ad : Nat → Nat) (n : Nat) (σ σ' : zSt) (h : ∀ id, 11 ≤ id → id < n → zE (wX D kc ad n) σ' id = zE (wX D kc ad n) σ id) : zl (wX D kc ad n) σ' = zl (wX D kc ad n) σ := by
  show (List.range (n - 11)).map (fun k => (ad (11 + k), zE (wX D kc ad n) σ' (11 + k))) = (List.range (n - 11)).map (fun k => (ad (11 + k), zE (wX D kc ad n) σ (11 + k)))
  refine List.map_congr_left (fun k hk => ?_)
  rw [h (11 + k) (by omega) (by have := List.mem_range.mp hk; omega)]
theorem zP_grow (D : va_G) (kc : Nat → ClassId) (ad : Nat → Nat) (n : Nat) {σ σ' : zSt} {H H1 : Heap} (hn : 11 ≤ n) (hP : zP (wX D kc ad n) σ H) (ha : ad n = H.size) (ho : ∀ q, q < H.size → H1[q]? = H[q]?)
    (hs : ∀ id, 11 ≤ id → id < n → zE (wX D kc ad n) σ' id = zE (wX D kc ad n) σ id) (h1 : va_P D vwCl [(ad n, zE (wX D kc ad n) σ' n)] H1) (h0 : ∀ id, id < 11 → σ'.1 id = σ.1 id) : zP (wX D kc ad (n + 1)) σ' H1 := by
  obtain ⟨hP, hD, hZ⟩ := hP
  have hPo : va_P D vwCl (zl (wX D kc ad n) σ') H1 := by
    rw [zl_same D kc ad n σ σ' hs]
    exact hP.kept (fun k q hk => ho q.1 ((hP k q hk).lt))
  refine ⟨?_, ?_, fun id hi j hj => ?_⟩
  · rw [zl_grow D kc ad n σ' hn]
    exact hPo.app h1
  · rw [zl_grow D kc ad n σ' hn, zl_same D kc ad n σ σ' hs]
    have hD' : va_D (zA (wX D kc ad (n + 1))) (zl (wX D kc ad n) σ) := ⟨hD.1, fun k q hk => by
      obtain ⟨id, i1, i2, i3⟩ := hD.2 k q hk
      exact ⟨id, i1, Nat.lt_succ_of_lt i2, i3⟩⟩
    exact hD'.push hP ha ⟨n, hn, Nat.lt_succ_self n, rfl⟩
  · rw [h0 id hi]
    exact hZ id hi j hj
