/-! the invariant holds at the law's start -/
theorem IV_start : IV 0 5000 0 m_start := by
  have lowc : ∀ (M : w_M) (k q j : Nat), q < k + 100 → iv (m_c3 M k) q j = iv (m_c0 (m_c5 M (k + 1)) (k + 2)) q j := fun M k q j hq =>
    (f_it_kp (M := m_c0 (m_c5 M (k + 1)) (k + 2)) (b := k + 3 + 97) m_c6_kp 8 q (fun j hj => by omega) j).1
  have lowj : ∀ (M : w_M) (k q j : Nat), q < k + 100 → jv (m_c3 M k) q j = jv M q j := fun M k q j hq =>
    (f_it_kp (M := m_c0 (m_c5 M (k + 1)) (k + 2)) (b := k + 3 + 97) m_c6_kp 8 q (fun j hj => by omega) j).2
  have L : ∀ q j, q < 1100 → q ≠ 5000 → iv m_start q j = iv (m_c0 (m_c5 m00 1001) 1002) q j := fun q j h1 h2 => by
    unfold m_start
    rw [(m_c11_far _ q j h2).1]; unfold m_c10
    rw [lowc _ _ _ _ (by omega)]; unfold m_c0 m_c5
    rw [iv_n (by omega), iv_n (by omega), lowc _ _ _ _ (by omega)]; unfold m_c0 m_c5; rfl
  have L0 : ∀ q j, q < 1100 → (q ≠ 1002 ∨ j ≠ 4) → (q ≠ 1001 ∨ j ≠ 5) → iv m_start q j = 0 := fun q j h1 h2 h3 => by
    rw [L q j h1 (by omega)]; unfold m_c0 m_c5; rw [iv_n (by omega), iv_n (by omega)]; rfl
  have Lj : ∀ q j, q < 1100 → jv m_start q j = 0 := fun q j h1 => by
    unfold m_start
    rw [(m_c11_far _ q j (by omega)).2]; unfold m_c10
    rw [lowj _ _ _ _ (by omega), lowj _ _ _ _ (by omega)]; rfl
  have H : ∀ q j, 5000 ≤ q → iv m_start q j = if q = 5000 ∧ j = 2 then 50 else if q = 5000 ∧ j = 10 then -1 else 0 := fun q j h1 => by
    unfold m_start m_c11
    by_cases e1 : q = 5000 ∧ j = 10
    · obtain ⟨rfl, rfl⟩ := e1
      rw [iv_s, if_neg (by omega), if_pos ⟨rfl, rfl⟩]
    · rw [iv_n (by omega), if_neg e1]
      by_cases e2 : q = 5000 ∧ j = 2
      · obtain ⟨rfl, rfl⟩ := e2
        rw [iv_s, if_pos ⟨rfl, rfl⟩]; rfl
      · rw [iv_n (by omega), if_neg e2, (m_c10_far m00 q j h1).1]; rfl
  have Hj : ∀ q j, 5000 ≤ q → jv m_start q j = 0 := fun q j h1 => by
    show jv (m_c10 m00 0) q j = 0
    rw [(m_c10_far m00 q j h1).2]; rfl
  have s5 : iv m_start 1001 5 = 50 := by rw [L _ _ (by omega) (by omega)]; unfold m_c0 m_c5; rw [iv_n (by omega), iv_s]; rfl
  have b4 : iv m_start 1002 4 = -1 := by rw [L _ _ (by omega) (by omega)]; unfold m_c0; rw [iv_s]
  have R : ∀ N : w_M, (∀ a j, 5000 ≤ a → a < 5000 + 36 → iv N a j = if a = 5000 ∧ j = 2 then 50 else if a = 5000 ∧ j = 10 then -1 else 0) → (∀ i, i < 10 → jv N (5000 + 40) i = 0) → RR m_start (0 + 1000) N 5000 0 0 0 := fun N h1 h2 =>
    RR_0 (L0 _ _ (by omega) (by omega) (by omega)) (L0 _ _ (by omega) (by omega) (by omega)) (L0 _ _ (by omega) (by omega) (by omega)) (L0 _ _ (by omega) (by omega) (by omega)) (L0 _ _ (by omega) (by omega) (by omega)) (L0 _ _ (by omega) (by omega) (by omega)) (L0 _ _ (by omega) (by omega) (by omega)) s5 (L0 _ _ (by omega) (by omega) (by omega)) b4 (L0 _ _ (by omega) (by omega) (by omega)) (L0 _ _ (by omega) (by omega) (by omega)) (fun i hi => Lj _ _ (by omega)) h1 h2
  have o36 : iv m_start 5000 36 = 0 := by rw [H _ _ (by omega), if_neg (by omega), if_neg (by omega)]
  have c0 : cN (iv m_start 5000 36) = 0 := by rw [o36]; decide
  have g1 : cN (iv (gN0 5000) 5000 1) = 0 := by decide
  refine ⟨0, 0, 0, 0, ⟨?_, ?_, by omega, ?_, ?_, ?_, ?_, ?_, ?_⟩⟩
  · exact R m_start (fun a j h1 h2 => H a j h1) (fun i hi => Hj _ _ (by omega))
  · rw [L0 _ _ (by omega) (by omega) (by omega)]; decide
  · intro i hi; omega
  · show cN (iv (gN0 5000) 5000 1) ≤ 0
    rw [g1]; exact Nat.le_refl _
  · show RR m_start (0 + 1000) (g_gos (gN0 5000) 5000 (0 - cN (iv (gN0 5000) 5000 1))) 5000 0 0 0
    rw [g1]; exact R (gN0 5000) (fun a j h1 h2 => rfl) (fun i hi => rfl)
  · rw [L0 _ _ (by omega) (by omega) (by omega), o36]
  · exact ⟨0, by omega, by rw [o36]; decide⟩
  · rw [c0]; intro i hi; omega
