/-! tides, windows, hours: what the law's other checks find -/
theorem n_of {x : Int32} (h : 0 ≤ x.toInt) : ∃ k : Nat, x = nI k ∧ k < 2 ^ 31 ∧ (k : Int) = x.toInt := by
  have r := i_rg x
  refine ⟨x.toInt.toNat, ?_, by omega, by omega⟩
  refine i_ext ?_
  rw [i_N (by omega)]; omega
theorem hg_p {r g : Int32} {p f h : Nat} (p0 : 0 < p) (p1 : p ≤ 60) (f1 : f ≤ 59) (h1 : h ≤ 5000) : f_hg (nI p) r g (nI f) (nI (h + p)) = f_hg (nI p) r g (nI f) (nI h) := by
  have e1 : (nI (h + p) + nI f) - (nI (h + p) + nI f) / nI p * nI p = nI ((h + f) % p) := by
    rw [nI_add, nI_rm (by omega) p0 (by omega), show h + p + f = h + f + p by omega, Nat.add_mod_right]
  have e2 : (nI h + nI f) - (nI h + nI f) / nI p * nI p = nI ((h + f) % p) := by
    rw [nI_add, nI_rm (by omega) p0 (by omega)]
  unfold f_hg
  rw [e1, e2]
theorem tide_e {N : w_M} {Y p h : Nat} (g : gT N Y) (e3 : iv N Y 3 = nI 1) (e5 : iv N Y 5 = nI 0) (ep : iv N (Y + 4) 0 = nI p) (p0 : 0 < p) (p1 : p ≤ 60) (h1 : h ≤ 5000) : g_for N Y (nI (h + p)) = g_for N Y (nI h) := by
  have c3 : cN (iv N Y 3) = 1 := by rw [e3]; exact cN_nI (by omega)
  have c5 : cN (iv N Y 5) = 0 := by rw [e5]; exact cN_nI (by omega)
  have gf := g.f 0 (by rw [c3]; omega)
  obtain ⟨f, ef, _, kf⟩ := n_of gf.1
  unfold g_for
  rw [c3, c5, g_s, g_s, g_t, g_t, g_t, g_t]
  rw [show 4 * 0 = 0 by omega, ep]
  rw [show (4 * 0 + 3 : Nat) = 0 + 3 by omega] at ef gf kf
  rw [ef, hg_p p0 p1 (by have := gf.2; omega) h1]
/-- the search for a window -/
theorem win_s {M : w_M} {k hs τ : Nat} {ht : Int32} (H : Nat → Prop) (hH : ∀ j, τ ≤ j → j ≤ 3000 → (s_for M k (nI j) < ht ↔ ¬ H j)) (h24 : hs ≤ 24) : ∀ (c j g : Nat), τ + g ≤ j → j + c ≤ 3000 → g < hs → (∀ i, j - g ≤ i → i < j → H i) → (j - g = τ ∨ ¬ H (j - g - 1)) → s_win M k ht (nI hs) c j (nI g) = -1 ∨ ∃ f, s_win M k ht (nI hs) c j (nI g) = nI f ∧ j - g ≤ f ∧ f + hs ≤ j + c ∧ (∀ i, f ≤ i → i < f + hs → H i) ∧ (f = τ ∨ ¬ H (f - 1))
  | 0, _, _, _, _, _, _, _ => Or.inl rfl
  | c + 1, j, g, h1, h2, h3, h4, h5 => by
    rw [s_win]
    by_cases q : s_for M k (nI j) < ht
    · simp only [if_pos q]
      have nH := (hH j (by omega) (by omega)).mp q
      rw [if_neg (fun z => by rw [show (0 : Int32) = nI 0 from rfl, nI_eq (by omega) (by omega)] at z; omega)]
      have r := win_s H hH h24 c (j + 1) 0 (by omega) (by omega) (by omega) (fun i a b => absurd b (by omega)) (Or.inr (by rw [show j + 1 - 0 - 1 = j by omega]; exact nH))
      rcases r with r | ⟨f, r1, r2, r3, r4, r5⟩
      · exact Or.inl r
      · exact Or.inr ⟨f, r1, by omega, by omega, r4, r5⟩
    · simp only [if_neg q]
      have Hj : H j := by
        rcases Classical.em (H j) with z | z
        · exact z
        · exact absurd ((hH j (by omega) (by omega)).mpr z) q
      have all : ∀ i, j - g ≤ i → i < j + 1 → H i := fun i a b => by
        by_cases z : i = j
        · rw [z]; exact Hj
        · exact h4 i a (by omega)
      rw [nI_1]
      by_cases z : g + 1 = hs
      · rw [if_pos (by rw [z])]
        right
        refine ⟨j - g, ?_, Nat.le_refl _, by omega, fun i a b => all i a (by omega), ?_⟩
        · have e : (nI j - nI hs).toInt = (j : Int) - hs := by rw [i_sub (by rw [i_N (by omega), i_N (by omega)]; omega) (by rw [i_N (by omega), i_N (by omega)]; omega), i_N (by omega), i_N (by omega)]
          refine i_ext ?_
          rw [i_add (by rw [e, i_1]; omega) (by rw [e, i_1]; omega), e, i_1, i_N (by omega)]
          omega
        · exact h5
      · rw [if_neg (fun y => z ((nI_eq (by omega) (by omega)).mp y))]
        have r := win_s H hH h24 c (j + 1) (g + 1) (by omega) (by omega) (by omega) (fun i a b => all i (by omega) b) (by rw [show j + 1 - (g + 1) = j - g by omega]; exact h5)
        rcases r with r | ⟨f, r1, r2, r3, r4, r5⟩
        · exact Or.inl r
        · exact Or.inr ⟨f, r1, by omega, by omega, r4, r5⟩
/-- hours go by -/
theorem gos_k {Y n ic c : Nat} {W0 M0 : Int} : ∀ (p : Nat) {M : w_M} {B : Nat} {N : w_M} {t cc : Nat}, RR M B N Y n ic t → KN N Y n ic t c W0 M0 → kC N Y t cc → t + p ≤ 1000 → c ≤ 512 → KN (g_gos N Y p) Y n ic (t + p) c W0 M0 ∧ (∀ k, k < ic → (iv N (Y + 33) k).toInt ≤ (iv (g_gos N Y p) (Y + 33) k).toInt ∧ (iv (g_gos N Y p) (Y + 33) k).toInt ≤ (iv N (Y + 33) k).toInt + p * (iv N (Y + 30) k).toInt ∧ iv (g_gos N Y p) (Y + 30) k = iv N (Y + 30) k) ∧ ∃ c', kC (g_gos N Y p) Y (t + p) c' ∧ cc ≤ c' ∧ pC (g_gos N Y p) Y c' ≤ pC N Y cc + p
  | 0, M, B, N, t, cc, r, h, hc, ht, hc5 => ⟨h, fun k hk => ⟨Int.le_refl _, by simp [g_gos], rfl⟩, cc, hc, Nat.le_refl _, Nat.le_refl _⟩
  | p + 1, M, B, N, t, cc, r, h, hc, ht, hc5 => by
    obtain ⟨k1, k2, k3⟩ := KN_hour r h (by omega) hc5
    obtain ⟨c1, d1, d2, d3⟩ := k3 cc hc
    obtain ⟨e1, e2, c2, d4, d5, d6⟩ := gos_k p (RR_hour r (by omega)) k1 d1 (by omega) hc5
    rw [g_gos, show t + (p + 1) = t + 1 + p by omega]
    refine ⟨e1, fun k hk => ?_, c2, d4, by omega, by omega⟩
    obtain ⟨⟨l1, l2⟩, l3⟩ := k2 k hk
    obtain ⟨m1, m2, m3⟩ := e2 k hk
    rw [l3] at m2 m3
    refine ⟨by omega, ?_, m3⟩
    push_cast
    rw [Int.add_mul, Int.one_mul]
    omega
theorem past_1 {M : w_M} {B : Nat} {N : w_M} {Y n ic t : Nat} (r : RR M B N Y n ic t) (ht : t < 1000) (j : Nat) : iv (g_hour N Y) (Y + 7) j = if j = t then g_for N Y (nI t) else iv N (Y + 7) j := by
  have hn := r.n8; have hi := r.i6
  have eN0 : cN (iv N Y 16) = n := by rw [r.Nn]; exact cN_nI (by omega)
  have eN1 : cN (iv N Y 25) = ic := by rw [r.Ni]; exact cN_nI (by omega)
  have eN2 : cN (iv N Y 1) = t := by rw [r.Nt]; exact cN_nI (by omega)
  have eN : g_hour N Y = g_hrn N Y n ic t (g_for N Y (nI t)) := by
    unfold g_hour; rw [eN0, eN1, eN2]
    have : g_sea N Y t = g_for N Y (nI t) := by unfold g_sea; rw [eN2, if_neg (by omega)]
    rw [this]
  have r0 : ∀ a j, a ≠ Y + 20 → iv (g_r0 N Y n) a j = iv N a j := by
    intro a j ha
    have : ∀ i, iv (g_r0 N Y i) a j = iv N a j := by
      intro i; induction i with
      | zero => rfl
      | succ i ih => rw [g_r0, iv_n (by omega), ih]
    exact this n
  rw [eN]
  have k := kp_mid (M := g_c0 (g_r0 N Y n) Y (g_for N Y (nI t))) (Y := Y) (n := n) (ic := ic) (sh := g_shut (g_r0 N Y n) Y) (h := g_for N Y (nI t))
  unfold g_hrn g_e1 g_e2 g_e3 g_e4 g_e5
  rw [iv_n (by omega)]
  by_cases q : j = t
  · subst q; rw [iv_s, if_pos rfl]
  · rw [iv_n (by omega), if_neg q, ts_o (by omega), k.2 (Y + 7) (by unfold kpA; omega) j, c0_o (by omega) (by omega) (by omega) (by omega), r0 _ _ (by omega)]
theorem past_k {Y n ic : Nat} : ∀ (p : Nat) {M : w_M} {B : Nat} {N : w_M} {t : Nat}, RR M B N Y n ic t → t + p ≤ 1000 → ∀ j, (j < t → iv (g_gos N Y p) (Y + 7) j = iv N (Y + 7) j) ∧ (0 < p → iv (g_gos N Y p) (Y + 7) t = g_for N Y (nI t))
  | 0, M, B, N, t, r, ht, j => ⟨fun _ => rfl, fun z => absurd z (by omega)⟩
  | p + 1, M, B, N, t, r, ht, j => by
    have r1 := RR_hour r (by omega)
    have e := past_1 r (by omega)
    refine ⟨fun hj => ?_, fun _ => ?_⟩
    · rw [g_gos, (past_k p r1 (by omega) j).1 (by omega), e, if_neg (by omega)]
    · rw [g_gos, (past_k p r1 (by omega) t).1 (by omega), e, if_pos rfl]
theorem pC_le {N : w_M} {Y c : Nat} : pC N Y c ≤ 2 * c ∧ 2 * c ≤ pC N Y c + 1 := by unfold pC; split <;> omega
