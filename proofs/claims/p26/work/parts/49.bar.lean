/-! the barrier's look -/
theorem nI_ad (a b : Nat) : nI a + nI b = nI (a + b) := (Int32.ofNat_add a b).symm
def Rb (M : w_M) (B : Nat) (N : w_M) (Y t : Nat) : Prop := (iv M (B + 2) 4 = iv N Y 10) ∧ (iv M (B + 2) 5 = iv N Y 11) ∧ (iv M (B + 2) 3 = iv N Y 12) ∧ (cB (iv N Y 12) 500) ∧ (∀ i, i < cN (iv N Y 12) → iv M (B + 9) i = iv N (Y + 13) i) ∧ (∀ i, i < cN (iv N Y 12) → iv M (B + 10) i = iv N (Y + 14) i) ∧ (∀ i, i < cN (iv N Y 12) → iv M (B + 11) i = iv N (Y + 15) i) ∧ (∀ i, cN (iv N Y 12) ≤ i → iv N (Y + 15) i = 0) ∧ (iv M (B + 2) 6 = 0 ↔ g_go N Y = false) ∧ (cN (iv N Y 12) = 0 ∨ ∃ v, v < t ∧ iv N (Y + 14) (cN (iv N Y 12) - 1) = nI v ∧ 2 * cN (iv N Y 12) ≤ v + 2)
theorem Rb.mk9 {M : w_M} {B : Nat} {N : w_M} {Y t : Nat} (h : Rb M B N Y t) : iv M (B + 2) 4 = iv N Y 10 := h.1
theorem Rb.ld {M : w_M} {B : Nat} {N : w_M} {Y t : Nat} (h : Rb M B N Y t) : iv M (B + 2) 5 = iv N Y 11 := h.2.1
theorem Rb.cc {M : w_M} {B : Nat} {N : w_M} {Y t : Nat} (h : Rb M B N Y t) : iv M (B + 2) 3 = iv N Y 12 := h.2.2.1
theorem Rb.c5 {M : w_M} {B : Nat} {N : w_M} {Y t : Nat} (h : Rb M B N Y t) : cB (iv N Y 12) 500 := h.2.2.2.1
theorem Rb.fi {M : w_M} {B : Nat} {N : w_M} {Y t : Nat} (h : Rb M B N Y t) : ∀ i, i < cN (iv N Y 12) → iv M (B + 9) i = iv N (Y + 13) i := h.2.2.2.2.1
theorem Rb.la {M : w_M} {B : Nat} {N : w_M} {Y t : Nat} (h : Rb M B N Y t) : ∀ i, i < cN (iv N Y 12) → iv M (B + 10) i = iv N (Y + 14) i := h.2.2.2.2.2.1
theorem Rb.ri {M : w_M} {B : Nat} {N : w_M} {Y t : Nat} (h : Rb M B N Y t) : ∀ i, i < cN (iv N Y 12) → iv M (B + 11) i = iv N (Y + 15) i := h.2.2.2.2.2.2.1
theorem Rb.z {M : w_M} {B : Nat} {N : w_M} {Y t : Nat} (h : Rb M B N Y t) : ∀ i, cN (iv N Y 12) ≤ i → iv N (Y + 15) i = 0 := h.2.2.2.2.2.2.2.1
theorem Rb.go {M : w_M} {B : Nat} {N : w_M} {Y t : Nat} (h : Rb M B N Y t) : iv M (B + 2) 6 = 0 ↔ g_go N Y = false := h.2.2.2.2.2.2.2.2.1
theorem Rb.v {M : w_M} {B : Nat} {N : w_M} {Y t : Nat} (h : Rb M B N Y t) : cN (iv N Y 12) = 0 ∨ ∃ v, v < t ∧ iv N (Y + 14) (cN (iv N Y 12) - 1) = nI v ∧ 2 * cN (iv N Y 12) ≤ v + 2 := h.2.2.2.2.2.2.2.2.2
theorem go_e {N : w_M} {Y c t : Nat} (hc : iv N Y 12 = nI c) (hc5 : c ≤ 1000) (ht : iv N Y 1 = nI t) (ht1 : t ≤ 1000) : g_go N Y = true ↔ (0 < c ∧ ∃ v, v + 1 = t ∧ iv N (Y + 14) (c - 1) = nI v) ∨ (0 < c ∧ t = 0 ∧ iv N (Y + 14) (c - 1) = -1) := by
  unfold g_go
  rw [Bool.and_eq_true, decide_eq_true_iff, decide_eq_true_iff, hc, ht, cN_nI (by omega)]
  have e1 : (¬ nI c ≤ 0) ↔ 0 < c := by rw [i_le, i_0, i_N (by omega)]; omega
  rw [e1]
  rcases Nat.eq_zero_or_pos t with q | q
  · subst q
    rw [show nI 0 - 1 = (-1 : Int32) by decide]
    constructor
    · rintro ⟨a, b⟩; exact Or.inr ⟨a, rfl, b⟩
    · rintro (⟨a, v, b, _⟩ | ⟨a, _, b⟩)
      · omega
      · exact ⟨a, b⟩
  · rw [u_nsub1 q]
    constructor
    · rintro ⟨a, b⟩; exact Or.inl ⟨a, t - 1, by omega, b⟩
    · rintro (⟨a, v, b, e⟩ | ⟨_, b, _⟩)
      · exact ⟨a, by rw [e, show t - 1 = v by omega]⟩
      · omega
theorem clo_e {M : w_M} {B : Nat} {N : w_M} {Y t : Nat} (h : Rb M B N Y t) (r : Rt M B N Y) (g : gT N Y) (ht : iv N Y 1 = nI t) (ht1 : t < 1000) : b_clo M (B + 2) (B + 1) t = g_shut N Y := by
  unfold b_clo g_shut
  rw [h.mk9, h.ld, ht, cN_nI (by omega)]
  split
  · rfl
  · exact abv_e r g (by rw [ht]; exact cN_nI (by omega)) _ _ (Nat.le_refl _)
theorem Rt.M {M M' : w_M} {B : Nat} {N : w_M} {Y : Nat} (h : Rt M B N Y) (g : gT N Y) (e : ∀ a, a = B + 1 ∨ (B + 20 ≤ a ∧ a < B + 50) → ∀ j, iv M' a j = iv M a j) : Rt M' B N Y := by
  have t6 := (cB_le g.tc (by decide)).2
  have t20 := (cB_le g.sc (by decide)).2
  exact ⟨by rw [e _ (by omega)]; exact h.me, by rw [e _ (by omega)]; exact h.tc, by rw [e _ (by omega)]; exact h.sc, fun i hi j hj => by rw [e _ (by omega)]; exact h.tu i hi j hj, fun i hi j hj => by rw [e _ (by omega)]; exact h.su i hi j hj⟩
theorem Rt.N {M : w_M} {B : Nat} {N N' : w_M} {Y : Nat} (h : Rt M B N Y) (e2 : iv N' Y 2 = iv N Y 2) (e3 : iv N' Y 3 = iv N Y 3) (e5 : iv N' Y 5 = iv N Y 5) (e4 : ∀ j, iv N' (Y + 4) j = iv N (Y + 4) j) (e6 : ∀ j, iv N' (Y + 6) j = iv N (Y + 6) j) : Rt M B N' Y :=
  ⟨by rw [e2]; exact h.me, by rw [e3]; exact h.tc, by rw [e5]; exact h.sc, by simp only [e3, e4]; exact h.tu, by simp only [e5, e6]; exact h.su⟩
theorem lk_6 {M : w_M} {k s0 t : Nat} : iv (m_look M k s0 t) k 6 = 0 ↔ b_clo M k s0 t = false := by
  unfold m_look
  cases b_clo M k s0 t
  · rw [if_neg (by decide), iv_s]; simp
  · rw [if_pos rfl]
    have e : ∀ M1 : w_M, iv (m_lk3 M1 k s0 t) k 6 = iv M1 k 6 := fun M1 => by
      unfold m_lk3; split
      · rfl
      · rw [iv_n (by omega), iv_n (by omega)]
    rw [e]
    have e2 : iv (if iv M k 6 = 0 ∧ cN (iv M k 3) < 500 then m_lk2 (wi M k 6 1) k t else wi M k 6 1) k 6 = 1 := by
      split
      · unfold m_lk2; rw [iv_n (by omega), iv_n (by omega), iv_n (by omega), iv_s]
      · rw [iv_s]
    rw [e2]; decide
theorem Rb_look {M M' : w_M} {B : Nat} {N N' : w_M} {Y t : Nat} {x : Int32} (h : Rb M B N Y t) (r : Rt M B N Y) (g : gT N Y) (ht : iv N Y 1 = nI t) (ht1 : t < 1000) (hx : x = g_for N Y (nI t))
    (hM2 : ∀ j, iv M' (B + 2) j = iv (m_look M (B + 2) (B + 1) t) (B + 2) j) (hM9 : ∀ a, B + 9 ≤ a → a ≤ B + 11 → ∀ j, iv M' a j = iv (m_look M (B + 2) (B + 1) t) a j)
    (hN : ∀ j, 10 ≤ j → j ≤ 12 → iv N' Y j = iv (g_c0 N Y x) Y j) (hN3 : ∀ a, Y + 13 ≤ a → a ≤ Y + 15 → ∀ j, iv N' a j = iv (g_c0 N Y x) a j) (hN1 : iv N' Y 1 = nI (t + 1)) : Rb M' B N' Y (t + 1) := by
  have ec := clo_e h r g ht ht1
  obtain ⟨c, hc5, hc⟩ := h.c5
  have hcN : cN (iv N Y 12) = c := by rw [hc]; exact cN_nI (by omega)
  have hgo := go_e hc (by omega) ht (by omega)
  have h6 : iv M' (B + 2) 6 = 0 ↔ g_shut N Y = false := by rw [hM2, lk_6, ec]
  have m4 : iv M' (B + 2) 4 = iv N Y 10 := by rw [hM2, look_f (by omega) (by omega)]; exact h.mk9
  have m5 : iv M' (B + 2) 5 = iv N Y 11 := by rw [hM2, look_f (by omega) (by omega)]; exact h.ld
  have n10 : iv N' Y 10 = iv N Y 10 := by
    rw [hN _ (by omega) (by omega)]; unfold g_c0; split
    · exact cl_o (by omega) (by omega) (by omega) (by omega)
    · rfl
  have n11 : iv N' Y 11 = iv N Y 11 := by
    rw [hN _ (by omega) (by omega)]; unfold g_c0; split
    · exact cl_o (by omega) (by omega) (by omega) (by omega)
    · rfl
  have hv := h.v; rw [hcN] at hv
  have hfi := h.fi; rw [hcN] at hfi
  have hla := h.la; rw [hcN] at hla
  have hri := h.ri; rw [hcN] at hri
  have hz := h.z; rw [hcN] at hz
  have hcc := h.cc; rw [hc] at hcc
  cases hs : g_shut N Y
  · have eM : m_look M (B + 2) (B + 1) t = wi M (B + 2) 6 0 := by unfold m_look; rw [ec, hs]; rfl
    have eN : g_c0 N Y x = N := by unfold g_c0; rw [hs]; rfl
    rw [eM] at hM2 hM9; rw [eN] at hN hN3
    have n12 : iv N' Y 12 = nI c := by rw [hN _ (by omega) (by omega), hc]
    have n12c : cN (iv N' Y 12) = c := by rw [n12]; exact cN_nI (by omega)
    refine ⟨by rw [m4, n10], by rw [m5, n11], ?_, ⟨c, hc5, n12⟩, ?_, ?_, ?_, ?_, ?_, ?_⟩
    · rw [hM2, iv_n (by omega), hcc, n12]
    · rw [n12c]; intro i hi; rw [hM9 _ (by omega) (by omega), iv_n (by omega), hN3 _ (by omega) (by omega)]; exact hfi i hi
    · rw [n12c]; intro i hi; rw [hM9 _ (by omega) (by omega), iv_n (by omega), hN3 _ (by omega) (by omega)]; exact hla i hi
    · rw [n12c]; intro i hi; rw [hM9 _ (by omega) (by omega), iv_n (by omega), hN3 _ (by omega) (by omega)]; exact hri i hi
    · rw [n12c]; intro i hi; rw [hN3 _ (by omega) (by omega)]; exact hz i hi
    · rw [h6, hs]
      have g2 := go_e n12 (by omega) hN1 (by omega)
      refine ⟨fun _ => ?_, fun _ => rfl⟩
      cases q : g_go N' Y
      · rfl
      · rw [g2] at q
        rcases q with ⟨c0, v, hv1, e⟩ | ⟨_, q, _⟩
        · rw [hN3 _ (by omega) (by omega)] at e
          rcases hv with q2 | ⟨v2, l2, e2, _⟩
          · omega
          · rw [e2] at e
            have := congrArg Int32.toInt e
            rw [i_N (by omega), i_N (by omega)] at this; omega
        · omega
    · rw [n12c]
      rcases hv with q | ⟨v, l, e, b⟩
      · exact Or.inl q
      · exact Or.inr ⟨v, by omega, by rw [hN3 _ (by omega) (by omega)]; exact e, b⟩
  · have eN : g_c0 N Y x = g_cl N Y x := by unfold g_c0; rw [hs]; rfl
    rw [eN] at hN hN3
    -- what stands for the reference and the class, one after the other
    have J : ∀ (d : Nat) (M2 N2 : w_M), 0 < d → d ≤ 500 → 2 * d ≤ t + 2 → iv N2 Y 12 = nI d → iv N2 Y 1 = nI t → iv M2 (B + 2) 3 = nI d →
        (∀ i, i < d → iv M2 (B + 9) i = iv N2 (Y + 13) i) → (∀ i, i < d - 1 → iv M2 (B + 10) i = iv N2 (Y + 14) i) → (∀ i, i < d → iv M2 (B + 11) i = iv N2 (Y + 15) i) → (∀ i, d ≤ i → iv N2 (Y + 15) i = 0) → iv M2 (B + 2) 4 = iv N Y 10 → iv N2 Y 10 = iv N Y 10 → Rt M2 B N Y →
        m_look M (B + 2) (B + 1) t = m_lk3 M2 (B + 2) (B + 1) t → g_cl N Y x = g_c2 N2 Y d x → Rb M' B N' Y (t + 1) := by
      intro d M2 N2 d0 d5 d2 nd nt md k9 k10 k11 kz m24 n210 rt2 eL eC
      have cd : cN (nI d) = d := cN_nI (by omega)
      have eS : s_for (wi M2 (B + 2 + 8) (d - 1) (nI t)) (B + 1) (nI t) = x := by
        rw [for_e (nI t) (Rt.M rt2 g (fun a ha j => by rw [iv_n (by omega)])) g, hx]
      have eL2 : m_lk3 M2 (B + 2) (B + 1) t = wi (wi M2 (B + 10) (d - 1) (nI t)) (B + 11) (d - 1) (if iv M2 (B + 11) (d - 1) = 0 then (if iv N Y 10 < x then 1 else 0) else 1) := by
        unfold m_lk3; rw [md, cd, if_neg (by omega), eS, m24]
      have eC2 : g_c2 N2 Y d x = wi (wi N2 (Y + 14) (d - 1) (nI t)) (Y + 15) (d - 1) (if iv N2 (Y + 15) (d - 1) = 0 then (if iv N Y 10 < x then 1 else 0) else 1) := by
        unfold g_c2; rw [iv_n (by omega), iv_n (by omega), nt, n210]
      rw [eL, eL2] at hM2 hM9
      rw [eC, eC2] at hN hN3
      have n12 : iv N' Y 12 = nI d := by rw [hN _ (by omega) (by omega), iv_n (by omega), iv_n (by omega), nd]
      have n12c : cN (iv N' Y 12) = d := by rw [n12]; exact cd
      refine ⟨by rw [m4, n10], by rw [m5, n11], ?_, ⟨d, d5, n12⟩, ?_, ?_, ?_, ?_, ?_, ?_⟩
      · rw [hM2, iv_n (by omega), iv_n (by omega), md, n12]
      · rw [n12c]; intro i hi; rw [hM9 _ (by omega) (by omega), iv_n (by omega), iv_n (by omega), hN3 _ (by omega) (by omega), iv_n (by omega), iv_n (by omega)]; exact k9 i hi
      · rw [n12c]; intro i hi; rw [hM9 _ (by omega) (by omega), iv_n (by omega), hN3 _ (by omega) (by omega), iv_n (b := Y + 14) (by omega)]
        by_cases q : i = d - 1
        · subst q; rw [iv_s, iv_s]
        · rw [iv_n (by omega), iv_n (by omega)]; exact k10 i (by omega)
      · rw [n12c]; intro i hi; rw [hM9 _ (by omega) (by omega), hN3 _ (by omega) (by omega)]
        by_cases q : i = d - 1
        · subst q; rw [iv_s, iv_s, k11 _ hi]
        · rw [iv_n (by omega), iv_n (by omega), iv_n (by omega), iv_n (by omega)]; exact k11 i hi
      · rw [n12c]; intro i hi; rw [hN3 _ (by omega) (by omega), iv_n (by omega), iv_n (by omega)]; exact kz i hi
      · rw [h6, hs]
        refine ⟨fun q => absurd q (by decide), fun q => ?_⟩
        have g2 := (go_e n12 (by omega) hN1 (by omega)).mpr (Or.inl ⟨d0, t, rfl, by rw [hN3 _ (by omega) (by omega), iv_n (by omega), iv_s]⟩)
        rw [g2] at q; exact absurd q (by decide)
      · rw [n12c]; exact Or.inr ⟨t, by omega, by rw [hN3 _ (by omega) (by omega), iv_n (by omega), iv_s], d2⟩
    cases hg : g_go N Y
    · have m6 : iv M (B + 2) 6 = 0 := h.go.mpr hg
      have hc9 : 2 * c ≤ t := by
        rcases Nat.eq_zero_or_pos c with q0 | q0
        · omega
        · rcases hv with q | ⟨v, l, e, b⟩
          · omega
          · have : ¬ (v + 1 = t) := fun q => by
              have := hgo.mpr (Or.inl ⟨q0, v, q, e⟩); rw [hg] at this; exact absurd this (by decide)
            omega
      have eL : m_look M (B + 2) (B + 1) t = m_lk3 (m_lk2 (wi M (B + 2) 6 1) (B + 2) t) (B + 2) (B + 1) t := by
        unfold m_look; rw [ec, hs, if_pos rfl, if_pos]
        rw [hcc, cN_nI (by omega)]; exact ⟨m6, by omega⟩
      have e1 : g_c1 N Y = wi (wi N (Y + 13) c (nI t)) Y 12 (nI (c + 1)) := by
        unfold g_c1; rw [hg, if_neg (by decide), hc, ht, cN_nI (by omega)]; rw [show nI c + 1 = nI (c + 1) from nI_ad c 1]
      have eC : g_cl N Y x = g_c2 (wi (wi N (Y + 13) c (nI t)) Y 12 (nI (c + 1))) Y (c + 1) x := by
        unfold g_cl; rw [e1, iv_s, cN_nI (by omega)]
      have e2 : m_lk2 (wi M (B + 2) 6 1) (B + 2) t = wi (wi (wi (wi M (B + 2) 6 1) (B + 9) c (nI t)) (B + 11) c 0) (B + 2) 3 (nI (c + 1)) := by
        unfold m_lk2; rw [iv_n (by omega), hcc, cN_nI (by omega)]; rw [show nI c + 1 = nI (c + 1) from nI_ad c 1]
      rw [e2] at eL
      refine J (c + 1) _ _ (by omega) (by omega) (by omega) (by rw [iv_s]) (by rw [iv_n (by omega), iv_n (by omega)]; exact ht) (by rw [iv_s]) (fun i hi => ?_) (fun i hi => ?_) (fun i hi => ?_) (fun i hi => ?_) ?_ ?_ ?_ eL eC
      · rw [iv_n (by omega), iv_n (by omega), iv_n (b := Y + 13) (by omega)]
        by_cases q : i = c
        · subst q; rw [iv_s, iv_s]
        · rw [iv_n (by omega), iv_n (by omega), iv_n (by omega)]; exact hfi i (by omega)
      · rw [iv_n (by omega), iv_n (by omega), iv_n (by omega), iv_n (by omega), iv_n (b := Y + 14) (by omega), iv_n (b := Y + 14) (by omega)]; exact hla i (by omega)
      · rw [iv_n (by omega), iv_n (b := Y + 15) (by omega), iv_n (b := Y + 15) (by omega)]
        by_cases q : i = c
        · subst q; rw [iv_s, hz i (Nat.le_refl _)]
        · rw [iv_n (by omega), iv_n (by omega), iv_n (by omega)]; exact hri i (by omega)
      · rw [iv_n (by omega), iv_n (by omega)]; exact hz i (by omega)
      · rw [iv_n (by omega), iv_n (by omega), iv_n (by omega), iv_n (by omega)]; exact h.mk9
      · rw [iv_n (by omega), iv_n (by omega)]
      · exact Rt.M r g (fun a ha j => by rw [iv_n (by omega), iv_n (by omega), iv_n (by omega), iv_n (by omega)])
    · have m6 : ¬ iv M (B + 2) 6 = 0 := fun q => by rw [h.go.mp q] at hg; exact absurd hg (by decide)
      obtain ⟨c0, hv2⟩ : 0 < c ∧ 2 * c ≤ t + 2 := by
        rcases hgo.mp hg with ⟨c0, _⟩ | ⟨c0, _⟩ <;> (refine ⟨c0, ?_⟩; rcases hv with q | ⟨v, l, e, b⟩ <;> omega)
      have eL : m_look M (B + 2) (B + 1) t = m_lk3 (wi M (B + 2) 6 1) (B + 2) (B + 1) t := by
        unfold m_look; rw [ec, hs, if_pos rfl, if_neg]
        intro q; exact m6 q.1
      have eC : g_cl N Y x = g_c2 N Y c x := by
        unfold g_cl g_c1; rw [hg, if_pos rfl, hcN]
      refine J c _ _ c0 hc5 hv2 hc ht (by rw [iv_n (by omega)]; exact hcc) (fun i hi => ?_) (fun i hi => ?_) (fun i hi => ?_) hz ?_ rfl ?_ eL eC
      · rw [iv_n (by omega)]; exact hfi i hi
      · rw [iv_n (by omega)]; exact hla i (by omega)
      · rw [iv_n (by omega)]; exact hri i hi
      · rw [iv_n (by omega)]; exact h.mk9
      · exact Rt.M r g (fun a ha j => by rw [iv_n (by omega)])
