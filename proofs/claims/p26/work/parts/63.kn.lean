/-! closures, what was tasted, permits: all that is kept, over an hour -/
def kC (N : w_M) (Y t c : Nat) : Prop := iv N Y 12 = nI c ∧ c ≤ t ∧ ∀ i, i < c → ∃ a b : Nat, iv N (Y + 13) i = nI a ∧ iv N (Y + 14) i = nI b ∧ a ≤ b ∧ b < t ∧ ∀ j, j + 1 = i → ∃ b' : Nat, iv N (Y + 14) j = nI b' ∧ b' + 1 < a
/-- twice the closures, less 1 if one goes on -/
def pC (N : w_M) (Y c : Nat) : Nat := 2 * c - (if g_go N Y = true then 1 else 0)
theorem kC.same {N N' : w_M} {Y t c : Nat} (h : kC N Y t c) (e : ∀ a j, (a = Y ∧ j = 12) ∨ a = Y + 13 ∨ a = Y + 14 → iv N' a j = iv N a j) : kC N' Y t c := by
  unfold kC at *
  rw [e Y 12 (by omega)]
  refine ⟨h.1, h.2.1, fun i hi => ?_⟩
  obtain ⟨a, b, h1, h2, h3, h4, h5⟩ := h.2.2 i hi
  exact ⟨a, b, by rw [e _ _ (by omega)]; exact h1, by rw [e _ _ (by omega)]; exact h2, h3, h4, fun j hj => by rw [e _ _ (by omega)]; exact h5 j hj⟩
theorem kC_hour {N N' : w_M} {Y t c : Nat} {x : Int32} (h : kC N Y t c) (ht : iv N Y 1 = nI t) (t9 : t < 1000) (sh : Bool) (e1 : iv N' Y 1 = nI (t + 1)) (e : ∀ a j, (a = Y ∧ j = 12) ∨ a = Y + 13 ∨ a = Y + 14 → iv N' a j = iv (if sh = true then g_cl N Y x else N) a j) : ∃ c', kC N' Y (t + 1) c' ∧ c ≤ c' ∧ pC N' Y c' ≤ pC N Y c + 1 := by
  obtain ⟨hc, hct, hh⟩ := h
  have go := go_e hc (by omega) ht (by omega)
  have nolast : ¬ (0 < c ∧ t = 0 ∧ iv N (Y + 14) (c - 1) = -1) := fun z => by omega
  cases sh
  · simp only [Bool.false_eq_true, if_false] at e
    have k' : kC N' Y (t + 1) c := kC.same ⟨hc, by omega, fun i hi => by
      obtain ⟨a, b, h1, h2, h3, h4, h5⟩ := hh i hi
      exact ⟨a, b, h1, h2, h3, by omega, h5⟩⟩ e
    refine ⟨c, k', Nat.le_refl _, ?_⟩
    have go' := go_e k'.1 (by omega) e1 (by omega)
    have ng : ¬ g_go N' Y = true := fun z => by
      rcases go'.mp z with ⟨z1, v, z2, z3⟩ | ⟨z1, z2, z3⟩
      · obtain ⟨a, b, h1, h2, h3, h4, h5⟩ := k'.2.2 (c - 1) (by omega)
        obtain ⟨a0, b0, g1, g2, g3, g4, g5⟩ := hh (c - 1) (by omega)
        rw [e _ _ (by omega), g2] at z3
        have := nI_inj (by omega) (by omega) z3
        omega
      · omega
    unfold pC; rw [if_neg ng]; split <;> omega
  · simp only [if_true] at e
    by_cases gg : g_go N Y = true
    · obtain ⟨c0, v, hv, hl⟩ := (go.mp gg).resolve_right nolast
      have e12 : iv (g_c1 N Y) Y 12 = nI c := by unfold g_c1; rw [if_pos gg]; exact hc
      have ec : cN (iv (g_c1 N Y) Y 12) = c := by rw [e12]; exact cN_nI (by omega)
      have cl : ∀ a j, (a = Y ∧ j = 12) ∨ a = Y + 13 ∨ a = Y + 14 → iv (g_cl N Y x) a j = if a = Y + 14 ∧ j = c - 1 then nI t else iv N a j := fun a j q => by
        unfold g_cl; rw [ec]; unfold g_c2; rw [show g_c1 N Y = N by unfold g_c1; rw [if_pos gg]]
        by_cases q2 : a = Y + 14 ∧ j = c - 1
        · obtain ⟨rfl, rfl⟩ := q2; rw [iv_n (by omega), iv_s, ht]; exact (if_pos ⟨rfl, rfl⟩).symm
        · rw [iv_n (by omega), iv_n (by omega)]; exact (if_neg q2).symm
      have e' : ∀ a j, (a = Y ∧ j = 12) ∨ a = Y + 13 ∨ a = Y + 14 → iv N' a j = if a = Y + 14 ∧ j = c - 1 then nI t else iv N a j := fun a j q => (e a j q).trans (cl a j q)
      have k' : kC N' Y (t + 1) c := by
        refine ⟨by rw [e' _ _ (by omega), if_neg (by omega)]; exact hc, by omega, fun i hi => ?_⟩
        obtain ⟨a, b, h1, h2, h3, h4, h5⟩ := hh i hi
        by_cases q : i = c - 1
        · refine ⟨a, t, by rw [e' _ _ (by omega), if_neg (by omega)]; exact h1, by rw [e' _ _ (by omega), if_pos ⟨rfl, q⟩], by omega, by omega, fun j hj => ?_⟩
          obtain ⟨b', h6, h7⟩ := h5 j hj
          exact ⟨b', by rw [e' _ _ (by omega), if_neg (by omega)]; exact h6, h7⟩
        · refine ⟨a, b, by rw [e' _ _ (by omega), if_neg (by omega)]; exact h1, by rw [e' _ _ (by omega), if_neg (by omega)]; exact h2, h3, by omega, fun j hj => ?_⟩
          obtain ⟨b', h6, h7⟩ := h5 j hj
          exact ⟨b', by rw [e' _ _ (by omega), if_neg (by omega)]; exact h6, h7⟩
      refine ⟨c, k', Nat.le_refl _, ?_⟩
      unfold pC; rw [if_pos gg]; split <;> omega
    · have e12 : iv (g_c1 N Y) Y 12 = nI (c + 1) := by unfold g_c1; rw [if_neg gg, iv_s, hc]; exact nI_1 c
      have ec : cN (iv (g_c1 N Y) Y 12) = c + 1 := by rw [e12]; exact cN_nI (by omega)
      have cc : cN (iv N Y 12) = c := by rw [hc]; exact cN_nI (by omega)
      have cl : ∀ a j, (a = Y ∧ j = 12) ∨ a = Y + 13 ∨ a = Y + 14 → iv (g_cl N Y x) a j = if a = Y + 14 ∧ j = c then nI t else if a = Y + 13 ∧ j = c then nI t else if a = Y ∧ j = 12 then nI (c + 1) else iv N a j := fun a j q => by
        unfold g_cl; rw [ec]; unfold g_c2; rw [Nat.add_sub_cancel, show g_c1 N Y = wi (wi N (Y + 13) c (iv N Y 1)) Y 12 (iv N Y 12 + 1) by unfold g_c1; rw [if_neg gg, cc]]
        by_cases q2 : a = Y + 14 ∧ j = c
        · obtain ⟨rfl, rfl⟩ := q2; rw [iv_n (by omega), iv_s, iv_n (by omega), iv_n (by omega), ht]; exact (if_pos ⟨rfl, rfl⟩).symm
        · rw [iv_n (by omega), iv_n (by omega)]; refine Eq.trans ?_ (if_neg q2).symm
          by_cases q3 : a = Y + 13 ∧ j = c
          · obtain ⟨rfl, rfl⟩ := q3; rw [iv_n (by omega), iv_s, ht]; exact (if_pos ⟨rfl, rfl⟩).symm
          · refine Eq.trans ?_ (if_neg q3).symm
            by_cases q4 : a = Y ∧ j = 12
            · obtain ⟨rfl, rfl⟩ := q4; rw [iv_s, hc]; exact (nI_1 c).trans (if_pos ⟨rfl, rfl⟩).symm
            · rw [iv_n (by omega), iv_n (by omega)]; exact (if_neg q4).symm
      have e' := fun a j q => (e a j q).trans (cl a j q)
      have k' : kC N' Y (t + 1) (c + 1) := by
        refine ⟨by rw [e' _ _ (by omega), if_neg (by omega), if_neg (by omega), if_pos ⟨rfl, rfl⟩], by omega, fun i hi => ?_⟩
        by_cases q : i = c
        · refine ⟨t, t, by rw [e' _ _ (by omega), if_neg (by omega), if_pos ⟨rfl, q⟩], by rw [e' _ _ (by omega), if_pos ⟨rfl, q⟩], Nat.le_refl _, by omega, fun j hj => ?_⟩
          obtain ⟨a, b, h1, h2, h3, h4, h5⟩ := hh j (by omega)
          refine ⟨b, by rw [e' _ _ (by omega), if_neg (by omega), if_neg (by omega), if_neg (by omega)]; exact h2, ?_⟩
          have : b + 1 ≠ t := fun z => gg (go.mpr (Or.inl ⟨by omega, b, z, by rw [show c - 1 = j by omega]; exact h2⟩))
          omega
        · obtain ⟨a, b, h1, h2, h3, h4, h5⟩ := hh i (by omega)
          refine ⟨a, b, by rw [e' _ _ (by omega), if_neg (by omega), if_neg (by omega), if_neg (by omega)]; exact h1, by rw [e' _ _ (by omega), if_neg (by omega), if_neg (by omega), if_neg (by omega)]; exact h2, h3, by omega, fun j hj => ?_⟩
          obtain ⟨b', h6, h7⟩ := h5 j hj
          exact ⟨b', by rw [e' _ _ (by omega), if_neg (by omega), if_neg (by omega), if_neg (by omega)]; exact h6, h7⟩
      refine ⟨c + 1, k', by omega, ?_⟩
      have go' := (go_e k'.1 (by omega) e1 (by omega)).mpr (Or.inl ⟨by omega, t, rfl, by rw [e' _ _ (by omega), if_pos ⟨rfl, by omega⟩]⟩)
      unfold pC; rw [if_neg gg, if_pos go']; omega
/-- all that is kept; c: tellings, W0, M0: water and mud told -/
def KN (N : w_M) (Y n ic t c : Nat) (W0 M0 : Int) : Prop := kA N Y n ic W0 M0 (2 ^ 34 * ((t : Int) + c)) ∧ qW N Y n ≤ 6000 * n + 20500 * t + 5000 * sm (us N Y t) (cN (iv N Y 5)) ∧ (∀ k, k < ic → kI N Y k t) ∧ kU N Y ∧ (∀ s, s < n → ∀ τ, τ < t → 0 ≤ (iv N (Y + 24) (1001 * s + τ)).toInt) ∧ (∀ s, s < n → 0 ≤ (iv N (Y + 21) s).toInt ∧ (iv N (Y + 21) s).toInt ≤ 10000)
theorem KN.a {N : w_M} {Y n ic t c : Nat} {W0 M0 : Int} (h : KN N Y n ic t c W0 M0) : kA N Y n ic W0 M0 (2 ^ 34 * ((t : Int) + c)) := h.1
theorem KN.w {N : w_M} {Y n ic t c : Nat} {W0 M0 : Int} (h : KN N Y n ic t c W0 M0) : qW N Y n ≤ 6000 * n + 20500 * t + 5000 * sm (us N Y t) (cN (iv N Y 5)) := h.2.1
theorem KN.i {N : w_M} {Y n ic t c : Nat} {W0 M0 : Int} (h : KN N Y n ic t c W0 M0) : ∀ k, k < ic → kI N Y k t := h.2.2.1
theorem KN.u {N : w_M} {Y n ic t c : Nat} {W0 M0 : Int} (h : KN N Y n ic t c W0 M0) : kU N Y := h.2.2.2.1
theorem KN.ta {N : w_M} {Y n ic t c : Nat} {W0 M0 : Int} (h : KN N Y n ic t c W0 M0) : ∀ s, s < n → ∀ τ, τ < t → 0 ≤ (iv N (Y + 24) (1001 * s + τ)).toInt := h.2.2.2.2.1
theorem KN.p {N : w_M} {Y n ic t c : Nat} {W0 M0 : Int} (h : KN N Y n ic t c W0 M0) : ∀ s, s < n → 0 ≤ (iv N (Y + 21) s).toInt ∧ (iv N (Y + 21) s).toInt ≤ 10000 := h.2.2.2.2.2
theorem gB.W' {N : w_M} {Y n : Nat} {W W' C : Int} (b : gB N Y n W C) (h : qW N Y n ≤ W') : gB N Y n W' C := ⟨b.ar, b.wu, b.wl, b.mu, b.cl, h, b.C⟩
theorem sl_0 {N : w_M} {Y n s a : Nat} {W C : Int} (h : kS N Y n) (b : gB N Y n W C) (hs : s < n) (hn : n ≤ 8) (ha : a = 0 ∨ a = 1) : 0 ≤ (g_sal N Y a s).toInt ∧ (g_sal N Y a s).toInt ≤ 30 := by
  have l : ly n (8 * a + s) := by unfold ly; rcases ha with rfl | rfl <;> omega
  have x := h _ l
  have w := b.ly l
  unfold g_sal f_sl
  split
  · rw [i_0]; omega
  · rename_i q
    have w0 : (iv N (Y + 22) (8 * a + s)).toInt ≠ 0 := fun z => q (i_ext (by rw [i_0]; exact z))
    rw [i_div x.1 (by omega)]
    refine ⟨Int.ediv_nonneg x.1 (by omega), Int.ediv_le_of_le_mul (by omega) ?_⟩
    omega
theorem KN_hour {M : w_M} {B : Nat} {N : w_M} {Y n ic t c : Nat} {W0 M0 : Int} (r : RR M B N Y n ic t) (h : KN N Y n ic t c W0 M0) (ht : t < 1000) (hc : c ≤ 512) : KN (g_hour N Y) Y n ic (t + 1) c W0 M0 ∧ (∀ k, k < ic → lk N (g_hour N Y) Y k ∧ iv (g_hour N Y) (Y + 30) k = iv N (Y + 30) k) ∧ ∀ cc, kC N Y t cc → ∃ c', kC (g_hour N Y) Y (t + 1) c' ∧ cc ≤ c' ∧ pC (g_hour N Y) Y c' ≤ pC N Y cc + 1 := by
  have hn := r.n8; have hi := r.i6
  have eN0 : cN (iv N Y 16) = n := by rw [r.Nn]; exact cN_nI (by omega)
  have eN1 : cN (iv N Y 25) = ic := by rw [r.Ni]; exact cN_nI (by omega)
  have eN2 : cN (iv N Y 1) = t := by rw [r.Nt]; exact cN_nI (by omega)
  obtain ⟨x, hx⟩ : ∃ x, x = g_for N Y (nI t) := ⟨_, rfl⟩
  have tI : (nI t).toInt = (t : Int) := i_N (by omega)
  have xb : -1000 ≤ x.toInt ∧ x.toInt ≤ 2400 := by rw [hx]; exact for_b r.gt (by omega) (by omega)
  have xc := gs_c r.gt (x := nI t) (by omega) (by omega) _ (Nat.le_refl _)
  have s20 := (cB_le r.gt.sc (by decide)).2
  have eN : g_hour N Y = g_hrn N Y n ic t x := by
    unfold g_hour; rw [eN0, eN1, eN2]
    have : g_sea N Y t = x := by unfold g_sea; rw [eN2, if_neg (by omega), ← hx]
    rw [this]
  have ub := us_b (t := t) h.u _ (Nat.le_refl _)
  have uu := us_s (t := t) h.u (by omega) _ (Nat.le_refl _)
  have hw := h.w
  have b := r.b.W' hw
  have xX : x.toInt ≤ 400 + 100 * sm (su1 N Y (nI t)) (cN (iv N Y 5)) := by rw [hx]; exact xc.1
  obtain ⟨k1, k2, k3⟩ := hrn_k (x := x) (X := 400 + 100 * sm (su1 N Y (nI t)) (cN (iv N Y 5))) h.a b r.gi h.i ht hn hi (by omega) (by omega) (by omega) r.w0 r.w1 r.s0 r.s1 xb.1 xX (by omega) (by omega)
  have r0 : ∀ a j, a ≠ Y + 20 → iv (g_r0 N Y n) a j = iv N a j := by
    intro a j ha
    have : ∀ i, iv (g_r0 N Y i) a j = iv N a j := by
      intro i; induction i with
      | zero => rfl
      | succ i ih => rw [g_r0, iv_n (by omega), ih]
    exact this n
  have far : ∀ a j, kpA Y a ∨ (a = Y ∧ j ≠ 41 ∧ j ≠ 42) → (a ≠ Y ∨ (j ≠ 1 ∧ j ≠ 12)) → a ≠ Y + 7 → a ≠ Y + 24 → a ≠ Y + 13 → a ≠ Y + 14 → a ≠ Y + 15 → a ≠ Y + 20 → iv (g_hrn N Y n ic t x) a j = iv N a j := fun a j q1 q2 q3 q4 q5 q6 q7 q8 => by
    rw [hrn_c q1 (by omega) q3 q4, c0_o (by omega) q5 q6 q7, r0 _ _ q8]
  have f5 : iv (g_hrn N Y n ic t x) Y 5 = iv N Y 5 := far _ _ (by omega) (by omega) (by omega) (by omega) (by omega) (by omega) (by omega) (by omega)
  have f6 : ∀ j, iv (g_hrn N Y n ic t x) (Y + 6) j = iv N (Y + 6) j := fun j => far _ _ (Or.inl (by unfold kpA; omega)) (by omega) (by omega) (by omega) (by omega) (by omega) (by omega) (by omega)
  have f21 : ∀ j, iv (g_hrn N Y n ic t x) (Y + 21) j = iv N (Y + 21) j := fun j => far _ _ (Or.inl (by unfold kpA; omega)) (by omega) (by omega) (by omega) (by omega) (by omega) (by omega) (by omega)
  have fus : ∀ j, us (g_hrn N Y n ic t x) Y (t + 1) j = us N Y (t + 1) j := fun j => by unfold us; rw [f6, f6]
  rw [eN]
  refine ⟨⟨k1.up (by push_cast; omega), ?_, fun k hk => by have := (k3 k hk).1; push_cast; exact this, ?_, ?_, ?_⟩, fun k hk => (k3 k hk).2, ?_⟩
  · rw [f5, sm_eq (fun j _ => fus j), uu]
    have := k2.W
    unfold qW; push_cast; omega
  · intro j hj
    rw [f5] at hj; rw [f6, f6]; exact h.u j hj
  · intro s hs τ hτ
    have : iv (g_hrn N Y n ic t x) (Y + 24) (1001 * s + τ) = if s < n ∧ τ = t then g_sal (g_hrn N Y n ic t x) Y 1 s else iv N (Y + 24) (1001 * s + τ) := by
      have sl : ∀ s, g_sal (g_hrn N Y n ic t x) Y 1 s = g_sal (g_drs (g_sts (g_mxs (g_nbs (g_ab (g_c0 (g_r0 N Y n) Y x) Y n (g_shut (g_r0 N Y n) Y) x) Y (n - 1)) Y n) Y n) Y ic) Y 1 s := fun s => by
        unfold g_sal g_hrn g_e1 g_e2 g_e3 g_e4
        rw [ts_ok (by omega) (by omega) (by omega), ts_ok (by omega) (by omega) (by omega)]
      rw [sl]
      have k := kp_mid (M := g_c0 (g_r0 N Y n) Y x) (Y := Y) (n := n) (ic := ic) (sh := g_shut (g_r0 N Y n) Y) (h := x)
      have k24 : ∀ j, iv (g_drs (g_sts (g_mxs (g_nbs (g_ab (g_c0 (g_r0 N Y n) Y x) Y n (g_shut (g_r0 N Y n) Y) x) Y (n - 1)) Y n) Y n) Y ic) (Y + 24) j = iv N (Y + 24) j := fun j => by
        rw [k.2 (Y + 24) (by unfold kpA; omega) j, c0_o (by omega) (by omega) (by omega) (by omega), r0 _ _ (by omega)]
      unfold g_hrn g_e1 g_e2 g_e3 g_e4 g_e5
      rw [iv_n (by omega), iv_n (by omega), ts_24 (by omega) n s τ (by omega), k24]
    rw [this]
    split
    · exact (sl_0 k1.1 k2 hs hn (Or.inr rfl)).1
    · exact h.ta s hs τ (by omega)
  · intro s hs; rw [f21]; exact h.p s hs
  · intro cc hcc
    have e1 : iv (g_hrn N Y n ic t x) Y 1 = nI (t + 1) := by unfold g_hrn g_e1 g_e2 g_e3 g_e4 g_e5; rw [iv_s]
    have c0 : kC (g_r0 N Y n) Y t cc := hcc.same (fun a j q => r0 _ _ (by omega))
    have g0 : g_go (g_r0 N Y n) Y = g_go N Y := by unfold g_go; rw [r0 _ _ (by omega), r0 _ _ (by omega), r0 _ _ (by omega)]
    have key := kC_hour (x := x) c0 (by rw [r0 _ _ (by omega)]; exact r.Nt) ht (g_shut (g_r0 N Y n) Y) e1 (fun a j q => by
      rw [hrn_c (by unfold kpA; omega) (by omega) (by omega) (by omega)]
      rfl)
    unfold pC at *; rw [g0] at key; exact key
