/-! the intakes -/
def gI (N : w_M) (Y n ic : Nat) : Prop := (∀ k, k < ic → ∃ s, s < n ∧ iv N (Y + 26) k = nI s) ∧ (∀ k, k < ic → 0 ≤ (iv N (Y + 27) k).toInt) ∧ (∀ k, k < ic → 0 ≤ (iv N (Y + 30) k).toInt) ∧ (∀ k, k < ic → 0 ≤ (iv N (Y + 31) k).toInt) ∧ (∀ k, k < ic → (iv N (Y + 31) k).toInt ≤ (iv N (Y + 29) k).toInt)
theorem gI.at9 {N : w_M} {Y n ic : Nat} (h : gI N Y n ic) : ∀ k, k < ic → ∃ s, s < n ∧ iv N (Y + 26) k = nI s := h.1
theorem gI.ra {N : w_M} {Y n ic : Nat} (h : gI N Y n ic) : ∀ k, k < ic → 0 ≤ (iv N (Y + 27) k).toInt := h.2.1
theorem gI.us {N : w_M} {Y n ic : Nat} (h : gI N Y n ic) : ∀ k, k < ic → 0 ≤ (iv N (Y + 30) k).toInt := h.2.2.1
theorem gI.ke {N : w_M} {Y n ic : Nat} (h : gI N Y n ic) : ∀ k, k < ic → 0 ≤ (iv N (Y + 31) k).toInt := h.2.2.2.1
theorem gI.ro {N : w_M} {Y n ic : Nat} (h : gI N Y n ic) : ∀ k, k < ic → (iv N (Y + 31) k).toInt ≤ (iv N (Y + 29) k).toInt := h.2.2.2.2
theorem gI.same {N N' : w_M} {Y n ic : Nat} (h : gI N Y n ic) (e : ∀ a, 26 ≤ a → a ≤ 31 → ∀ k, iv N' (Y + a) k = iv N (Y + a) k) : gI N' Y n ic :=
  ⟨fun k hk => by rw [e 26 (by omega) (by omega)]; exact h.at9 k hk, fun k hk => by rw [e 27 (by omega) (by omega)]; exact h.ra k hk, fun k hk => by rw [e 30 (by omega) (by omega)]; exact h.us k hk, fun k hk => by rw [e 31 (by omega) (by omega)]; exact h.ke k hk, fun k hk => by rw [e 31 (by omega) (by omega), e 29 (by omega) (by omega)]; exact h.ro k hk⟩
/-- what is taken in the end of an intake's hour -/
def fx (N : w_M) (Y k : Nat) (x : Int32) : Int32 := f_lt (iv N (Y + 30) k) x
theorem d1_o {N : w_M} {Y k a i : Nat} {x : Int32} (h : (a ≠ Y + 35 ∧ a ≠ Y + 34) ∨ i ≠ k) : iv (g_d1 N Y k x) a i = iv N a i := by
  unfold g_d1 g_a; simp (disch := omega) only [iv_n]
theorem d1_35 {N : w_M} {Y k : Nat} {x : Int32} : iv (g_d1 N Y k x) (Y + 35) k = x := by
  unfold g_d1 g_a; simp (disch := omega) only [iv_n, iv_s]
theorem d1_34 {N : w_M} {Y k : Nat} {x : Int32} : iv (g_d1 N Y k x) (Y + 34) k = iv N (Y + 34) k + g_d0 x := by
  unfold g_d1 g_a; simp (disch := omega) only [iv_n, iv_s]
theorem d3_o {N : w_M} {Y k a i : Nat} (h : (a ≠ Y + 31 ∧ a ≠ Y + 33) ∨ i ≠ k) : iv (g_d3 N Y k) a i = iv N a i := by
  unfold g_d3 g_d4 g_a g_b; simp (disch := omega) only [iv_n]
theorem d3_31 {N : w_M} {Y k : Nat} : iv (g_d3 N Y k) (Y + 31) k = iv N (Y + 31) k - fx N Y k (iv N (Y + 31) k) := by
  unfold g_d3 g_d4 g_a g_b fx; simp (disch := omega) only [iv_n, iv_s]
theorem d3_33 {N : w_M} {Y k : Nat} : iv (g_d3 N Y k) (Y + 33) k = iv N (Y + 33) k + (iv N (Y + 30) k - fx N Y k (iv N (Y + 31) k)) := by
  unfold g_d3 g_d4 g_a g_b fx; simp (disch := omega) only [iv_n, iv_s]
theorem d2_o {N : w_M} {Y k s a i : Nat} {f : Int32} (h : (a ≠ Y + 31 ∧ a ≠ Y + 32) ∨ i ≠ k) (h2 : (a ≠ Y + 22 ∧ a ≠ Y + 23) ∨ i ≠ s) (h3 : a ≠ Y ∨ (i ≠ 41 ∧ i ≠ 42)) : iv (g_d2 N Y k s f) a i = iv N a i := by
  unfold g_d2 g_d2a g_d2b g_a
  simp (disch := omega) only [iv_gsadd, iv_n]
  by_cases q : a = Y + 19
  · subst q
    by_cases q2 : i = s
    · subst q2; simp (disch := omega) only [iv_s]
    · rw [iv_n (by omega), lv0_c, if_neg q2]
  · rw [iv_n (by omega)]
    by_cases q2 : a = Y + 22
    · subst q2; rw [lv0_w, if_neg (by omega)]
    · by_cases q3 : a = Y + 23
      · subst q3; rw [lv0_s, if_neg (by omega)]
      · exact lv0_o h3 q q2 q3
theorem d2_22 {N : w_M} {Y k s : Nat} {f : Int32} : iv (g_d2 N Y k s f) (Y + 22) s = iv N (Y + 22) s - f := by
  unfold g_d2 g_d2a g_d2b g_a
  simp (disch := omega) only [iv_gsadd, iv_n, lv0_w, if_true]
theorem d2_23 {N : w_M} {Y k s : Nat} {f : Int32} : iv (g_d2 N Y k s f) (Y + 23) s = iv N (Y + 23) s - f_shr (iv N (Y + 23) s) f (iv N (Y + 22) s) := by
  unfold g_d2 g_d2a g_d2b g_a
  simp (disch := omega) only [iv_gsadd, iv_n, lv0_s, if_true]
theorem d2_31 {N : w_M} {Y k s : Nat} {f : Int32} : iv (g_d2 N Y k s f) (Y + 31) k = iv N (Y + 31) k + f := by
  unfold g_d2 g_d2a g_d2b g_a
  simp (disch := omega) only [iv_gsadd, iv_n, iv_s, lv0_o]
theorem d2_32 {N : w_M} {Y k s : Nat} {f : Int32} : iv (g_d2 N Y k s f) (Y + 32) k = iv N (Y + 32) k + f := by
  unfold g_d2 g_d2a g_d2b g_a
  simp (disch := omega) only [iv_gsadd, iv_n, iv_s, lv0_o]
theorem d2_j {N : w_M} {Y k s i : Nat} {f : Int32} : jv (g_d2 N Y k s f) (Y + 40) i = if i = 6 then jv N (Y + 40) i + (f_shr (iv N (Y + 23) s) f (iv N (Y + 22) s)).toInt64 else if i = 3 then jv N (Y + 40) i + f.toInt64 else jv N (Y + 40) i := by
  have e : iv (g_d2a N Y k s f) Y 41 = f_shr (iv N (Y + 23) s) f (iv N (Y + 22) s) := by
    unfold g_d2a g_a; simp (disch := omega) only [iv_gsadd, iv_n, lv0_41]
  unfold g_d2 g_d2b; rw [gsadd_s, e]
  unfold g_d2a g_a; simp only [gsadd_s, jv_wi', lv0_j]
  by_cases q : i = 6
  · subst q; simp
  · simp [q]
theorem dr_d3j {N : w_M} {Y k a i : Nat} : jv (g_d3 N Y k) a i = jv N a i := rfl
theorem dr_d1j {N : w_M} {Y k a i : Nat} {x : Int32} : jv (g_d1 N Y k x) a i = jv N a i := rfl
theorem df_e {N : w_M} {Y k s : Nat} {x : Int32} : g_df (g_d1 N Y k x) Y k s = g_df N Y k s := by
  unfold g_df; rw [d1_o (by omega), d1_o (by omega), d1_o (by omega), d1_o (by omega)]
theorem ds_01 (N : w_M) (Y k s : Nat) : g_ds N Y k s = 0 ∨ g_ds N Y k s = 1 := by
  unfold g_ds; split
  · exact Or.inr rfl
  · split
    · exact Or.inr rfl
    · exact Or.inl rfl
theorem df_b {N : w_M} {Y n ic k s : Nat} {W C : Int} (h : gI N Y n ic) (b : gB N Y n W C) (hk : k < ic) (hs : s < n) : 0 ≤ (g_df N Y k s).toInt ∧ (g_df N Y k s).toInt ≤ (iv N (Y + 22) s).toInt ∧ (iv N (Y + 31) k).toInt + (g_df N Y k s).toInt ≤ (iv N (Y + 29) k).toInt := by
  have r1 := h.ra k hk; have k1 := h.ke k hk; have o1 := h.ro k hk; have w1 := b.wu s hs
  have g := i_rg (iv N (Y + 29) k)
  have e : (iv N (Y + 29) k - iv N (Y + 31) k).toInt = (iv N (Y + 29) k).toInt - (iv N (Y + 31) k).toInt := i_sub (by omega) (by omega)
  unfold g_df
  have l1 := lt_b (iv N (Y + 27) k) (iv N (Y + 22) s)
  have l2 := lt_b (f_lt (iv N (Y + 27) k) (iv N (Y + 22) s)) (iv N (Y + 29) k - iv N (Y + 31) k)
  exact ⟨flt_0 (flt_0 r1 w1) (by omega), by omega, by omega⟩
/-- cells after an intake's hour: it drinks -/
theorem dr_0 {N : w_M} {Y k s : Nat} (hd : g_ds N Y k s = 0) : g_dr N Y k s = g_d3 (g_d2 (g_d1 N Y k 0) Y k s (g_df N Y k s)) Y k := by
  unfold g_dr; rw [hd, if_pos rfl, df_e]
theorem dr_1 {N : w_M} {Y k s : Nat} (hd : ¬ g_ds N Y k s = 0) : g_dr N Y k s = g_d3 (g_d1 N Y k 1) Y k := by
  have e : g_ds N Y k s = 1 := by rcases ds_01 N Y k s with q | q; exact absurd q hd; exact q
  unfold g_dr; rw [if_neg hd, e]
theorem gB_dr {N : w_M} {Y n ic k s : Nat} {W C : Int} (h : gI N Y n ic) (b : gB N Y n W C) (hn : n ≤ 8) (hk : k < ic) (hs : s < n) : gB (g_dr N Y k s) Y n W C := by
  by_cases hd : g_ds N Y k s = 0
  · rw [dr_0 hd]
    obtain ⟨f0, f1, f2⟩ := df_b h b hk hs
    generalize g_df N Y k s = f at *
    have w1 := b.wu s hs
    have g := i_rg (iv N (Y + 22) s)
    have e1 : (iv N (Y + 22) s - f).toInt = (iv N (Y + 22) s).toInt - f.toInt := i_sub (by omega) (by omega)
    have o : ∀ a i, (a = Y + 17 ∨ a = Y + 18 ∨ a = Y + 19 ∨ (a = Y + 22 ∧ i ≠ s)) → iv (g_d3 (g_d2 (g_d1 N Y k 0) Y k s f) Y k) a i = iv N a i := fun a i q => by
      rw [d3_o (by omega), d2_o (by omega) (by omega) (by omega), d1_o (by omega)]
    have v : iv (g_d3 (g_d2 (g_d1 N Y k 0) Y k s f) Y k) (Y + 22) s = iv N (Y + 22) s - f := by rw [d3_o (by omega), d2_22, d1_o (by omega)]
    refine (gB.one 0 0 b hs (fun i hi => o _ _ (by omega)) (fun i hi q => o _ _ (by omega)) (fun i hi q => o _ _ (by omega)) (fun i hi q => o _ _ (by omega)) (fun i hi q => o _ _ (by omega)) ?_ ?_ ?_ ?_ ?_ ?_).mono (by omega) (by omega)
    · rw [v, e1]; omega
    · rw [o _ _ (by omega)]; exact b.wl s hs
    · rw [o _ _ (by omega)]; exact b.mu s hs
    · rw [o _ _ (by omega)]; exact b.cl s hs
    · rw [v, e1, o _ _ (by omega)]; omega
    · rw [o _ _ (by omega), o _ _ (by omega)]; omega
  · rw [dr_1 hd]
    exact b.same (fun i => by rw [d3_o (by omega), d1_o (by omega)]) (fun i => by rw [d3_o (by omega), d1_o (by omega)]) (fun i => by rw [d3_o (by omega), d1_o (by omega)]) (fun i => by rw [d3_o (by omega), d1_o (by omega)])
theorem gI_dr {N : w_M} {Y n ic k s : Nat} {W C : Int} (h : gI N Y n ic) (b : gB N Y n W C) (hn : n ≤ 8) (hk : k < ic) (hs : s < n) : gI (g_dr N Y k s) Y n ic := by
  have k0 : ∀ x, (iv N (Y + 31) k).toInt ≤ x → x ≤ (iv N (Y + 29) k).toInt → True := fun _ _ _ => trivial
  have u0 := h.us k hk
  have o : ∀ a i, 26 ≤ a → a ≤ 31 → (a ≠ 31 ∨ i ≠ k) → iv (g_dr N Y k s) (Y + a) i = iv N (Y + a) i := fun a i a1 a2 q => by
    by_cases hd : g_ds N Y k s = 0
    · rw [dr_0 hd, d3_o (by omega), d2_o (by omega) (by omega) (by omega), d1_o (by omega)]
    · rw [dr_1 hd, d3_o (by omega), d1_o (by omega)]
  have v : ∃ x : Int32, 0 ≤ x.toInt ∧ x.toInt ≤ (iv N (Y + 29) k).toInt ∧ iv (g_dr N Y k s) (Y + 31) k = x - f_lt (iv N (Y + 30) k) x := by
    have k1 := h.ke k hk; have r1 := h.ro k hk
    by_cases hd : g_ds N Y k s = 0
    · obtain ⟨f0, f1, f2⟩ := df_b h b hk hs
      have g := i_rg (iv N (Y + 29) k)
      have e : (iv N (Y + 31) k + g_df N Y k s).toInt = (iv N (Y + 31) k).toInt + (g_df N Y k s).toInt := i_add (by omega) (by omega)
      refine ⟨iv N (Y + 31) k + g_df N Y k s, by omega, by omega, ?_⟩
      rw [dr_0 hd, d3_31, d2_31, d1_o (by omega)]; unfold fx
      rw [d2_o (by omega) (by omega) (by omega), d1_o (by omega)]
    · refine ⟨iv N (Y + 31) k, k1, r1, ?_⟩
      rw [dr_1 hd, d3_31, d1_o (by omega)]; unfold fx
      rw [d1_o (by omega)]
  obtain ⟨x, x0, x1, ex⟩ := v
  have l := lt_b (iv N (Y + 30) k) x
  have l0 := flt_0 u0 x0
  have g := i_rg x
  have e2 : (x - f_lt (iv N (Y + 30) k) x).toInt = x.toInt - (f_lt (iv N (Y + 30) k) x).toInt := i_sub (by omega) (by omega)
  refine ⟨fun i hi => by rw [o 26 i (by omega) (by omega) (by omega)]; exact h.at9 i hi, fun i hi => by rw [o 27 i (by omega) (by omega) (by omega)]; exact h.ra i hi, fun i hi => by rw [o 30 i (by omega) (by omega) (by omega)]; exact h.us i hi, fun i hi => ?_, fun i hi => ?_⟩
  · by_cases q : i = k
    · subst q; rw [ex, e2]; omega
    · rw [o 31 i (by omega) (by omega) (by omega)]; exact h.ke i hi
  · rw [o 29 i (by omega) (by omega) (by omega)]
    by_cases q : i = k
    · subst q; rw [ex, e2]; omega
    · rw [o 31 i (by omega) (by omega) (by omega)]; exact h.ro i hi
theorem it10 {P : Nat → Prop} (h0 : P 0) (h1 : P 1) (h2 : P 2) (h3 : P 3) (h4 : P 4) (h5 : P 5) (h6 : P 6) (h7 : P 7) (h8 : P 8) (h9 : P 9) : ∀ j, j < 10 → P j := by
  intro j hj
  match j, hj with
  | 0, _ => exact h0
  | 1, _ => exact h1
  | 2, _ => exact h2
  | 3, _ => exact h3
  | 4, _ => exact h4
  | 5, _ => exact h5
  | 6, _ => exact h6
  | 7, _ => exact h7
  | 8, _ => exact h8
  | 9, _ => exact h9
theorem sup_o {M : w_M} {k a i : Nat} (h : a ≠ k ∨ (i ≠ 5 ∧ i ≠ 7)) : iv (m_sup M k) a i = iv M a i := by
  unfold m_sup; simp (disch := omega) only [iv_n]
theorem sup_5 {M : w_M} {k : Nat} : iv (m_sup M k) k 5 = iv M k 5 - f_lt (iv M k 4) (iv M k 5) := by
  unfold m_sup; simp (disch := omega) only [iv_n, iv_s, min_lt]
theorem sup_7 {M : w_M} {k : Nat} : iv (m_sup M k) k 7 = iv M k 7 + (iv M k 4 - f_lt (iv M k 4) (iv M k 5)) := by
  unfold m_sup; simp (disch := omega) only [iv_n, iv_s, min_lt]
/-- what an intake does, given what the two sides have before its supply -/
theorem Rc_tk {M : w_M} {B : Nat} {N : w_M} {Y n ic k s : Nat} {T : Nat → Nat → Int32} {W C : Int} (h : Rc M B N Y n ic T) (b : gB N Y n W C) (hn : n ≤ 8) (hi6 : ic ≤ 6) (hk : k < ic) (hs : s < n) (hat : iv N (Y + 26) k = nI s) (hB5 : iv M B 5 = nI n) : Rc (m_tk M B k) B (g_dr N Y k s) Y n ic T := by
  have i0 : iv M (B + 150 + k) 0 = nI s := (h.it k hk 0 (by omega)).trans hat
  have i1 : iv M (B + 150 + k) 1 = iv N (Y + 27) k := h.it k hk 1 (by omega)
  have i2 : iv M (B + 150 + k) 2 = iv N (Y + 28) k := h.it k hk 2 (by omega)
  have i3 : iv M (B + 150 + k) 3 = iv N (Y + 29) k := h.it k hk 3 (by omega)
  have i4 : iv M (B + 150 + k) 4 = iv N (Y + 30) k := h.it k hk 4 (by omega)
  have i5 : iv M (B + 150 + k) 5 = iv N (Y + 31) k := h.it k hk 5 (by omega)
  have i6 : iv M (B + 150 + k) 6 = iv N (Y + 32) k := h.it k hk 6 (by omega)
  have i7 : iv M (B + 150 + k) 7 = iv N (Y + 33) k := h.it k hk 7 (by omega)
  have i8 : iv M (B + 150 + k) 8 = iv N (Y + 34) k := h.it k hk 8 (by omega)
  have i9 : iv M (B + 150 + k) 9 = iv N (Y + 35) k := h.it k hk 9 (by omega)
  have w0 := b.wu s hs
  have wu := h.wu s hs; have su := h.su s hs
  have hh : ¬ s_has M B (nI s) = 0 := by
    have e1 : (nI s).toInt = s := i_N (by omega)
    have e2 : (nI n).toInt = n := i_N (by omega)
    unfold s_has; rw [hB5, if_neg (by rw [i_lt, i_0]; omega), if_neg (by rw [i_le]; omega)]; decide
  have ts : t_stop M (B + 150 + k) (B + 100 + s + 20) = g_ds N Y k s := by
    unfold t_stop g_ds
    rw [wu, su, i2, sal_sl w0]
    have e : (iv N (Y + 22) s ≤ 0) ↔ (iv N (Y + 22) s = 0) := by rw [i_le, i_eq, i_0]; omega
    have e2 : g_sal N Y 0 s = f_sl (iv N (Y + 22) s) (iv N (Y + 23) s) := by unfold g_sal; rw [show 8 * 0 + s = s by omega]
    rw [e2]; simp only [e]
    split
    · rfl
    · have e3 : (f_sl (iv N (Y + 22) s) (iv N (Y + 23) s) ≤ iv N (Y + 28) k) ↔ ¬ (iv N (Y + 28) k < f_sl (iv N (Y + 22) s) (iv N (Y + 23) s)) := by rw [i_le, i_lt]; omega
      simp only [e3]; split <;> simp_all
  have tf : t_flow M (B + 150 + k) (B + 100 + s + 20) = g_df N Y k s := by
    unfold t_flow g_df; rw [i1, wu, i3, i5, min_lt, min_lt]
  unfold m_tk
  rw [i0, if_neg hh, cN_nI (by omega)]
  unfold m_take
  rw [ts, tf]
  by_cases hd : g_ds N Y k s = 0
  · rw [if_pos hd, dr_0 hd]
    generalize g_df N Y k s = f
    rw [wu, su, goes_shr w0]
    generalize hM1 : wj (wj (wi (wi (m_out (wi M (B + 150 + k) 9 0) (B + 100 + s + 20) f) (B + 150 + k) 5 (iv M (B + 150 + k) 5 + f)) (B + 150 + k) 6 (iv M (B + 150 + k) 6 + f)) (B + 5) 3 (jv M (B + 5) 3 + f.toInt64)) (B + 5) 6 (jv M (B + 5) 6 + (f_shr (iv N (Y + 23) s) f (iv N (Y + 22) s)).toInt64) = M1
    have o1 : ∀ a i, (a ≠ B + 150 + k ∨ (i ≠ 9 ∧ i ≠ 5 ∧ i ≠ 6)) → a ≠ B + 100 + s + 20 → iv M1 a i = iv M a i := fun a i q q2 => by
      subst hM1; unfold m_out; simp (disch := omega) only [iv_wj, iv_n]
    have a9 : iv M1 (B + 150 + k) 9 = 0 := by subst hM1; unfold m_out; simp (disch := omega) only [iv_wj, iv_n, iv_s]
    have a5 : iv M1 (B + 150 + k) 5 = iv N (Y + 31) k + f := by subst hM1; unfold m_out; simp (disch := omega) only [iv_wj, iv_n, iv_s, i5]
    have a6 : iv M1 (B + 150 + k) 6 = iv N (Y + 32) k + f := by subst hM1; unfold m_out; simp (disch := omega) only [iv_wj, iv_n, iv_s, i6]
    have a20 : iv M1 (B + 100 + s + 20) 0 = iv N (Y + 22) s - f := by subst hM1; unfold m_out; simp (disch := omega) only [iv_wj, iv_n, iv_s, wu]
    have a21 : iv M1 (B + 100 + s + 20) 1 = iv N (Y + 23) s - f_shr (iv N (Y + 23) s) f (iv N (Y + 22) s) := by subst hM1; unfold m_out; simp (disch := omega) only [iv_wj, iv_n, iv_s, wu, su, goes_shr w0]
    have aj : ∀ i, jv M1 (B + 5) i = if i = 6 then jv M (B + 5) i + (f_shr (iv N (Y + 23) s) f (iv N (Y + 22) s)).toInt64 else if i = 3 then jv M (B + 5) i + f.toInt64 else jv M (B + 5) i := fun i => by
      subst hM1; unfold m_out
      by_cases q : i = 6
      · subst q; rw [jv_s, if_pos rfl]
      · rw [jv_n (by omega), if_neg q]
        by_cases q2 : i = 3
        · subst q2; rw [jv_s, if_pos rfl]
        · rw [jv_n (by omega), if_neg q2]; rfl
    have o : ∀ a i, (a ≠ B + 150 + k) → a ≠ B + 100 + s + 20 → iv (m_sup M1 (B + 150 + k)) a i = iv M a i := fun a i q q2 => by rw [sup_o (by omega), o1 _ _ (by omega) (by omega)]
    have p : ∀ a i, (a ≤ Y + 30 ∨ Y + 36 ≤ a ∨ i ≠ k) → ((a ≠ Y + 22 ∧ a ≠ Y + 23) ∨ i ≠ s) → (a ≠ Y ∨ (i ≠ 41 ∧ i ≠ 42)) → iv (g_d3 (g_d2 (g_d1 N Y k 0) Y k s f) Y k) a i = iv N a i := fun a i q q2 q3 => by
      rw [d3_o (by omega), d2_o (by omega) (by omega) (by omega), d1_o (by omega)]
    refine ⟨fun i hi => ?_, fun i hi => ?_, fun i hi => ?_, fun i hi => ?_, fun i hi => ?_, fun i hi => ?_, fun i hi => ?_, fun i hi => ?_, fun i hi => ?_, fun i hi => ?_, fun r hr => ?_, ?_, ?_, fun i hi j => ?_⟩
    · rw [o _ _ (by omega) (by omega), p _ _ (by omega) (by omega) (by omega)]; exact h.ar i hi
    · rw [o _ _ (by omega) (by omega), p _ _ (by omega) (by omega) (by omega)]; exact h.mu i hi
    · rw [o _ _ (by omega) (by omega), p _ _ (by omega) (by omega) (by omega)]; exact h.cl i hi
    · rw [o _ _ (by omega) (by omega), p _ _ (by omega) (by omega) (by omega)]; exact h.ru i hi
    · rw [o _ _ (by omega) (by omega), p _ _ (by omega) (by omega) (by omega)]; exact h.pe i hi
    · by_cases q : i = s
      · subst q; rw [sup_o (by omega), a20, d3_o (by omega), d2_22, d1_o (by omega)]
      · rw [o _ _ (by omega) (by omega), p _ _ (by omega) (by omega) (by omega)]; exact h.wu i hi
    · by_cases q : i = s
      · subst q; rw [sup_o (by omega), a21, d3_o (by omega), d2_23, d1_o (by omega), d1_o (by omega)]
      · rw [o _ _ (by omega) (by omega), p _ _ (by omega) (by omega) (by omega)]; exact h.su i hi
    · rw [o _ _ (by omega) (by omega), p _ _ (by omega) (by omega) (by omega)]; exact h.wl i hi
    · rw [o _ _ (by omega) (by omega), p _ _ (by omega) (by omega) (by omega)]; exact h.sl i hi
    · show jv M1 (B + 5) i = jv (g_d2 (g_d1 N Y k 0) Y k s f) (Y + 40) i
      rw [aj, d2_j, dr_d1j, d1_o (by omega), d1_o (by omega), h.sm i hi]
    · by_cases q : r = k
      · subst q
        refine it10 ?_ ?_ ?_ ?_ ?_ ?_ ?_ ?_ ?_ ?_
        · rw [sup_o (by omega), o1 _ _ (by omega) (by omega), p _ _ (by omega) (by omega) (by omega)]; exact h.it r hr 0 (by omega)
        · rw [sup_o (by omega), o1 _ _ (by omega) (by omega), p _ _ (by omega) (by omega) (by omega)]; exact h.it r hr 1 (by omega)
        · rw [sup_o (by omega), o1 _ _ (by omega) (by omega), p _ _ (by omega) (by omega) (by omega)]; exact h.it r hr 2 (by omega)
        · rw [sup_o (by omega), o1 _ _ (by omega) (by omega), p _ _ (by omega) (by omega) (by omega)]; exact h.it r hr 3 (by omega)
        · rw [sup_o (by omega), o1 _ _ (by omega) (by omega), p _ _ (by omega) (by omega) (by omega)]; exact h.it r hr 4 (by omega)
        · show _ = iv (g_d3 (g_d2 (g_d1 N Y r 0) Y r s f) Y r) (Y + 31) r
          rw [sup_5, a5, o1 _ _ (by omega) (by omega), i4, d3_31, d2_31, d1_o (by omega)]; unfold fx
          rw [d2_o (by omega) (by omega) (by omega), d1_o (by omega)]
        · show _ = iv (g_d3 (g_d2 (g_d1 N Y r 0) Y r s f) Y r) (Y + 32) r
          rw [sup_o (by omega), a6, d3_o (by omega), d2_32, d1_o (by omega)]
        · show _ = iv (g_d3 (g_d2 (g_d1 N Y r 0) Y r s f) Y r) (Y + 33) r
          rw [sup_7, a5, o1 _ _ (by omega) (by omega), o1 _ _ (by omega) (by omega), i4, i7, d3_33, d2_31, d1_o (by omega)]; unfold fx
          rw [d2_o (by omega) (by omega) (by omega), d1_o (by omega), d2_o (by omega) (by omega) (by omega), d1_o (by omega)]
        · show _ = iv (g_d3 (g_d2 (g_d1 N Y r 0) Y r s f) Y r) (Y + 34) r
          rw [sup_o (by omega), o1 _ _ (by omega) (by omega), i8, d3_o (by omega), d2_o (by omega) (by omega) (by omega), d1_34, show g_d0 0 = 0 by decide, x_add0]
        · show _ = iv (g_d3 (g_d2 (g_d1 N Y r 0) Y r s f) Y r) (Y + 35) r
          rw [sup_o (by omega), a9, d3_o (by omega), d2_o (by omega) (by omega) (by omega), d1_35]
      · intro j hj
        rw [o _ _ (by omega) (by omega), p _ _ (by omega) (by omega) (by omega)]; exact h.it r hr j hj
    · rw [o _ _ (by omega) (by omega), p _ _ (by omega) (by omega) (by omega)]; exact h.rw
    · rw [o _ _ (by omega) (by omega), p _ _ (by omega) (by omega) (by omega)]; exact h.rs
    · rw [o _ _ (by omega) (by omega)]; exact h.ta i hi j
  · rw [if_neg hd, dr_1 hd]
    generalize hM1 : wi (wi M (B + 150 + k) 9 1) (B + 150 + k) 8 (iv M (B + 150 + k) 8 + 1) = M1
    have o1 : ∀ a i, (a ≠ B + 150 + k ∨ (i ≠ 9 ∧ i ≠ 8)) → iv M1 a i = iv M a i := fun a i q => by
      subst hM1; simp (disch := omega) only [iv_n]
    have a9 : iv M1 (B + 150 + k) 9 = 1 := by subst hM1; simp (disch := omega) only [iv_n, iv_s]
    have a8 : iv M1 (B + 150 + k) 8 = iv N (Y + 34) k + 1 := by subst hM1; simp (disch := omega) only [iv_n, iv_s, i8]
    have o : ∀ a i, (a ≠ B + 150 + k) → iv (m_sup M1 (B + 150 + k)) a i = iv M a i := fun a i q => by rw [sup_o (by omega), o1 _ _ (by omega)]
    have p : ∀ a i, (a ≤ Y + 30 ∨ Y + 36 ≤ a ∨ i ≠ k) → iv (g_d3 (g_d1 N Y k 1) Y k) a i = iv N a i := fun a i q => by
      rw [d3_o (by omega), d1_o (by omega)]
    refine ⟨fun i hi => ?_, fun i hi => ?_, fun i hi => ?_, fun i hi => ?_, fun i hi => ?_, fun i hi => ?_, fun i hi => ?_, fun i hi => ?_, fun i hi => ?_, fun i hi => ?_, fun r hr => ?_, ?_, ?_, fun i hi j => ?_⟩
    · rw [o _ _ (by omega), p _ _ (by omega)]; exact h.ar i hi
    · rw [o _ _ (by omega), p _ _ (by omega)]; exact h.mu i hi
    · rw [o _ _ (by omega), p _ _ (by omega)]; exact h.cl i hi
    · rw [o _ _ (by omega), p _ _ (by omega)]; exact h.ru i hi
    · rw [o _ _ (by omega), p _ _ (by omega)]; exact h.pe i hi
    · rw [o _ _ (by omega), p _ _ (by omega)]; exact h.wu i hi
    · rw [o _ _ (by omega), p _ _ (by omega)]; exact h.su i hi
    · rw [o _ _ (by omega), p _ _ (by omega)]; exact h.wl i hi
    · rw [o _ _ (by omega), p _ _ (by omega)]; exact h.sl i hi
    · subst hM1; exact h.sm i hi
    · by_cases q : r = k
      · subst q
        refine it10 ?_ ?_ ?_ ?_ ?_ ?_ ?_ ?_ ?_ ?_
        · rw [sup_o (by omega), o1 _ _ (by omega), p _ _ (by omega)]; exact h.it r hr 0 (by omega)
        · rw [sup_o (by omega), o1 _ _ (by omega), p _ _ (by omega)]; exact h.it r hr 1 (by omega)
        · rw [sup_o (by omega), o1 _ _ (by omega), p _ _ (by omega)]; exact h.it r hr 2 (by omega)
        · rw [sup_o (by omega), o1 _ _ (by omega), p _ _ (by omega)]; exact h.it r hr 3 (by omega)
        · rw [sup_o (by omega), o1 _ _ (by omega), p _ _ (by omega)]; exact h.it r hr 4 (by omega)
        · show _ = iv (g_d3 (g_d1 N Y r 1) Y r) (Y + 31) r
          rw [sup_5, o1 _ _ (by omega), o1 _ _ (by omega), i4, i5, d3_31, d1_o (by omega)]; unfold fx
          rw [d1_o (by omega)]
        · show _ = iv (g_d3 (g_d1 N Y r 1) Y r) (Y + 32) r
          rw [sup_o (by omega), o1 _ _ (by omega), i6, d3_o (by omega), d1_o (by omega)]
        · show _ = iv (g_d3 (g_d1 N Y r 1) Y r) (Y + 33) r
          rw [sup_7, o1 _ _ (by omega), o1 _ _ (by omega), o1 _ _ (by omega), i4, i5, i7, d3_33, d1_o (by omega), d1_o (by omega)]; unfold fx
          rw [d1_o (by omega), d1_o (by omega)]
        · show _ = iv (g_d3 (g_d1 N Y r 1) Y r) (Y + 34) r
          rw [sup_o (by omega), a8, d3_o (by omega), d1_34, show g_d0 1 = 1 by decide]
        · show _ = iv (g_d3 (g_d1 N Y r 1) Y r) (Y + 35) r
          rw [sup_o (by omega), a9, d3_o (by omega), d1_35]
      · intro j hj
        rw [o _ _ (by omega), p _ _ (by omega)]; exact h.it r hr j hj
    · rw [o _ _ (by omega), p _ _ (by omega)]; exact h.rw
    · rw [o _ _ (by omega), p _ _ (by omega)]; exact h.rs
    · rw [o _ _ (by omega)]; exact h.ta i hi j
