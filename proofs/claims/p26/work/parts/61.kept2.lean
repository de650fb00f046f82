/-! what is kept: the sea, the river, the intakes -/
theorem i_30 : (30 : Int32).toInt = 30 := by decide
theorem qj_add {N : w_M} {Y i : Nat} {x : Int32} (b0 : 0 ≤ qj N Y i) (b1 : qj N Y i ≤ 2 ^ 60) (k : Nat) : qj (gsadd N Y i x.toInt64) Y k = qj N Y k + (if k = i then x.toInt else 0) := by
  unfold qj at *
  unfold gsadd
  by_cases q : k = i
  · subst q; rw [jv_s, j_add b0 b1, if_pos rfl]
  · rw [jv_n (by omega), if_neg q]; omega
theorem fq1_f {N : w_M} {Y n : Nat} {W C : Int} {x : Int32} (h : gB N Y n W C) (h0 : 0 < n) (hW : W < 2 ^ 28) (hC : C < 2 ^ 28) (x0 : -1000 ≤ x.toInt) (x1 : x.toInt ≤ 2400) (hd : 0 < x - g_lev N Y 0) : 0 ≤ (fq1 N Y x).toInt ∧ (fq1 N Y x).toInt ≤ 50 * x.toInt := by
  have a := lev_b h hW hC h0
  have e := fq_d h h0 hW hC x0 x1
  have ar := h.ar 0 h0
  rw [i_lt, i_0] at hd
  have q := dm_b (d := x - g_lev N Y 0) (m := iv N (Y + 17) 0) (L := x.toInt) (a := 100) (Z := x.toInt * 100) (by omega) (by omega) (by omega) ar.2 (by omega) (by omega)
  have q4 := d2_b q.1
  unfold fq1; omega
theorem gB_moF {N : w_M} {Y n : Nat} {W C X : Int} {x : Int32} (h : gB N Y n W C) (h0 : 0 < n) (hn : n ≤ 8) (hW : W < 2 ^ 28) (hC : C < 2 ^ 28) (x0 : -1000 ≤ x.toInt) (x1 : x.toInt ≤ 2400) (hX : x.toInt ≤ X) (hX0 : 0 ≤ X) : gB (g_mo N Y x) Y n (W + 50 * X) C := by
  rw [g_mo_e]; split
  · rename_i hd
    obtain ⟨f0, f1⟩ := fq1_f h h0 hW hC x0 x1 hd
    generalize fq1 N Y x = f at *
    have w := h.w h0
    have a1 := h.wu _ h0; have a2 := h.wl _ h0
    have e1 : (iv N (Y + 22) 8 + f).toInt = (iv N (Y + 22) 8).toInt + f.toInt := i_add (by simp only [Nat.add_zero] at a2; omega) (by simp only [Nat.add_zero] at w; omega)
    have v1 : iv (g_mo1 N Y f) (Y + 22) 8 = iv N (Y + 22) 8 + f := by unfold g_mo1 gsadd g_a; simp (disch := omega) only [iv_wj, iv_n, iv_s]
    have o : ∀ a j, (a ≠ Y + 22 ∨ j ≠ 8) → a ≠ Y + 23 → iv (g_mo1 N Y f) a j = iv N a j := fun a j q q2 => by unfold g_mo1 gsadd g_a; simp (disch := omega) only [iv_wj, iv_n]
    refine (gB.one (50 * X) 0 h h0 (fun i hi => o _ _ (by omega) (by omega)) (fun i hi q => o _ _ (by omega) (by omega)) (fun i hi q => o _ _ (by omega) (by omega)) (fun i hi q => o _ _ (by omega) (by omega)) (fun i hi q => o _ _ (by omega) (by omega)) ?_ ?_ ?_ ?_ ?_ ?_).mono (by omega) (by omega)
    · rw [o _ _ (by omega) (by omega)]; exact a1
    · rw [Nat.add_zero, v1, e1]; simp only [Nat.add_zero] at a2; omega
    · rw [o _ _ (by omega) (by omega)]; exact h.mu _ h0
    · rw [o _ _ (by omega) (by omega)]; exact h.cl _ h0
    · show _ + (iv (g_mo1 N Y f) (Y + 22) 8).toInt ≤ (iv N (Y + 22) 0).toInt + (iv N (Y + 22) 8).toInt + 50 * X
      rw [o (Y + 22) 0 (by omega) (by omega), v1, e1]; omega
    · rw [o _ _ (by omega) (by omega), o _ _ (by omega) (by omega)]; omega
  · rename_i hd
    have g := gB_mo h h0 hn hW hC x0 x1
    rw [g_mo_e, if_neg hd] at g
    obtain ⟨f0, f1⟩ := fq2_b h h0 hW hC x0 x1 hd
    generalize fq2 N Y x = f at *
    have o : ∀ a j, iv (g_mo2 N Y f) a j = iv (g_lv N Y 0 0 f) a j := fun a j => rfl
    refine ⟨g.ar, g.wu, g.wl, g.mu, g.cl, ?_, g.C⟩
    have a1 := h.wu _ h0
    have a2 := i_rg (iv N (Y + 22) 0)
    have e1 : (iv N (Y + 22) 0 - f).toInt = (iv N (Y + 22) 0).toInt - f.toInt := i_sub (by omega) (by omega)
    have e := sm_1 (f := fun s => (iv N (Y + 22) s).toInt + (iv N (Y + 22) (8 + s)).toInt) (g := fun s => (iv (g_mo2 N Y f) (Y + 22) s).toInt + (iv (g_mo2 N Y f) (Y + 22) (8 + s)).toInt) h0 (fun i hi q => by
      show (iv (g_mo2 N Y f) (Y + 22) i).toInt + (iv (g_mo2 N Y f) (Y + 22) (8 + i)).toInt = _
      rw [o, o, lv0_w, if_neg q, lv0_w, if_neg (by omega)])
    have v0 : iv (g_mo2 N Y f) (Y + 22) 0 = iv N (Y + 22) 0 - f := by rw [o, lv0_w, if_pos rfl]
    have v8 : iv (g_mo2 N Y f) (Y + 22) (8 + 0) = iv N (Y + 22) (8 + 0) := by rw [o, lv0_w, if_neg (by omega)]
    rw [v0, v8, e1] at e
    have := h.W
    omega
theorem kA_mo1 {N : w_M} {Y n ic : Nat} {c : Int32} {W0 M0 Z W C : Int} (h : kA N Y n ic W0 M0 Z) (b : gB N Y n W C) (h0 : 0 < n) (hn : n ≤ 8) (hW : W + 240000 < 2 ^ 26) (hZ : Z ≤ 2 ^ 59) (c0 : 0 ≤ c.toInt) (c1 : c.toInt ≤ 240000) : kA (g_mo1 N Y c) Y n ic W0 M0 (Z + 2 ^ 31) := by
  obtain ⟨hS, h1, h2, h3, h4, h5, h6⟩ := h
  have l8 : ly n 8 := Or.inr ⟨by omega, by omega⟩
  obtain ⟨x0, x1⟩ := hS 8 l8
  have b8 := b.ly l8
  have e30 : (30 * c).toInt = 30 * c.toInt := by rw [i_mul (by rw [i_30]; omega) (by rw [i_30]; omega), i_30]
  have e1 : (iv N (Y + 22) 8 + c).toInt = (iv N (Y + 22) 8).toInt + c.toInt := i_add (by omega) (by omega)
  have e2 : (iv N (Y + 23) 8 + 30 * c).toInt = (iv N (Y + 23) 8).toInt + 30 * c.toInt := by rw [i_add (by omega) (by omega), e30]
  have v1 : iv (g_mo1 N Y c) (Y + 22) 8 = iv N (Y + 22) 8 + c := by unfold g_mo1 gsadd g_a; simp (disch := omega) only [iv_wj, iv_n, iv_s]
  have v2 : iv (g_mo1 N Y c) (Y + 23) 8 = iv N (Y + 23) 8 + 30 * c := by unfold g_mo1 gsadd g_a; simp (disch := omega) only [iv_wj, iv_n, iv_s]
  have o : ∀ a j, (a ≠ Y + 22 ∨ j ≠ 8) → (a ≠ Y + 23 ∨ j ≠ 8) → iv (g_mo1 N Y c) a j = iv N a j := fun a j q q2 => by unfold g_mo1 gsadd g_a; simp (disch := omega) only [iv_wj, iv_n]
  have z0 := h6 0 (by omega)
  have z4 := h6 4 (by omega)
  have q0 : ∀ k, qj (gsadd (g_a (g_a N (Y + 22) 8 c) (Y + 23) 8 (30 * c)) Y 0 c.toInt64) Y k = qj N Y k + (if k = 0 then c.toInt else 0) := fun k => qj_add (N := g_a (g_a N (Y + 22) 8 c) (Y + 23) 8 (30 * c)) z0.1 (show qj N Y 0 ≤ _ by omega) k
  have q4 : ∀ k, qj (g_mo1 N Y c) Y k = qj N Y k + (if k = 0 then c.toInt else 0) + (if k = 4 then 30 * c.toInt else 0) := fun k => by
    have r4 := q0 4
    simp only [if_neg (show ¬ (4 : Nat) = 0 by omega), Int.add_zero] at r4
    unfold g_mo1
    rw [qj_add (by omega) (by omega), q0, e30]
  have jW : qW (g_mo1 N Y c) Y n = qW N Y n + c.toInt := one_sum (w := fun i => (iv N (Y + 22) i).toInt) (w' := fun i => (iv (g_mo1 N Y c) (Y + 22) i).toInt) (s := 0) (a := 8) (Or.inr rfl) hn h0 (by show (iv (g_mo1 N Y c) (Y + 22) 8).toInt = (iv N (Y + 22) 8).toInt + _; rw [v1, e1]) (fun i q => by show (iv (g_mo1 N Y c) (Y + 22) i).toInt = _; rw [o _ _ (by omega) (by omega)])
  have jS : qS (g_mo1 N Y c) Y n = qS N Y n + 30 * c.toInt := one_sum (w := fun i => (iv N (Y + 23) i).toInt) (w' := fun i => (iv (g_mo1 N Y c) (Y + 23) i).toInt) (s := 0) (a := 8) (Or.inr rfl) hn h0 (by show (iv (g_mo1 N Y c) (Y + 23) 8).toInt = (iv N (Y + 23) 8).toInt + _; rw [v2, e2]) (fun i q => by show (iv (g_mo1 N Y c) (Y + 23) i).toInt = _; rw [o _ _ (by omega) (by omega)])
  have jM : qM (g_mo1 N Y c) Y n = qM N Y n := by unfold qM; exact sm_eq (fun i hi => by rw [o _ _ (by omega) (by omega), o _ _ (by omega) (by omega)])
  have jT : qT (g_mo1 N Y c) Y ic = qT N Y ic := by unfold qT; exact sm_eq (fun i hi => by rw [o _ _ (by omega) (by omega)])
  have r : ∀ k, k ≠ 0 → k ≠ 4 → qj (g_mo1 N Y c) Y k = qj N Y k := fun k a a' => by rw [q4, if_neg a, if_neg a']; omega
  have r0 : qj (g_mo1 N Y c) Y 0 = qj N Y 0 + c.toInt := by rw [q4, if_pos rfl, if_neg (by omega)]; omega
  have r4 : qj (g_mo1 N Y c) Y 4 = qj N Y 4 + 30 * c.toInt := by rw [q4, if_neg (by omega), if_pos rfl]; omega
  refine ⟨fun i hi => ?_, by rw [jW, r0, r 1 (by omega) (by omega), r 2 (by omega) (by omega), r 3 (by omega) (by omega)]; omega, by rw [jS, r4, r 5 (by omega) (by omega), r 6 (by omega) (by omega)]; omega, by rw [jM, r 7 (by omega) (by omega), r 8 (by omega) (by omega), r 9 (by omega) (by omega)]; exact h3, by rw [r0, r4]; omega, by rw [jT, r 3 (by omega) (by omega)]; exact h5, fun i hi => ?_⟩
  · by_cases q : i = 8
    · subst q; rw [v1, v2, e1, e2]; omega
    · rw [o _ _ (by omega) (by omega), o _ _ (by omega) (by omega)]; exact hS i hi
  · have z := h6 i hi
    by_cases q : i = 0
    · subst q; rw [r0]; omega
    · by_cases q' : i = 4
      · subst q'; rw [r4]; omega
      · rw [r i q q']; omega
theorem kA_mo2 {N : w_M} {Y n ic : Nat} {f : Int32} {W0 M0 Z W C : Int} (h : kA N Y n ic W0 M0 Z) (b : gB N Y n W C) (h0 : 0 < n) (hn : n ≤ 8) (hW : W < 2 ^ 26) (hC : C < 2 ^ 28) (hZ : Z ≤ 2 ^ 59) (f0 : 0 ≤ f.toInt) (f1 : f.toInt ≤ (iv N (Y + 22) 0).toInt) : kA (g_mo2 N Y f) Y n ic W0 M0 (Z + 2 ^ 31) := by
  obtain ⟨hS, h1, h2, h3, h4, h5, h6⟩ := h
  have l0 : ly n 0 := Or.inl h0
  obtain ⟨x0, x1⟩ := hS 0 l0
  have b0 := b.ly l0
  have c0 := b.cl 0 h0; have m0 := b.mu 0 h0; have cc := b.c h0
  have o : ∀ a j, iv (g_mo2 N Y f) a j = iv (g_lv N Y 0 0 f) a j := fun a j => rfl
  have v1 : ∀ i, iv (g_mo2 N Y f) (Y + 22) i = if i = 0 then iv N (Y + 22) i - f else iv N (Y + 22) i := fun i => by rw [o, lv0_w]
  have v2 : ∀ i, iv (g_mo2 N Y f) (Y + 23) i = if i = 0 then iv N (Y + 23) i - f_shr (iv N (Y + 23) i) f (iv N (Y + 22) i) else iv N (Y + 23) i := fun i => by rw [o, lv0_s]
  have v3 : ∀ i, iv (g_mo2 N Y f) (Y + 19) i = if i = 0 then iv N (Y + 19) i - f_shr (iv N (Y + 19) i) f (iv N (Y + 22) i) else iv N (Y + 19) i := fun i => by rw [o, lv0_c]
  have p41 : iv (g_lv N Y 0 0 f) Y 41 = f_shr (iv N (Y + 23) 0) f (iv N (Y + 22) 0) := lv0_41
  have p42 : iv (g_lv N Y 0 0 f) Y 42 = f_shr (iv N (Y + 19) 0) f (iv N (Y + 22) 0) := lv0_42
  have v1s := v1 0; have v2s := v2 0; have v3s := v3 0
  rw [if_pos rfl] at v1s v2s v3s
  obtain ⟨k0, k1, k2, k3⟩ := shr_k x0 x1 f0 f1
  obtain ⟨y0, y1⟩ := shr_b (a := iv N (Y + 19) 0) c0 f0 f1
  have z1 := h6 1 (by omega); have z5 := h6 5 (by omega); have z8 := h6 8 (by omega)
  have q1 : ∀ k, qj (g_mo2a N Y f) Y k = qj N Y k + (if k = 1 then f.toInt else 0) := fun k => qj_add (N := g_lv N Y 0 0 f) z1.1 (show qj N Y 1 ≤ _ by omega) k
  have q5 : ∀ k, qj (g_mo2b (g_mo2a N Y f) Y) Y k = qj N Y k + (if k = 1 then f.toInt else 0) + (if k = 5 then (f_shr (iv N (Y + 23) 0) f (iv N (Y + 22) 0)).toInt else 0) := fun k => by
    have r := q1 5
    simp only [if_neg (show ¬ (5 : Nat) = 1 by omega), Int.add_zero] at r
    unfold g_mo2b
    rw [qj_add (by omega) (by omega), q1, show iv (g_mo2a N Y f) Y 41 = f_shr (iv N (Y + 23) 0) f (iv N (Y + 22) 0) from p41]
  have q8 : ∀ k, qj (g_mo2 N Y f) Y k = qj N Y k + (if k = 1 then f.toInt else 0) + (if k = 5 then (f_shr (iv N (Y + 23) 0) f (iv N (Y + 22) 0)).toInt else 0) + (if k = 8 then (f_shr (iv N (Y + 19) 0) f (iv N (Y + 22) 0)).toInt else 0) := fun k => by
    have r := q5 8
    simp only [if_neg (show ¬ (8 : Nat) = 1 by omega), if_neg (show ¬ (8 : Nat) = 5 by omega), Int.add_zero] at r
    unfold g_mo2 g_mo2c
    rw [qj_add (by omega) (by omega), q5, show iv (g_mo2b (g_mo2a N Y f) Y) Y 42 = f_shr (iv N (Y + 19) 0) f (iv N (Y + 22) 0) from p42]
  generalize f_shr (iv N (Y + 23) 0) f (iv N (Y + 22) 0) = x at *
  generalize f_shr (iv N (Y + 19) 0) f (iv N (Y + 22) 0) = y at *
  have e1 : (iv N (Y + 22) 0 - f).toInt = (iv N (Y + 22) 0).toInt - f.toInt := i_sub (by omega) (by omega)
  have e2 : (iv N (Y + 23) 0 - x).toInt = (iv N (Y + 23) 0).toInt - x.toInt := i_sub (by omega) (by omega)
  have e3 : (iv N (Y + 19) 0 - y).toInt = (iv N (Y + 19) 0).toInt - y.toInt := i_sub (by omega) (by omega)
  have r1 : qj (g_mo2 N Y f) Y 1 = qj N Y 1 + f.toInt := by rw [q8, if_pos rfl, if_neg (by omega), if_neg (by omega)]; omega
  have r5 : qj (g_mo2 N Y f) Y 5 = qj N Y 5 + x.toInt := by rw [q8, if_neg (by omega), if_pos rfl, if_neg (by omega)]; omega
  have r8 : qj (g_mo2 N Y f) Y 8 = qj N Y 8 + y.toInt := by rw [q8, if_neg (by omega), if_neg (by omega), if_pos rfl]; omega
  have r : ∀ k, k ≠ 1 → k ≠ 5 → k ≠ 8 → qj (g_mo2 N Y f) Y k = qj N Y k := fun k a a2 a3 => by rw [q8, if_neg a, if_neg a2, if_neg a3]; omega
  have jW : qW (g_mo2 N Y f) Y n = qW N Y n + (-f.toInt) := one_sum (w := fun i => (iv N (Y + 22) i).toInt) (w' := fun i => (iv (g_mo2 N Y f) (Y + 22) i).toInt) (s := 0) (a := 0) (Or.inl rfl) hn h0 (by show (iv (g_mo2 N Y f) (Y + 22) 0).toInt = (iv N (Y + 22) 0).toInt + _; rw [v1s, e1]; omega) (fun i q => by show (iv (g_mo2 N Y f) (Y + 22) i).toInt = _; rw [v1, if_neg (by omega)])
  have jS : qS (g_mo2 N Y f) Y n = qS N Y n + (-x.toInt) := one_sum (w := fun i => (iv N (Y + 23) i).toInt) (w' := fun i => (iv (g_mo2 N Y f) (Y + 23) i).toInt) (s := 0) (a := 0) (Or.inl rfl) hn h0 (by show (iv (g_mo2 N Y f) (Y + 23) 0).toInt = (iv N (Y + 23) 0).toInt + _; rw [v2s, e2]; omega) (fun i q => by show (iv (g_mo2 N Y f) (Y + 23) i).toInt = _; rw [v2, if_neg (by omega)])
  have m18 : ∀ i, iv (g_mo2 N Y f) (Y + 18) i = iv N (Y + 18) i := fun i => by rw [o, lv0_o (by omega) (by omega) (by omega) (by omega)]
  have jM : qM (g_mo2 N Y f) Y n = qM N Y n - y.toInt := by
    have e := sm_1 (f := fun s => (iv N (Y + 18) s).toInt + (iv N (Y + 19) s).toInt) (g := fun s => (iv (g_mo2 N Y f) (Y + 18) s).toInt + (iv (g_mo2 N Y f) (Y + 19) s).toInt) h0 (fun i hi q => by
      show (iv (g_mo2 N Y f) (Y + 18) i).toInt + (iv (g_mo2 N Y f) (Y + 19) i).toInt = _
      rw [m18, v3, if_neg q])
    rw [m18, v3s, e3] at e
    unfold qM; omega
  have jT : qT (g_mo2 N Y f) Y ic = qT N Y ic := by unfold qT; exact sm_eq (fun i hi => by rw [o, lv0_o (by omega) (by omega) (by omega) (by omega)])
  refine ⟨fun i hi => ?_, by rw [jW, r1, r 0 (by omega) (by omega) (by omega), r 2 (by omega) (by omega) (by omega), r 3 (by omega) (by omega) (by omega)]; omega, by rw [jS, r5, r 4 (by omega) (by omega) (by omega), r 6 (by omega) (by omega) (by omega)]; omega, by rw [jM, r8, r 7 (by omega) (by omega) (by omega), r 9 (by omega) (by omega) (by omega)]; omega, by rw [r 0 (by omega) (by omega) (by omega), r 4 (by omega) (by omega) (by omega)]; exact h4, by rw [jT, r 3 (by omega) (by omega) (by omega)]; exact h5, fun i hi => ?_⟩
  · by_cases q : i = 0
    · subst q; rw [v1s, v2s, e1, e2]; omega
    · rw [v1, v2, if_neg q, if_neg q]; exact hS i hi
  · have z := h6 i hi
    by_cases q : i = 1
    · subst q; rw [r1]; omega
    · by_cases q' : i = 5
      · subst q'; rw [r5]; omega
      · by_cases q'' : i = 8
        · subst q''; rw [r8]; omega
        · rw [r i q q' q'']; omega
theorem kA_mo {N : w_M} {Y n ic : Nat} {x : Int32} {W0 M0 Z W C : Int} (h : kA N Y n ic W0 M0 Z) (b : gB N Y n W C) (h0 : 0 < n) (hn : n ≤ 8) (hW : W + 240000 < 2 ^ 26) (hC : C < 2 ^ 28) (hZ : Z ≤ 2 ^ 59) (x0 : -1000 ≤ x.toInt) (x1 : x.toInt ≤ 2400) : kA (g_mo N Y x) Y n ic W0 M0 (Z + 2 ^ 31) := by
  rw [g_mo_e]; split
  · rename_i hd
    obtain ⟨f0, f1⟩ := fq1_b b h0 (by omega) hC x0 x1 hd
    exact kA_mo1 h b h0 hn hW hZ f0 (by omega)
  · rename_i hd
    obtain ⟨f0, f1⟩ := fq2_b b h0 (by omega) hC x0 x1 hd
    exact kA_mo2 h b h0 hn (by omega) hC hZ f0 f1
theorem kA_rv {N : w_M} {Y n ic : Nat} {W0 M0 Z W C : Int} (h : kA N Y n ic W0 M0 Z) (b : gB N Y n W C) (h0 : 0 < n) (hn : n ≤ 8) (hW : W < 2 ^ 26) (hC : C < 2 ^ 28) (hZ : Z ≤ 2 ^ 59) (w0 : 0 ≤ (iv N Y 8).toInt) (w1 : (iv N Y 8).toInt ≤ 500) (s0 : 0 ≤ (iv N Y 9).toInt) (s1 : (iv N Y 9).toInt ≤ 500) : kA (g_rv N Y n) Y n ic W0 M0 (Z + 2 ^ 31) := by
  obtain ⟨hS, h1, h2, h3, h4, h5, h6⟩ := h
  have hs : n - 1 < n := by omega
  have lu : ly n (n - 1) := Or.inl hs
  have x := hS _ lu
  have bw := b.ly lu
  have c := b.c hs; have b1 := b.mu _ hs; have b2 := b.cl _ hs
  have e1 : (iv N (Y + 22) (n - 1) + iv N Y 8).toInt = (iv N (Y + 22) (n - 1)).toInt + (iv N Y 8).toInt := i_add (by omega) (by omega)
  have e2 : (iv N (Y + 19) (n - 1) + iv N Y 9).toInt = (iv N (Y + 19) (n - 1)).toInt + (iv N Y 9).toInt := i_add (by omega) (by omega)
  have v1 : iv (g_rv N Y n) (Y + 22) (n - 1) = iv N (Y + 22) (n - 1) + iv N Y 8 := by unfold g_rv g_rv4 g_rv3 g_rv2 g_rv1 gsadd g_a; simp (disch := omega) only [iv_wj, iv_n, iv_s]
  have v2 : iv (g_rv N Y n) (Y + 19) (n - 1) = iv N (Y + 19) (n - 1) + iv N Y 9 := by unfold g_rv g_rv4 g_rv3 g_rv2 g_rv1 gsadd g_a; simp (disch := omega) only [iv_wj, iv_n, iv_s]
  have o : ∀ a j, (a ≠ Y + 22 ∨ j ≠ n - 1) → (a ≠ Y + 19 ∨ j ≠ n - 1) → iv (g_rv N Y n) a j = iv N a j := fun a j q q2 => by unfold g_rv g_rv4 g_rv3 g_rv2 g_rv1 gsadd g_a; simp (disch := omega) only [iv_wj, iv_n]
  have z2 := h6 2 (by omega); have z7 := h6 7 (by omega)
  have p8 : iv (g_rv2 (g_rv1 N Y n) Y n) Y 8 = iv N Y 8 := by unfold g_rv2 g_rv1 g_a; simp (disch := omega) only [iv_n]
  have p9 : iv (g_rv3 (g_rv2 (g_rv1 N Y n) Y n) Y) Y 9 = iv N Y 9 := by unfold g_rv3 g_rv2 g_rv1 gsadd g_a; simp (disch := omega) only [iv_wj, iv_n]
  have q2 : ∀ k, qj (g_rv3 (g_rv2 (g_rv1 N Y n) Y n) Y) Y k = qj N Y k + (if k = 2 then (iv N Y 8).toInt else 0) := fun k => by
    unfold g_rv3; rw [p8]
    exact qj_add (N := g_rv2 (g_rv1 N Y n) Y n) z2.1 (show qj N Y 2 ≤ _ by omega) k
  have q7 : ∀ k, qj (g_rv N Y n) Y k = qj N Y k + (if k = 2 then (iv N Y 8).toInt else 0) + (if k = 7 then (iv N Y 9).toInt else 0) := fun k => by
    have r := q2 7
    simp only [if_neg (show ¬ (7 : Nat) = 2 by omega), Int.add_zero] at r
    unfold g_rv g_rv4; rw [p9, qj_add (by omega) (by omega), q2]
  have r2 : qj (g_rv N Y n) Y 2 = qj N Y 2 + (iv N Y 8).toInt := by rw [q7, if_pos rfl, if_neg (by omega)]; omega
  have r7 : qj (g_rv N Y n) Y 7 = qj N Y 7 + (iv N Y 9).toInt := by rw [q7, if_neg (by omega), if_pos rfl]; omega
  have r : ∀ k, k ≠ 2 → k ≠ 7 → qj (g_rv N Y n) Y k = qj N Y k := fun k a a2 => by rw [q7, if_neg a, if_neg a2]; omega
  have jW : qW (g_rv N Y n) Y n = qW N Y n + (iv N Y 8).toInt := one_sum (w := fun i => (iv N (Y + 22) i).toInt) (w' := fun i => (iv (g_rv N Y n) (Y + 22) i).toInt) (s := n - 1) (a := 0) (Or.inl rfl) hn hs (by simp only [Nat.zero_add]; rw [v1, e1]) (fun i q => by show (iv (g_rv N Y n) (Y + 22) i).toInt = _; rw [o _ _ (by omega) (by omega)])
  have jS : qS (g_rv N Y n) Y n = qS N Y n := by unfold qS; exact sm_eq (fun i hi => by rw [o _ _ (by omega) (by omega), o _ _ (by omega) (by omega)])
  have jT : qT (g_rv N Y n) Y ic = qT N Y ic := by unfold qT; exact sm_eq (fun i hi => by rw [o _ _ (by omega) (by omega)])
  have jM : qM (g_rv N Y n) Y n = qM N Y n + (iv N Y 9).toInt := by
    have e := sm_1 (f := fun s => (iv N (Y + 18) s).toInt + (iv N (Y + 19) s).toInt) (g := fun s => (iv (g_rv N Y n) (Y + 18) s).toInt + (iv (g_rv N Y n) (Y + 19) s).toInt) hs (fun i hi q => by
      show (iv (g_rv N Y n) (Y + 18) i).toInt + (iv (g_rv N Y n) (Y + 19) i).toInt = _
      rw [o _ _ (by omega) (by omega), o _ _ (by omega) (by omega)])
    rw [o (Y + 18) _ (by omega) (by omega), v2, e2] at e
    unfold qM; omega
  refine ⟨fun i hi => ?_, by rw [jW, r2, r 0 (by omega) (by omega), r 1 (by omega) (by omega), r 3 (by omega) (by omega)]; omega, by rw [jS, r 4 (by omega) (by omega), r 5 (by omega) (by omega), r 6 (by omega) (by omega)]; exact h2, by rw [jM, r7, r 8 (by omega) (by omega), r 9 (by omega) (by omega)]; omega, by rw [r 0 (by omega) (by omega), r 4 (by omega) (by omega)]; exact h4, by rw [jT, r 3 (by omega) (by omega)]; exact h5, fun i hi => ?_⟩
  · rw [o (Y + 23) _ (by omega) (by omega)]
    by_cases q : i = n - 1
    · subst q; rw [v1, e1]; omega
    · rw [o _ _ (by omega) (by omega)]; exact hS i hi
  · have z := h6 i hi
    by_cases q : i = 2
    · subst q; rw [r2]; omega
    · by_cases q' : i = 7
      · subst q'; rw [r7]; omega
      · rw [r i q q']; omega
/-- an intake by its own numbers, t hours on -/
def kI (N : w_M) (Y k : Nat) (t : Int) : Prop := (iv N (Y + 27) k).toInt ≤ 500 ∧ (iv N (Y + 30) k).toInt ≤ 500 ∧ 0 ≤ (iv N (Y + 32) k).toInt ∧ (iv N (Y + 32) k).toInt ≤ 500 * t ∧ 0 ≤ (iv N (Y + 33) k).toInt ∧ (iv N (Y + 33) k).toInt ≤ 500 * t ∧ (iv N (Y + 35) k = 0 ∨ iv N (Y + 35) k = 1) ∧ (iv N (Y + 35) k).toInt ≤ (iv N (Y + 34) k).toInt ∧ (iv N (Y + 34) k).toInt ≤ t
theorem kI.same {N N' : w_M} {Y k : Nat} {t : Int} (h : kI N Y k t) (e : ∀ a, 27 ≤ a → a ≤ 35 → iv N' (Y + a) k = iv N (Y + a) k) : kI N' Y k t := by
  unfold kI at *
  rw [e 27 (by omega) (by omega), e 30 (by omega) (by omega), e 32 (by omega) (by omega), e 33 (by omega) (by omega), e 34 (by omega) (by omega), e 35 (by omega) (by omega)]
  exact h
theorem df_ra {N : w_M} {Y k s : Nat} : (g_df N Y k s).toInt ≤ (iv N (Y + 27) k).toInt := by
  unfold g_df
  have a := (lt_b (f_lt (iv N (Y + 27) k) (iv N (Y + 22) s)) (iv N (Y + 29) k - iv N (Y + 31) k)).1
  have b := (lt_b (iv N (Y + 27) k) (iv N (Y + 22) s)).1
  omega
/-- a drink: what comes of the cells -/
theorem dr_c {N : w_M} {Y k s : Nat} (f : Int32) (hf : f = if g_ds N Y k s = 0 then g_df N Y k s else 0) : (∀ a i, (a < 31 ∨ 35 < a) → a ≠ 22 → a ≠ 23 → (a = 0 → i ≠ 41 ∧ i ≠ 42) → iv (g_dr N Y k s) (Y + a) i = iv N (Y + a) i) ∧ (∀ a i, 31 ≤ a → a ≤ 35 → i ≠ k → iv (g_dr N Y k s) (Y + a) i = iv N (Y + a) i) ∧ (∀ i, iv (g_dr N Y k s) (Y + 22) i = if i = s then iv N (Y + 22) i - f else iv N (Y + 22) i) ∧ (∀ i, iv (g_dr N Y k s) (Y + 23) i = if i = s then iv N (Y + 23) i - f_shr (iv N (Y + 23) i) f (iv N (Y + 22) i) else iv N (Y + 23) i) ∧ iv (g_dr N Y k s) (Y + 32) k = iv N (Y + 32) k + f ∧ iv (g_dr N Y k s) (Y + 33) k = iv N (Y + 33) k + (iv N (Y + 30) k - f_lt (iv N (Y + 30) k) (iv N (Y + 31) k + f)) ∧ iv (g_dr N Y k s) (Y + 34) k = iv N (Y + 34) k + g_ds N Y k s ∧ iv (g_dr N Y k s) (Y + 35) k = g_ds N Y k s ∧ (∀ i, jv (g_dr N Y k s) (Y + 40) i = if g_ds N Y k s = 0 then (if i = 6 then jv N (Y + 40) i + (f_shr (iv N (Y + 23) s) f (iv N (Y + 22) s)).toInt64 else if i = 3 then jv N (Y + 40) i + f.toInt64 else jv N (Y + 40) i) else jv N (Y + 40) i) := by
  by_cases hd : g_ds N Y k s = 0
  · rw [if_pos hd] at hf; subst hf
    rw [dr_0 hd, hd]
    refine ⟨fun a i q1 q2 q3 q4 => ?_, fun a i q1 q2 q3 => ?_, fun i => ?_, fun i => ?_, ?_, ?_, ?_, ?_, fun i => ?_⟩
    · rw [d3_o (by omega), d2_o (by omega) (by omega) (by rcases Nat.eq_zero_or_pos a with z | z; exact Or.inr (q4 z); exact Or.inl (by omega)), d1_o (by omega)]
    · rw [d3_o (by omega), d2_o (by omega) (by omega) (by omega), d1_o (by omega)]
    · by_cases q : i = s
      · subst q; rw [if_pos rfl, d3_o (by omega), d2_22, d1_o (by omega)]
      · rw [if_neg q, d3_o (by omega), d2_o (by omega) (by omega) (by omega), d1_o (by omega)]
    · by_cases q : i = s
      · subst q; rw [if_pos rfl, d3_o (by omega), d2_23, d1_o (by omega), d1_o (by omega)]
      · rw [if_neg q, d3_o (by omega), d2_o (by omega) (by omega) (by omega), d1_o (by omega)]
    · rw [d3_o (by omega), d2_32, d1_o (by omega)]
    · rw [d3_33]; unfold fx; rw [d2_31, d2_o (by omega) (by omega) (by omega), d2_o (by omega) (by omega) (by omega), d1_o (by omega), d1_o (by omega), d1_o (by omega)]
    · rw [d3_o (by omega), d2_o (by omega) (by omega) (by omega), d1_34]; rfl
    · rw [d3_o (by omega), d2_o (by omega) (by omega) (by omega), d1_35]
    · rw [dr_d3j, d2_j, dr_d1j, d1_o (by omega), d1_o (by omega), if_pos rfl]
  · rw [if_neg hd] at hf; subst hf
    have h1 : g_ds N Y k s = 1 := (ds_01 N Y k s).resolve_left hd
    rw [dr_1 hd, h1]
    refine ⟨fun a i q1 q2 q3 q4 => ?_, fun a i q1 q2 q3 => ?_, fun i => ?_, fun i => ?_, ?_, ?_, ?_, ?_, fun i => ?_⟩
    · rw [d3_o (by omega), d1_o (by omega)]
    · rw [d3_o (by omega), d1_o (by omega)]
    · rw [d3_o (by omega), d1_o (by omega), x_sub0]; split <;> rfl
    · rw [d3_o (by omega), d1_o (by omega), shr_z, x_sub0]; split <;> rfl
    · rw [d3_o (by omega), d1_o (by omega), x_add0]
    · rw [d3_33]; unfold fx; rw [d1_o (by omega), d1_o (by omega), d1_o (by omega), x_add0]
    · rw [d3_o (by omega), d1_34]; rfl
    · rw [d3_o (by omega), d1_35]
    · rw [dr_d3j, dr_d1j, if_neg (by decide)]
theorem kA_dr {N : w_M} {Y n ic k s : Nat} {t W0 M0 Z W C : Int} (h : kA N Y n ic W0 M0 Z) (g : gI N Y n ic) (b : gB N Y n W C) (i9 : kI N Y k t) (ht0 : 0 ≤ t) (ht : t ≤ 1000) (hn : n ≤ 8) (hW : W < 2 ^ 26) (hk : k < ic) (hs : s < n) (hZ : Z ≤ 2 ^ 59) : kA (g_dr N Y k s) Y n ic W0 M0 (Z + 2 ^ 31) ∧ kI (g_dr N Y k s) Y k (t + 1) ∧ (iv N (Y + 33) k).toInt ≤ (iv (g_dr N Y k s) (Y + 33) k).toInt ∧ (iv (g_dr N Y k s) (Y + 33) k).toInt ≤ (iv N (Y + 33) k).toInt + (iv N (Y + 30) k).toInt := by
  obtain ⟨hS, h1, h2, h3, h4, h5, h6⟩ := h
  obtain ⟨a1, a2, a3, a4, a5, a6, a7, a8, a9⟩ := i9
  obtain ⟨d0, d1, d2⟩ := df_b (s := s) g b hk hs
  have d3 := @df_ra N Y k s
  have ke := g.ke k hk; have ro := g.ro k hk; have us := g.us k hk
  have l0 : ly n s := Or.inl hs
  obtain ⟨x0, x1⟩ := hS s l0
  have bw := b.ly l0
  obtain ⟨f, hf⟩ : ∃ f, f = if g_ds N Y k s = 0 then g_df N Y k s else 0 := ⟨_, rfl⟩
  have f0 : 0 ≤ f.toInt := by rw [hf]; split; exact d0; rw [i_0]; omega
  have f1 : f.toInt ≤ (iv N (Y + 22) s).toInt := by rw [hf]; split; exact d1; rw [i_0]; omega
  have f2 : f.toInt ≤ 500 := by rw [hf]; split; omega; rw [i_0]; omega
  have f3 : (iv N (Y + 31) k).toInt + f.toInt < 2 ^ 31 := by have := i_rg (iv N (Y + 29) k); rw [hf]; split; omega; rw [i_0]; omega
  obtain ⟨c1, c2, c3, c4, c5, c6, c7, c8, c9⟩ := dr_c f hf
  obtain ⟨k0, k1, k2, k3⟩ := shr_k x0 x1 f0 f1
  have c3s := c3 s; have c4s := c4 s
  rw [if_pos rfl] at c3s c4s
  have z3 := h6 3 (by omega); have z6 := h6 6 (by omega)
  generalize hX : f_shr (iv N (Y + 23) s) f (iv N (Y + 22) s) = x at *
  have e31 : (iv N (Y + 31) k + f).toInt = (iv N (Y + 31) k).toInt + f.toInt := i_add (by omega) (by omega)
  obtain ⟨t1, t2, t3⟩ := lt_b (iv N (Y + 30) k) (iv N (Y + 31) k + f)
  have t0 := flt_0 (x := iv N (Y + 30) k) (y := iv N (Y + 31) k + f) us (by omega)
  have e33 : (iv N (Y + 30) k - f_lt (iv N (Y + 30) k) (iv N (Y + 31) k + f)).toInt = (iv N (Y + 30) k).toInt - (f_lt (iv N (Y + 30) k) (iv N (Y + 31) k + f)).toInt := i_sub (by omega) (by omega)
  have e34 : (iv N (Y + 33) k + (iv N (Y + 30) k - f_lt (iv N (Y + 30) k) (iv N (Y + 31) k + f))).toInt = (iv N (Y + 33) k).toInt + ((iv N (Y + 30) k).toInt - (f_lt (iv N (Y + 30) k) (iv N (Y + 31) k + f)).toInt) := by rw [i_add (by omega) (by omega), e33]
  have e32 : (iv N (Y + 32) k + f).toInt = (iv N (Y + 32) k).toInt + f.toInt := i_add (by omega) (by omega)
  have ds : (g_ds N Y k s).toInt = 0 ∨ (g_ds N Y k s).toInt = 1 := (ds_01 N Y k s).elim (fun z => Or.inl (by rw [z, i_0])) (fun z => Or.inr (by rw [z, i_1]))
  have a7' : 0 ≤ (iv N (Y + 35) k).toInt := by rcases a7 with z | z <;> rw [z] <;> decide
  have e35 : (iv N (Y + 34) k + g_ds N Y k s).toInt = (iv N (Y + 34) k).toInt + (g_ds N Y k s).toInt := i_add (by omega) (by omega)
  have w1 : (iv N (Y + 22) s - f).toInt = (iv N (Y + 22) s).toInt - f.toInt := i_sub (by omega) (by omega)
  have w2 : (iv N (Y + 23) s - x).toInt = (iv N (Y + 23) s).toInt - x.toInt := i_sub (by omega) (by omega)
  have jW : qW (g_dr N Y k s) Y n = qW N Y n + (-f.toInt) := one_sum (w := fun i => (iv N (Y + 22) i).toInt) (w' := fun i => (iv (g_dr N Y k s) (Y + 22) i).toInt) (s := s) (a := 0) (Or.inl rfl) hn hs (by simp only [Nat.zero_add]; rw [c3s, w1]; omega) (fun i q => by show (iv (g_dr N Y k s) (Y + 22) i).toInt = _; rw [c3, if_neg (by omega)])
  have jS : qS (g_dr N Y k s) Y n = qS N Y n + (-x.toInt) := one_sum (w := fun i => (iv N (Y + 23) i).toInt) (w' := fun i => (iv (g_dr N Y k s) (Y + 23) i).toInt) (s := s) (a := 0) (Or.inl rfl) hn hs (by simp only [Nat.zero_add]; rw [c4s, w2]; omega) (fun i q => by show (iv (g_dr N Y k s) (Y + 23) i).toInt = _; rw [c4, if_neg (by omega)])
  have jM : qM (g_dr N Y k s) Y n = qM N Y n := by unfold qM; exact sm_eq (fun i hi => by rw [c1 18 i (by omega) (by omega) (by omega) (by omega), c1 19 i (by omega) (by omega) (by omega) (by omega)])
  have jT : qT (g_dr N Y k s) Y ic = qT N Y ic + f.toInt := by
    have e := sm_1 (f := fun i => (iv N (Y + 32) i).toInt) (g := fun i => (iv (g_dr N Y k s) (Y + 32) i).toInt) hk (fun i hi q => by
      show (iv (g_dr N Y k s) (Y + 32) i).toInt = _
      rw [c2 32 i (by omega) (by omega) q])
    rw [c5, e32] at e
    unfold qT; omega
  have q3 : qj (g_dr N Y k s) Y 3 = qj N Y 3 + f.toInt := by
    unfold qj at *; rw [c9]; split
    · rw [if_neg (by omega), if_pos rfl, j_add z3.1 (by omega)]
    · rename_i z; rw [hf, if_neg z, i_0]; omega
  have q6 : qj (g_dr N Y k s) Y 6 = qj N Y 6 + x.toInt := by
    unfold qj at *; rw [c9]; split
    · rw [if_pos rfl, j_add z6.1 (by omega)]
    · rename_i z; rw [← hX, hf, if_neg z, shr_z, i_0]; omega
  have r : ∀ i, i ≠ 3 → i ≠ 6 → qj (g_dr N Y k s) Y i = qj N Y i := fun i q q' => by
    unfold qj; rw [c9, if_neg q', if_neg q]; split <;> rfl
  refine ⟨⟨fun i hi => ?_, by rw [jW, q3, r 0 (by omega) (by omega), r 1 (by omega) (by omega), r 2 (by omega) (by omega)]; omega, by rw [jS, q6, r 4 (by omega) (by omega), r 5 (by omega) (by omega)]; omega, by rw [jM, r 7 (by omega) (by omega), r 8 (by omega) (by omega), r 9 (by omega) (by omega)]; exact h3, by rw [r 0 (by omega) (by omega), r 4 (by omega) (by omega)]; exact h4, by rw [jT, q3]; omega, fun i hi => ?_⟩, ⟨?_, ?_, ?_, ?_, ?_, ?_, ?_, ?_, ?_⟩, ?_, ?_⟩
  · by_cases q : i = s
    · subst q; rw [c3s, c4s, w1, w2]; omega
    · rw [c3, c4, if_neg q, if_neg q]; exact hS i hi
  · have z := h6 i hi
    by_cases q : i = 3
    · subst q; rw [q3]; omega
    · by_cases q' : i = 6
      · subst q'; rw [q6]; omega
      · rw [r i q q']; omega
  · rw [c1 27 k (by omega) (by omega) (by omega) (by omega)]; exact a1
  · rw [c1 30 k (by omega) (by omega) (by omega) (by omega)]; exact a2
  · rw [c5, e32]; omega
  · rw [c5, e32]; omega
  · rw [c6, e34]; omega
  · rw [c6, e34]; omega
  · rw [c8]; exact ds_01 N Y k s
  · rw [c7, c8, e35]; omega
  · rw [c7, e35]; omega
  · rw [c6, e34]; omega
  · rw [c6, e34]; omega
