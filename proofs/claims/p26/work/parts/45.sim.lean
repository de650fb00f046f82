/-! the class's steps of an hour against the reference's -/
theorem Rc.N {M : w_M} {B : Nat} {N N' : w_M} {Y n ic : Nat} {T : Nat → Nat → Int32} (h : Rc M B N Y n ic T) (e : ∀ a j, a ≠ Y ∨ (j ≠ 41 ∧ j ≠ 42) → iv N' a j = iv N a j) (ej : ∀ j, jv N' (Y + 40) j = jv N (Y + 40) j) : Rc M B N' Y n ic T :=
  ⟨fun i hi => by rw [e _ _ (by omega)]; exact h.ar i hi, fun i hi => by rw [e _ _ (by omega)]; exact h.mu i hi, fun i hi => by rw [e _ _ (by omega)]; exact h.cl i hi, fun i hi => by rw [e _ _ (by omega)]; exact h.ru i hi, fun i hi => by rw [e _ _ (by omega)]; exact h.pe i hi, fun i hi => by rw [e _ _ (by omega)]; exact h.wu i hi, fun i hi => by rw [e _ _ (by omega)]; exact h.su i hi, fun i hi => by rw [e _ _ (by omega)]; exact h.wl i hi, fun i hi => by rw [e _ _ (by omega)]; exact h.sl i hi, fun i hi => by rw [ej]; exact h.sm i hi, fun k hk j hj => by rw [e _ _ (by omega)]; exact h.it k hk j hj, by rw [e _ _ (by omega)]; exact h.rw, by rw [e _ _ (by omega)]; exact h.rs, h.ta⟩
theorem shr_z (a o : Int32) : f_shr a 0 o = 0 := by
  unfold f_shr; split
  · rfl
  · rw [show (0 : Int32).toInt64 = 0 by decide, Int64.mul_zero, Int64.zero_div]; decide
theorem fl0_z {N : w_M} {Y s t a j : Nat} (hst : s ≠ t) (h : a ≠ Y ∨ (j ≠ 41 ∧ j ≠ 42)) : iv (g_fl N Y 0 s t 0) a j = iv N a j := by
  by_cases h1 : a = Y + 19
  · subst h1; rw [fl0_c hst, shr_z, shr_z, x_sub0, x_add0]; split <;> simp
  · by_cases h2 : a = Y + 22
    · subst h2; rw [fl0_w hst, x_sub0, x_add0]; split <;> simp
    · by_cases h3 : a = Y + 23
      · subst h3; rw [fl0_s hst, shr_z, shr_z, x_sub0, x_add0]; split <;> simp
      · exact fl0_o h h1 h2 h3
theorem s_lev_e {M : w_M} {B : Nat} {N : w_M} {Y n ic s : Nat} {T : Nat → Nat → Int32} {W C : Int} (h : Rc M B N Y n ic T) (b : gB N Y n W C) (hs : s < n) : s_lev M (B + 100 + s) = g_lev N Y s := by
  have a := b.ar s hs
  unfold s_lev f_lev f_bed g_lev
  rw [h.ar s hs, h.mu s hs, h.wu s hs, h.wl s hs, if_neg (by rw [i_le, i_0]; omega), if_neg (by rw [i_le, i_0]; omega)]
theorem Rc_runs {M : w_M} {B : Nat} {N : w_M} {Y n ic k : Nat} {T : Nat → Nat → Int32} {f : Int32} (h : Rc M B N Y n ic T) (hn : n ≤ 8) (hk : k + 1 < n) : Rc (m_runs M (B + 100 + k) (B + 100 + (k + 1)) f) B (g_nr N Y k f) Y n ic T := by
  have o : ∀ a j, (a ≠ B + 100 + k ∨ j ≠ 6) → (a ≠ B + 100 + (k + 1) ∨ j ≠ 6) → iv (m_runs M (B + 100 + k) (B + 100 + (k + 1)) f) a j = iv M a j := fun a j q q2 => by unfold m_runs; simp (disch := omega) only [iv_n]
  have p : ∀ a j, a ≠ Y + 20 → iv (g_nr N Y k f) a j = iv N a j := fun a j q => by unfold g_nr g_a; simp (disch := omega) only [iv_n]
  refine ⟨fun i hi => ?_, fun i hi => ?_, fun i hi => ?_, fun i hi => ?_, fun i hi => ?_, fun i hi => ?_, fun i hi => ?_, fun i hi => ?_, fun i hi => ?_, h.sm, fun k hk j hj => ?_, ?_, ?_, fun i hi j => ?_⟩
  · rw [o _ _ (by omega) (by omega), p _ _ (by omega)]; exact h.ar i hi
  · rw [o _ _ (by omega) (by omega), p _ _ (by omega)]; exact h.mu i hi
  · rw [o _ _ (by omega) (by omega), p _ _ (by omega)]; exact h.cl i hi
  · unfold m_runs g_nr g_a
    have e1 := h.ru k (by omega); have e2 := h.ru (k + 1) hk; have e3 := h.ru i hi
    by_cases q : i = k
    · subst q; simp (disch := omega) only [iv_s, iv_n, e1]
    · by_cases q2 : i = k + 1
      · subst q2; simp (disch := omega) only [iv_s, iv_n, e2]
      · simp (disch := omega) only [iv_n, e3]
  · rw [o _ _ (by omega) (by omega), p _ _ (by omega)]; exact h.pe i hi
  · rw [o _ _ (by omega) (by omega), p _ _ (by omega)]; exact h.wu i hi
  · rw [o _ _ (by omega) (by omega), p _ _ (by omega)]; exact h.su i hi
  · rw [o _ _ (by omega) (by omega), p _ _ (by omega)]; exact h.wl i hi
  · rw [o _ _ (by omega) (by omega), p _ _ (by omega)]; exact h.sl i hi
  · rw [o _ _ (by omega) (by omega), p _ _ (by omega)]; exact h.it k hk j hj
  · rw [o _ _ (by omega) (by omega), p _ _ (by omega)]; exact h.rw
  · rw [o _ _ (by omega) (by omega), p _ _ (by omega)]; exact h.rs
  · rw [o _ _ (by omega) (by omega)]; exact h.ta i hi j
theorem Rc_level {M : w_M} {B : Nat} {N : w_M} {Y n ic k : Nat} {T : Nat → Nat → Int32} {W C : Int} (h : Rc M B N Y n ic T) (b : gB N Y n W C) (hn : n ≤ 8) (hk : k + 1 < n) : Rc (m_level M (B + 100 + k) (B + 100 + (k + 1))) B (g_n1 N Y k) Y n ic T := by
  have ed : s_d M (B + 100 + k) (B + 100 + (k + 1)) = g_nd N Y k := by unfold s_d g_nd; rw [s_lev_e h b (by omega), s_lev_e h b hk]
  have ea : f_min (iv M (B + 100 + k) 3) (iv M (B + 100 + (k + 1)) 3) = g_na N Y k := by unfold g_na; rw [min_lt, h.ar k (by omega), h.ar (k + 1) hk]
  have e1 : f_min (g_nd N Y k * g_na N Y k / 4) (iv M (B + 100 + k + 30) 0) = fn1 N Y k := by unfold fn1; rw [min_lt, h.wl k (by omega)]
  have e0 : f_min (-g_nd N Y k * g_na N Y k / 4) (iv M (B + 100 + (k + 1) + 20) 0) = fn0 N Y k := by unfold fn0; rw [min_lt, h.wu (k + 1) hk]
  unfold m_level
  rw [ed, ea, e1, e0, g_n1_e]
  by_cases d1 : 0 < g_nd N Y k
  · rw [if_pos d1, if_pos d1]
    exact Rc_runs (Rc_fl h hn (by omega) hk (by omega) (b.wl k (by omega))) hn hk
  · rw [if_neg d1, if_neg d1]
    by_cases d2 : g_nd N Y k < 0
    · rw [if_pos d2]
      exact Rc_runs (Rc_fu h hn hk (by omega) (by omega) (b.wu (k + 1) hk)) hn hk
    · rw [if_neg d2]
      have d0 : g_nd N Y k = 0 := by rw [i_lt, i_0] at d1 d2; exact i_ext (by rw [i_0]; omega)
      have w := b.wu (k + 1) hk
      have f0 : fn0 N Y k = 0 := by
        unfold fn0 f_lt; rw [d0, show (-0 : Int32) = 0 by decide, Int32.zero_mul, show (0 : Int32) / 4 = 0 by decide]
        split
        · rfl
        · rename_i q; rw [i_lt, i_0] at q; exact i_ext (by rw [i_0]; omega)
      rw [f0]
      exact Rc_runs (h.N (fun a j q => fl0_z (by omega) q) (fun j => rfl)) hn hk
theorem Rc_creep {M : w_M} {B : Nat} {N : w_M} {Y n ic k : Nat} {T : Nat → Nat → Int32} {W C : Int} (h : Rc M B N Y n ic T) (b : gB N Y n W C) (hn : n ≤ 8) (hW : W < 2 ^ 28) (hk : k + 1 < n) : Rc (m_creep M (B + 100 + k) (B + 100 + (k + 1))) B (g_n2 N Y k) Y n ic T := by
  have hk0 : k < n := by omega
  have ec : f_min (iv M (B + 100 + k + 30) 0) (iv M (B + 100 + (k + 1) + 20) 0) / 8 = fnc N Y k := by unfold fnc; rw [min_lt, h.wl k hk0, h.wu (k + 1) hk]
  have s1 : f_sal (iv M (B + 100 + (k + 1) + 30) 0) (iv M (B + 100 + (k + 1) + 30) 1) = g_sal N Y 1 (k + 1) := by rw [h.wl (k + 1) hk, h.sl (k + 1) hk, sal_sl (b.wl (k + 1) hk)]; rfl
  have s2 : f_sal (iv M (B + 100 + k + 30) 0) (iv M (B + 100 + k + 30) 1) = g_sal N Y 1 k := by rw [h.wl k hk0, h.sl k hk0, sal_sl (b.wl k hk0)]; rfl
  unfold m_creep
  rw [ec, s1, s2, g_n2_e]
  split
  · refine Rc_fu (Rc_fl h hn hk0 hk (by omega) (b.wl k hk0)) hn hk hk0 (by omega) ?_
    rw [fl1_w (by omega), if_neg (by omega), if_neg (by omega)]; exact b.wu (k + 1) hk
  · exact h
theorem Rc_lv {M : w_M} {B : Nat} {N : w_M} {Y n ic : Nat} {T : Nat → Nat → Int32} {W C : Int} (h : Rc M B N Y n ic T) (b : gB N Y n W C) (hn : n ≤ 8) (hW : W < 2 ^ 28) (hC : C < 2 ^ 28) : ∀ i, i ≤ n - 1 → Rc (m_lv M B i) B (g_nbs N Y i) Y n ic T
  | 0, _ => h
  | i + 1, hi => Rc_creep (Rc_level (Rc_lv h b hn hW hC i (by omega)) (gB_nbs b hn hW hC i (by omega)) hn (by omega)) (gB_n1 (gB_nbs b hn hW hC i (by omega)) hn hW hC (by omega)) hn hW (by omega)
theorem Rc_r0 {M : w_M} {B : Nat} {N : w_M} {Y n ic : Nat} {T : Nat → Nat → Int32} (h : Rc M B N Y n ic T) (hn : n ≤ 8) : ∀ i, i ≤ n → Rc (m_r0 M B i) B (g_r0 N Y i) Y n ic T
  | 0, _ => h
  | r + 1, hr => by
    have h := Rc_r0 h hn r (by omega)
    have o : ∀ a j, (a ≠ B + 100 + r ∨ j ≠ 6) → iv (m_r0 M B (r + 1)) a j = iv (m_r0 M B r) a j := fun a j q => by rw [m_r0, iv_n (by omega)]
    have p : ∀ a j, (a ≠ Y + 20 ∨ j ≠ r) → iv (g_r0 N Y (r + 1)) a j = iv (g_r0 N Y r) a j := fun a j q => by rw [g_r0, iv_n (by omega)]
    refine ⟨fun i hi => ?_, fun i hi => ?_, fun i hi => ?_, fun i hi => ?_, fun i hi => ?_, fun i hi => ?_, fun i hi => ?_, fun i hi => ?_, fun i hi => ?_, h.sm, fun k hk j hj => ?_, ?_, ?_, fun i hi j => ?_⟩
    · rw [o _ _ (by omega), p _ _ (by omega)]; exact h.ar i hi
    · rw [o _ _ (by omega), p _ _ (by omega)]; exact h.mu i hi
    · rw [o _ _ (by omega), p _ _ (by omega)]; exact h.cl i hi
    · by_cases q : i = r
      · subst q; rw [m_r0, g_r0, iv_s, iv_s]
      · rw [o _ _ (by omega), p _ _ (by omega)]; exact h.ru i hi
    · rw [o _ _ (by omega), p _ _ (by omega)]; exact h.pe i hi
    · rw [o _ _ (by omega), p _ _ (by omega)]; exact h.wu i hi
    · rw [o _ _ (by omega), p _ _ (by omega)]; exact h.su i hi
    · rw [o _ _ (by omega), p _ _ (by omega)]; exact h.wl i hi
    · rw [o _ _ (by omega), p _ _ (by omega)]; exact h.sl i hi
    · rw [o _ _ (by omega), p _ _ (by omega)]; exact h.it k hk j hj
    · rw [o _ _ (by omega), p _ _ (by omega)]; exact h.rw
    · rw [o _ _ (by omega), p _ _ (by omega)]; exact h.rs
    · rw [o _ _ (by omega)]; exact h.ta i hi j
theorem Rc_mix {M : w_M} {B : Nat} {N : w_M} {Y n ic r : Nat} {T : Nat → Nat → Int32} {W C : Int} (h : Rc M B N Y n ic T) (b : gB N Y n W C) (hn : n ≤ 8) (hr : r < n) : Rc (m_mix M (B + 100 + r)) B (g_mx N Y r) Y n ic T := by
  have ex : f_goes (f_min (iv M (B + 100 + r + 20) 0) (iv M (B + 100 + r + 30) 0) / 4) (iv M (B + 100 + r + 30) 1) (iv M (B + 100 + r + 30) 0) - f_goes (f_min (iv M (B + 100 + r + 20) 0) (iv M (B + 100 + r + 30) 0) / 4) (iv M (B + 100 + r + 20) 1) (iv M (B + 100 + r + 20) 0) = g_xm N Y r := by
    unfold g_xm g_xl; rw [h.wu r hr, h.wl r hr, h.su r hr, h.sl r hr, min_lt, goes_shr (b.wl r hr), goes_shr (b.wu r hr)]
  unfold m_mix g_mx
  rw [ex, h.ru r hr]
  split
  · exact h
  · split
    · generalize g_xm N Y r = x
      have o : ∀ a j, (a ≠ B + 100 + r + 30 ∨ j ≠ 1) → (a ≠ B + 100 + r + 20 ∨ j ≠ 1) → iv (wi (wi M (B + 100 + r + 30) 1 (iv M (B + 100 + r + 30) 1 - x)) (B + 100 + r + 20) 1 (iv M (B + 100 + r + 20) 1 + x)) a j = iv M a j := fun a j q q2 => by rw [iv_n (by omega), iv_n (by omega)]
      have p : ∀ a j, a ≠ Y + 23 → iv (wi (wi N (Y + 23) (8 + r) (iv N (Y + 23) (8 + r) - x)) (Y + 23) r (iv N (Y + 23) r + x)) a j = iv N a j := fun a j q => by rw [iv_n (by omega), iv_n (by omega)]
      refine ⟨fun i hi => ?_, fun i hi => ?_, fun i hi => ?_, fun i hi => ?_, fun i hi => ?_, fun i hi => ?_, fun i hi => ?_, fun i hi => ?_, fun i hi => ?_, h.sm, fun k hk j hj => ?_, ?_, ?_, fun i hi j => ?_⟩
      · rw [o _ _ (by omega) (by omega), p _ _ (by omega)]; exact h.ar i hi
      · rw [o _ _ (by omega) (by omega), p _ _ (by omega)]; exact h.mu i hi
      · rw [o _ _ (by omega) (by omega), p _ _ (by omega)]; exact h.cl i hi
      · rw [o _ _ (by omega) (by omega), p _ _ (by omega)]; exact h.ru i hi
      · rw [o _ _ (by omega) (by omega), p _ _ (by omega)]; exact h.pe i hi
      · rw [o _ _ (by omega) (by omega), p _ _ (by omega)]; exact h.wu i hi
      · by_cases q : i = r
        · subst q; rw [iv_s, iv_s, h.su i hi]
        · rw [o _ _ (by omega) (by omega), iv_n (by omega), iv_n (by omega)]; exact h.su i hi
      · rw [o _ _ (by omega) (by omega), p _ _ (by omega)]; exact h.wl i hi
      · by_cases q : i = r
        · subst q; rw [iv_n (by omega), iv_s, iv_n (by omega), iv_s, h.sl i hi]
        · rw [o _ _ (by omega) (by omega), iv_n (by omega), iv_n (by omega)]; exact h.sl i hi
      · rw [o _ _ (by omega) (by omega), p _ _ (by omega)]; exact h.it k hk j hj
      · rw [o _ _ (by omega) (by omega), p _ _ (by omega)]; exact h.rw
      · rw [o _ _ (by omega) (by omega), p _ _ (by omega)]; exact h.rs
      · rw [o _ _ (by omega) (by omega)]; exact h.ta i hi j
    · exact h
theorem Rc_cm {M : w_M} {B : Nat} {N : w_M} {Y n ic r : Nat} {T : Nat → Nat → Int32} {x y : Int32} {M' N' : w_M} (h : Rc M B N Y n ic T) (hn : n ≤ 8) (hr : r < n)
    (o : ∀ a j, (a ≠ B + 100 + r ∨ (j ≠ 4 ∧ j ≠ 5)) → iv M' a j = iv M a j) (p : ∀ a j, ((a ≠ Y + 18 ∧ a ≠ Y + 19) ∨ j ≠ r) → iv N' a j = iv N a j) (e4 : iv M' (B + 100 + r) 4 = iv N' (Y + 18) r) (e5 : iv M' (B + 100 + r) 5 = iv N' (Y + 19) r) (ej : ∀ j, jv M' (B + 5) j = jv M (B + 5) j) (ek : ∀ j, jv N' (Y + 40) j = jv N (Y + 40) j) : Rc M' B N' Y n ic T := by
  refine ⟨fun i hi => ?_, fun i hi => ?_, fun i hi => ?_, fun i hi => ?_, fun i hi => ?_, fun i hi => ?_, fun i hi => ?_, fun i hi => ?_, fun i hi => ?_, fun i hi => by rw [ej, ek]; exact h.sm i hi, fun k hk j hj => ?_, ?_, ?_, fun i hi j => ?_⟩
  · rw [o _ _ (by omega), p _ _ (by omega)]; exact h.ar i hi
  · by_cases q : i = r
    · subst q; exact e4
    · rw [o _ _ (by omega), p _ _ (by omega)]; exact h.mu i hi
  · by_cases q : i = r
    · subst q; exact e5
    · rw [o _ _ (by omega), p _ _ (by omega)]; exact h.cl i hi
  · rw [o _ _ (by omega), p _ _ (by omega)]; exact h.ru i hi
  · rw [o _ _ (by omega), p _ _ (by omega)]; exact h.pe i hi
  · rw [o _ _ (by omega), p _ _ (by omega)]; exact h.wu i hi
  · rw [o _ _ (by omega), p _ _ (by omega)]; exact h.su i hi
  · rw [o _ _ (by omega), p _ _ (by omega)]; exact h.wl i hi
  · rw [o _ _ (by omega), p _ _ (by omega)]; exact h.sl i hi
  · rw [o _ _ (by omega), p _ _ (by omega)]; exact h.it k hk j hj
  · rw [o _ _ (by omega), p _ _ (by omega)]; exact h.rw
  · rw [o _ _ (by omega), p _ _ (by omega)]; exact h.rs
  · rw [o _ _ (by omega)]; exact h.ta i hi j
theorem Rc_set {M : w_M} {B : Nat} {N : w_M} {Y n ic r : Nat} {T : Nat → Nat → Int32} {W C : Int} (h : Rc M B N Y n ic T) (b : gB N Y n W C) (hC : C < 2 ^ 28) (hn : n ≤ 8) (hr : r < n) : Rc (m_set M (B + 100 + r)) B (g_s2 (g_s1 N Y r) Y r) Y n ic T := by
  have c := b.c hr
  have m0 := b.mu r hr
  have c0 := b.cl r hr
  unfold m_set g_s1
  rw [h.ru r hr]
  by_cases d1 : iv N (Y + 20) r < 10
  · rw [if_pos d1, if_pos d1]
    have e2 : g_s2 (wi (wi N (Y + 19) r (iv N (Y + 19) r - (iv N (Y + 19) r + 1) / 2)) (Y + 18) r (iv N (Y + 18) r + (iv N (Y + 19) r + 1) / 2)) Y r = wi (wi N (Y + 19) r (iv N (Y + 19) r - (iv N (Y + 19) r + 1) / 2)) (Y + 18) r (iv N (Y + 18) r + (iv N (Y + 19) r + 1) / 2) := by
      unfold g_s2; rw [iv_n (by omega), iv_n (by omega), if_neg]
      rw [i_lt, i_10] at d1; rw [i_lt, i_40]; omega
    rw [e2, h.cl r hr, h.mu r hr, half_e c0 (by omega)]
    exact Rc_cm (x := 0) (y := 0) h hn hr (fun a j q => by rw [iv_n (by omega), iv_n (by omega)]) (fun a j q => by rw [iv_n (by omega), iv_n (by omega)]) (by rw [iv_s, iv_s]) (by rw [iv_n (by omega), iv_s, iv_n (by omega), iv_s]) (fun j => rfl) (fun j => rfl)
  · rw [if_neg d1, if_neg d1]
    unfold g_s2
    by_cases d2 : 40 < iv N (Y + 20) r
    · rw [if_pos d2, if_pos d2, h.cl r hr, h.mu r hr, min_lt]
      exact Rc_cm (x := 0) (y := 0) h hn hr (fun a j q => by rw [iv_n (by omega), iv_n (by omega)]) (fun a j q => by rw [iv_n (by omega), iv_n (by omega)]) (by rw [iv_n (by omega), iv_s, iv_n (by omega), iv_s]) (by rw [iv_s, iv_s]) (fun j => rfl) (fun j => rfl)
    · rw [if_neg d2, if_neg d2]; exact h
/-! mixes and settlings don't touch one another -/
theorem wi_cm {M : w_M} {a j b k : Nat} {x y : Int32} (h : a ≠ b) : wi (wi M a j x) b k y = wi (wi M b k y) a j x := by
  refine Prod.ext (funext fun c => funext fun d => ?_) rfl
  show (if c = b ∧ d = k then y else if c = a ∧ d = j then x else M.1 c d) = if c = a ∧ d = j then x else if c = b ∧ d = k then y else M.1 c d
  by_cases q : c = b ∧ d = k
  · rw [if_pos q, if_neg (by omega), if_pos q]
  · rw [if_neg q, if_neg q]
theorem mx_wi {N : w_M} {Y s a j : Nat} {x : Int32} (h : a ≠ Y + 20) (h2 : a ≠ Y + 22) (h3 : a ≠ Y + 23) : g_mx (wi N a j x) Y s = wi (g_mx N Y s) a j x := by
  have e : g_xm (wi N a j x) Y s = g_xm N Y s := by unfold g_xm g_xl; simp (disch := omega) only [iv_n]
  unfold g_mx; rw [e]; simp (disch := omega) only [iv_n]
  split
  · rfl
  · split
    · rw [wi_cm h3, wi_cm h3]
    · rfl
theorem mx_run {N : w_M} {Y s a j : Nat} (h : a ≠ Y + 23) : iv (g_mx N Y s) a j = iv N a j := by
  unfold g_mx; split
  · rfl
  · split
    · rw [iv_n (by omega), iv_n (by omega)]
    · rfl
theorem mx_s1 {N : w_M} {Y s t : Nat} : g_mx (g_s1 N Y t) Y s = g_s1 (g_mx N Y s) Y t := by
  unfold g_s1; rw [mx_run (by omega), mx_run (by omega), mx_run (by omega)]
  split
  · rw [mx_wi (by omega) (by omega) (by omega), mx_wi (by omega) (by omega) (by omega)]
  · rfl
theorem mx_s2 {N : w_M} {Y s t : Nat} : g_mx (g_s2 N Y t) Y s = g_s2 (g_mx N Y s) Y t := by
  unfold g_s2; rw [mx_run (by omega), mx_run (by omega), mx_run (by omega)]
  split
  · rw [mx_wi (by omega) (by omega) (by omega), mx_wi (by omega) (by omega) (by omega)]
  · rfl
theorem mx_sts {N : w_M} {Y s : Nat} : ∀ i, g_mx (g_sts N Y i) Y s = g_sts (g_mx N Y s) Y i
  | 0 => rfl
  | i + 1 => by rw [g_sts, g_sts, mx_s2, mx_s1, mx_sts i]
theorem Rc_mx {M : w_M} {B : Nat} {N : w_M} {Y n ic : Nat} {T : Nat → Nat → Int32} {W C : Int} (h : Rc M B N Y n ic T) (b : gB N Y n W C) (hC : C < 2 ^ 28) (hn : n ≤ 8) : ∀ i, i ≤ n → Rc (m_mx M B i) B (g_sts (g_mxs N Y i) Y i) Y n ic T
  | 0, _ => h
  | i + 1, hi => by
    have r := Rc_mx h b hC hn i (by omega)
    have g := gB_sts (gB_mxs b i) hC i (by omega)
    rw [m_mx, g_sts, g_mxs, ← mx_sts]
    exact Rc_set (Rc_mix r g hn (by omega)) (gB_mx g) hC hn (by omega)
