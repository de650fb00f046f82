/-! the sea and the river -/
theorem sadd_s {M : w_M} {B i j : Nat} {x : Int64} : jv (sadd M B i x) (B + 5) j = if j = i then jv M (B + 5) j + x else jv M (B + 5) j := by
  unfold sadd; rw [jv_wj]
  by_cases q : j = i
  · subst q; rw [if_pos ⟨rfl, rfl⟩, if_pos rfl]
  · rw [if_neg (by omega), if_neg q]
theorem gsadd_s {M : w_M} {Y i j : Nat} {x : Int64} : jv (gsadd M Y i x) (Y + 40) j = if j = i then jv M (Y + 40) j + x else jv M (Y + 40) j := by
  unfold gsadd; rw [jv_wj]
  by_cases q : j = i
  · subst q; rw [if_pos ⟨rfl, rfl⟩, if_pos rfl]
  · rw [if_neg (by omega), if_neg q]
theorem iv_gsadd (M : w_M) (Y i : Nat) (x : Int64) (a j : Nat) : iv (gsadd M Y i x) a j = iv M a j := rfl
theorem jv_wi' (M : w_M) (a j : Nat) (x : Int32) (b k : Nat) : jv (wi M a j x) b k = jv M b k := rfl
theorem Rc_sea {M : w_M} {B : Nat} {N : w_M} {Y n ic : Nat} {T : Nat → Nat → Int32} {W C : Int} {x : Int32} (h : Rc M B N Y n ic T) (b : gB N Y n W C) (hn : n ≤ 8) (h0 : 0 < n) (hW : W < 2 ^ 28) (hC : C < 2 ^ 28) (x0 : -1000 ≤ x.toInt) (x1 : x.toInt ≤ 2400) : Rc (m_sea M B (B + 100) x) B (g_mo N Y x) Y n ic T := by
  have el : s_lev M (B + 100) = g_lev N Y 0 := by have z := s_lev_e h b h0; rw [Nat.add_zero] at z; exact z
  have e3 : iv M (B + 100) 3 = iv N (Y + 17) 0 := by have z := h.ar 0 h0; simp only [Nat.add_zero] at z; exact z
  have ew : iv M (B + 100 + 20) 0 = iv N (Y + 22) 0 := by have z := h.wu 0 h0; simp only [Nat.add_zero] at z; exact z
  have ewl : iv M (B + 100 + 30) 0 = iv N (Y + 22) 8 := by have z := h.wl 0 h0; simp only [Nat.add_zero] at z; exact z
  have esl : iv M (B + 100 + 30) 1 = iv N (Y + 23) 8 := by have z := h.sl 0 h0; simp only [Nat.add_zero] at z; exact z
  have esu : iv M (B + 100 + 20) 1 = iv N (Y + 23) 0 := by have z := h.su 0 h0; simp only [Nat.add_zero] at z; exact z
  have ec : iv M (B + 100) 5 = iv N (Y + 19) 0 := by have z := h.cl 0 h0; simp only [Nat.add_zero] at z; exact z
  have w0 := b.wu 0 h0
  have lv0 := lev_b b hW hC h0
  unfold m_sea
  rw [el, e3, ew, g_mo_e, min_lt]
  have J2 : ∀ f : Int32, Rc (m_ms2 M B (B + 100) f) B (g_mo2 N Y f) Y n ic T := by
    intro f
    have p : ∀ a j, iv (g_mo2 N Y f) a j = iv (g_lv N Y 0 0 f) a j := fun a j => rfl
    have o : ∀ a j, (a ≠ B + 100 + 20) → (a ≠ B + 100 ∨ j ≠ 5) → iv (m_ms2 M B (B + 100) f) a j = iv M a j := fun a j q q2 => by
      unfold m_ms2 m_gc m_out; simp (disch := omega) only [iv_sadd, iv_n]
    refine ⟨fun i hi => ?_, fun i hi => ?_, fun i hi => ?_, fun i hi => ?_, fun i hi => ?_, fun i hi => ?_, fun i hi => ?_, fun i hi => ?_, fun i hi => ?_, fun i hi => ?_, fun k hk j hj => ?_, ?_, ?_, fun i hi j => ?_⟩
    · rw [o _ _ (by omega) (by omega), p, lv0_o (by omega) (by omega) (by omega) (by omega)]; exact h.ar i hi
    · rw [o _ _ (by omega) (by omega), p, lv0_o (by omega) (by omega) (by omega) (by omega)]; exact h.mu i hi
    · rw [p, lv0_c]
      by_cases q : i = 0
      · subst q; rw [if_pos rfl, ← goes_shr w0, ← ec, ← ew]
        unfold m_ms2 m_gc m_out; simp (disch := omega) only [iv_sadd, iv_s, iv_n, Nat.add_zero]
      · rw [if_neg q, o _ _ (by omega) (by omega)]; exact h.cl i hi
    · rw [o _ _ (by omega) (by omega), p, lv0_o (by omega) (by omega) (by omega) (by omega)]; exact h.ru i hi
    · rw [o _ _ (by omega) (by omega), p, lv0_o (by omega) (by omega) (by omega) (by omega)]; exact h.pe i hi
    · rw [p, lv0_w]
      by_cases q : i = 0
      · subst q; rw [if_pos rfl, ← ew]
        unfold m_ms2 m_gc m_out; simp (disch := omega) only [iv_sadd, iv_s, iv_n, Nat.add_zero]
      · rw [if_neg q, o _ _ (by omega) (by omega)]; exact h.wu i hi
    · rw [p, lv0_s]
      by_cases q : i = 0
      · subst q; rw [if_pos rfl, ← goes_shr w0, ← esu, ← ew]
        unfold m_ms2 m_gc m_out; simp (disch := omega) only [iv_sadd, iv_s, iv_n, Nat.add_zero]
      · rw [if_neg q, o _ _ (by omega) (by omega)]; exact h.su i hi
    · rw [o _ _ (by omega) (by omega), p, lv0_w, if_neg (by omega)]; exact h.wl i hi
    · rw [o _ _ (by omega) (by omega), p, lv0_s, if_neg (by omega)]; exact h.sl i hi
    · have ej : jv (g_mo2 N Y f) (Y + 40) i = if i = 8 then jv N (Y + 40) i + (f_goes f (iv M (B + 100) 5) (iv M (B + 100 + 20) 0)).toInt64 else if i = 5 then jv N (Y + 40) i + (f_goes f (iv M (B + 100 + 20) 1) (iv M (B + 100 + 20) 0)).toInt64 else if i = 1 then jv N (Y + 40) i + f.toInt64 else jv N (Y + 40) i := by
        unfold g_mo2 g_mo2c g_mo2b g_mo2a
        simp only [gsadd_s, iv_gsadd, lv0_41, lv0_42, lv0_j, ec, ew, esu, goes_shr w0]
        by_cases q1 : i = 8
        · subst q1; simp
        · by_cases q2 : i = 5
          · subst q2; simp
          · simp [q1, q2]
      have ei : jv (m_ms2 M B (B + 100) f) (B + 5) i = if i = 8 then jv M (B + 5) i + (f_goes f (iv M (B + 100) 5) (iv M (B + 100 + 20) 0)).toInt64 else if i = 5 then jv M (B + 5) i + (f_goes f (iv M (B + 100 + 20) 1) (iv M (B + 100 + 20) 0)).toInt64 else if i = 1 then jv M (B + 5) i + f.toInt64 else jv M (B + 5) i := by
        unfold m_ms2 m_out m_gc
        simp only [sadd_s, jv_wi']
        by_cases q1 : i = 8
        · subst q1; simp
        · by_cases q2 : i = 5
          · subst q2; simp
          · simp [q1, q2]
      rw [ei, ej, h.sm i hi]
    · rw [o _ _ (by omega) (by omega), p, lv0_o (by omega) (by omega) (by omega) (by omega)]; exact h.it k hk j hj
    · rw [o _ _ (by omega) (by omega), p, lv0_o (by omega) (by omega) (by omega) (by omega)]; exact h.rw
    · rw [o _ _ (by omega) (by omega), p, lv0_o (by omega) (by omega) (by omega) (by omega)]; exact h.rs
    · rw [o _ _ (by omega) (by omega)]; exact h.ta i hi j
  by_cases d1 : 0 < x - g_lev N Y 0
  · rw [if_pos d1, if_pos d1]
    show Rc (m_ms1 M B (B + 100) (fq1 N Y x)) B (g_mo1 N Y (fq1 N Y x)) Y n ic T
    generalize fq1 N Y x = f
    have o : ∀ a j, (a ≠ B + 100 + 30) → iv (m_ms1 M B (B + 100) f) a j = iv M a j := fun a j q => by
      unfold m_ms1 m_in; simp (disch := omega) only [iv_sadd, iv_n]
    have p : ∀ a j, (a ≠ Y + 22 ∨ j ≠ 8) → (a ≠ Y + 23 ∨ j ≠ 8) → iv (g_mo1 N Y f) a j = iv N a j := fun a j q q2 => by
      unfold g_mo1 g_a; simp (disch := omega) only [iv_gsadd, iv_n]
    refine ⟨fun i hi => ?_, fun i hi => ?_, fun i hi => ?_, fun i hi => ?_, fun i hi => ?_, fun i hi => ?_, fun i hi => ?_, fun i hi => ?_, fun i hi => ?_, fun i hi => ?_, fun k hk j hj => ?_, ?_, ?_, fun i hi j => ?_⟩
    · rw [o _ _ (by omega), p _ _ (by omega) (by omega)]; exact h.ar i hi
    · rw [o _ _ (by omega), p _ _ (by omega) (by omega)]; exact h.mu i hi
    · rw [o _ _ (by omega), p _ _ (by omega) (by omega)]; exact h.cl i hi
    · rw [o _ _ (by omega), p _ _ (by omega) (by omega)]; exact h.ru i hi
    · rw [o _ _ (by omega), p _ _ (by omega) (by omega)]; exact h.pe i hi
    · rw [o _ _ (by omega), p _ _ (by omega) (by omega)]; exact h.wu i hi
    · rw [o _ _ (by omega), p _ _ (by omega) (by omega)]; exact h.su i hi
    · by_cases q : i = 0
      · subst q
        simp only [Nat.add_zero]
        unfold m_ms1 m_in g_mo1 g_a; simp (disch := omega) only [iv_sadd, iv_gsadd, iv_n, iv_s, ewl]
      · rw [o _ _ (by omega), p _ _ (by omega) (by omega)]; exact h.wl i hi
    · by_cases q : i = 0
      · subst q
        simp only [Nat.add_zero]
        unfold m_ms1 m_in g_mo1 g_a; simp (disch := omega) only [iv_sadd, iv_gsadd, iv_n, iv_s, esl]
      · rw [o _ _ (by omega), p _ _ (by omega) (by omega)]; exact h.sl i hi
    · unfold m_ms1 m_in g_mo1 g_a
      simp only [sadd_s, gsadd_s, jv_wi', h.sm i hi]
    · rw [o _ _ (by omega), p _ _ (by omega) (by omega)]; exact h.it k hk j hj
    · rw [o _ _ (by omega), p _ _ (by omega) (by omega)]; exact h.rw
    · rw [o _ _ (by omega), p _ _ (by omega) (by omega)]; exact h.rs
    · rw [o _ _ (by omega)]; exact h.ta i hi j
  · rw [if_neg d1, if_neg d1]
    by_cases d2 : x - g_lev N Y 0 < 0
    · rw [if_pos d2]; exact J2 _
    · rw [if_neg d2]
      have d0 : x - g_lev N Y 0 = 0 := by rw [i_lt, i_0] at d1 d2; exact i_ext (by rw [i_0]; omega)
      have f0 : fq2 N Y x = 0 := by
        unfold fq2 f_lt; rw [d0, show (-0 : Int32) = 0 by decide, Int32.zero_mul, show (0 : Int32) / 2 = 0 by decide]
        split
        · rfl
        · rename_i q; rw [i_lt, i_0] at q; exact i_ext (by rw [i_0]; omega)
      rw [f0]
      refine h.N (fun a j q => ?_) (fun j => ?_)
      · show iv (g_lv N Y 0 0 0) a j = iv N a j
        by_cases h1 : a = Y + 19
        · subst h1; rw [lv0_c, shr_z, x_sub0]; simp
        · by_cases h2 : a = Y + 22
          · subst h2; rw [lv0_w, x_sub0]; simp
          · by_cases h3 : a = Y + 23
            · subst h3; rw [lv0_s, shr_z, x_sub0]; simp
            · exact lv0_o q h1 h2 h3
      · unfold g_mo2 g_mo2c g_mo2b g_mo2a
        simp only [gsadd_s, iv_gsadd, lv0_41, lv0_42, lv0_j, shr_z, show (0 : Int32).toInt64 = 0 by decide, Int64.add_zero]
        simp
theorem Rc_riv {M : w_M} {B : Nat} {N : w_M} {Y n ic : Nat} {T : Nat → Nat → Int32} (h : Rc M B N Y n ic T) (hn : n ≤ 8) (h0 : 0 < n) : Rc (m_riv M B (B + 100 + (n - 1))) B (g_rv N Y n) Y n ic T := by
  have hr : n - 1 < n := by omega
  have e1 := h.wu _ hr; have e2 := h.cl _ hr; have e3 := h.rw; have e4 := h.rs; have e5 := h.su _ hr
  have o : ∀ a j, (a ≠ B + 100 + (n - 1) + 20) → (a ≠ B + 100 + (n - 1) ∨ j ≠ 5) → iv (m_riv M B (B + 100 + (n - 1))) a j = iv M a j := fun a j q q2 => by
    unfold m_riv m_in; simp (disch := omega) only [iv_sadd, iv_n]
  have p : ∀ a j, (a ≠ Y + 22 ∨ j ≠ n - 1) → (a ≠ Y + 19 ∨ j ≠ n - 1) → iv (g_rv N Y n) a j = iv N a j := fun a j q q2 => by
    unfold g_rv g_rv4 g_rv3 g_rv2 g_rv1 g_a; simp (disch := omega) only [iv_gsadd, iv_n]
  have x5 : iv (m_in M (B + 100 + (n - 1) + 20) (iv M B 7) 0) (B + 100 + (n - 1)) 5 = iv M (B + 100 + (n - 1)) 5 := by unfold m_in; simp (disch := omega) only [iv_n]
  refine ⟨fun i hi => ?_, fun i hi => ?_, fun i hi => ?_, fun i hi => ?_, fun i hi => ?_, fun i hi => ?_, fun i hi => ?_, fun i hi => ?_, fun i hi => ?_, fun i hi => ?_, fun k hk j hj => ?_, ?_, ?_, fun i hi j => ?_⟩
  · rw [o _ _ (by omega) (by omega), p _ _ (by omega) (by omega)]; exact h.ar i hi
  · rw [o _ _ (by omega) (by omega), p _ _ (by omega) (by omega)]; exact h.mu i hi
  · by_cases q : i = n - 1
    · subst q
      unfold m_riv m_in g_rv g_rv4 g_rv3 g_rv2 g_rv1 g_a; simp (disch := omega) only [iv_sadd, iv_gsadd, iv_n, iv_s, e2, e4]
    · rw [o _ _ (by omega) (by omega), p _ _ (by omega) (by omega)]; exact h.cl i hi
  · rw [o _ _ (by omega) (by omega), p _ _ (by omega) (by omega)]; exact h.ru i hi
  · rw [o _ _ (by omega) (by omega), p _ _ (by omega) (by omega)]; exact h.pe i hi
  · by_cases q : i = n - 1
    · subst q
      unfold m_riv m_in g_rv g_rv4 g_rv3 g_rv2 g_rv1 g_a; simp (disch := omega) only [iv_sadd, iv_gsadd, iv_n, iv_s, e1, e3]
    · rw [o _ _ (by omega) (by omega), p _ _ (by omega) (by omega)]; exact h.wu i hi
  · by_cases q : i = n - 1
    · subst q
      rw [p _ _ (by omega) (by omega), ← e5]
      unfold m_riv m_in; simp (disch := omega) only [iv_sadd, iv_n, iv_s, x_add0]
    · rw [o _ _ (by omega) (by omega), p _ _ (by omega) (by omega)]; exact h.su i hi
  · rw [o _ _ (by omega) (by omega), p _ _ (by omega) (by omega)]; exact h.wl i hi
  · rw [o _ _ (by omega) (by omega), p _ _ (by omega) (by omega)]; exact h.sl i hi
  · unfold m_riv m_in g_rv g_rv4 g_rv3 g_rv2 g_rv1 g_a
    simp (disch := omega) only [sadd_s, gsadd_s, jv_wi', iv_gsadd, iv_sadd, iv_n, h.sm i hi, e3, e4]
  · rw [o _ _ (by omega) (by omega), p _ _ (by omega) (by omega)]; exact h.it k hk j hj
  · rw [o _ _ (by omega) (by omega), p _ _ (by omega) (by omega)]; exact h.rw
  · rw [o _ _ (by omega) (by omega), p _ _ (by omega) (by omega)]; exact h.rs
  · rw [o _ _ (by omega) (by omega)]; exact h.ta i hi j
