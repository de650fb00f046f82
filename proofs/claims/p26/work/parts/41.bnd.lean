/-! the reference: cells after a flow, and what stays within bounds -/
theorem cg1 {N : w_M} {Y s : Nat} {f : Int32} : g_cg N Y 1 s f = 0 := by unfold g_cg; rw [if_neg (by decide)]
theorem cg0 {N : w_M} {Y s : Nat} {f : Int32} : g_cg N Y 0 s f = f_shr (iv N (Y + 19) s) f (iv N (Y + 22) s) := by unfold g_cg; rw [if_pos (by decide), show 8 * 0 + s = s by omega]
theorem sg1 {N : w_M} {Y s : Nat} {f : Int32} : g_sg N Y 1 s f = f_shr (iv N (Y + 23) (8 + s)) f (iv N (Y + 22) (8 + s)) := rfl
theorem sg0 {N : w_M} {Y s : Nat} {f : Int32} : g_sg N Y 0 s f = f_shr (iv N (Y + 23) s) f (iv N (Y + 22) s) := by unfold g_sg; rw [show 8 * 0 + s = s by omega]
theorem x_sub0 (x : Int32) : x - 0 = x := by simp
theorem x_add0 (x : Int32) : x + 0 = x := by simp
theorem lv0_w {N : w_M} {Y s i : Nat} {f : Int32} : iv (g_lv N Y 0 s f) (Y + 22) i = if i = s then iv N (Y + 22) i - f else iv N (Y + 22) i := by
  unfold g_lv; rw [show 8 * 0 + s = s by omega]
  by_cases h : i = s
  · subst h; rw [if_pos rfl]; simp (disch := omega) only [iv_s, iv_n]
  · rw [if_neg h]; simp (disch := omega) only [iv_s, iv_n]
theorem lv0_s {N : w_M} {Y s i : Nat} {f : Int32} : iv (g_lv N Y 0 s f) (Y + 23) i = if i = s then iv N (Y + 23) i - f_shr (iv N (Y + 23) i) f (iv N (Y + 22) i) else iv N (Y + 23) i := by
  unfold g_lv; rw [show 8 * 0 + s = s by omega, sg0]
  by_cases h : i = s
  · subst h; rw [if_pos rfl]; simp (disch := omega) only [iv_s, iv_n]
  · rw [if_neg h]; simp (disch := omega) only [iv_s, iv_n]
theorem lv0_c {N : w_M} {Y s i : Nat} {f : Int32} : iv (g_lv N Y 0 s f) (Y + 19) i = if i = s then iv N (Y + 19) i - f_shr (iv N (Y + 19) i) f (iv N (Y + 22) i) else iv N (Y + 19) i := by
  unfold g_lv; rw [show 8 * 0 + s = s by omega, cg0]
  by_cases h : i = s
  · subst h; rw [if_pos rfl]; simp (disch := omega) only [iv_s, iv_n]
  · rw [if_neg h]; simp (disch := omega) only [iv_s, iv_n]
theorem lv0_41 {N : w_M} {Y s : Nat} {f : Int32} : iv (g_lv N Y 0 s f) Y 41 = f_shr (iv N (Y + 23) s) f (iv N (Y + 22) s) := by
  unfold g_lv; rw [show 8 * 0 + s = s by omega, sg0]; simp (disch := omega) only [iv_s, iv_n]
theorem lv0_42 {N : w_M} {Y s : Nat} {f : Int32} : iv (g_lv N Y 0 s f) Y 42 = f_shr (iv N (Y + 19) s) f (iv N (Y + 22) s) := by
  unfold g_lv; rw [show 8 * 0 + s = s by omega, cg0]; simp (disch := omega) only [iv_s, iv_n]
theorem lv0_o {N : w_M} {Y s a j : Nat} {f : Int32} (h : a ≠ Y ∨ (j ≠ 41 ∧ j ≠ 42)) (h1 : a ≠ Y + 19) (h2 : a ≠ Y + 22) (h3 : a ≠ Y + 23) : iv (g_lv N Y 0 s f) a j = iv N a j := by
  unfold g_lv; simp (disch := omega) only [iv_n]
theorem lv0_j {N : w_M} {Y s a j : Nat} {f : Int32} : jv (g_lv N Y 0 s f) a j = jv N a j := rfl
theorem fl_j {N : w_M} {Y l s t a j : Nat} {f : Int32} : jv (g_fl N Y l s t f) a j = jv N a j := rfl
theorem fl0_w {N : w_M} {Y s t i : Nat} {f : Int32} (hst : s ≠ t) : iv (g_fl N Y 0 s t f) (Y + 22) i = if i = s then iv N (Y + 22) i - f else if i = t then iv N (Y + 22) i + f else iv N (Y + 22) i := by
  unfold g_fl g_fl3 g_fl2 g_fl1; rw [show 8 * 0 + t = t by omega]
  by_cases h : i = t
  · subst h; rw [if_neg (Ne.symm hst), if_pos rfl]; simp (disch := omega) only [iv_s, iv_n, lv0_w, if_neg (Ne.symm hst)]
  · simp (disch := omega) only [iv_s, iv_n, lv0_w, if_neg h]
theorem fl0_s {N : w_M} {Y s t i : Nat} {f : Int32} (hst : s ≠ t) : iv (g_fl N Y 0 s t f) (Y + 23) i = if i = s then iv N (Y + 23) i - f_shr (iv N (Y + 23) i) f (iv N (Y + 22) i) else if i = t then iv N (Y + 23) i + f_shr (iv N (Y + 23) s) f (iv N (Y + 22) s) else iv N (Y + 23) i := by
  unfold g_fl g_fl3 g_fl2 g_fl1; rw [show 8 * 0 + t = t by omega]
  by_cases h : i = t
  · subst h; rw [if_neg (Ne.symm hst), if_pos rfl]; simp (disch := omega) only [iv_s, iv_n, lv0_s, lv0_41, if_neg (Ne.symm hst)]
  · simp (disch := omega) only [iv_s, iv_n, lv0_s, if_neg h]
theorem fl0_c {N : w_M} {Y s t i : Nat} {f : Int32} (hst : s ≠ t) : iv (g_fl N Y 0 s t f) (Y + 19) i = if i = s then iv N (Y + 19) i - f_shr (iv N (Y + 19) i) f (iv N (Y + 22) i) else if i = t then iv N (Y + 19) i + f_shr (iv N (Y + 19) s) f (iv N (Y + 22) s) else iv N (Y + 19) i := by
  unfold g_fl g_fl3 g_fl2 g_fl1; rw [show 8 * 0 + t = t by omega]
  by_cases h : i = t
  · subst h; rw [if_neg (Ne.symm hst), if_pos rfl]; simp (disch := omega) only [iv_s, iv_n, lv0_c, lv0_42, if_neg (Ne.symm hst)]
  · simp (disch := omega) only [iv_s, iv_n, lv0_c, if_neg h]
theorem fl0_o {N : w_M} {Y s t a j : Nat} {f : Int32} (h : a ≠ Y ∨ (j ≠ 41 ∧ j ≠ 42)) (h1 : a ≠ Y + 19) (h2 : a ≠ Y + 22) (h3 : a ≠ Y + 23) : iv (g_fl N Y 0 s t f) a j = iv N a j := by
  unfold g_fl g_fl3 g_fl2 g_fl1; simp (disch := omega) only [iv_n, lv0_o]
theorem fl1_w {N : w_M} {Y s t i : Nat} {f : Int32} (hst : s ≠ t) : iv (g_fl N Y 1 s t f) (Y + 22) i = if i = 8 + s then iv N (Y + 22) i - f else if i = 8 + t then iv N (Y + 22) i + f else iv N (Y + 22) i := by
  unfold g_fl g_fl3 g_fl2 g_fl1 g_lv
  by_cases h : i = 8 + s
  · subst h; rw [if_pos rfl]; simp (disch := omega) only [iv_s, iv_n, Nat.reduceMul]
  · rw [if_neg h]
    by_cases h2 : i = 8 + t
    · subst h2; rw [if_pos rfl]; simp (disch := omega) only [iv_s, iv_n, Nat.reduceMul]
    · rw [if_neg h2]; simp (disch := omega) only [iv_s, iv_n, Nat.reduceMul]
theorem fl1_s {N : w_M} {Y s t i : Nat} {f : Int32} (hst : s ≠ t) : iv (g_fl N Y 1 s t f) (Y + 23) i = if i = 8 + s then iv N (Y + 23) i - f_shr (iv N (Y + 23) i) f (iv N (Y + 22) i) else if i = 8 + t then iv N (Y + 23) i + f_shr (iv N (Y + 23) (8 + s)) f (iv N (Y + 22) (8 + s)) else iv N (Y + 23) i := by
  unfold g_fl g_fl3 g_fl2 g_fl1 g_lv; rw [sg1]
  by_cases h : i = 8 + s
  · subst h; rw [if_pos rfl]; simp (disch := omega) only [iv_s, iv_n, Nat.reduceMul]
  · rw [if_neg h]
    by_cases h2 : i = 8 + t
    · subst h2; rw [if_pos rfl]; simp (disch := omega) only [iv_s, iv_n, Nat.reduceMul]
    · rw [if_neg h2]; simp (disch := omega) only [iv_s, iv_n, Nat.reduceMul]
theorem fl1_o {N : w_M} {Y s t a j : Nat} {f : Int32} (h : a ≠ Y ∨ (j ≠ 41 ∧ j ≠ 42)) (h2 : a ≠ Y + 22) (h3 : a ≠ Y + 23) : iv (g_fl N Y 1 s t f) a j = iv N a j := by
  unfold g_fl g_fl3 g_fl2 g_fl1 g_lv; rw [cg1]
  have e : ∀ i, iv (wi N (Y + 19) s (iv N (Y + 19) s - 0)) (Y + 19) i = iv N (Y + 19) i := fun i => by rw [x_sub0, iv_wi]; split; rename_i q; rw [q.2]; rfl
  simp (disch := omega) only [iv_s, iv_n, x_sub0, x_add0]
  by_cases h1 : a = Y + 19
  · subst h1
    by_cases q : j = t
    · subst q; simp (disch := omega) only [iv_s, iv_n]
      by_cases q : j = s
      · subst q; simp (disch := omega) only [iv_s, iv_n]
      · simp (disch := omega) only [iv_s, iv_n]
    · simp (disch := omega) only [iv_s, iv_n]
      by_cases q : j = s
      · subst q; simp (disch := omega) only [iv_s, iv_n]
      · simp (disch := omega) only [iv_s, iv_n]
  · simp (disch := omega) only [iv_s, iv_n]
