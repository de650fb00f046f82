/-! the class: cells after a flow -/
theorem mfl_w {M : w_M} {B s t i : Nat} {f : Int32} (hst : s ≠ t) : iv (m_fl M (B + 100 + s) (B + 100 + t) f) (B + 100 + i + 30) 0 = if i = s then iv M (B + 100 + i + 30) 0 - f else if i = t then iv M (B + 100 + i + 30) 0 + f else iv M (B + 100 + i + 30) 0 := by
  unfold m_fl m_in m_out
  by_cases h : i = s
  · subst h; rw [if_pos rfl]; simp (disch := omega) only [iv_s, iv_n]
  · rw [if_neg h]
    by_cases h2 : i = t
    · subst h2; rw [if_pos rfl]; simp (disch := omega) only [iv_s, iv_n]
    · rw [if_neg h2]; simp (disch := omega) only [iv_s, iv_n]
theorem mfl_s {M : w_M} {B s t i : Nat} {f : Int32} (hst : s ≠ t) : iv (m_fl M (B + 100 + s) (B + 100 + t) f) (B + 100 + i + 30) 1 = if i = s then iv M (B + 100 + i + 30) 1 - f_goes f (iv M (B + 100 + i + 30) 1) (iv M (B + 100 + i + 30) 0) else if i = t then iv M (B + 100 + i + 30) 1 + f_goes f (iv M (B + 100 + s + 30) 1) (iv M (B + 100 + s + 30) 0) else iv M (B + 100 + i + 30) 1 := by
  unfold m_fl m_in m_out
  by_cases h : i = s
  · subst h; rw [if_pos rfl]; simp (disch := omega) only [iv_s, iv_n]
  · rw [if_neg h]
    by_cases h2 : i = t
    · subst h2; rw [if_pos rfl]; simp (disch := omega) only [iv_s, iv_n]
    · rw [if_neg h2]; simp (disch := omega) only [iv_s, iv_n]
theorem mfl_o {M : w_M} {B s t a j : Nat} {f : Int32} (h1 : a ≠ B + 100 + s + 30) (h2 : a ≠ B + 100 + t + 30) : iv (m_fl M (B + 100 + s) (B + 100 + t) f) a j = iv M a j := by
  unfold m_fl m_in m_out; simp (disch := omega) only [iv_n]
theorem mfu_w {M : w_M} {B s t i : Nat} {f : Int32} (hst : s ≠ t) (hs : s < 8) (ht : t < 8) (hi : i < 8) : iv (m_fu M (B + 100 + s) (B + 100 + t) f) (B + 100 + i + 20) 0 = if i = s then iv M (B + 100 + i + 20) 0 - f else if i = t then iv M (B + 100 + i + 20) 0 + f else iv M (B + 100 + i + 20) 0 := by
  unfold m_fu m_fu1 m_gc m_in m_out
  by_cases h : i = s
  · subst h; rw [if_pos rfl]; simp (disch := omega) only [iv_s, iv_n]
  · rw [if_neg h]
    by_cases h2 : i = t
    · subst h2; rw [if_pos rfl]; simp (disch := omega) only [iv_s, iv_n]
    · rw [if_neg h2]; simp (disch := omega) only [iv_s, iv_n]
theorem mfu_s {M : w_M} {B s t i : Nat} {f : Int32} (hst : s ≠ t) (hs : s < 8) (ht : t < 8) (hi : i < 8) : iv (m_fu M (B + 100 + s) (B + 100 + t) f) (B + 100 + i + 20) 1 = if i = s then iv M (B + 100 + i + 20) 1 - f_goes f (iv M (B + 100 + i + 20) 1) (iv M (B + 100 + i + 20) 0) else if i = t then iv M (B + 100 + i + 20) 1 + f_goes f (iv M (B + 100 + s + 20) 1) (iv M (B + 100 + s + 20) 0) else iv M (B + 100 + i + 20) 1 := by
  unfold m_fu m_fu1 m_gc m_in m_out
  by_cases h : i = s
  · subst h; rw [if_pos rfl]; simp (disch := omega) only [iv_s, iv_n]
  · rw [if_neg h]
    by_cases h2 : i = t
    · subst h2; rw [if_pos rfl]; simp (disch := omega) only [iv_s, iv_n]
    · rw [if_neg h2]; simp (disch := omega) only [iv_s, iv_n]
theorem mfu_c {M : w_M} {B s t i : Nat} {f : Int32} (hst : s ≠ t) (hs : s < 8) (ht : t < 8) (hi : i < 8) : iv (m_fu M (B + 100 + s) (B + 100 + t) f) (B + 100 + i) 5 = if i = s then iv M (B + 100 + i) 5 - f_goes f (iv M (B + 100 + i) 5) (iv M (B + 100 + i + 20) 0) else if i = t then iv M (B + 100 + i) 5 + f_goes f (iv M (B + 100 + s) 5) (iv M (B + 100 + s + 20) 0) else iv M (B + 100 + i) 5 := by
  unfold m_fu m_fu1 m_gc m_in m_out
  by_cases h : i = s
  · subst h; rw [if_pos rfl]; simp (disch := omega) only [iv_s, iv_n]
  · rw [if_neg h]
    by_cases h2 : i = t
    · subst h2; rw [if_pos rfl]; simp (disch := omega) only [iv_s, iv_n]
    · rw [if_neg h2]; simp (disch := omega) only [iv_s, iv_n]
theorem mfu_o {M : w_M} {B s t a j : Nat} {f : Int32} (h1 : a ≠ B + 100 + s + 20) (h2 : a ≠ B + 100 + t + 20) (h3 : a ≠ B + 100 + s ∨ j ≠ 5) (h4 : a ≠ B + 100 + t ∨ j ≠ 5) : iv (m_fu M (B + 100 + s) (B + 100 + t) f) a j = iv M a j := by
  unfold m_fu m_fu1 m_gc m_in m_out; simp (disch := omega) only [iv_n]
theorem mfl_j {M : w_M} {k1 k2 a j : Nat} {f : Int32} : jv (m_fl M k1 k2 f) a j = jv M a j := rfl
theorem mfu_j {M : w_M} {k1 k2 a j : Nat} {f : Int32} : jv (m_fu M k1 k2 f) a j = jv M a j := rfl
/-- the sections, intakes, sums and the river of a mouth, as the reference has them; T : what was tasted -/
def Rc (M : w_M) (B : Nat) (N : w_M) (Y n ic : Nat) (T : Nat → Nat → Int32) : Prop := (∀ s, s < n → iv M (B + 100 + s) 3 = iv N (Y + 17) s) ∧ (∀ s, s < n → iv M (B + 100 + s) 4 = iv N (Y + 18) s) ∧ (∀ s, s < n → iv M (B + 100 + s) 5 = iv N (Y + 19) s) ∧ (∀ s, s < n → iv M (B + 100 + s) 6 = iv N (Y + 20) s) ∧ (∀ s, s < n → iv M (B + 100 + s) 7 = iv N (Y + 21) s) ∧ (∀ s, s < n → iv M (B + 100 + s + 20) 0 = iv N (Y + 22) s) ∧ (∀ s, s < n → iv M (B + 100 + s + 20) 1 = iv N (Y + 23) s) ∧ (∀ s, s < n → iv M (B + 100 + s + 30) 0 = iv N (Y + 22) (8 + s)) ∧ (∀ s, s < n → iv M (B + 100 + s + 30) 1 = iv N (Y + 23) (8 + s)) ∧ (∀ i, i < 10 → jv M (B + 5) i = jv N (Y + 40) i) ∧ (∀ k, k < ic → ∀ j, j < 10 → iv M (B + 150 + k) j = iv N (Y + 26 + j) k) ∧ (iv M B 7 = iv N Y 8) ∧ (iv M B 8 = iv N Y 9) ∧ (∀ s, s < n → ∀ j, iv M (B + 100 + s + 40) j = T s j)
theorem Rc.ar {M : w_M} {B : Nat} {N : w_M} {Y n ic : Nat} {T : Nat → Nat → Int32} (h : Rc M B N Y n ic T) : ∀ s, s < n → iv M (B + 100 + s) 3 = iv N (Y + 17) s := h.1
theorem Rc.mu {M : w_M} {B : Nat} {N : w_M} {Y n ic : Nat} {T : Nat → Nat → Int32} (h : Rc M B N Y n ic T) : ∀ s, s < n → iv M (B + 100 + s) 4 = iv N (Y + 18) s := h.2.1
theorem Rc.cl {M : w_M} {B : Nat} {N : w_M} {Y n ic : Nat} {T : Nat → Nat → Int32} (h : Rc M B N Y n ic T) : ∀ s, s < n → iv M (B + 100 + s) 5 = iv N (Y + 19) s := h.2.2.1
theorem Rc.ru {M : w_M} {B : Nat} {N : w_M} {Y n ic : Nat} {T : Nat → Nat → Int32} (h : Rc M B N Y n ic T) : ∀ s, s < n → iv M (B + 100 + s) 6 = iv N (Y + 20) s := h.2.2.2.1
theorem Rc.pe {M : w_M} {B : Nat} {N : w_M} {Y n ic : Nat} {T : Nat → Nat → Int32} (h : Rc M B N Y n ic T) : ∀ s, s < n → iv M (B + 100 + s) 7 = iv N (Y + 21) s := h.2.2.2.2.1
theorem Rc.wu {M : w_M} {B : Nat} {N : w_M} {Y n ic : Nat} {T : Nat → Nat → Int32} (h : Rc M B N Y n ic T) : ∀ s, s < n → iv M (B + 100 + s + 20) 0 = iv N (Y + 22) s := h.2.2.2.2.2.1
theorem Rc.su {M : w_M} {B : Nat} {N : w_M} {Y n ic : Nat} {T : Nat → Nat → Int32} (h : Rc M B N Y n ic T) : ∀ s, s < n → iv M (B + 100 + s + 20) 1 = iv N (Y + 23) s := h.2.2.2.2.2.2.1
theorem Rc.wl {M : w_M} {B : Nat} {N : w_M} {Y n ic : Nat} {T : Nat → Nat → Int32} (h : Rc M B N Y n ic T) : ∀ s, s < n → iv M (B + 100 + s + 30) 0 = iv N (Y + 22) (8 + s) := h.2.2.2.2.2.2.2.1
theorem Rc.sl {M : w_M} {B : Nat} {N : w_M} {Y n ic : Nat} {T : Nat → Nat → Int32} (h : Rc M B N Y n ic T) : ∀ s, s < n → iv M (B + 100 + s + 30) 1 = iv N (Y + 23) (8 + s) := h.2.2.2.2.2.2.2.2.1
theorem Rc.sm {M : w_M} {B : Nat} {N : w_M} {Y n ic : Nat} {T : Nat → Nat → Int32} (h : Rc M B N Y n ic T) : ∀ i, i < 10 → jv M (B + 5) i = jv N (Y + 40) i := h.2.2.2.2.2.2.2.2.2.1
theorem Rc.it {M : w_M} {B : Nat} {N : w_M} {Y n ic : Nat} {T : Nat → Nat → Int32} (h : Rc M B N Y n ic T) : ∀ k, k < ic → ∀ j, j < 10 → iv M (B + 150 + k) j = iv N (Y + 26 + j) k := h.2.2.2.2.2.2.2.2.2.2.1
theorem Rc.rw {M : w_M} {B : Nat} {N : w_M} {Y n ic : Nat} {T : Nat → Nat → Int32} (h : Rc M B N Y n ic T) : iv M B 7 = iv N Y 8 := h.2.2.2.2.2.2.2.2.2.2.2.1
theorem Rc.rs {M : w_M} {B : Nat} {N : w_M} {Y n ic : Nat} {T : Nat → Nat → Int32} (h : Rc M B N Y n ic T) : iv M B 8 = iv N Y 9 := h.2.2.2.2.2.2.2.2.2.2.2.2.1
theorem Rc.ta {M : w_M} {B : Nat} {N : w_M} {Y n ic : Nat} {T : Nat → Nat → Int32} (h : Rc M B N Y n ic T) : ∀ s, s < n → ∀ j, iv M (B + 100 + s + 40) j = T s j := h.2.2.2.2.2.2.2.2.2.2.2.2.2
theorem Rc_fl {M : w_M} {B : Nat} {N : w_M} {Y n ic s t : Nat} {T : Nat → Nat → Int32} {f : Int32} (h : Rc M B N Y n ic T) (hn : n ≤ 8) (hs : s < n) (ht : t < n) (hst : s ≠ t) (hw : 0 ≤ (iv N (Y + 22) (8 + s)).toInt) : Rc (m_fl M (B + 100 + s) (B + 100 + t) f) B (g_fl N Y 1 s t f) Y n ic T := by
  refine ⟨fun i hi => ?_, fun i hi => ?_, fun i hi => ?_, fun i hi => ?_, fun i hi => ?_, fun i hi => ?_, fun i hi => ?_, fun i hi => ?_, fun i hi => ?_, h.sm, fun k hk j hj => ?_, ?_, ?_, fun i hi j => ?_⟩
  · rw [mfl_o (by omega) (by omega), fl1_o (by omega) (by omega) (by omega)]; exact h.ar i hi
  · rw [mfl_o (by omega) (by omega), fl1_o (by omega) (by omega) (by omega)]; exact h.mu i hi
  · rw [mfl_o (by omega) (by omega), fl1_o (by omega) (by omega) (by omega)]; exact h.cl i hi
  · rw [mfl_o (by omega) (by omega), fl1_o (by omega) (by omega) (by omega)]; exact h.ru i hi
  · rw [mfl_o (by omega) (by omega), fl1_o (by omega) (by omega) (by omega)]; exact h.pe i hi
  · rw [mfl_o (by omega) (by omega), fl1_w hst, if_neg (by omega), if_neg (by omega)]; exact h.wu i hi
  · rw [mfl_o (by omega) (by omega), fl1_s hst, if_neg (by omega), if_neg (by omega)]; exact h.su i hi
  · rw [mfl_w hst, fl1_w hst, h.wl i hi]
    by_cases q : i = s
    · rw [if_pos q, if_pos (by omega)]
    · rw [if_neg q, if_neg (show ¬ 8 + i = 8 + s by omega)]
      by_cases q2 : i = t
      · rw [if_pos q2, if_pos (by omega)]
      · rw [if_neg q2, if_neg (show ¬ 8 + i = 8 + t by omega)]
  · rw [mfl_s hst, fl1_s hst, h.sl i hi, h.wl i hi, h.sl s hs, h.wl s hs]
    by_cases q : i = s
    · subst q; rw [if_pos rfl, if_pos rfl, goes_shr hw]
    · rw [if_neg q, if_neg (show ¬ 8 + i = 8 + s by omega)]
      by_cases q2 : i = t
      · rw [if_pos q2, if_pos (by omega), goes_shr hw]
      · rw [if_neg q2, if_neg (show ¬ 8 + i = 8 + t by omega)]
  · rw [mfl_o (by omega) (by omega), fl1_o (by omega) (by omega) (by omega)]; exact h.it k hk j hj
  · rw [mfl_o (by omega) (by omega), fl1_o (by omega) (by omega) (by omega)]; exact h.rw
  · rw [mfl_o (by omega) (by omega), fl1_o (by omega) (by omega) (by omega)]; exact h.rs
  · rw [mfl_o (by omega) (by omega)]; exact h.ta i hi j
theorem Rc_fu {M : w_M} {B : Nat} {N : w_M} {Y n ic s t : Nat} {T : Nat → Nat → Int32} {f : Int32} (h : Rc M B N Y n ic T) (hn : n ≤ 8) (hs : s < n) (ht : t < n) (hst : s ≠ t) (hw : 0 ≤ (iv N (Y + 22) s).toInt) : Rc (m_fu M (B + 100 + s) (B + 100 + t) f) B (g_fl N Y 0 s t f) Y n ic T := by
  have hs8 : s < 8 := by omega
  have ht8 : t < 8 := by omega
  refine ⟨fun i hi => ?_, fun i hi => ?_, fun i hi => ?_, fun i hi => ?_, fun i hi => ?_, fun i hi => ?_, fun i hi => ?_, fun i hi => ?_, fun i hi => ?_, h.sm, fun k hk j hj => ?_, ?_, ?_, fun i hi j => ?_⟩
  · rw [mfu_o (by omega) (by omega) (by omega) (by omega), fl0_o (by omega) (by omega) (by omega) (by omega)]; exact h.ar i hi
  · rw [mfu_o (by omega) (by omega) (by omega) (by omega), fl0_o (by omega) (by omega) (by omega) (by omega)]; exact h.mu i hi
  · rw [mfu_c hst hs8 ht8 (by omega), fl0_c hst, h.cl i hi, h.wu i hi, h.cl s hs, h.wu s hs]
    by_cases q : i = s
    · subst q; rw [if_pos rfl, if_pos rfl, goes_shr hw]
    · rw [if_neg q, if_neg q]
      by_cases q2 : i = t
      · rw [if_pos q2, if_pos q2, goes_shr hw]
      · rw [if_neg q2, if_neg q2]
  · rw [mfu_o (by omega) (by omega) (by omega) (by omega), fl0_o (by omega) (by omega) (by omega) (by omega)]; exact h.ru i hi
  · rw [mfu_o (by omega) (by omega) (by omega) (by omega), fl0_o (by omega) (by omega) (by omega) (by omega)]; exact h.pe i hi
  · rw [mfu_w hst hs8 ht8 (by omega), fl0_w hst, h.wu i hi]
  · rw [mfu_s hst hs8 ht8 (by omega), fl0_s hst, h.su i hi, h.wu i hi, h.su s hs, h.wu s hs]
    by_cases q : i = s
    · subst q; rw [if_pos rfl, if_pos rfl, goes_shr hw]
    · rw [if_neg q, if_neg q]
      by_cases q2 : i = t
      · rw [if_pos q2, if_pos q2, goes_shr hw]
      · rw [if_neg q2, if_neg q2]
  · rw [mfu_o (by omega) (by omega) (by omega) (by omega), fl0_w hst, if_neg (by omega), if_neg (by omega)]; exact h.wl i hi
  · rw [mfu_o (by omega) (by omega) (by omega) (by omega), fl0_s hst, if_neg (by omega), if_neg (by omega)]; exact h.sl i hi
  · rw [mfu_o (by omega) (by omega) (by omega) (by omega), fl0_o (by omega) (by omega) (by omega) (by omega)]; exact h.it k hk j hj
  · rw [mfu_o (by omega) (by omega) (by omega) (by omega), fl0_o (by omega) (by omega) (by omega) (by omega)]; exact h.rw
  · rw [mfu_o (by omega) (by omega) (by omega) (by omega), fl0_o (by omega) (by omega) (by omega) (by omega)]; exact h.rs
  · rw [mfu_o (by omega) (by omega) (by omega) (by omega)]; exact h.ta i hi j
