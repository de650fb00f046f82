/-! what is kept in sum: water, salt, mud -/
theorem shr_e {a f o : Int32} (ha : 0 ≤ a.toInt) (hf : 0 ≤ f.toInt) (hfo : f.toInt ≤ o.toInt) (ho : 0 < o.toInt) : (f_shr a f o).toInt = a.toInt * f.toInt / o.toInt := by
  unfold f_shr
  rw [if_neg (fun h => by rw [h, i_0] at ho; omega)]
  have ra := i_rg a; have rf := i_rg f; have ro := i_rg o
  have m1 : 0 ≤ a.toInt * f.toInt := Int.mul_nonneg ha hf
  have m2 : a.toInt * f.toInt ≤ 2147483648 * 2147483648 := Int.mul_le_mul (by omega) (by omega) hf (by omega)
  have m3 : a.toInt * f.toInt ≤ a.toInt * o.toInt := Int.mul_le_mul_of_nonneg_left hfo ha
  have d1 : a.toInt * f.toInt / o.toInt ≤ a.toInt := Int.ediv_le_of_le_mul ho m3
  have d0 : 0 ≤ a.toInt * f.toInt / o.toInt := Int.ediv_nonneg m1 (by omega)
  rw [Int64.toInt_toInt32, Int64.toInt_div, Int64.toInt_mul, Int32.toInt_toInt64, Int32.toInt_toInt64, Int32.toInt_toInt64, i_bm8 (x := a.toInt * f.toInt) (by omega) (by omega), Int.tdiv_eq_ediv_of_nonneg m1, i_bm8 (by omega) (by omega), i_bm (by omega) (by omega)]
theorem shr_k {a f o : Int32} (ha : 0 ≤ a.toInt) (h30 : a.toInt ≤ 30 * o.toInt) (hf : 0 ≤ f.toInt) (hfo : f.toInt ≤ o.toInt) : 0 ≤ (f_shr a f o).toInt ∧ (f_shr a f o).toInt ≤ a.toInt ∧ (f_shr a f o).toInt ≤ 30 * f.toInt ∧ a.toInt - (f_shr a f o).toInt ≤ 30 * (o.toInt - f.toInt) := by
  obtain ⟨b0, b1⟩ := shr_b ha hf hfo
  refine ⟨b0, b1, ?_⟩
  rcases Int.lt_or_eq_of_le (show 0 ≤ o.toInt by omega) with ho | ho
  · rw [shr_e ha hf hfo ho]
    generalize hq : a.toInt * f.toInt / o.toInt = q
    have q1 : q * o.toInt ≤ a.toInt * f.toInt := by rw [← hq]; exact Int.ediv_mul_le _ (by omega)
    have q2 : a.toInt * f.toInt < (q + 1) * o.toInt := by rw [← hq]; exact Int.lt_ediv_add_one_mul_self _ ho
    have m1 : a.toInt * f.toInt ≤ 30 * o.toInt * f.toInt := Int.mul_le_mul_of_nonneg_right h30 hf
    have m2 : a.toInt * (o.toInt - f.toInt) ≤ 30 * o.toInt * (o.toInt - f.toInt) := Int.mul_le_mul_of_nonneg_right h30 (by omega)
    constructor
    · have e : 30 * f.toInt * o.toInt = 30 * o.toInt * f.toInt := by ac_rfl
      exact Int.le_of_mul_le_mul_right (show q * o.toInt ≤ 30 * f.toInt * o.toInt by omega) ho
    · have e1 : (a.toInt - q) * o.toInt = a.toInt * o.toInt - q * o.toInt := Int.sub_mul _ _ _
      have e2 : (q + 1) * o.toInt = q * o.toInt + o.toInt := by rw [Int.add_mul, Int.one_mul]
      have e3 : a.toInt * (o.toInt - f.toInt) = a.toInt * o.toInt - a.toInt * f.toInt := Int.mul_sub _ _ _
      have e4 : (30 * (o.toInt - f.toInt) + 1) * o.toInt = 30 * o.toInt * (o.toInt - f.toInt) + o.toInt := by
        rw [Int.add_mul, Int.one_mul, Int.mul_assoc, Int.mul_comm (o.toInt - f.toInt), ← Int.mul_assoc]
      have e5 : (a.toInt - q) * o.toInt < (30 * (o.toInt - f.toInt) + 1) * o.toInt := by omega
      exact Int.le_of_lt_add_one (Int.lt_of_mul_lt_mul_right e5 (by omega))
  · omega
theorem two_sum {w w' : Nat → Int} {n s t a : Nat} {f : Int} (ha : a = 0 ∨ a = 8) (hn : n ≤ 8) (hs : s < n) (ht : t < n) (hst : s ≠ t) (es : w' (a + s) = w (a + s) - f) (et : w' (a + t) = w (a + t) + f) (eo : ∀ i, i ≠ a + s → i ≠ a + t → w' i = w i) : sm (fun i => w' i + w' (8 + i)) n = sm (fun i => w i + w (8 + i)) n := by
  have e := sm_2 (f := fun i => w i + w (8 + i)) (g := fun i => w' i + w' (8 + i)) hs ht hst (fun i hi q q2 => by
    show w' i + w' (8 + i) = w i + w (8 + i)
    rw [eo i (by omega) (by omega), eo (8 + i) (by omega) (by omega)])
  rcases ha with rfl | rfl
  · have h1 := eo (8 + s) (by omega) (by omega)
    have h2 := eo (8 + t) (by omega) (by omega)
    simp only [Nat.zero_add] at es et
    omega
  · have h1 := eo s (by omega) (by omega)
    have h2 := eo t (by omega) (by omega)
    omega
theorem one_sum {w w' : Nat → Int} {n s a : Nat} {f : Int} (ha : a = 0 ∨ a = 8) (hn : n ≤ 8) (hs : s < n) (es : w' (a + s) = w (a + s) + f) (eo : ∀ i, i ≠ a + s → w' i = w i) : sm (fun i => w' i + w' (8 + i)) n = sm (fun i => w i + w (8 + i)) n + f := by
  have e := sm_1 (f := fun i => w i + w (8 + i)) (g := fun i => w' i + w' (8 + i)) hs (fun i hi q => by
    show w' i + w' (8 + i) = w i + w (8 + i)
    rw [eo i (by omega), eo (8 + i) (by omega)])
  rcases ha with rfl | rfl
  · have h1 := eo (8 + s) (by omega)
    simp only [Nat.zero_add] at es
    omega
  · have h1 := eo s (by omega)
    omega
theorem j_add {x : Int64} {y : Int32} (x0 : 0 ≤ x.toInt) (x1 : x.toInt ≤ 2 ^ 60) : (x + y.toInt64).toInt = x.toInt + y.toInt := by
  have := i_rg y
  rw [Int64.toInt_add, Int32.toInt_toInt64, i_bm8 (by omega) (by omega)]
def qW (N : w_M) (Y n : Nat) : Int := sm (fun s => (iv N (Y + 22) s).toInt + (iv N (Y + 22) (8 + s)).toInt) n
def qS (N : w_M) (Y n : Nat) : Int := sm (fun s => (iv N (Y + 23) s).toInt + (iv N (Y + 23) (8 + s)).toInt) n
def qM (N : w_M) (Y n : Nat) : Int := sm (fun s => (iv N (Y + 18) s).toInt + (iv N (Y + 19) s).toInt) n
def qT (N : w_M) (Y ic : Nat) : Int := sm (fun k => (iv N (Y + 32) k).toInt) ic
def qj (N : w_M) (Y i : Nat) : Int := (jv N (Y + 40) i).toInt
/-- the layers: UP of section i at i, LOW at 8 + i -/
def ly (n i : Nat) : Prop := i < n ∨ (8 ≤ i ∧ i < 8 + n)
def kS (N : w_M) (Y n : Nat) : Prop := ∀ i, ly n i → 0 ≤ (iv N (Y + 23) i).toInt ∧ (iv N (Y + 23) i).toInt ≤ 30 * (iv N (Y + 22) i).toInt
theorem gB.ly {N : w_M} {Y n i : Nat} {W C : Int} (b : gB N Y n W C) (hi : ly n i) : 0 ≤ (iv N (Y + 22) i).toInt ∧ (iv N (Y + 22) i).toInt ≤ W := by
  rcases hi with h | ⟨h1, h2⟩
  · have := b.w h; have := b.wu i h; have := b.wl i h; omega
  · obtain ⟨k, rfl⟩ : ∃ k, i = 8 + k := ⟨i - 8, by omega⟩
    have hk : k < n := by omega
    have := b.w hk; have := b.wu k hk; have := b.wl k hk; omega
theorem gB.ly2 {N : w_M} {Y n a s t : Nat} {W C : Int} (b : gB N Y n W C) (ha : a = 0 ∨ a = 8) (hs : s < n) (ht : t < n) (hst : s ≠ t) : (iv N (Y + 22) (a + s)).toInt + (iv N (Y + 22) (a + t)).toInt ≤ W := by
  have := b.w2 hs ht hst; have := b.wu s hs; have := b.wl s hs; have := b.wu t ht; have := b.wl t ht
  rcases ha with rfl | rfl
  · simp only [Nat.zero_add]; omega
  · omega
def kA (N : w_M) (Y n ic : Nat) (W0 M0 Z : Int) : Prop := kS N Y n ∧ qW N Y n + qj N Y 1 + qj N Y 3 = W0 + qj N Y 0 + qj N Y 2 ∧ qS N Y n + qj N Y 5 + qj N Y 6 = qj N Y 4 ∧ qM N Y n + qj N Y 8 + qj N Y 9 = M0 + qj N Y 7 ∧ qj N Y 4 = 30 * qj N Y 0 ∧ qT N Y ic = qj N Y 3 ∧ ∀ i, i < 10 → 0 ≤ qj N Y i ∧ qj N Y i ≤ Z
theorem kA.same {N N' : w_M} {Y n ic : Nat} {W0 M0 Z : Int} (h : kA N Y n ic W0 M0 Z) (ew : ∀ i, iv N' (Y + 22) i = iv N (Y + 22) i) (es : ∀ i, iv N' (Y + 23) i = iv N (Y + 23) i) (em : ∀ i, iv N' (Y + 18) i = iv N (Y + 18) i) (ec : ∀ i, iv N' (Y + 19) i = iv N (Y + 19) i) (et : ∀ i, iv N' (Y + 32) i = iv N (Y + 32) i) (ej : ∀ i, jv N' (Y + 40) i = jv N (Y + 40) i) : kA N' Y n ic W0 M0 Z := by
  unfold kA kS qW qS qM qT qj at *
  simp only [ew, es, em, ec, et, ej]
  exact h
theorem kA.up {N : w_M} {Y n ic : Nat} {W0 M0 Z Z' : Int} (h : kA N Y n ic W0 M0 Z) (hz : Z ≤ Z') : kA N Y n ic W0 M0 Z' := by
  obtain ⟨h0, h1, h2, h3, h4, h5, h6⟩ := h
  exact ⟨h0, h1, h2, h3, h4, h5, fun i hi => ⟨(h6 i hi).1, Int.le_trans (h6 i hi).2 hz⟩⟩
theorem kA_fl {N N' : w_M} {Y n ic a s t : Nat} {f : Int32} {W0 M0 Z W C : Int} (h : kA N Y n ic W0 M0 Z) (b : gB N Y n W C) (hn : n ≤ 8) (hW : W < 2 ^ 26) (ha : a = 0 ∨ a = 8) (hs : s < n) (ht : t < n) (hst : s ≠ t) (f0 : 0 ≤ f.toInt) (f1 : f.toInt ≤ (iv N (Y + 22) (a + s)).toInt)
    (ws : iv N' (Y + 22) (a + s) = iv N (Y + 22) (a + s) - f) (wt : iv N' (Y + 22) (a + t) = iv N (Y + 22) (a + t) + f) (wo : ∀ i, i ≠ a + s → i ≠ a + t → iv N' (Y + 22) i = iv N (Y + 22) i)
    (ss : iv N' (Y + 23) (a + s) = iv N (Y + 23) (a + s) - f_shr (iv N (Y + 23) (a + s)) f (iv N (Y + 22) (a + s))) (st : iv N' (Y + 23) (a + t) = iv N (Y + 23) (a + t) + f_shr (iv N (Y + 23) (a + s)) f (iv N (Y + 22) (a + s))) (so : ∀ i, i ≠ a + s → i ≠ a + t → iv N' (Y + 23) i = iv N (Y + 23) i)
    (eM : qM N' Y n = qM N Y n) (eT : ∀ k, iv N' (Y + 32) k = iv N (Y + 32) k) (ej : ∀ i, jv N' (Y + 40) i = jv N (Y + 40) i) : kA N' Y n ic W0 M0 Z := by
  obtain ⟨hS, h1, h2, h3, h4, h5, h6⟩ := h
  have lys : ly n (a + s) := by unfold ly; omega
  have lyt : ly n (a + t) := by unfold ly; omega
  obtain ⟨x0, x1⟩ := hS _ lys
  obtain ⟨y0, y1⟩ := hS _ lyt
  have bs := b.ly lys
  have bt := b.ly lyt
  have b2 := b.ly2 ha hs ht hst
  obtain ⟨k0, k1, k2, k3⟩ := shr_k x0 x1 f0 f1
  generalize f_shr (iv N (Y + 23) (a + s)) f (iv N (Y + 22) (a + s)) = x at *
  have e1 : (iv N (Y + 22) (a + s) - f).toInt = (iv N (Y + 22) (a + s)).toInt - f.toInt := i_sub (by omega) (by omega)
  have e2 : (iv N (Y + 22) (a + t) + f).toInt = (iv N (Y + 22) (a + t)).toInt + f.toInt := i_add (by omega) (by omega)
  have e3 : (iv N (Y + 23) (a + s) - x).toInt = (iv N (Y + 23) (a + s)).toInt - x.toInt := i_sub (by omega) (by omega)
  have e4 : (iv N (Y + 23) (a + t) + x).toInt = (iv N (Y + 23) (a + t)).toInt + x.toInt := i_add (by omega) (by omega)
  have jj : ∀ i, qj N' Y i = qj N Y i := fun i => by unfold qj; rw [ej]
  have jW : qW N' Y n = qW N Y n := two_sum (w := fun i => (iv N (Y + 22) i).toInt) (w' := fun i => (iv N' (Y + 22) i).toInt) (f := f.toInt) ha hn hs ht hst (by show (iv N' (Y + 22) (a + s)).toInt = _; rw [ws, e1]) (by show (iv N' (Y + 22) (a + t)).toInt = _; rw [wt, e2]) (fun i q q2 => by show (iv N' (Y + 22) i).toInt = _; rw [wo i q q2])
  have jS : qS N' Y n = qS N Y n := two_sum (w := fun i => (iv N (Y + 23) i).toInt) (w' := fun i => (iv N' (Y + 23) i).toInt) (f := x.toInt) ha hn hs ht hst (by show (iv N' (Y + 23) (a + s)).toInt = _; rw [ss, e3]) (by show (iv N' (Y + 23) (a + t)).toInt = _; rw [st, e4]) (fun i q q2 => by show (iv N' (Y + 23) i).toInt = _; rw [so i q q2])
  have jT : qT N' Y ic = qT N Y ic := by unfold qT; simp only [eT]
  refine ⟨fun i hi => ?_, by rw [jW, jj, jj, jj, jj]; exact h1, by rw [jS, jj, jj, jj]; exact h2, by rw [eM, jj, jj, jj]; exact h3, by rw [jj, jj]; exact h4, by rw [jT, jj]; exact h5, fun i hi => by rw [jj]; exact h6 i hi⟩
  by_cases q : i = a + s
  · subst q; rw [ss, ws, e3, e1]; omega
  · by_cases q2 : i = a + t
    · subst q2; rw [st, wt, e4, e2]; omega
    · rw [so i q q2, wo i q q2]; exact hS i hi
theorem kA_fl1 {N : w_M} {Y n ic s t : Nat} {f : Int32} {W0 M0 Z W C : Int} (h : kA N Y n ic W0 M0 Z) (b : gB N Y n W C) (hn : n ≤ 8) (hW : W < 2 ^ 26) (hs : s < n) (ht : t < n) (hst : s ≠ t) (f0 : 0 ≤ f.toInt) (f1 : f.toInt ≤ (iv N (Y + 22) (8 + s)).toInt) : kA (g_fl N Y 1 s t f) Y n ic W0 M0 Z := by
  refine kA_fl h b hn hW (a := 8) (Or.inr rfl) hs ht hst f0 f1 ?_ ?_ (fun i q q2 => ?_) ?_ ?_ (fun i q q2 => ?_) ?_ (fun k => ?_) (fun i => fl_j)
  · rw [fl1_w hst, if_pos rfl]
  · rw [fl1_w hst, if_neg (by omega), if_pos rfl]
  · rw [fl1_w hst, if_neg q, if_neg q2]
  · rw [fl1_s hst, if_pos rfl]
  · rw [fl1_s hst, if_neg (by omega), if_pos rfl]
  · rw [fl1_s hst, if_neg q, if_neg q2]
  · unfold qM
    refine sm_eq (fun i hi => ?_)
    rw [fl1_o (by omega) (by omega) (by omega), fl1_o (by omega) (by omega) (by omega)]
  · rw [fl1_o (by omega) (by omega) (by omega)]
theorem kA_fl0 {N : w_M} {Y n ic s t : Nat} {f : Int32} {W0 M0 Z W C : Int} (h : kA N Y n ic W0 M0 Z) (b : gB N Y n W C) (hn : n ≤ 8) (hW : W < 2 ^ 26) (hC : C < 2 ^ 28) (hs : s < n) (ht : t < n) (hst : s ≠ t) (f0 : 0 ≤ f.toInt) (f1 : f.toInt ≤ (iv N (Y + 22) s).toInt) : kA (g_fl N Y 0 s t f) Y n ic W0 M0 Z := by
  refine kA_fl h b hn hW (a := 0) (Or.inl rfl) hs ht hst f0 (by rw [Nat.zero_add]; exact f1) ?_ ?_ (fun i q q2 => ?_) ?_ ?_ (fun i q q2 => ?_) ?_ (fun k => ?_) (fun i => fl_j)
  · rw [Nat.zero_add, fl0_w hst, if_pos rfl]
  · rw [Nat.zero_add, fl0_w hst, if_neg (Ne.symm hst), if_pos rfl]
  · rw [fl0_w hst, if_neg (by omega), if_neg (by omega)]
  · rw [Nat.zero_add, fl0_s hst, if_pos rfl]
  · rw [Nat.zero_add, Nat.zero_add, fl0_s hst, if_neg (Ne.symm hst), if_pos rfl]
  · rw [fl0_s hst, if_neg (by omega), if_neg (by omega)]
  · have c1 := b.c2 hs ht hst; have c2 := b.cl s hs; have c3 := b.cl t ht; have c4 := b.mu s hs; have c5 := b.mu t ht
    obtain ⟨k0, k1⟩ := shr_b (a := iv N (Y + 19) s) c2 f0 f1
    have e := sm_2 (f := fun s => (iv N (Y + 18) s).toInt + (iv N (Y + 19) s).toInt) (g := fun i => (iv (g_fl N Y 0 s t f) (Y + 18) i).toInt + (iv (g_fl N Y 0 s t f) (Y + 19) i).toInt) hs ht hst (fun i hi q q2 => by
      show (iv (g_fl N Y 0 s t f) (Y + 18) i).toInt + (iv (g_fl N Y 0 s t f) (Y + 19) i).toInt = _
      rw [fl0_o (by omega) (by omega) (by omega) (by omega), fl0_c hst, if_neg q, if_neg q2])
    have m1 : iv (g_fl N Y 0 s t f) (Y + 18) s = iv N (Y + 18) s := fl0_o (by omega) (by omega) (by omega) (by omega)
    have m2 : iv (g_fl N Y 0 s t f) (Y + 18) t = iv N (Y + 18) t := fl0_o (by omega) (by omega) (by omega) (by omega)
    have m3 : iv (g_fl N Y 0 s t f) (Y + 19) s = iv N (Y + 19) s - f_shr (iv N (Y + 19) s) f (iv N (Y + 22) s) := by rw [fl0_c hst, if_pos rfl]
    have m4 : iv (g_fl N Y 0 s t f) (Y + 19) t = iv N (Y + 19) t + f_shr (iv N (Y + 19) s) f (iv N (Y + 22) s) := by rw [fl0_c hst, if_neg (Ne.symm hst), if_pos rfl]
    generalize f_shr (iv N (Y + 19) s) f (iv N (Y + 22) s) = x at *
    have e3 : (iv N (Y + 19) s - x).toInt = (iv N (Y + 19) s).toInt - x.toInt := i_sub (by omega) (by omega)
    have e4 : (iv N (Y + 19) t + x).toInt = (iv N (Y + 19) t).toInt + x.toInt := i_add (by omega) (by omega)
    rw [m1, m2, m3, m4, e3, e4] at e
    unfold qM
    omega
  · rw [fl0_o (by omega) (by omega) (by omega) (by omega)]
theorem kA_nr {N : w_M} {Y n ic k : Nat} {f : Int32} {W0 M0 Z : Int} (h : kA N Y n ic W0 M0 Z) : kA (g_nr N Y k f) Y n ic W0 M0 Z :=
  h.same (fun i => by unfold g_nr g_a; simp (disch := omega) only [iv_n]) (fun i => by unfold g_nr g_a; simp (disch := omega) only [iv_n]) (fun i => by unfold g_nr g_a; simp (disch := omega) only [iv_n]) (fun i => by unfold g_nr g_a; simp (disch := omega) only [iv_n]) (fun i => by unfold g_nr g_a; simp (disch := omega) only [iv_n]) (fun i => rfl)
theorem kA_n1 {N : w_M} {Y n ic k : Nat} {W0 M0 Z W C : Int} (h : kA N Y n ic W0 M0 Z) (b : gB N Y n W C) (hn : n ≤ 8) (hW : W < 2 ^ 26) (hC : C < 2 ^ 28) (hk : k + 1 < n) : kA (g_n1 N Y k) Y n ic W0 M0 Z := by
  rw [g_n1_e]; split
  · rename_i hd
    obtain ⟨q1, q2⟩ := fn1_b b (by omega) hC hk hd
    exact kA_nr (kA_fl1 h b hn hW (by omega) hk (by omega) q1 q2)
  · rename_i hd
    obtain ⟨q1, q2⟩ := fn0_b b (by omega) hC hk hd
    exact kA_nr (kA_fl0 h b hn hW hC hk (by omega) (by omega) q1 q2)
theorem kA_n2 {N : w_M} {Y n ic k : Nat} {W0 M0 Z W C : Int} (h : kA N Y n ic W0 M0 Z) (b : gB N Y n W C) (hn : n ≤ 8) (hW : W < 2 ^ 26) (hC : C < 2 ^ 28) (hk : k + 1 < n) : kA (g_n2 N Y k) Y n ic W0 M0 Z := by
  rw [g_n2_e]; split
  · obtain ⟨q1, q2, q3⟩ := fnc_b b hk
    refine kA_fl0 (kA_fl1 h b hn hW (by omega) hk (by omega) q1 q2) (gB_fl1 b hn (by omega) (by omega) hk (by omega) q1 q2) hn hW hC hk (by omega) (by omega) q1 ?_
    rw [fl1_w (by omega), if_neg (by omega), if_neg (by omega)]; exact q3
  · exact h
theorem kA_nbs {N : w_M} {Y n ic : Nat} {W0 M0 Z W C : Int} (h : kA N Y n ic W0 M0 Z) (b : gB N Y n W C) (hn : n ≤ 8) (hW : W < 2 ^ 26) (hC : C < 2 ^ 28) : ∀ i, i ≤ n - 1 → kA (g_nbs N Y i) Y n ic W0 M0 Z
  | 0, _ => h
  | i + 1, hi => by
    have g := gB_nbs b hn (by omega) hC i (by omega)
    exact kA_n2 (kA_n1 (kA_nbs h b hn hW hC i (by omega)) g hn hW hC (by omega)) (gB_n1 g hn (by omega) hC (by omega)) hn hW hC (by omega)
theorem kA_r0 {N : w_M} {Y n ic : Nat} {W0 M0 Z : Int} (h : kA N Y n ic W0 M0 Z) : ∀ i, kA (g_r0 N Y i) Y n ic W0 M0 Z
  | 0 => h
  | i + 1 => (kA_r0 h i).same (fun j => by rw [g_r0, iv_n (by omega)]) (fun j => by rw [g_r0, iv_n (by omega)]) (fun j => by rw [g_r0, iv_n (by omega)]) (fun j => by rw [g_r0, iv_n (by omega)]) (fun j => by rw [g_r0, iv_n (by omega)]) (fun j => rfl)
theorem kA_mx {N : w_M} {Y n ic s : Nat} {W0 M0 Z W C : Int} (h : kA N Y n ic W0 M0 Z) (b : gB N Y n W C) (hn : n ≤ 8) (hW : W < 2 ^ 26) (hs : s < n) : kA (g_mx N Y s) Y n ic W0 M0 Z := by
  unfold g_mx; split
  · exact h
  · split
    · rename_i _ hx
      obtain ⟨hS, h1, h2, h3, h4, h5, h6⟩ := h
      have l0 : ly n s := Or.inl hs
      have l1 : ly n (8 + s) := Or.inr ⟨by omega, by omega⟩
      obtain ⟨x0, x1⟩ := hS _ l0
      obtain ⟨y0, y1⟩ := hS _ l1
      have bu := b.ly l0; have bl := b.ly l1
      obtain ⟨m1, m2, m3⟩ := lt_b (iv N (Y + 22) s) (iv N (Y + 22) (8 + s))
      have m0 := flt_0 bu.1 bl.1
      have q4 := d4_b m0
      have hm0 : 0 ≤ (g_xl N Y s / 4).toInt := q4.1
      have hm1 : (g_xl N Y s / 4).toInt ≤ (iv N (Y + 22) s).toInt := by unfold g_xl; omega
      have hm2 : (g_xl N Y s / 4).toInt ≤ (iv N (Y + 22) (8 + s)).toInt := by unfold g_xl; omega
      obtain ⟨p0, p1, p2, p3⟩ := shr_k y0 y1 hm0 hm2
      obtain ⟨u0, u1, u2, u3⟩ := shr_k x0 x1 hm0 hm1
      have ex : (g_xm N Y s).toInt = (f_shr (iv N (Y + 23) (8 + s)) (g_xl N Y s / 4) (iv N (Y + 22) (8 + s))).toInt - (f_shr (iv N (Y + 23) s) (g_xl N Y s / 4) (iv N (Y + 22) s)).toInt := by unfold g_xm; exact i_sub (by omega) (by omega)
      rw [i_lt, i_0] at hx
      generalize g_xm N Y s = x at *
      have e3 : (iv N (Y + 23) (8 + s) - x).toInt = (iv N (Y + 23) (8 + s)).toInt - x.toInt := i_sub (by omega) (by omega)
      have e4 : (iv N (Y + 23) s + x).toInt = (iv N (Y + 23) s).toInt + x.toInt := i_add (by omega) (by omega)
      have o : ∀ a j, a ≠ Y + 23 → iv (wi (wi N (Y + 23) (8 + s) (iv N (Y + 23) (8 + s) - x)) (Y + 23) s (iv N (Y + 23) s + x)) a j = iv N a j := fun a j q => by rw [iv_n (by omega), iv_n (by omega)]
      have o2 : ∀ j, j ≠ s → j ≠ 8 + s → iv (wi (wi N (Y + 23) (8 + s) (iv N (Y + 23) (8 + s) - x)) (Y + 23) s (iv N (Y + 23) s + x)) (Y + 23) j = iv N (Y + 23) j := fun j q q2 => by rw [iv_n (by omega), iv_n (by omega)]
      have vs : iv (wi (wi N (Y + 23) (8 + s) (iv N (Y + 23) (8 + s) - x)) (Y + 23) s (iv N (Y + 23) s + x)) (Y + 23) s = iv N (Y + 23) s + x := iv_s
      have vl : iv (wi (wi N (Y + 23) (8 + s) (iv N (Y + 23) (8 + s) - x)) (Y + 23) s (iv N (Y + 23) s + x)) (Y + 23) (8 + s) = iv N (Y + 23) (8 + s) - x := by rw [iv_n (by omega), iv_s]
      generalize hN : wi (wi N (Y + 23) (8 + s) (iv N (Y + 23) (8 + s) - x)) (Y + 23) s (iv N (Y + 23) s + x) = N' at *
      have jj : ∀ i, qj N' Y i = qj N Y i := fun i => by rw [← hN]; rfl
      have jS : qS N' Y n = qS N Y n := by
        have e := sm_1 (f := fun s => (iv N (Y + 23) s).toInt + (iv N (Y + 23) (8 + s)).toInt) (g := fun s => (iv N' (Y + 23) s).toInt + (iv N' (Y + 23) (8 + s)).toInt) hs (fun i hi q => by
          show (iv N' (Y + 23) i).toInt + (iv N' (Y + 23) (8 + i)).toInt = _
          rw [o2 i q (by omega), o2 (8 + i) (by omega) (by omega)])
        rw [vs, vl, e3, e4] at e
        unfold qS; omega
      have jW : qW N' Y n = qW N Y n := by unfold qW; exact sm_eq (fun i hi => by rw [o _ _ (by omega), o _ _ (by omega)])
      have jM : qM N' Y n = qM N Y n := by unfold qM; exact sm_eq (fun i hi => by rw [o _ _ (by omega), o _ _ (by omega)])
      have jT : qT N' Y ic = qT N Y ic := by unfold qT; exact sm_eq (fun i hi => by rw [o _ _ (by omega)])
      refine ⟨fun i hi => ?_, by rw [jW, jj, jj, jj, jj]; exact h1, by rw [jS, jj, jj, jj]; exact h2, by rw [jM, jj, jj, jj]; exact h3, by rw [jj, jj]; exact h4, by rw [jT, jj]; exact h5, fun i hi => by rw [jj]; exact h6 i hi⟩
      rw [o (Y + 22) i (by omega)]
      by_cases q : i = s
      · subst q; rw [vs, e4]; omega
      · by_cases q2 : i = 8 + s
        · subst q2; rw [vl, e3]; omega
        · rw [o2 i q q2]; exact hS i hi
    · exact h
theorem kA_mxs {N : w_M} {Y n ic : Nat} {W0 M0 Z W C : Int} (h : kA N Y n ic W0 M0 Z) (b : gB N Y n W C) (hn : n ≤ 8) (hW : W < 2 ^ 26) : ∀ i, i ≤ n → kA (g_mxs N Y i) Y n ic W0 M0 Z
  | 0, _ => h
  | i + 1, hi => kA_mx (kA_mxs h b hn hW i (by omega)) (gB_mxs b i) hn hW (by omega)
/-- mud and cloud of one section change, their sum doesn't -/
theorem kA_mc {N N' : w_M} {Y n ic s : Nat} {W0 M0 Z : Int} (h : kA N Y n ic W0 M0 Z) (hs : s < n) (o : ∀ a j, (a ≠ Y + 18 ∧ a ≠ Y + 19) ∨ j ≠ s → iv N' a j = iv N a j) (ej : ∀ i, jv N' (Y + 40) i = jv N (Y + 40) i) (e9 : (iv N' (Y + 18) s).toInt + (iv N' (Y + 19) s).toInt = (iv N (Y + 18) s).toInt + (iv N (Y + 19) s).toInt) : kA N' Y n ic W0 M0 Z := by
  obtain ⟨hS, h1, h2, h3, h4, h5, h6⟩ := h
  have jj : ∀ i, qj N' Y i = qj N Y i := fun i => by unfold qj; rw [ej]
  have jW : qW N' Y n = qW N Y n := by unfold qW; exact sm_eq (fun i hi => by rw [o _ _ (by omega), o _ _ (by omega)])
  have jS : qS N' Y n = qS N Y n := by unfold qS; exact sm_eq (fun i hi => by rw [o _ _ (by omega), o _ _ (by omega)])
  have jT : qT N' Y ic = qT N Y ic := by unfold qT; exact sm_eq (fun i hi => by rw [o _ _ (by omega)])
  have jM : qM N' Y n = qM N Y n := by
    have e := sm_1 (f := fun s => (iv N (Y + 18) s).toInt + (iv N (Y + 19) s).toInt) (g := fun s => (iv N' (Y + 18) s).toInt + (iv N' (Y + 19) s).toInt) hs (fun i hi q => by
      show (iv N' (Y + 18) i).toInt + (iv N' (Y + 19) i).toInt = _
      rw [o _ _ (by omega), o _ _ (by omega)])
    unfold qM; omega
  exact ⟨fun i hi => by rw [o _ _ (by omega), o _ _ (by omega)]; exact hS i hi, by rw [jW, jj, jj, jj, jj]; exact h1, by rw [jS, jj, jj, jj]; exact h2, by rw [jM, jj, jj, jj]; exact h3, by rw [jj, jj]; exact h4, by rw [jT, jj]; exact h5, fun i hi => by rw [jj]; exact h6 i hi⟩
theorem kA_s1 {N : w_M} {Y n ic s : Nat} {W0 M0 Z W C : Int} (h : kA N Y n ic W0 M0 Z) (b : gB N Y n W C) (hC : C < 2 ^ 28) (hs : s < n) : kA (g_s1 N Y s) Y n ic W0 M0 Z := by
  unfold g_s1; split
  · have c0 := b.cl s hs; have m0 := b.mu s hs; have c := b.c hs
    have e1 : (iv N (Y + 19) s + 1).toInt = (iv N (Y + 19) s).toInt + 1 := by rw [i_add (by rw [i_1]; omega) (by rw [i_1]; omega), i_1]
    have q := d2_b (x := iv N (Y + 19) s + 1) (by omega)
    have b1 : ((iv N (Y + 19) s + 1) / 2).toInt ≤ (iv N (Y + 19) s).toInt := by rw [i_div (by omega) (by rw [i_2]; omega), i_2]; omega
    generalize (iv N (Y + 19) s + 1) / 2 = x at *
    have e2 : (iv N (Y + 19) s - x).toInt = (iv N (Y + 19) s).toInt - x.toInt := i_sub (by omega) (by omega)
    have e3 : (iv N (Y + 18) s + x).toInt = (iv N (Y + 18) s).toInt + x.toInt := i_add (by omega) (by omega)
    exact kA_mc h hs (fun a j q => by rw [iv_n (by omega), iv_n (by omega)]) (fun i => rfl) (by rw [iv_s, iv_n (by omega), iv_s, e2, e3]; omega)
  · exact h
theorem kA_s2 {N : w_M} {Y n ic s : Nat} {W0 M0 Z W C : Int} (h : kA N Y n ic W0 M0 Z) (b : gB N Y n W C) (hC : C < 2 ^ 28) (hs : s < n) : kA (g_s2 N Y s) Y n ic W0 M0 Z := by
  unfold g_s2; split
  · rename_i hr
    rw [i_lt, i_40] at hr
    have c0 := b.cl s hs; have m0 := b.mu s hs; have c := b.c hs
    have q := d8_b (x := iv N (Y + 20) s) (by omega)
    have b1 := (lt_b (iv N (Y + 20) s / 8) (iv N (Y + 18) s)).2.1
    have b0 := flt_0 q.1 m0
    generalize f_lt (iv N (Y + 20) s / 8) (iv N (Y + 18) s) = x at *
    have e2 : (iv N (Y + 19) s + x).toInt = (iv N (Y + 19) s).toInt + x.toInt := i_add (by omega) (by omega)
    have e3 : (iv N (Y + 18) s - x).toInt = (iv N (Y + 18) s).toInt - x.toInt := i_sub (by omega) (by omega)
    exact kA_mc h hs (fun a j q => by rw [iv_n (by omega), iv_n (by omega)]) (fun i => rfl) (by rw [iv_s, iv_n (by omega), iv_s, e2, e3]; omega)
  · exact h
theorem kA_sts {N : w_M} {Y n ic : Nat} {W0 M0 Z W C : Int} (h : kA N Y n ic W0 M0 Z) (b : gB N Y n W C) (hC : C < 2 ^ 28) : ∀ i, i ≤ n → kA (g_sts N Y i) Y n ic W0 M0 Z
  | 0, _ => h
  | i + 1, hi => by
    have g := gB_sts b hC i (by omega)
    exact kA_s2 (kA_s1 (kA_sts h b hC i (by omega)) g hC (by omega)) (gB_s1 g hC (by omega)) hC (by omega)
