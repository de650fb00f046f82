/-! flows of an hour stay within bounds -/
def fn1 (N : w_M) (Y k : Nat) : Int32 := f_lt (g_nd N Y k * g_na N Y k / 4) (iv N (Y + 22) (8 + k))
def fn0 (N : w_M) (Y k : Nat) : Int32 := f_lt (-g_nd N Y k * g_na N Y k / 4) (iv N (Y + 22) (k + 1))
def fnc (N : w_M) (Y k : Nat) : Int32 := f_lt (iv N (Y + 22) (8 + k)) (iv N (Y + 22) (k + 1)) / 8
theorem g_n1_e (N : w_M) (Y k : Nat) : g_n1 N Y k = if 0 < g_nd N Y k then g_nr (g_fl N Y 1 k (k + 1) (fn1 N Y k)) Y k (fn1 N Y k) else g_nr (g_fl N Y 0 (k + 1) k (fn0 N Y k)) Y k (fn0 N Y k) := rfl
theorem g_n2_e (N : w_M) (Y k : Nat) : g_n2 N Y k = if g_sal N Y 1 (k + 1) < g_sal N Y 1 k then g_fl (g_fl N Y 1 k (k + 1) (fnc N Y k)) Y 0 (k + 1) k (fnc N Y k) else N := rfl
theorem lev_b {N : w_M} {Y n s : Nat} {W C : Int} (h : gB N Y n W C) (hW : W < 2 ^ 28) (hC : C < 2 ^ 28) (hs : s < n) : 0 ≤ (g_lev N Y s).toInt ∧ (g_lev N Y s).toInt * (iv N (Y + 17) s).toInt ≤ C + W ∧ (g_lev N Y s).toInt ≤ C + W := by
  obtain ⟨a1, a2⟩ := h.ar s hs
  have w1 := h.wu s hs; have w2 := h.wl s hs; have m1 := h.mu s hs; have c1 := h.cl s hs
  have w := h.w hs; have c := h.c hs
  have e1 : (iv N (Y + 18) s / iv N (Y + 17) s).toInt = (iv N (Y + 18) s).toInt / (iv N (Y + 17) s).toInt := i_div m1 (by omega)
  have e2 : (iv N (Y + 22) s + iv N (Y + 22) (8 + s)).toInt = (iv N (Y + 22) s).toInt + (iv N (Y + 22) (8 + s)).toInt := i_add (by omega) (by omega)
  have e3 : ((iv N (Y + 22) s + iv N (Y + 22) (8 + s)) / iv N (Y + 17) s).toInt = ((iv N (Y + 22) s).toInt + (iv N (Y + 22) (8 + s)).toInt) / (iv N (Y + 17) s).toInt := by rw [i_div (by omega) (by omega), e2]
  have hw0 : 0 ≤ (iv N (Y + 22) s).toInt + (iv N (Y + 22) (8 + s)).toInt := by omega
  generalize (iv N (Y + 22) s).toInt + (iv N (Y + 22) (8 + s)).toInt = ww at *
  have d1 : (iv N (Y + 18) s).toInt / (iv N (Y + 17) s).toInt * (iv N (Y + 17) s).toInt ≤ (iv N (Y + 18) s).toInt := Int.ediv_mul_le _ (by omega)
  have d2 : ww / (iv N (Y + 17) s).toInt * (iv N (Y + 17) s).toInt ≤ ww := Int.ediv_mul_le _ (by omega)
  have d3 : 0 ≤ (iv N (Y + 18) s).toInt / (iv N (Y + 17) s).toInt := Int.ediv_nonneg m1 (by omega)
  have d4 : 0 ≤ ww / (iv N (Y + 17) s).toInt := Int.ediv_nonneg (by omega) (by omega)
  have d5 : (iv N (Y + 18) s).toInt / (iv N (Y + 17) s).toInt ≤ (iv N (Y + 18) s).toInt := Int.ediv_le_self _ m1
  have d6 : ww / (iv N (Y + 17) s).toInt ≤ ww := Int.ediv_le_self _ (by omega)
  have e : (g_lev N Y s).toInt = (iv N (Y + 18) s).toInt / (iv N (Y + 17) s).toInt + ww / (iv N (Y + 17) s).toInt := by
    unfold g_lev; rw [i_add (by omega) (by omega), e1, e3]
  rw [e, Int.add_mul]
  exact ⟨by omega, by omega, by omega⟩
theorem dm_b {d m : Int32} {L a Z : Int} (hd : 0 ≤ d.toInt) (hdL : d.toInt ≤ L) (hm : 0 ≤ m.toInt) (hma : m.toInt ≤ a) (hZ : L * a ≤ Z) (hZ2 : Z < 2 ^ 30) : 0 ≤ (d * m).toInt ∧ (d * m).toInt ≤ Z := by
  have p : d.toInt * m.toInt ≤ L * a := Int.mul_le_mul hdL hma hm (by omega)
  have q : 0 ≤ d.toInt * m.toInt := Int.mul_nonneg hd hm
  rw [i_mul (by omega) (by omega)]; exact ⟨q, by omega⟩
theorem d4_b {x : Int32} (h : 0 ≤ x.toInt) : 0 ≤ (x / 4).toInt ∧ (x / 4).toInt ≤ x.toInt := by rw [i_div h (by rw [i_4]; omega), i_4]; omega
theorem d2_b {x : Int32} (h : 0 ≤ x.toInt) : 0 ≤ (x / 2).toInt ∧ (x / 2).toInt ≤ x.toInt ∧ (x / 2).toInt * 2 ≤ x.toInt := by rw [i_div h (by rw [i_2]; omega), i_2]; omega
theorem d8_b {x : Int32} (h : 0 ≤ x.toInt) : 0 ≤ (x / 8).toInt ∧ (x / 8).toInt ≤ x.toInt := by rw [i_div h (by rw [i_8]; omega), i_8]; omega
theorem na_b {N : w_M} {Y n k : Nat} {W C : Int} (h : gB N Y n W C) (hk : k + 1 < n) : 0 ≤ (g_na N Y k).toInt ∧ (g_na N Y k).toInt ≤ (iv N (Y + 17) k).toInt ∧ (g_na N Y k).toInt ≤ (iv N (Y + 17) (k + 1)).toInt := by
  have a := h.ar k (by omega); have b := h.ar (k + 1) hk
  obtain ⟨l1, l2, _⟩ := lt_b (iv N (Y + 17) k) (iv N (Y + 17) (k + 1))
  exact ⟨flt_0 (by omega) (by omega), l1, l2⟩
theorem nd_e {N : w_M} {Y n k : Nat} {W C : Int} (h : gB N Y n W C) (hW : W < 2 ^ 28) (hC : C < 2 ^ 28) (hk : k + 1 < n) : (g_nd N Y k).toInt = (g_lev N Y k).toInt - (g_lev N Y (k + 1)).toInt := by
  have a := lev_b h hW hC (show k < n by omega); have b := lev_b h hW hC hk
  unfold g_nd; exact i_sub (by omega) (by omega)
theorem fn1_b {N : w_M} {Y n k : Nat} {W C : Int} (h : gB N Y n W C) (hW : W < 2 ^ 28) (hC : C < 2 ^ 28) (hk : k + 1 < n) (hd : 0 < g_nd N Y k) : 0 ≤ (fn1 N Y k).toInt ∧ (fn1 N Y k).toInt ≤ (iv N (Y + 22) (8 + k)).toInt := by
  have a := lev_b h hW hC (show k < n by omega); have b := lev_b h hW hC hk
  have e := nd_e h hW hC hk
  rw [i_lt, i_0] at hd
  obtain ⟨n1, n2, n3⟩ := na_b h hk
  have q := dm_b (d := g_nd N Y k) (m := g_na N Y k) (Z := C + W) (by omega) (show _ ≤ (g_lev N Y k).toInt by omega) n1 n2 a.2.1 (by omega)
  have q4 := d4_b q.1
  exact ⟨flt_0 q4.1 (h.wl k (by omega)), (lt_b _ _).2.1⟩
theorem fn0_b {N : w_M} {Y n k : Nat} {W C : Int} (h : gB N Y n W C) (hW : W < 2 ^ 28) (hC : C < 2 ^ 28) (hk : k + 1 < n) (hd : ¬ 0 < g_nd N Y k) : 0 ≤ (fn0 N Y k).toInt ∧ (fn0 N Y k).toInt ≤ (iv N (Y + 22) (k + 1)).toInt := by
  have a := lev_b h hW hC (show k < n by omega); have b := lev_b h hW hC hk
  have e := nd_e h hW hC hk
  rw [i_lt, i_0] at hd
  obtain ⟨n1, n2, n3⟩ := na_b h hk
  have eg : (-g_nd N Y k).toInt = -(g_nd N Y k).toInt := i_neg (by omega)
  have q := dm_b (d := -g_nd N Y k) (m := g_na N Y k) (Z := C + W) (by omega) (show _ ≤ (g_lev N Y (k + 1)).toInt by omega) n1 n3 b.2.1 (by omega)
  have q4 := d4_b q.1
  exact ⟨flt_0 q4.1 (h.wu (k + 1) hk), (lt_b _ _).2.1⟩
theorem fnc_b {N : w_M} {Y n k : Nat} {W C : Int} (h : gB N Y n W C) (hk : k + 1 < n) : 0 ≤ (fnc N Y k).toInt ∧ (fnc N Y k).toInt ≤ (iv N (Y + 22) (8 + k)).toInt ∧ (fnc N Y k).toInt ≤ (iv N (Y + 22) (k + 1)).toInt := by
  have a := h.wl k (by omega); have b := h.wu (k + 1) hk
  obtain ⟨l1, l2, _⟩ := lt_b (iv N (Y + 22) (8 + k)) (iv N (Y + 22) (k + 1))
  have l0 := flt_0 a b
  have q := d8_b l0
  exact ⟨q.1, by unfold fnc; omega, by unfold fnc; omega⟩
theorem gB_nr {N : w_M} {Y n k : Nat} {W C : Int} {f : Int32} (h : gB N Y n W C) : gB (g_nr N Y k f) Y n W C :=
  h.same (fun i => by unfold g_nr g_a; simp (disch := omega) only [iv_n]) (fun i => by unfold g_nr g_a; simp (disch := omega) only [iv_n]) (fun i => by unfold g_nr g_a; simp (disch := omega) only [iv_n]) (fun i => by unfold g_nr g_a; simp (disch := omega) only [iv_n])
theorem gB_n1 {N : w_M} {Y n k : Nat} {W C : Int} (h : gB N Y n W C) (hn : n ≤ 8) (hW : W < 2 ^ 28) (hC : C < 2 ^ 28) (hk : k + 1 < n) : gB (g_n1 N Y k) Y n W C := by
  rw [g_n1_e]; split
  · rename_i hd
    obtain ⟨q1, q2⟩ := fn1_b h hW hC hk hd
    exact gB_nr (gB_fl1 h hn (by omega) (by omega) hk (by omega) q1 q2)
  · rename_i hd
    obtain ⟨q1, q2⟩ := fn0_b h hW hC hk hd
    exact gB_nr (gB_fl0 h hn (by omega) (by omega) hk (by omega) (by omega) q1 q2)
theorem gB_n2 {N : w_M} {Y n k : Nat} {W C : Int} (h : gB N Y n W C) (hn : n ≤ 8) (hW : W < 2 ^ 28) (hC : C < 2 ^ 28) (hk : k + 1 < n) : gB (g_n2 N Y k) Y n W C := by
  rw [g_n2_e]; split
  · obtain ⟨q1, q2, q3⟩ := fnc_b h hk
    refine gB_fl0 (gB_fl1 h hn (by omega) (by omega) hk (by omega) q1 q2) hn (by omega) (by omega) hk (by omega) (by omega) q1 ?_
    rw [fl1_w (by omega), if_neg (by omega), if_neg (by omega)]; exact q3
  · exact h
theorem gB_nbs {N : w_M} {Y n : Nat} {W C : Int} (h : gB N Y n W C) (hn : n ≤ 8) (hW : W < 2 ^ 28) (hC : C < 2 ^ 28) : ∀ i, i ≤ n - 1 → gB (g_nbs N Y i) Y n W C
  | 0, _ => h
  | i + 1, hi => gB_n2 (gB_n1 (gB_nbs h hn hW hC i (by omega)) hn hW hC (by omega)) hn hW hC (by omega)
theorem gB_r0 {N : w_M} {Y n : Nat} {W C : Int} (h : gB N Y n W C) : ∀ i, gB (g_r0 N Y i) Y n W C
  | 0 => h
  | i + 1 => (gB_r0 h i).same (fun j => by rw [g_r0, iv_n (by omega)]) (fun j => by rw [g_r0, iv_n (by omega)]) (fun j => by rw [g_r0, iv_n (by omega)]) (fun j => by rw [g_r0, iv_n (by omega)])
theorem gB_mx {N : w_M} {Y n s : Nat} {W C : Int} (h : gB N Y n W C) : gB (g_mx N Y s) Y n W C := by
  unfold g_mx; split
  · exact h
  · split
    · refine h.same ?_ ?_ ?_ ?_ <;> (intro i; simp (disch := omega) only [iv_n])
    · exact h
theorem gB_mxs {N : w_M} {Y n : Nat} {W C : Int} (h : gB N Y n W C) : ∀ i, gB (g_mxs N Y i) Y n W C
  | 0 => h
  | i + 1 => gB_mx (gB_mxs h i)
theorem gB_s1 {N : w_M} {Y n s : Nat} {W C : Int} (h : gB N Y n W C) (hC : C < 2 ^ 28) (hs : s < n) : gB (g_s1 N Y s) Y n W C := by
  unfold g_s1; split
  · have c0 := h.cl s hs; have m0 := h.mu s hs; have c := h.c hs
    have e1 : (iv N (Y + 19) s + 1).toInt = (iv N (Y + 19) s).toInt + 1 := by rw [i_add (by rw [i_1]; omega) (by rw [i_1]; omega), i_1]
    have q := d2_b (x := iv N (Y + 19) s + 1) (by omega)
    have b : ((iv N (Y + 19) s + 1) / 2).toInt ≤ (iv N (Y + 19) s).toInt := by rw [i_div (by omega) (by rw [i_2]; omega), i_2]; omega
    generalize (iv N (Y + 19) s + 1) / 2 = x at *
    have e2 : (iv N (Y + 19) s - x).toInt = (iv N (Y + 19) s).toInt - x.toInt := i_sub (by omega) (by omega)
    have e3 : (iv N (Y + 18) s + x).toInt = (iv N (Y + 18) s).toInt + x.toInt := i_add (by omega) (by omega)
    have r := gB.one (N' := wi (wi N (Y + 19) s (iv N (Y + 19) s - x)) (Y + 18) s (iv N (Y + 18) s + x)) 0 0 h hs (fun i hi => by simp (disch := omega) only [iv_n]) (fun i hi _ => by simp (disch := omega) only [iv_n]) (fun i hi _ => by simp (disch := omega) only [iv_n]) (fun i hi _ => by simp (disch := omega) only [iv_n]) (fun i hi _ => by simp (disch := omega) only [iv_n])
      (by simp (disch := omega) only [iv_n]; exact h.wu s hs) (by simp (disch := omega) only [iv_n]; exact h.wl s hs) (by rw [iv_s, e3]; omega) (by rw [iv_n (by omega), iv_s, e2]; omega) (by simp (disch := omega) only [iv_n]; omega) (by rw [iv_s, iv_n (by omega), iv_s, e2, e3]; omega)
    exact r.mono (by omega) (by omega)
  · exact h
theorem gB_s2 {N : w_M} {Y n s : Nat} {W C : Int} (h : gB N Y n W C) (hC : C < 2 ^ 28) (hs : s < n) : gB (g_s2 N Y s) Y n W C := by
  unfold g_s2; split
  · rename_i hr
    rw [i_lt, i_40] at hr
    have c0 := h.cl s hs; have m0 := h.mu s hs; have c := h.c hs
    have q := d8_b (x := iv N (Y + 20) s) (by omega)
    have b1 := (lt_b (iv N (Y + 20) s / 8) (iv N (Y + 18) s)).2.1
    have b0 := flt_0 q.1 m0
    generalize f_lt (iv N (Y + 20) s / 8) (iv N (Y + 18) s) = x at *
    have e2 : (iv N (Y + 19) s + x).toInt = (iv N (Y + 19) s).toInt + x.toInt := i_add (by omega) (by omega)
    have e3 : (iv N (Y + 18) s - x).toInt = (iv N (Y + 18) s).toInt - x.toInt := i_sub (by omega) (by omega)
    have r := gB.one (N' := wi (wi N (Y + 18) s (iv N (Y + 18) s - x)) (Y + 19) s (iv N (Y + 19) s + x)) 0 0 h hs (fun i hi => by simp (disch := omega) only [iv_n]) (fun i hi _ => by simp (disch := omega) only [iv_n]) (fun i hi _ => by simp (disch := omega) only [iv_n]) (fun i hi _ => by simp (disch := omega) only [iv_n]) (fun i hi _ => by simp (disch := omega) only [iv_n])
      (by simp (disch := omega) only [iv_n]; exact h.wu s hs) (by simp (disch := omega) only [iv_n]; exact h.wl s hs) (by rw [iv_n (by omega), iv_s, e3]; omega) (by rw [iv_s, e2]; omega) (by simp (disch := omega) only [iv_n]; omega) (by rw [iv_s, iv_n (by omega), iv_s, e2, e3]; omega)
    exact r.mono (by omega) (by omega)
  · exact h
theorem gB_sts {N : w_M} {Y n : Nat} {W C : Int} (h : gB N Y n W C) (hC : C < 2 ^ 28) : ∀ i, i ≤ n → gB (g_sts N Y i) Y n W C
  | 0, _ => h
  | i + 1, hi => gB_s2 (gB_s1 (gB_sts h hC i (by omega)) hC (by omega)) hC (by omega)
theorem gB_rv {N : w_M} {Y n : Nat} {W C : Int} (h : gB N Y n W C) (h0 : 0 < n) (hn : n ≤ 8) (hW : W < 2 ^ 28) (hC : C < 2 ^ 28) (w0 : 0 ≤ (iv N Y 8).toInt) (w1 : (iv N Y 8).toInt ≤ 500) (s0 : 0 ≤ (iv N Y 9).toInt) (s1 : (iv N Y 9).toInt ≤ 500) : gB (g_rv N Y n) Y n (W + 500) (C + 500) := by
  have hs : n - 1 < n := by omega
  have w := h.w hs; have c := h.c hs
  have a1 := h.wu _ hs; have a2 := h.wl _ hs; have b1 := h.mu _ hs; have b2 := h.cl _ hs
  have e1 : (iv N (Y + 22) (n - 1) + iv N Y 8).toInt = (iv N (Y + 22) (n - 1)).toInt + (iv N Y 8).toInt := i_add (by omega) (by omega)
  have e2 : (iv N (Y + 19) (n - 1) + iv N Y 9).toInt = (iv N (Y + 19) (n - 1)).toInt + (iv N Y 9).toInt := i_add (by omega) (by omega)
  have v1 : iv (g_rv N Y n) (Y + 22) (n - 1) = iv N (Y + 22) (n - 1) + iv N Y 8 := by unfold g_rv g_rv4 g_rv3 g_rv2 g_rv1 gsadd g_a; simp (disch := omega) only [iv_wj, iv_n, iv_s]
  have v2 : iv (g_rv N Y n) (Y + 19) (n - 1) = iv N (Y + 19) (n - 1) + iv N Y 9 := by unfold g_rv g_rv4 g_rv3 g_rv2 g_rv1 gsadd g_a; simp (disch := omega) only [iv_wj, iv_n, iv_s]
  have o : ∀ a j, (a ≠ Y + 22 ∨ j ≠ n - 1) → (a ≠ Y + 19 ∨ j ≠ n - 1) → iv (g_rv N Y n) a j = iv N a j := fun a j q q2 => by unfold g_rv g_rv4 g_rv3 g_rv2 g_rv1 gsadd g_a; simp (disch := omega) only [iv_wj, iv_n]
  refine gB.one 500 500 h hs (fun i hi => o _ _ (by omega) (by omega)) (fun i hi q => o _ _ (by omega) (by omega)) (fun i hi q => o _ _ (by omega) (by omega)) (fun i hi q => o _ _ (by omega) (by omega)) (fun i hi q => o _ _ (by omega) (by omega)) ?_ ?_ ?_ ?_ ?_ ?_
  · rw [v1, e1]; omega
  · rw [o _ _ (by omega) (by omega)]; exact a2
  · rw [o _ _ (by omega) (by omega)]; exact b1
  · rw [v2, e2]; omega
  · rw [v1, e1, o _ _ (by omega) (by omega)]; omega
  · rw [v2, e2, o _ _ (by omega) (by omega)]; omega
def fq1 (N : w_M) (Y : Nat) (h : Int32) : Int32 := (h - g_lev N Y 0) * iv N (Y + 17) 0 / 2
def fq2 (N : w_M) (Y : Nat) (h : Int32) : Int32 := f_lt (-(h - g_lev N Y 0) * iv N (Y + 17) 0 / 2) (iv N (Y + 22) 0)
theorem g_mo_e (N : w_M) (Y : Nat) (h : Int32) : g_mo N Y h = if 0 < h - g_lev N Y 0 then g_mo1 N Y (fq1 N Y h) else g_mo2 N Y (fq2 N Y h) := rfl
theorem fq_d {N : w_M} {Y n : Nat} {W C : Int} {x : Int32} (h : gB N Y n W C) (h0 : 0 < n) (hW : W < 2 ^ 28) (hC : C < 2 ^ 28) (x0 : -1000 ≤ x.toInt) (x1 : x.toInt ≤ 2400) : (x - g_lev N Y 0).toInt = x.toInt - (g_lev N Y 0).toInt := by
  have a := lev_b h hW hC h0
  exact i_sub (by omega) (by omega)
theorem fq1_b {N : w_M} {Y n : Nat} {W C : Int} {x : Int32} (h : gB N Y n W C) (h0 : 0 < n) (hW : W < 2 ^ 28) (hC : C < 2 ^ 28) (x0 : -1000 ≤ x.toInt) (x1 : x.toInt ≤ 2400) (hd : 0 < x - g_lev N Y 0) : 0 ≤ (fq1 N Y x).toInt ∧ (fq1 N Y x).toInt ≤ 120000 := by
  have a := lev_b h hW hC h0
  have e := fq_d h h0 hW hC x0 x1
  have ar := h.ar 0 h0
  rw [i_lt, i_0] at hd
  have q := dm_b (d := x - g_lev N Y 0) (m := iv N (Y + 17) 0) (L := 2400) (a := 100) (Z := 240000) (by omega) (by omega) (by omega) ar.2 (by omega) (by omega)
  have q4 := d2_b q.1
  unfold fq1; omega
theorem fq2_b {N : w_M} {Y n : Nat} {W C : Int} {x : Int32} (h : gB N Y n W C) (h0 : 0 < n) (hW : W < 2 ^ 28) (hC : C < 2 ^ 28) (x0 : -1000 ≤ x.toInt) (x1 : x.toInt ≤ 2400) (hd : ¬ 0 < x - g_lev N Y 0) : 0 ≤ (fq2 N Y x).toInt ∧ (fq2 N Y x).toInt ≤ (iv N (Y + 22) 0).toInt := by
  have a := lev_b h hW hC h0
  have e := fq_d h h0 hW hC x0 x1
  have ar := h.ar 0 h0
  rw [i_lt, i_0] at hd
  have eg : (-(x - g_lev N Y 0)).toInt = -(x - g_lev N Y 0).toInt := i_neg (by omega)
  have z : (1000 + (g_lev N Y 0).toInt) * (iv N (Y + 17) 0).toInt ≤ 100000 + (C + W) := by rw [Int.add_mul]; omega
  have q := dm_b (d := -(x - g_lev N Y 0)) (m := iv N (Y + 17) 0) (L := 1000 + (g_lev N Y 0).toInt) (a := (iv N (Y + 17) 0).toInt) (by omega) (by omega) (by omega) (Int.le_refl _) z (by omega)
  have q4 := d2_b q.1
  exact ⟨flt_0 q4.1 (h.wu 0 h0), (lt_b _ _).2.1⟩
theorem gB_mo {N : w_M} {Y n : Nat} {W C : Int} {x : Int32} (h : gB N Y n W C) (h0 : 0 < n) (hn : n ≤ 8) (hW : W < 2 ^ 28) (hC : C < 2 ^ 28) (x0 : -1000 ≤ x.toInt) (x1 : x.toInt ≤ 2400) : gB (g_mo N Y x) Y n (W + 120000) C := by
  rw [g_mo_e]; split
  · rename_i hd
    obtain ⟨f0, f1⟩ := fq1_b h h0 hW hC x0 x1 hd
    generalize fq1 N Y x = f at *
    have w := h.w h0
    have a1 := h.wu _ h0; have a2 := h.wl _ h0
    have e1 : (iv N (Y + 22) 8 + f).toInt = (iv N (Y + 22) 8).toInt + f.toInt := i_add (by simp only [Nat.add_zero] at a2; omega) (by simp only [Nat.add_zero] at w; omega)
    have v1 : iv (g_mo1 N Y f) (Y + 22) 8 = iv N (Y + 22) 8 + f := by unfold g_mo1 gsadd g_a; simp (disch := omega) only [iv_wj, iv_n, iv_s]
    have o : ∀ a j, (a ≠ Y + 22 ∨ j ≠ 8) → a ≠ Y + 23 → iv (g_mo1 N Y f) a j = iv N a j := fun a j q q2 => by unfold g_mo1 gsadd g_a; simp (disch := omega) only [iv_wj, iv_n]
    refine (gB.one 120000 0 h h0 (fun i hi => o _ _ (by omega) (by omega)) (fun i hi q => o _ _ (by omega) (by omega)) (fun i hi q => o _ _ (by omega) (by omega)) (fun i hi q => o _ _ (by omega) (by omega)) (fun i hi q => o _ _ (by omega) (by omega)) ?_ ?_ ?_ ?_ ?_ ?_).mono (by omega) (by omega)
    · rw [o _ _ (by omega) (by omega)]; exact a1
    · rw [Nat.add_zero, v1, e1]; simp only [Nat.add_zero] at a2; omega
    · rw [o _ _ (by omega) (by omega)]; exact h.mu _ h0
    · rw [o _ _ (by omega) (by omega)]; exact h.cl _ h0
    · show _ + (iv (g_mo1 N Y f) (Y + 22) 8).toInt ≤ (iv N (Y + 22) 0).toInt + (iv N (Y + 22) 8).toInt + 120000
      rw [o (Y + 22) 0 (by omega) (by omega), v1, e1]; omega
    · rw [o _ _ (by omega) (by omega), o _ _ (by omega) (by omega)]; omega
  · rename_i hd
    obtain ⟨f0, f1⟩ := fq2_b h h0 hW hC x0 x1 hd
    generalize fq2 N Y x = f at *
    have w := h.w h0; have c := h.c h0
    have a1 := h.wu _ h0; have a2 := h.wl _ h0; have b1 := h.cl _ h0; have b2 := h.mu _ h0
    obtain ⟨g0, g1⟩ := shr_b (a := iv N (Y + 19) 0) b1 f0 f1
    have e1 : (iv N (Y + 22) 0 - f).toInt = (iv N (Y + 22) 0).toInt - f.toInt := i_sub (by omega) (by omega)
    have e3 : (iv N (Y + 19) 0 - f_shr (iv N (Y + 19) 0) f (iv N (Y + 22) 0)).toInt = (iv N (Y + 19) 0).toInt - (f_shr (iv N (Y + 19) 0) f (iv N (Y + 22) 0)).toInt := i_sub (by omega) (by omega)
    have o : ∀ a j, iv (g_mo2 N Y f) a j = iv (g_lv N Y 0 0 f) a j := fun a j => rfl
    refine (gB.one 0 0 h h0 (fun i hi => (o _ _).trans (lv0_o (by omega) (by omega) (by omega) (by omega))) (fun i hi q => (o _ _).trans (by rw [lv0_w, if_neg q])) (fun i hi q => (o _ _).trans (by rw [lv0_w, if_neg (by omega)])) (fun i hi q => (o _ _).trans (lv0_o (by omega) (by omega) (by omega) (by omega))) (fun i hi q => (o _ _).trans (by rw [lv0_c, if_neg q])) ?_ ?_ ?_ ?_ ?_ ?_).mono (by omega) (by omega)
    · rw [o, lv0_w, if_pos rfl, e1]; omega
    · rw [o, lv0_w, if_neg (by omega)]; exact a2
    · rw [o, lv0_o (by omega) (by omega) (by omega) (by omega)]; exact b2
    · rw [o, lv0_c, if_pos rfl, e3]; omega
    · rw [o, o, lv0_w, lv0_w, if_pos rfl, if_neg (by omega), e1]; omega
    · rw [o, o, lv0_c, if_pos rfl, lv0_o (by omega) (by omega) (by omega) (by omega), e3]; omega
