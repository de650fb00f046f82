/-! the intakes one by one; what is tasted -/
theorem Rc_srv {M : w_M} {B : Nat} {N : w_M} {Y n ic : Nat} {T : Nat → Nat → Int32} {W C : Int} (h : Rc M B N Y n ic T) (b : gB N Y n W C) (g : gI N Y n ic) (hn : n ≤ 8) (hi6 : ic ≤ 6) (hB5 : iv M B 5 = nI n) : ∀ i, i ≤ ic → Rc (m_srv M B i) B (g_drs N Y i) Y n ic T ∧ gB (g_drs N Y i) Y n W C ∧ gI (g_drs N Y i) Y n ic
  | 0, _ => ⟨h, b, g⟩
  | i + 1, hi => by
    obtain ⟨h1, b1, g1⟩ := Rc_srv h b g hn hi6 hB5 i (by omega)
    obtain ⟨s, hs, hat⟩ := g1.at9 i (by omega)
    have hc : cN (iv (g_drs N Y i) (Y + 26) i) = s := by rw [hat]; exact cN_nI (by omega)
    rw [m_srv, g_drs, hc]
    have h5 : iv (m_srv M B i) B 5 = nI n := by rw [lo_srv i B (by omega)]; exact hB5
    exact ⟨Rc_tk h1 b1 hn hi6 (by omega) hs hat h5, gB_dr g1 b1 hn (by omega) hs, gI_dr g1 b1 hn (by omega) hs⟩
theorem Rc_eh {M : w_M} {B : Nat} {N : w_M} {Y n ic t : Nat} {T : Nat → Nat → Int32} {W C : Int} (h : Rc M B N Y n ic T) (b : gB N Y n W C) (hn : n ≤ 8) : ∀ i, i ≤ n → Rc (m_eh M B t i) B N Y n ic (fun s j => if s < i ∧ j = t % 24 then g_sal N Y 1 s else T s j)
  | 0, _ => by
    refine ⟨h.ar, h.mu, h.cl, h.ru, h.pe, h.wu, h.su, h.wl, h.sl, h.sm, h.it, h.rw, h.rs, fun s hs j => ?_⟩
    show iv (m_eh M B t 0) (B + 100 + s + 40) j = if s < 0 ∧ j = t % 24 then g_sal N Y 1 s else T s j
    rw [if_neg (by omega)]; exact h.ta s hs j
  | r + 1, hr => by
    have h1 := Rc_eh (t := t) h b hn r (by omega)
    have o : ∀ a j, (a ≠ B + 100 + r + 40) → iv (m_eh M B t (r + 1)) a j = iv (m_eh M B t r) a j := fun a j q => by rw [m_eh, iv_n (by omega)]
    refine ⟨fun i hi => ?_, fun i hi => ?_, fun i hi => ?_, fun i hi => ?_, fun i hi => ?_, fun i hi => ?_, fun i hi => ?_, fun i hi => ?_, fun i hi => ?_, h1.sm, fun k hk j hj => ?_, ?_, ?_, fun i hi j => ?_⟩
    · rw [o _ _ (by omega)]; exact h1.ar i hi
    · rw [o _ _ (by omega)]; exact h1.mu i hi
    · rw [o _ _ (by omega)]; exact h1.cl i hi
    · rw [o _ _ (by omega)]; exact h1.ru i hi
    · rw [o _ _ (by omega)]; exact h1.pe i hi
    · rw [o _ _ (by omega)]; exact h1.wu i hi
    · rw [o _ _ (by omega)]; exact h1.su i hi
    · rw [o _ _ (by omega)]; exact h1.wl i hi
    · rw [o _ _ (by omega)]; exact h1.sl i hi
    · rw [o _ _ (by omega)]; exact h1.it k hk j hj
    · rw [o _ _ (by omega)]; exact h1.rw
    · rw [o _ _ (by omega)]; exact h1.rs
    · have ht := h1.ta i hi j
      show _ = if i < r + 1 ∧ j = t % 24 then g_sal N Y 1 i else T i j
      by_cases q : i = r
      · subst q
        rw [m_eh]
        by_cases q2 : j = t % 24
        · subst q2
          rw [iv_s, if_pos ⟨by omega, rfl⟩, h1.wl i hi, h1.sl i hi, sal_sl (b.wl i hi)]; rfl
        · rw [iv_n (by omega), ht, if_neg (by omega), if_neg (by omega)]
      · rw [o _ _ (by omega), ht]
        by_cases q2 : i < r ∧ j = t % 24
        · rw [if_pos q2, if_pos (by omega)]
        · rw [if_neg q2, if_neg (by omega)]
/-! what is foretold -/
def Rt (M : w_M) (B : Nat) (N : w_M) (Y : Nat) : Prop := (iv M (B + 1) 5 = iv N Y 2) ∧ (iv M (B + 1) 3 = iv N Y 3) ∧ (iv M (B + 1) 4 = iv N Y 5) ∧ (∀ i, i < cN (iv N Y 3) → ∀ j, j < 4 → iv M (B + 20 + i) j = iv N (Y + 4) (4 * i + j)) ∧ (∀ i, i < cN (iv N Y 5) → ∀ j, j < 3 → iv M (B + 30 + i) j = iv N (Y + 6) (3 * i + j))
theorem Rt.me {M : w_M} {B : Nat} {N : w_M} {Y : Nat} (h : Rt M B N Y) : iv M (B + 1) 5 = iv N Y 2 := h.1
theorem Rt.tc {M : w_M} {B : Nat} {N : w_M} {Y : Nat} (h : Rt M B N Y) : iv M (B + 1) 3 = iv N Y 3 := h.2.1
theorem Rt.sc {M : w_M} {B : Nat} {N : w_M} {Y : Nat} (h : Rt M B N Y) : iv M (B + 1) 4 = iv N Y 5 := h.2.2.1
theorem Rt.tu {M : w_M} {B : Nat} {N : w_M} {Y : Nat} (h : Rt M B N Y) : ∀ i, i < cN (iv N Y 3) → ∀ j, j < 4 → iv M (B + 20 + i) j = iv N (Y + 4) (4 * i + j) := h.2.2.2.1
theorem Rt.su {M : w_M} {B : Nat} {N : w_M} {Y : Nat} (h : Rt M B N Y) : ∀ i, i < cN (iv N Y 5) → ∀ j, j < 3 → iv M (B + 30 + i) j = iv N (Y + 6) (3 * i + j) := h.2.2.2.2
def gT (N : w_M) (Y : Nat) : Prop := (cB (iv N Y 3) 6) ∧ (cB (iv N Y 5) 20) ∧ (0 ≤ (iv N Y 2).toInt) ∧ ((iv N Y 2).toInt ≤ 100) ∧ (∀ i, i < cN (iv N Y 3) → 2 ≤ (iv N (Y + 4) (4 * i)).toInt ∧ (iv N (Y + 4) (4 * i)).toInt ≤ 60) ∧ (∀ i, i < cN (iv N Y 3) → 1 ≤ (iv N (Y + 4) (4 * i + 1)).toInt ∧ (iv N (Y + 4) (4 * i + 1)).toInt < (iv N (Y + 4) (4 * i)).toInt) ∧ (∀ i, i < cN (iv N Y 3) → 0 ≤ (iv N (Y + 4) (4 * i + 2)).toInt ∧ (iv N (Y + 4) (4 * i + 2)).toInt ≤ 50) ∧ (∀ i, i < cN (iv N Y 3) → 0 ≤ (iv N (Y + 4) (4 * i + 3)).toInt ∧ (iv N (Y + 4) (4 * i + 3)).toInt ≤ 59) ∧ (∀ i, i < cN (iv N Y 5) → -50 ≤ (iv N (Y + 6) (3 * i + 2)).toInt ∧ (iv N (Y + 6) (3 * i + 2)).toInt ≤ 100)
theorem gT.tc {N : w_M} {Y : Nat} (h : gT N Y) : cB (iv N Y 3) 6 := h.1
theorem gT.sc {N : w_M} {Y : Nat} (h : gT N Y) : cB (iv N Y 5) 20 := h.2.1
theorem gT.m0 {N : w_M} {Y : Nat} (h : gT N Y) : 0 ≤ (iv N Y 2).toInt := h.2.2.1
theorem gT.m1 {N : w_M} {Y : Nat} (h : gT N Y) : (iv N Y 2).toInt ≤ 100 := h.2.2.2.1
theorem gT.p {N : w_M} {Y : Nat} (h : gT N Y) : ∀ i, i < cN (iv N Y 3) → 2 ≤ (iv N (Y + 4) (4 * i)).toInt ∧ (iv N (Y + 4) (4 * i)).toInt ≤ 60 := h.2.2.2.2.1
theorem gT.r {N : w_M} {Y : Nat} (h : gT N Y) : ∀ i, i < cN (iv N Y 3) → 1 ≤ (iv N (Y + 4) (4 * i + 1)).toInt ∧ (iv N (Y + 4) (4 * i + 1)).toInt < (iv N (Y + 4) (4 * i)).toInt := h.2.2.2.2.2.1
theorem gT.g {N : w_M} {Y : Nat} (h : gT N Y) : ∀ i, i < cN (iv N Y 3) → 0 ≤ (iv N (Y + 4) (4 * i + 2)).toInt ∧ (iv N (Y + 4) (4 * i + 2)).toInt ≤ 50 := h.2.2.2.2.2.2.1
theorem gT.f {N : w_M} {Y : Nat} (h : gT N Y) : ∀ i, i < cN (iv N Y 3) → 0 ≤ (iv N (Y + 4) (4 * i + 3)).toInt ∧ (iv N (Y + 4) (4 * i + 3)).toInt ≤ 59 := h.2.2.2.2.2.2.2.1
theorem gT.h {N : w_M} {Y : Nat} (h : gT N Y) : ∀ i, i < cN (iv N Y 5) → -50 ≤ (iv N (Y + 6) (3 * i + 2)).toInt ∧ (iv N (Y + 6) (3 * i + 2)).toInt ≤ 100 := h.2.2.2.2.2.2.2.2
theorem gT.e {N N' : w_M} {Y : Nat} (h : gT N Y) (e2 : iv N' Y 2 = iv N Y 2) (e3 : iv N' Y 3 = iv N Y 3) (e5 : iv N' Y 5 = iv N Y 5) (e4 : ∀ j, iv N' (Y + 4) j = iv N (Y + 4) j) (e6 : ∀ j, iv N' (Y + 6) j = iv N (Y + 6) j) : gT N' Y :=
  ⟨by rw [e3]; exact h.tc, by rw [e5]; exact h.sc, by rw [e2]; exact h.m0, by rw [e2]; exact h.m1, by simp only [e3, e4]; exact h.p, by simp only [e3, e4]; exact h.r, by simp only [e3, e4]; exact h.g, by simp only [e3, e4]; exact h.f, by simp only [e5, e6]; exact h.h⟩
theorem hgt_e {p r g f h : Int32} (hr : 1 ≤ r.toInt) (hp : r.toInt < p.toInt) : f_hgt p r g f h = f_hg p r g f h := by
  unfold f_hgt f_hg
  rw [if_neg]
  rw [i_le, i_le, i_0]; omega
theorem hg_b {p r g f h : Int32} (p1 : 2 ≤ p.toInt) (p2 : p.toInt ≤ 60) (r1 : 1 ≤ r.toInt) (r2 : r.toInt < p.toInt) (g0 : 0 ≤ g.toInt) (g1 : g.toInt ≤ 50) (f0 : 0 ≤ f.toInt) (f1 : f.toInt ≤ 59) (h0 : 0 ≤ h.toInt) (h1 : h.toInt ≤ 5000) : 0 ≤ (f_hg p r g f h).toInt ∧ (f_hg p r g f h).toInt ≤ 50 := by
  have e1 : (h + f).toInt = h.toInt + f.toInt := i_add (by omega) (by omega)
  have e2 : ((h + f) / p).toInt = (h.toInt + f.toInt) / p.toInt := by rw [i_div (by omega) (by omega), e1]
  have d1 := Int.ediv_mul_le (h.toInt + f.toInt) (show p.toInt ≠ 0 by omega)
  have d2 := Int.lt_ediv_add_one_mul_self (h.toInt + f.toInt) (show 0 < p.toInt by omega)
  have d3 : 0 ≤ (h.toInt + f.toInt) / p.toInt := Int.ediv_nonneg (by omega) (by omega)
  rw [Int.add_mul, Int.one_mul] at d2
  have d4 : 0 ≤ (h.toInt + f.toInt) / p.toInt * p.toInt := Int.mul_nonneg d3 (by omega)
  have e3 : ((h + f) / p * p).toInt = (h.toInt + f.toInt) / p.toInt * p.toInt := by rw [i_mul (by rw [e2]; omega) (by rw [e2]; omega), e2]
  have e4 : ((h + f) - (h + f) / p * p).toInt = h.toInt + f.toInt - (h.toInt + f.toInt) / p.toInt * p.toInt := by rw [i_sub (by omega) (by omega), e1, e3]
  have x0 : 0 ≤ ((h + f) - (h + f) / p * p).toInt := by omega
  have x1 : ((h + f) - (h + f) / p * p).toInt < p.toInt := by omega
  unfold f_hg
  generalize (h + f) - (h + f) / p * p = x at *
  split
  · rename_i q
    rw [i_lt] at q
    have m1 : g.toInt * x.toInt ≤ g.toInt * r.toInt := Int.mul_le_mul_of_nonneg_left (by omega) g0
    have m0 : 0 ≤ g.toInt * x.toInt := Int.mul_nonneg g0 x0
    have m2 : g.toInt * x.toInt ≤ 50 * 60 := Int.mul_le_mul g1 (by omega) x0 (by omega)
    have em : (g * x).toInt = g.toInt * x.toInt := i_mul (by omega) (by omega)
    rw [i_div (by omega) (by omega), em]
    have := Int.ediv_le_of_le_mul (show 0 < r.toInt by omega) m1
    exact ⟨Int.ediv_nonneg m0 (by omega), by omega⟩
  · rename_i q
    rw [i_lt] at q
    have ea : (p - x).toInt = p.toInt - x.toInt := i_sub (by omega) (by omega)
    have eb : (p - r).toInt = p.toInt - r.toInt := i_sub (by omega) (by omega)
    have m1 : g.toInt * (p.toInt - x.toInt) ≤ g.toInt * (p.toInt - r.toInt) := Int.mul_le_mul_of_nonneg_left (by omega) g0
    have m0 : 0 ≤ g.toInt * (p.toInt - x.toInt) := Int.mul_nonneg g0 (by omega)
    have m2 : g.toInt * (p.toInt - x.toInt) ≤ 50 * 60 := Int.mul_le_mul g1 (by omega) (by omega) (by omega)
    have em : (g * (p - x)).toInt = g.toInt * (p.toInt - x.toInt) := by rw [i_mul (by rw [ea]; omega) (by rw [ea]; omega), ea]
    rw [i_div (by omega) (by omega), em, eb]
    have := Int.ediv_le_of_le_mul (show 0 < p.toInt - r.toInt by omega) m1
    exact ⟨Int.ediv_nonneg m0 (by omega), by omega⟩
theorem st_e {M : w_M} {B : Nat} {N : w_M} {Y : Nat} {x : Int32} (h : Rt M B N Y) (g : gT N Y) : ∀ i, i ≤ cN (iv N Y 3) → s_t M (B + 1) x i = g_t N Y x i
  | 0, _ => h.me
  | i + 1, hi => by
    have hl : i < cN (iv N Y 3) := by omega
    rw [s_t, g_t, st_e h g i (by omega), show B + 1 + 19 + i = B + 20 + i by omega]
    have t0 : iv M (B + 20 + i) 0 = iv N (Y + 4) (4 * i) := h.tu i hl 0 (by omega)
    rw [t0, h.tu i hl 1 (by omega), h.tu i hl 2 (by omega), h.tu i hl 3 (by omega), hgt_e (g.r i hl).1 (g.r i hl).2]
theorem ss_e {M : w_M} {B : Nat} {N : w_M} {Y : Nat} {x : Int32} (h : Rt M B N Y) (g : gT N Y) : ∀ j, j ≤ cN (iv N Y 5) → s_s M (B + 1) x (cN (iv N Y 3)) j = g_s N Y x (cN (iv N Y 3)) j
  | 0, _ => st_e h g _ (Nat.le_refl _)
  | j + 1, hj => by
    have hl : j < cN (iv N Y 5) := by omega
    rw [s_s, g_s, ss_e h g j (by omega), show B + 1 + 29 + j = B + 30 + j by omega]
    have t0 : iv M (B + 30 + j) 0 = iv N (Y + 6) (3 * j) := h.su j hl 0 (by omega)
    rw [t0, h.su j hl 1 (by omega), h.su j hl 2 (by omega)]
    unfold fW
    by_cases q1 : x < iv N (Y + 6) (3 * j)
    · rw [if_pos q1, if_neg (show ¬ (iv N (Y + 6) (3 * j) ≤ x ∧ x ≤ iv N (Y + 6) (3 * j + 1)) by rw [i_le]; rw [i_lt] at q1; omega), if_pos rfl, x_add0]
    · rw [if_neg q1]
      by_cases q2 : iv N (Y + 6) (3 * j + 1) < x
      · rw [if_pos q2, if_neg (show ¬ (iv N (Y + 6) (3 * j) ≤ x ∧ x ≤ iv N (Y + 6) (3 * j + 1)) by rw [i_le, i_le]; rw [i_lt] at q2; omega), if_pos rfl, x_add0]
      · rw [if_neg q2, if_pos (show (iv N (Y + 6) (3 * j) ≤ x ∧ x ≤ iv N (Y + 6) (3 * j + 1)) by rw [i_le, i_le]; rw [i_lt] at q1 q2; omega), if_neg (by decide)]
theorem for_e {M : w_M} {B : Nat} {N : w_M} {Y : Nat} (x : Int32) (h : Rt M B N Y) (g : gT N Y) : s_for M (B + 1) x = g_for N Y x := by
  unfold s_for g_for; rw [h.tc, h.sc]; exact ss_e h g _ (Nat.le_refl _)
theorem gt_b {N : w_M} {Y : Nat} {x : Int32} (g : gT N Y) (x0 : 0 ≤ x.toInt) (x1 : x.toInt ≤ 5000) : ∀ i, i ≤ cN (iv N Y 3) → 0 ≤ (g_t N Y x i).toInt ∧ (g_t N Y x i).toInt ≤ 100 + 50 * i
  | 0, _ => by have := g.m0; have := g.m1; rw [g_t]; omega
  | i + 1, hi => by
    have hl : i < cN (iv N Y 3) := by omega
    have t6 := (cB_le g.tc (by decide)).2
    have r := gt_b g x0 x1 i (by omega)
    have q := hg_b (h := x) (g.p i hl).1 (g.p i hl).2 (g.r i hl).1 (g.r i hl).2 (g.g i hl).1 (g.g i hl).2 (g.f i hl).1 (g.f i hl).2 x0 x1
    rw [g_t, i_add (by omega) (by omega)]; omega
theorem gs_b {N : w_M} {Y : Nat} {x : Int32} (g : gT N Y) (x0 : 0 ≤ x.toInt) (x1 : x.toInt ≤ 5000) : ∀ j, j ≤ cN (iv N Y 5) → -50 * (j : Int) ≤ (g_s N Y x (cN (iv N Y 3)) j).toInt ∧ (g_s N Y x (cN (iv N Y 3)) j).toInt ≤ 400 + 100 * j
  | 0, _ => by
    have t6 := (cB_le g.tc (by decide)).2
    have r := gt_b g x0 x1 _ (Nat.le_refl _)
    rw [g_s]; omega
  | j + 1, hj => by
    have hl : j < cN (iv N Y 5) := by omega
    have t6 := (cB_le g.sc (by decide)).2
    have r := gs_b g x0 x1 j (by omega)
    have q := g.h j hl
    rw [g_s]
    split
    · rw [x_add0]; omega
    · rw [i_add (by omega) (by omega)]; omega
theorem for_b {N : w_M} {Y : Nat} {x : Int32} (g : gT N Y) (x0 : 0 ≤ x.toInt) (x1 : x.toInt ≤ 5000) : -1000 ≤ (g_for N Y x).toInt ∧ (g_for N Y x).toInt ≤ 2400 := by
  have t6 := (cB_le g.sc (by decide)).2
  have r := gs_b g x0 x1 _ (Nat.le_refl _)
  unfold g_for; omega
theorem abv_e {M : w_M} {B : Nat} {N : w_M} {Y t : Nat} {mk : Int32} (h : Rt M B N Y) (g : gT N Y) (ht : cN (iv N Y 1) = t) : ∀ c j, t ≤ j → s_abv M (B + 1) mk c j = g_abv N Y mk c j
  | 0, _, _ => rfl
  | c + 1, j, hj => by
    have e : g_sea N Y j = g_for N Y (nI j) := by unfold g_sea; rw [ht, if_neg (by omega)]
    rw [s_abv, g_abv, for_e _ h g, abv_e h g ht c (j + 1) (by omega), e]
