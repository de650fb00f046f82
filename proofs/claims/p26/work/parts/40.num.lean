/-! numbers: Int32 read as integers -/
theorem i_rg (x : Int32) : -2147483648 ≤ x.toInt ∧ x.toInt < 2147483648 := ⟨x.le_toInt, x.toInt_lt⟩
theorem i_bm {x : Int} (h1 : -2147483648 ≤ x) (h2 : x < 2147483648) : x.bmod (2 ^ 32) = x := Int.bmod_eq_of_le (by omega) (by omega)
theorem i_bm8 {x : Int} (h1 : -9223372036854775808 ≤ x) (h2 : x < 9223372036854775808) : x.bmod (2 ^ 64) = x := Int.bmod_eq_of_le (by omega) (by omega)
theorem i_add {a b : Int32} (h1 : -2147483648 ≤ a.toInt + b.toInt) (h2 : a.toInt + b.toInt < 2147483648) : (a + b).toInt = a.toInt + b.toInt := by rw [Int32.toInt_add, i_bm h1 h2]
theorem i_sub {a b : Int32} (h1 : -2147483648 ≤ a.toInt - b.toInt) (h2 : a.toInt - b.toInt < 2147483648) : (a - b).toInt = a.toInt - b.toInt := by rw [Int32.toInt_sub, i_bm h1 h2]
theorem i_mul {a b : Int32} (h1 : -2147483648 ≤ a.toInt * b.toInt) (h2 : a.toInt * b.toInt < 2147483648) : (a * b).toInt = a.toInt * b.toInt := by rw [Int32.toInt_mul, i_bm h1 h2]
theorem i_neg {a : Int32} (h1 : -2147483648 < a.toInt) : (-a).toInt = -a.toInt := by have := i_rg a; rw [Int32.toInt_neg, i_bm (by omega) (by omega)]
theorem i_div {a b : Int32} (ha : 0 ≤ a.toInt) (hb : 0 < b.toInt) : (a / b).toInt = a.toInt / b.toInt := by
  have h := i_rg a
  have h1 : a.toInt / b.toInt ≤ a.toInt := Int.ediv_le_self _ ha
  have h0 : 0 ≤ a.toInt / b.toInt := Int.ediv_nonneg ha (by omega)
  rw [Int32.toInt_div, Int.tdiv_eq_ediv_of_nonneg ha, i_bm (by omega) (by omega)]
theorem i_le {a b : Int32} : a ≤ b ↔ a.toInt ≤ b.toInt := Int32.le_iff_toInt_le
theorem i_lt {a b : Int32} : a < b ↔ a.toInt < b.toInt := Int32.lt_iff_toInt_lt
theorem i_ext {a b : Int32} (h : a.toInt = b.toInt) : a = b := Int32.toInt_inj.mp h
theorem i_eq {a b : Int32} : a = b ↔ a.toInt = b.toInt := Int32.toInt_inj.symm
theorem i_N {n : Nat} (h : n < 2 ^ 31) : (nI n).toInt = n := nI_toInt h
theorem i_cN {a : Int32} (h : 0 ≤ a.toInt) : (cN a : Int) = a.toInt := by
  rw [cN, Int32.toNatClampNeg]
  exact Int.toNat_of_nonneg h
theorem i_lit (n : Nat) [OfNat Int32 n] (x : Int32) (h : x = OfNat.ofNat n) : x.toInt = (OfNat.ofNat n : Int32).toInt := by rw [h]
theorem i_0 : (0 : Int32).toInt = 0 := by decide
theorem i_1 : (1 : Int32).toInt = 1 := by decide
theorem i_2 : (2 : Int32).toInt = 2 := by decide
theorem i_4 : (4 : Int32).toInt = 4 := by decide
theorem i_8 : (8 : Int32).toInt = 8 := by decide
theorem i_10 : (10 : Int32).toInt = 10 := by decide
theorem i_20 : (20 : Int32).toInt = 20 := by decide
theorem i_40 : (40 : Int32).toInt = 40 := by decide
/-- a share: not below 0, not above the whole -/
theorem shr_b {a f o : Int32} (ha : 0 ≤ a.toInt) (hf : 0 ≤ f.toInt) (hfo : f.toInt ≤ o.toInt) : 0 ≤ (f_shr a f o).toInt ∧ (f_shr a f o).toInt ≤ a.toInt := by
  unfold f_shr
  split
  · rw [i_0]; omega
  · rename_i h0
    have ra := i_rg a; have rf := i_rg f; have ro := i_rg o
    have ho : 0 < o.toInt := by
      rcases Int.lt_or_eq_of_le (show 0 ≤ o.toInt by omega) with h | h
      · exact h
      · exact absurd (i_ext (a := o) (b := 0) (by rw [i_0]; omega)) h0
    have m1 : 0 ≤ a.toInt * f.toInt := Int.mul_nonneg ha hf
    have m2 : a.toInt * f.toInt ≤ 2147483648 * 2147483648 := Int.mul_le_mul (by omega) (by omega) hf (by omega)
    have m3 : a.toInt * f.toInt ≤ a.toInt * o.toInt := Int.mul_le_mul_of_nonneg_left hfo ha
    have d1 : a.toInt * f.toInt / o.toInt ≤ a.toInt := by
      refine Int.ediv_le_of_le_mul ho ?_
      exact m3
    have d0 : 0 ≤ a.toInt * f.toInt / o.toInt := Int.ediv_nonneg m1 (by omega)
    have e : (a.toInt64 * f.toInt64 / o.toInt64).toInt32.toInt = a.toInt * f.toInt / o.toInt := by
      rw [Int64.toInt_toInt32, Int64.toInt_div, Int64.toInt_mul, Int32.toInt_toInt64, Int32.toInt_toInt64, Int32.toInt_toInt64, i_bm8 (x := a.toInt * f.toInt) (by omega) (by omega), Int.tdiv_eq_ediv_of_nonneg m1, i_bm8 (by omega) (by omega), i_bm (by omega) (by omega)]
    rw [e]; exact ⟨d0, d1⟩
theorem goes_shr {f s w : Int32} (h : 0 ≤ w.toInt) : f_goes f s w = f_shr s f w := by
  unfold f_goes f_shr
  have e : (w ≤ 0) ↔ (w = 0) := by rw [i_le, i_eq, i_0]; omega
  simp only [e]
theorem sal_sl {w s : Int32} (h : 0 ≤ w.toInt) : f_sal w s = f_sl w s := by
  unfold f_sal f_sl
  have e : (w ≤ 0) ↔ (w = 0) := by rw [i_le, i_eq, i_0]; omega
  simp only [e]
theorem min_lt (x y : Int32) : f_min x y = f_lt x y := by
  unfold f_min f_lt
  split <;> split <;> rename_i h1 h2 <;> rw [i_lt] at h1 h2 <;> first | rfl | exact i_ext (by omega)
theorem lt_cm (x y : Int32) : f_lt x y = f_lt y x := by
  unfold f_lt
  split <;> split <;> rename_i h1 h2 <;> rw [i_lt] at h1 h2 <;> first | rfl | exact i_ext (by omega)
theorem lt_b (x y : Int32) : (f_lt x y).toInt ≤ x.toInt ∧ (f_lt x y).toInt ≤ y.toInt ∧ (f_lt x y = x ∨ f_lt x y = y) := by
  unfold f_lt
  split <;> rename_i h <;> rw [i_lt] at h
  · exact ⟨Int.le_refl _, by omega, Or.inl rfl⟩
  · exact ⟨by omega, Int.le_refl _, Or.inr rfl⟩
theorem flt_0 {x y : Int32} (hx : 0 ≤ x.toInt) (hy : 0 ≤ y.toInt) : 0 ≤ (f_lt x y).toInt := by
  unfold f_lt; split <;> assumption
theorem half_e {c : Int32} (h0 : 0 ≤ c.toInt) (h1 : c.toInt < 2147483647) : c - c / 2 = (c + 1) / 2 := by
  have e1 : (c / 2).toInt = c.toInt / 2 := by rw [i_div h0 (by rw [i_2]; omega), i_2]
  have e2 : (c + 1).toInt = c.toInt + 1 := by rw [i_add (by rw [i_1]; omega) (by rw [i_1]; omega), i_1]
  have e3 : ((c + 1) / 2).toInt = (c.toInt + 1) / 2 := by rw [i_div (by omega) (by rw [i_2]; omega), i_2, e2]
  refine i_ext ?_
  rw [e3, i_sub (by omega) (by omega), e1]; omega
/-! sums -/
def sm (f : Nat → Int) : Nat → Int
  | 0 => 0
  | i + 1 => sm f i + f i
theorem sm_eq {f g : Nat → Int} : ∀ {n : Nat}, (∀ i, i < n → g i = f i) → sm g n = sm f n
  | 0, _ => rfl
  | n + 1, h => by rw [sm, sm, sm_eq (fun i hi => h i (by omega)), h n (by omega)]
theorem sm_1 {f g : Nat → Int} {s : Nat} : ∀ {n : Nat}, s < n → (∀ i, i < n → i ≠ s → g i = f i) → sm g n = sm f n + (g s - f s)
  | 0, h, _ => absurd h (by omega)
  | n + 1, h, e => by
    rcases Nat.lt_or_ge s n with q | q
    · rw [sm, sm, sm_1 q (fun i hi hs => e i (by omega) hs), e n (by omega) (by omega)]; omega
    · obtain rfl : s = n := by omega
      rw [sm, sm, sm_eq (fun i hi => e i (by omega) (by omega))]; omega
theorem sm_2 {f g : Nat → Int} {s t : Nat} : ∀ {n : Nat}, s < n → t < n → s ≠ t → (∀ i, i < n → i ≠ s → i ≠ t → g i = f i) → sm g n = sm f n + (g s - f s) + (g t - f t)
  | 0, h, _, _, _ => absurd h (by omega)
  | n + 1, h, h', hn, e => by
    rcases Nat.lt_or_ge s n with q | q
    · rcases Nat.lt_or_ge t n with q2 | q2
      · rw [sm, sm, sm_2 q q2 hn (fun i hi a b => e i (by omega) a b), e n (by omega) (by omega) (by omega)]; omega
      · obtain rfl : t = n := by omega
        rw [sm, sm, sm_1 q (fun i hi a => e i (by omega) a (by omega))]; omega
    · obtain rfl : s = n := by omega
      rw [sm, sm, sm_1 (show t < s by omega) (fun i hi a => e i (by omega) (by omega) a)]; omega
theorem sm_0 {f : Nat → Int} : ∀ {n : Nat}, (∀ i, i < n → 0 ≤ f i) → 0 ≤ sm f n
  | 0, _ => Int.le_refl _
  | n + 1, h => by rw [sm]; have := sm_0 (f := f) (n := n) (fun i hi => h i (by omega)); have := h n (by omega); omega
theorem sm_le {f : Nat → Int} {s : Nat} : ∀ {n : Nat}, (∀ i, i < n → 0 ≤ f i) → s < n → f s ≤ sm f n
  | 0, _, h => absurd h (by omega)
  | n + 1, h, hs => by
    rw [sm]
    have h0 := sm_0 (f := f) (n := n) (fun i hi => h i (by omega))
    have hn := h n (by omega)
    rcases Nat.lt_or_ge s n with q | q
    · have := sm_le (f := f) (n := n) (fun i hi => h i (by omega)) q; omega
    · obtain rfl : s = n := by omega
      omega
/-! cells -/
theorem iv_s {M : w_M} {a j : Nat} {x : Int32} : iv (wi M a j x) a j = x := by rw [iv_wi, if_pos ⟨rfl, rfl⟩]
theorem iv_e {M : w_M} {a j b k : Nat} {x : Int32} (h : b = a ∧ k = j) : iv (wi M a j x) b k = x := by rw [iv_wi, if_pos h]
theorem iv_n {M : w_M} {a j b k : Nat} {x : Int32} (h : b ≠ a ∨ k ≠ j) : iv (wi M a j x) b k = iv M b k := by rw [iv_wi, if_neg (by omega)]
theorem jv_s {M : w_M} {a j : Nat} {x : Int64} : jv (wj M a j x) a j = x := by rw [jv_wj, if_pos ⟨rfl, rfl⟩]
theorem jv_e {M : w_M} {a j b k : Nat} {x : Int64} (h : b = a ∧ k = j) : jv (wj M a j x) b k = x := by rw [jv_wj, if_pos h]
theorem jv_n {M : w_M} {a j b k : Nat} {x : Int64} (h : b ≠ a ∨ k ≠ j) : jv (wj M a j x) b k = jv M b k := by rw [jv_wj, if_neg (by omega)]
