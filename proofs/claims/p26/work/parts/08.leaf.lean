/-! where the cells stand: logical numbers -/
def L_lay (G : w_G) (k : Nat) : Prop := u_is G k 2
theorem lay_is {G : w_G} {k : Nat} (h : L_lay G k) : u_is G k 2 := h
def L_trn (G : w_G) (k : Nat) : Prop := u_is G k 9
theorem trn_is {G : w_G} {k : Nat} (h : L_trn G k) : u_is G k 9 := h
def L_srg (G : w_G) (k : Nat) : Prop := u_is G k 7
theorem srg_is {G : w_G} {k : Nat} (h : L_srg G k) : u_is G k 7 := h
def L_int (G : w_G) (k : Nat) : Prop := u_is G k 1
theorem int_is {G : w_G} {k : Nat} (h : L_int G k) : u_is G k 1 := h
def L_oys (G : w_G) (k : Nat) : Prop := u_is G k 4
theorem oys_is {G : w_G} {k : Nat} (h : L_oys G k) : u_is G k 4 := h
def L_a24 (G : w_G) (k : Nat) : Prop := u_is G k 12 ∧ gN G k = 24
theorem a24_is {G : w_G} {k : Nat} (h : L_a24 G k) : u_is G k 12 := h.1
theorem a24_n {G : w_G} {k : Nat} (h : L_a24 G k) : gN G k = 24 := h.2
def L_a1000 (G : w_G) (k : Nat) : Prop := u_is G k 12 ∧ gN G k = 1000
theorem a1000_is {G : w_G} {k : Nat} (h : L_a1000 G k) : u_is G k 12 := h.1
theorem a1000_n {G : w_G} {k : Nat} (h : L_a1000 G k) : gN G k = 1000 := h.2
def L_a500 (G : w_G) (k : Nat) : Prop := u_is G k 12 ∧ gN G k = 500
theorem a500_is {G : w_G} {k : Nat} (h : L_a500 G k) : u_is G k 12 := h.1
theorem a500_n {G : w_G} {k : Nat} (h : L_a500 G k) : gN G k = 500 := h.2
def L_z500 (G : w_G) (k : Nat) : Prop := u_is G k 14 ∧ gN G k = 500
theorem z500_is {G : w_G} {k : Nat} (h : L_z500 G k) : u_is G k 14 := h.1
theorem z500_n {G : w_G} {k : Nat} (h : L_z500 G k) : gN G k = 500 := h.2
def L_j10 (G : w_G) (k : Nat) : Prop := u_is G k 13 ∧ gN G k = 10
theorem j10_is {G : w_G} {k : Nat} (h : L_j10 G k) : u_is G k 13 := h.1
theorem j10_n {G : w_G} {k : Nat} (h : L_j10 G k) : gN G k = 10 := h.2
def L_a3584 (G : w_G) (k : Nat) : Prop := u_is G k 12 ∧ gN G k = 3584
theorem a3584_is {G : w_G} {k : Nat} (h : L_a3584 G k) : u_is G k 12 := h.1
theorem a3584_n {G : w_G} {k : Nat} (h : L_a3584 G k) : gN G k = 3584 := h.2
def L_sec (G : w_G) (k : Nat) : Prop := u_is G k 6 ∧ (gF G k 0 = some (k + 20) ∧ L_lay G (k + 20)) ∧ (gF G k 1 = some (k + 30) ∧ L_lay G (k + 30)) ∧ (gF G k 2 = some (k + 40) ∧ L_a24 G (k + 40))
theorem sec_is {G : w_G} {k : Nat} (h : L_sec G k) : u_is G k 6 := h.1
theorem sec_f0 {G : w_G} {k : Nat} (h : L_sec G k) : gF G k 0 = some (k + 20) := h.2.1.1
theorem sec_p0 {G : w_G} {k : Nat} (h : L_sec G k) : L_lay G (k + 20) := h.2.1.2
theorem sec_f1 {G : w_G} {k : Nat} (h : L_sec G k) : gF G k 1 = some (k + 30) := h.2.2.1.1
theorem sec_p1 {G : w_G} {k : Nat} (h : L_sec G k) : L_lay G (k + 30) := h.2.2.1.2
theorem sec_f2 {G : w_G} {k : Nat} (h : L_sec G k) : gF G k 2 = some (k + 40) := h.2.2.2.1
theorem sec_p2 {G : w_G} {k : Nat} (h : L_sec G k) : L_a24 G (k + 40) := h.2.2.2.2
def L_aTrn (G : w_G) (k : Nat) : Prop := u_is G k 19 ∧ gN G k = 6 ∧ ∀ i, i < 6 → gF G k i = some (k + 14 + i) ∧ L_trn G (k + 14 + i)
theorem aTrn_is {G : w_G} {k : Nat} (h : L_aTrn G k) : u_is G k 19 := h.1
theorem aTrn_n {G : w_G} {k : Nat} (h : L_aTrn G k) : gN G k = 6 := h.2.1
theorem aTrn_f {G : w_G} {k i : Nat} (h : L_aTrn G k) (hi : i < 6) : gF G k i = some (k + 14 + i) := (h.2.2 i hi).1
theorem aTrn_p {G : w_G} {k i : Nat} (h : L_aTrn G k) (hi : i < 6) : L_trn G (k + 14 + i) := (h.2.2 i hi).2
def L_aSrg (G : w_G) (k : Nat) : Prop := u_is G k 18 ∧ gN G k = 20 ∧ ∀ i, i < 20 → gF G k i = some (k + 23 + i) ∧ L_srg G (k + 23 + i)
theorem aSrg_is {G : w_G} {k : Nat} (h : L_aSrg G k) : u_is G k 18 := h.1
theorem aSrg_n {G : w_G} {k : Nat} (h : L_aSrg G k) : gN G k = 20 := h.2.1
theorem aSrg_f {G : w_G} {k i : Nat} (h : L_aSrg G k) (hi : i < 20) : gF G k i = some (k + 23 + i) := (h.2.2 i hi).1
theorem aSrg_p {G : w_G} {k i : Nat} (h : L_aSrg G k) (hi : i < 20) : L_srg G (k + 23 + i) := (h.2.2 i hi).2
def L_aSec (G : w_G) (k : Nat) : Prop := u_is G k 17 ∧ gN G k = 8 ∧ ∀ i, i < 8 → gF G k i = some (k + 97 + i) ∧ L_sec G (k + 97 + i)
theorem aSec_is {G : w_G} {k : Nat} (h : L_aSec G k) : u_is G k 17 := h.1
theorem aSec_n {G : w_G} {k : Nat} (h : L_aSec G k) : gN G k = 8 := h.2.1
theorem aSec_f {G : w_G} {k i : Nat} (h : L_aSec G k) (hi : i < 8) : gF G k i = some (k + 97 + i) := (h.2.2 i hi).1
theorem aSec_p {G : w_G} {k i : Nat} (h : L_aSec G k) (hi : i < 8) : L_sec G (k + 97 + i) := (h.2.2 i hi).2
def L_aInt (G : w_G) (k : Nat) : Prop := u_is G k 15 ∧ gN G k = 6 ∧ ∀ i, i < 6 → gF G k i = some (k + 146 + i) ∧ L_int G (k + 146 + i)
theorem aInt_is {G : w_G} {k : Nat} (h : L_aInt G k) : u_is G k 15 := h.1
theorem aInt_n {G : w_G} {k : Nat} (h : L_aInt G k) : gN G k = 6 := h.2.1
theorem aInt_f {G : w_G} {k i : Nat} (h : L_aInt G k) (hi : i < 6) : gF G k i = some (k + 146 + i) := (h.2.2 i hi).1
theorem aInt_p {G : w_G} {k i : Nat} (h : L_aInt G k) (hi : i < 6) : L_int G (k + 146 + i) := (h.2.2 i hi).2
def L_aOys (G : w_G) (k : Nat) : Prop := u_is G k 16 ∧ gN G k = 6 ∧ ∀ i, i < 6 → gF G k i = some (k + 7 + i) ∧ L_oys G (k + 7 + i)
theorem aOys_is {G : w_G} {k : Nat} (h : L_aOys G k) : u_is G k 16 := h.1
theorem aOys_n {G : w_G} {k : Nat} (h : L_aOys G k) : gN G k = 6 := h.2.1
theorem aOys_f {G : w_G} {k i : Nat} (h : L_aOys G k) (hi : i < 6) : gF G k i = some (k + 7 + i) := (h.2.2 i hi).1
theorem aOys_p {G : w_G} {k i : Nat} (h : L_aOys G k) (hi : i < 6) : L_oys G (k + 7 + i) := (h.2.2 i hi).2
def L_sea (G : w_G) (k : Nat) : Prop := u_is G k 5 ∧ (gF G k 0 = some (k + 5) ∧ L_aTrn G (k + 5)) ∧ (gF G k 1 = some (k + 6) ∧ L_aSrg G (k + 6)) ∧ (gF G k 2 = some (k + 7) ∧ L_a1000 G (k + 7))
theorem sea_is {G : w_G} {k : Nat} (h : L_sea G k) : u_is G k 5 := h.1
theorem sea_f0 {G : w_G} {k : Nat} (h : L_sea G k) : gF G k 0 = some (k + 5) := h.2.1.1
theorem sea_p0 {G : w_G} {k : Nat} (h : L_sea G k) : L_aTrn G (k + 5) := h.2.1.2
theorem sea_f1 {G : w_G} {k : Nat} (h : L_sea G k) : gF G k 1 = some (k + 6) := h.2.2.1.1
theorem sea_p1 {G : w_G} {k : Nat} (h : L_sea G k) : L_aSrg G (k + 6) := h.2.2.1.2
theorem sea_f2 {G : w_G} {k : Nat} (h : L_sea G k) : gF G k 2 = some (k + 7) := h.2.2.2.1
theorem sea_p2 {G : w_G} {k : Nat} (h : L_sea G k) : L_a1000 G (k + 7) := h.2.2.2.2
def L_bar (G : w_G) (k : Nat) : Prop := u_is G k 0 ∧ (gF G k 0 = some (k + 7) ∧ L_a500 G (k + 7)) ∧ (gF G k 1 = some (k + 8) ∧ L_a500 G (k + 8)) ∧ (gF G k 2 = some (k + 9) ∧ L_z500 G (k + 9))
theorem bar_is {G : w_G} {k : Nat} (h : L_bar G k) : u_is G k 0 := h.1
theorem bar_f0 {G : w_G} {k : Nat} (h : L_bar G k) : gF G k 0 = some (k + 7) := h.2.1.1
theorem bar_p0 {G : w_G} {k : Nat} (h : L_bar G k) : L_a500 G (k + 7) := h.2.1.2
theorem bar_f1 {G : w_G} {k : Nat} (h : L_bar G k) : gF G k 1 = some (k + 8) := h.2.2.1.1
theorem bar_p1 {G : w_G} {k : Nat} (h : L_bar G k) : L_a500 G (k + 8) := h.2.2.1.2
theorem bar_f2 {G : w_G} {k : Nat} (h : L_bar G k) : gF G k 2 = some (k + 9) := h.2.2.2.1
theorem bar_p2 {G : w_G} {k : Nat} (h : L_bar G k) : L_z500 G (k + 9) := h.2.2.2.2
def L_mou (G : w_G) (k : Nat) : Prop := u_is G k 3 ∧ (gF G k 0 = some (k + 1) ∧ L_sea G (k + 1)) ∧ (gF G k 1 = some (k + 2) ∧ L_bar G (k + 2)) ∧ (gF G k 2 = some (k + 3) ∧ L_aSec G (k + 3)) ∧ (gF G k 3 = some (k + 4) ∧ L_aInt G (k + 4)) ∧ (gF G k 4 = some (k + 5) ∧ L_j10 G (k + 5))
theorem mou_is {G : w_G} {k : Nat} (h : L_mou G k) : u_is G k 3 := h.1
theorem mou_f0 {G : w_G} {k : Nat} (h : L_mou G k) : gF G k 0 = some (k + 1) := h.2.1.1
theorem mou_p0 {G : w_G} {k : Nat} (h : L_mou G k) : L_sea G (k + 1) := h.2.1.2
theorem mou_f1 {G : w_G} {k : Nat} (h : L_mou G k) : gF G k 1 = some (k + 2) := h.2.2.1.1
theorem mou_p1 {G : w_G} {k : Nat} (h : L_mou G k) : L_bar G (k + 2) := h.2.2.1.2
theorem mou_f2 {G : w_G} {k : Nat} (h : L_mou G k) : gF G k 2 = some (k + 3) := h.2.2.2.1.1
theorem mou_p2 {G : w_G} {k : Nat} (h : L_mou G k) : L_aSec G (k + 3) := h.2.2.2.1.2
theorem mou_f3 {G : w_G} {k : Nat} (h : L_mou G k) : gF G k 3 = some (k + 4) := h.2.2.2.2.1.1
theorem mou_p3 {G : w_G} {k : Nat} (h : L_mou G k) : L_aInt G (k + 4) := h.2.2.2.2.1.2
theorem mou_f4 {G : w_G} {k : Nat} (h : L_mou G k) : gF G k 4 = some (k + 5) := h.2.2.2.2.2.1
theorem mou_p4 {G : w_G} {k : Nat} (h : L_mou G k) : L_j10 G (k + 5) := h.2.2.2.2.2.2
def L_tld (G : w_G) (k : Nat) : Prop := u_is G k 8 ∧ (gF G k 0 = some (k + 1) ∧ L_a3584 G (k + 1))
theorem tld_is {G : w_G} {k : Nat} (h : L_tld G k) : u_is G k 8 := h.1
theorem tld_f0 {G : w_G} {k : Nat} (h : L_tld G k) : gF G k 0 = some (k + 1) := h.2.1
theorem tld_p0 {G : w_G} {k : Nat} (h : L_tld G k) : L_a3584 G (k + 1) := h.2.2
def L_sal (G : w_G) (k : Nat) : Prop := u_is G k 10 ∧ (gF G k 0 = some (k + 1000) ∧ L_mou G (k + 1000)) ∧ (gF G k 1 = some (k + 2000) ∧ L_mou G (k + 2000)) ∧ (gF G k 2 = some (k + 1) ∧ L_tld G (k + 1)) ∧ (gF G k 3 = some (k + 3) ∧ L_aOys G (k + 3))
theorem sal_is {G : w_G} {k : Nat} (h : L_sal G k) : u_is G k 10 := h.1
theorem sal_f0 {G : w_G} {k : Nat} (h : L_sal G k) : gF G k 0 = some (k + 1000) := h.2.1.1
theorem sal_p0 {G : w_G} {k : Nat} (h : L_sal G k) : L_mou G (k + 1000) := h.2.1.2
theorem sal_f1 {G : w_G} {k : Nat} (h : L_sal G k) : gF G k 1 = some (k + 2000) := h.2.2.1.1
theorem sal_p1 {G : w_G} {k : Nat} (h : L_sal G k) : L_mou G (k + 2000) := h.2.2.1.2
theorem sal_f2 {G : w_G} {k : Nat} (h : L_sal G k) : gF G k 2 = some (k + 1) := h.2.2.2.1.1
theorem sal_p2 {G : w_G} {k : Nat} (h : L_sal G k) : L_tld G (k + 1) := h.2.2.2.1.2
theorem sal_f3 {G : w_G} {k : Nat} (h : L_sal G k) : gF G k 3 = some (k + 3) := h.2.2.2.2.1
theorem sal_p3 {G : w_G} {k : Nat} (h : L_sal G k) : L_aOys G (k + 3) := h.2.2.2.2.2

theorem u_le (a b : Int32) : (a ≤ b) = ¬ (b < a) := propext Int32.not_lt.symm
theorem u_l0 {x : Int32} (h : ¬ x = 0) : ¬ x.toInt64 = 0 := fun e => h (by rw [← Int32.toInt_inj, Int32.toInt_zero, ← Int32.toInt_toInt64, e]; rfl)
theorem u_ne0 {x : Int32} (h : ¬ x ≤ 0) : ¬ x = 0 := fun e => h (by rw [e]; exact Int32.le_refl 0)
theorem u_nz1 {r p : Int32} (h1 : 0 < r) (h2 : r < p) : ¬ p = 0 := fun e => by
  rw [e] at h2
  rw [Int32.lt_iff_toInt_lt] at h1 h2
  omega
theorem u_nz2 {r p : Int32} (h2 : r < p) : ¬ p - r = 0 := fun e => by
  have e2 : p = r := calc p = p - r + r := (Int32.sub_add_cancel p r).symm
    _ = 0 + r := by rw [e]
    _ = r := Int32.zero_add r
  rw [e2] at h2
  exact Int32.lt_irrefl h2
def fW (v a b : Int32) : Int32 := if a ≤ v ∧ v ≤ b then 1 else 0
def f_goes (flow stuff water : Int32) : Int32 := if water ≤ 0 then 0 else (stuff.toInt64 * flow.toInt64 / water.toInt64).toInt32
def f_sal (w s : Int32) : Int32 := if w ≤ 0 then 0 else s / w
def f_bed (ar mud : Int32) : Int32 := if ar ≤ 0 then 0 else mud / ar
def f_lev (ar mud up low : Int32) : Int32 := if ar ≤ 0 then 0 else f_bed ar mud + (up + low) / ar
def m_out (M : w_M) (k : Nat) (flow : Int32) : w_M := wi (wi M k 0 (iv M k 0 - flow)) k 1 (iv M k 1 - f_goes flow (iv M k 1) (iv M k 0))
def m_in (M : w_M) (k : Nat) (a b : Int32) : w_M := wi (wi M k 0 (iv M k 0 + a)) k 1 (iv M k 1 + b)
def s_lev (M : w_M) (k : Nat) : Int32 := f_lev (iv M k 3) (iv M k 4) (iv M (k + 20) 0) (iv M (k + 30) 0)
def m_gc (M : w_M) (k : Nat) (flow : Int32) : w_M := wi M k 5 (iv M k 5 - f_goes flow (iv M k 5) (iv M (k + 20) 0))
def f_ref (amount permit mud : Int32) : Int32 := if permit = 0 then 1 else if permit < amount then 2 else if mud < amount then 3 else 0
def f_min (x y : Int32) : Int32 := if y < x then y else x
def f_max (x y : Int32) : Int32 := if x < y then y else x
def m_mix (M : w_M) (k : Nat) : w_M := if iv M k 6 < 20 then M else if 0 < f_goes (f_min (iv M (k + 20) 0) (iv M (k + 30) 0) / 4) (iv M (k + 30) 1) (iv M (k + 30) 0) - f_goes (f_min (iv M (k + 20) 0) (iv M (k + 30) 0) / 4) (iv M (k + 20) 1) (iv M (k + 20) 0) then
  wi (wi M (k + 30) 1 (iv M (k + 30) 1 - (f_goes (f_min (iv M (k + 20) 0) (iv M (k + 30) 0) / 4) (iv M (k + 30) 1) (iv M (k + 30) 0) - f_goes (f_min (iv M (k + 20) 0) (iv M (k + 30) 0) / 4) (iv M (k + 20) 1) (iv M (k + 20) 0)))) (k + 20) 1 (iv M (k + 20) 1 + (f_goes (f_min (iv M (k + 20) 0) (iv M (k + 30) 0) / 4) (iv M (k + 30) 1) (iv M (k + 30) 0) - f_goes (f_min (iv M (k + 20) 0) (iv M (k + 30) 0) / 4) (iv M (k + 20) 1) (iv M (k + 20) 0))) else M
def m_set (M : w_M) (k : Nat) : w_M := if iv M k 6 < 10 then wi (wi M k 5 (iv M k 5 - (iv M k 5 - iv M k 5 / 2))) k 4 (iv M k 4 + (iv M k 5 - iv M k 5 / 2)) else if 40 < iv M k 6 then wi (wi M k 4 (iv M k 4 - f_min (iv M k 6 / 8) (iv M k 4))) k 5 (iv M k 5 + f_min (iv M k 6 / 8) (iv M k 4)) else M
def m_sbeg (M : w_M) (k : Nat) (ar up low mud : Int32) : w_M := wi (wi (wi (wi (wi (wi (wi (wi (wi M k 3 ar) k 4 mud) (k + 20) 0 up) (k + 20) 1 0) (k + 30) 0 low) (k + 30) 1 0) k 5 0) k 6 0) k 7 0
def f_hgt (p r g f h : Int32) : Int32 := if r ≤ 0 ∨ p ≤ r then 0 else if (h + f) - (h + f) / p * p < r then g * ((h + f) - (h + f) / p * p) / r else g * (p - ((h + f) - (h + f) / p * p)) / (p - r)
set_option maxHeartbeats 4000000 in
set_option maxRecDepth 100000 in
theorem c_X10_within (l : Launch) (D : va_G) (G : w_G) (M : w_M) (v : Int32) (least : Int32) (most : Int32)   : u_Mi l D G yX10_within cX10_within 3 (some .boolean) 0 0 [.int v, .int least, .int most] M (fun r M' => r = fW v least most ∧ M' = M) := by
  refine u_bodyz (by decide +kernel) (Nat.le_of_ble_eq_true rfl) rfl (fun p e s m args below meth c A H0 Q C ret => ?_)
  refine u_iload_n C dX10_within_0 rfl ?_
  refine u_iload_n C dX10_within_1 rfl ?_
  refine u_icmp_lt (tgt := 14) C dX10_within_2 (by decide) (fun c_2 => ?_) (fun c_2 => ?_)
  · refine u_iconst (v := 0) C dX10_within_14 (by decide) ?_
    exact ret _ _ _ _ dX10_within_15 (by simp) (by (try simp only [u_le, Decidable.not_not] at c_2); refine ⟨?_, ?_⟩ <;> simp [-Int32.not_lt, -Int32.not_le, iv_wi, iv_wj, jv_wi, u_le, fW, c_2])
  · refine u_iload_n C dX10_within_5 rfl ?_
    refine u_iload_n C dX10_within_6 rfl ?_
    refine u_icmp_gt (tgt := 14) C dX10_within_7 (by decide) (fun c_7 => ?_) (fun c_7 => ?_)
    · refine u_iconst (v := 0) C dX10_within_14 (by decide) ?_
      exact ret _ _ _ _ dX10_within_15 (by simp) (by (try simp only [u_le, Decidable.not_not] at c_2 c_7); refine ⟨?_, ?_⟩ <;> simp [-Int32.not_lt, -Int32.not_le, iv_wi, iv_wj, jv_wi, u_le, fW, c_2, c_7])
    · refine u_iconst (v := 1) C dX10_within_10 (by decide) ?_
      refine u_goto (tgt := 15) C dX10_within_11 (by decide) ?_
      exact ret _ _ _ _ dX10_within_15 (by simp) (by (try simp only [u_le, Decidable.not_not] at c_2 c_7); refine ⟨?_, ?_⟩ <;> simp [-Int32.not_lt, -Int32.not_le, iv_wi, iv_wj, jv_wi, u_le, fW, c_2, c_7])
set_option maxHeartbeats 4000000 in
set_option maxRecDepth 100000 in
theorem c_X10_goesWith (l : Launch) (D : va_G) (G : w_G) (M : w_M) (flow : Int32) (stuff : Int32) (water : Int32)   : u_Mi l D G yX10_goesWith cX10_goesWith 3 (some .int) 0 0 [.int flow, .int stuff, .int water] M (fun r M' => r = f_goes flow stuff water ∧ M' = M) := by
  refine u_bodyi (by decide +kernel) (Nat.le_of_ble_eq_true rfl) rfl (fun p e s m args below meth c A H0 Q C ret => ?_)
  refine u_iload_n C dX10_goesWith_0 rfl ?_
  refine u_if_gt (tgt := 6) C dX10_goesWith_1 (by decide) (fun c_1 => ?_) (fun c_1 => ?_)
  · refine u_iload_n C dX10_goesWith_6 rfl ?_
    refine u_i2l C dX10_goesWith_7 ?_
    refine u_iload_n C dX10_goesWith_8 rfl ?_
    refine u_i2l C dX10_goesWith_9 ?_
    refine u_lmul C dX10_goesWith_10 ?_
    refine u_iload_n C dX10_goesWith_11 rfl ?_
    refine u_i2l C dX10_goesWith_12 ?_
    refine u_ldiv C dX10_goesWith_13 (u_l0 (by rintro rfl; (try simp only [u_le, Decidable.not_not] at c_1); simp at c_1)) ?_
    refine u_l2i C dX10_goesWith_14 ?_
    exact ret _ _ _ _ dX10_goesWith_15  (by (try simp only [u_le, Decidable.not_not] at c_1); refine ⟨?_, ?_⟩ <;> simp [-Int32.not_lt, -Int32.not_le, iv_wi, iv_wj, jv_wi, u_le, f_goes, c_1])
  · refine u_iconst (v := 0) C dX10_goesWith_4 (by decide) ?_
    exact ret _ _ _ _ dX10_goesWith_5  (by (try simp only [u_le, Decidable.not_not] at c_1); refine ⟨?_, ?_⟩ <;> simp [-Int32.not_lt, -Int32.not_le, iv_wi, iv_wj, jv_wi, u_le, f_goes, c_1])
set_option maxHeartbeats 4000000 in
set_option maxRecDepth 100000 in
theorem c_X2_begin (l : Launch) (D : va_G) (G : w_G) (M : w_M) (k : Nat) (w : Int32) (hk : L_lay G (k))  : u_Mv l D G yX2_begin cX2_begin 2 none 0 0 [.ref (gP G k), .int w] M (fun M' => M' = wi (wi M k 0 w) k 1 0) := by
  refine u_bodyv (by decide +kernel) (Nat.le_of_ble_eq_true rfl) rfl (fun p e s m args below meth c A H0 Q C ret => ?_)
  refine u_aload_n C dX2_begin_0 rfl ?_
  refine u_iload_n C dX2_begin_1 rfl ?_
  refine u_putI C pX2_begin_2 rfl (lay_is hk) ?_
  refine u_aload_n C dX2_begin_5 rfl ?_
  refine u_iconst (v := 0) C dX2_begin_6 (by decide) ?_
  refine u_putI C pX2_begin_7 rfl (lay_is hk) ?_
  exact ret _ _  _ dX2_begin_10  (rfl)
set_option maxHeartbeats 4000000 in
set_option maxRecDepth 100000 in
theorem c_X2_salinity (l : Launch) (D : va_G) (G : w_G) (M : w_M) (k : Nat) (hk : L_lay G (k))  : u_Mi l D G yX2_salinity cX2_salinity 1 (some .int) 0 0 [.ref (gP G k)] M (fun r M' => r = f_sal (iv M k 0) (iv M k 1) ∧ M' = M) := by
  refine u_bodyi (by decide +kernel) (Nat.le_of_ble_eq_true rfl) rfl (fun p e s m args below meth c A H0 Q C ret => ?_)
  refine u_aload_n C dX2_salinity_0 rfl ?_
  refine u_getI C gX2_salinity_1 rfl (lay_is hk) ?_
  refine u_if_gt (tgt := 11) C dX2_salinity_4 (by decide) (fun c_4 => ?_) (fun c_4 => ?_)
  · refine u_aload_n C dX2_salinity_11 rfl ?_
    refine u_getI C gX2_salinity_12 rfl (lay_is hk) ?_
    refine u_aload_n C dX2_salinity_15 rfl ?_
    refine u_getI C gX2_salinity_16 rfl (lay_is hk) ?_
    refine u_idiv C dX2_salinity_19 (by intro e; (try simp only [u_le, Decidable.not_not] at c_4); simp_all) ?_
    exact ret _ _ _ _ dX2_salinity_20  (by (try simp only [u_le, Decidable.not_not] at c_4); refine ⟨?_, ?_⟩ <;> simp [-Int32.not_lt, -Int32.not_le, iv_wi, iv_wj, jv_wi, u_le, f_sal, c_4])
  · refine u_iconst (v := 0) C dX2_salinity_7 (by decide) ?_
    refine u_goto (tgt := 20) C dX2_salinity_8 (by decide) ?_
    exact ret _ _ _ _ dX2_salinity_20  (by (try simp only [u_le, Decidable.not_not] at c_4); refine ⟨?_, ?_⟩ <;> simp [-Int32.not_lt, -Int32.not_le, iv_wi, iv_wj, jv_wi, u_le, f_sal, c_4])
set_option maxHeartbeats 4000000 in
set_option maxRecDepth 100000 in
theorem c_X2_saltWith (l : Launch) (D : va_G) (G : w_G) (M : w_M) (k : Nat) (flow : Int32) (hk : L_lay G (k))  : u_Mi l D G yX2_saltWith cX2_saltWith 2 (some .int) 1 22 [.ref (gP G k), .int flow] M (fun r M' => r = f_goes flow (iv M k 1) (iv M k 0) ∧ M' = M) := by
  refine u_bodyi (by decide +kernel) (Nat.le_of_ble_eq_true rfl) rfl (fun p e s m args below meth c A H0 Q C ret => ?_)
  refine u_iload_n C dX2_saltWith_0 rfl ?_
  refine u_aload_n C dX2_saltWith_1 rfl ?_
  refine u_getI C gX2_saltWith_2 rfl (lay_is hk) ?_
  refine u_aload_n C dX2_saltWith_5 rfl ?_
  refine u_getI C gX2_saltWith_6 rfl (lay_is hk) ?_
  refine u_calliN3 C es_X10_goesWith dX2_saltWith_9 (by decide +kernel) (c_X10_goesWith l D G _ _ _ _  ) (by decide) (Nat.le_of_ble_eq_true rfl) (fun r_9 M_9 q_9 => ?_)
  obtain ⟨rfl, e_9⟩ := q_9
  subst M_9
  exact ret _ _ _ _ dX2_saltWith_12  (⟨rfl, rfl⟩)
set_option maxHeartbeats 4000000 in
set_option maxRecDepth 100000 in
theorem c_X2_giveOut (l : Launch) (D : va_G) (G : w_G) (M : w_M) (k : Nat) (flow : Int32) (hk : L_lay G (k))  : u_Mi l D G yX2_giveOut cX2_giveOut 3 (some .int) 1 22 [.ref (gP G k), .int flow] M (fun r M' => r = f_goes flow (iv M k 1) (iv M k 0) ∧ M' = m_out M k flow) := by
  refine u_bodyi (by decide +kernel) (Nat.le_of_ble_eq_true rfl) rfl (fun p e s m args below meth c A H0 Q C ret => ?_)
  refine u_iload_n C dX2_giveOut_0 rfl ?_
  refine u_aload_n C dX2_giveOut_1 rfl ?_
  refine u_getI C gX2_giveOut_2 rfl (lay_is hk) ?_
  refine u_aload_n C dX2_giveOut_5 rfl ?_
  refine u_getI C gX2_giveOut_6 rfl (lay_is hk) ?_
  refine u_calliN3 C es_X10_goesWith dX2_giveOut_9 (by decide +kernel) (c_X10_goesWith l D G _ _ _ _  ) (by decide) (Nat.le_of_ble_eq_true rfl) (fun r_9 M_9 q_9 => ?_)
  obtain ⟨rfl, e_9⟩ := q_9
  subst M_9
  refine u_istore_n C dX2_giveOut_12 (by decide) ?_
  refine u_aload_n C dX2_giveOut_13 rfl ?_
  refine u_dup C dX2_giveOut_14 rfl ?_
  refine u_getI C gX2_giveOut_15 rfl (lay_is hk) ?_
  refine u_iload_n C dX2_giveOut_18 rfl ?_
  refine u_isub C dX2_giveOut_19 ?_
  refine u_putI C pX2_giveOut_20 rfl (lay_is hk) ?_
  refine u_aload_n C dX2_giveOut_23 rfl ?_
  refine u_dup C dX2_giveOut_24 rfl ?_
  refine u_getI C gX2_giveOut_25 rfl (lay_is hk) ?_
  refine u_iload_n C dX2_giveOut_28 rfl ?_
  refine u_isub C dX2_giveOut_29 ?_
  refine u_putI C pX2_giveOut_30 rfl (lay_is hk) ?_
  refine u_iload_n C dX2_giveOut_33 rfl ?_
  exact ret _ _ _ _ dX2_giveOut_34  (by skip; refine ⟨?_, ?_⟩ <;> simp [-Int32.not_lt, -Int32.not_le, iv_wi, iv_wj, jv_wi, u_le, m_out, u_le])
set_option maxHeartbeats 4000000 in
set_option maxRecDepth 100000 in
theorem c_X2_takeIn (l : Launch) (D : va_G) (G : w_G) (M : w_M) (k : Nat) (a : Int32) (b : Int32) (hk : L_lay G (k))  : u_Mv l D G yX2_takeIn cX2_takeIn 3 none 0 0 [.ref (gP G k), .int a, .int b] M (fun M' => M' = m_in M k a b) := by
  refine u_bodyv (by decide +kernel) (Nat.le_of_ble_eq_true rfl) rfl (fun p e s m args below meth c A H0 Q C ret => ?_)
  refine u_aload_n C dX2_takeIn_0 rfl ?_
  refine u_dup C dX2_takeIn_1 rfl ?_
  refine u_getI C gX2_takeIn_2 rfl (lay_is hk) ?_
  refine u_iload_n C dX2_takeIn_5 rfl ?_
  refine u_iadd C dX2_takeIn_6 ?_
  refine u_putI C pX2_takeIn_7 rfl (lay_is hk) ?_
  refine u_aload_n C dX2_takeIn_10 rfl ?_
  refine u_dup C dX2_takeIn_11 rfl ?_
  refine u_getI C gX2_takeIn_12 rfl (lay_is hk) ?_
  refine u_iload_n C dX2_takeIn_15 rfl ?_
  refine u_iadd C dX2_takeIn_16 ?_
  refine u_putI C pX2_takeIn_17 rfl (lay_is hk) ?_
  exact ret _ _  _ dX2_takeIn_20  (by skip; simp [-Int32.not_lt, -Int32.not_le, iv_wi, iv_wj, jv_wi, u_le, m_in, u_le])
set_option maxHeartbeats 4000000 in
set_option maxRecDepth 100000 in
theorem c_X6_begin (l : Launch) (D : va_G) (G : w_G) (M : w_M) (k : Nat) (ar : Int32) (up : Int32) (low : Int32) (mud : Int32) (hk : L_sec G (k))  : u_Mv l D G yX6_begin cX6_begin 5 none 1 21 [.ref (gP G k), .int ar, .int up, .int low, .int mud] M (fun M' => M' = m_sbeg M k ar up low mud) := by
  refine u_bodyv (by decide +kernel) (Nat.le_of_ble_eq_true rfl) rfl (fun p e s m args below meth c A H0 Q C ret => ?_)
  refine u_aload_n C dX6_begin_0 rfl ?_
  refine u_iload_n C dX6_begin_1 rfl ?_
  refine u_putI C pX6_begin_2 rfl (sec_is hk) ?_
  refine u_aload_n C dX6_begin_5 rfl ?_
  refine u_iload C dX6_begin_6 rfl ?_
  refine u_putI C pX6_begin_8 rfl (sec_is hk) ?_
  refine u_aload_n C dX6_begin_11 rfl ?_
  refine u_getR (k2 := (k + 20)) C gX6_begin_12 rfl (sec_is hk) (sec_f0 hk) ?_
  refine u_iload_n C dX6_begin_15 rfl ?_
  refine u_callvV1 C ev_X2_begin dX6_begin_16 ml_RX6_32 (lay_is (sec_p0 hk)) rfl (by decide) (c_X2_begin l D G _ _ _ (sec_p0 hk) ) (by decide) (Nat.le_of_ble_eq_true rfl) (fun M_16 q_16 => ?_)
  obtain rfl := q_16
  refine u_aload_n C dX6_begin_19 rfl ?_
  refine u_getR (k2 := (k + 30)) C gX6_begin_20 rfl (sec_is hk) (sec_f1 hk) ?_
  refine u_iload_n C dX6_begin_23 rfl ?_
  refine u_callvV1 C ev_X2_begin dX6_begin_24 ml_RX6_32 (lay_is (sec_p1 hk)) rfl (by decide) (c_X2_begin l D G _ _ _ (sec_p1 hk) ) (by decide) (Nat.le_of_ble_eq_true rfl) (fun M_24 q_24 => ?_)
  obtain rfl := q_24
  refine u_aload_n C dX6_begin_27 rfl ?_
  refine u_iconst (v := 0) C dX6_begin_28 (by decide) ?_
  refine u_putI C pX6_begin_29 rfl (sec_is hk) ?_
  refine u_aload_n C dX6_begin_32 rfl ?_
  refine u_iconst (v := 0) C dX6_begin_33 (by decide) ?_
  refine u_putI C pX6_begin_34 rfl (sec_is hk) ?_
  refine u_aload_n C dX6_begin_37 rfl ?_
  refine u_iconst (v := 0) C dX6_begin_38 (by decide) ?_
  refine u_putI C pX6_begin_39 rfl (sec_is hk) ?_
  exact ret _ _  _ dX6_begin_42  (rfl)
set_option maxHeartbeats 4000000 in
set_option maxRecDepth 100000 in
theorem c_X6_bed (l : Launch) (D : va_G) (G : w_G) (M : w_M) (k : Nat) (hk : L_sec G (k))  : u_Mi l D G yX6_bed cX6_bed 1 (some .int) 0 0 [.ref (gP G k)] M (fun r M' => r = f_bed (iv M k 3) (iv M k 4) ∧ M' = M) := by
  refine u_bodyi (by decide +kernel) (Nat.le_of_ble_eq_true rfl) rfl (fun p e s m args below meth c A H0 Q C ret => ?_)
  refine u_aload_n C dX6_bed_0 rfl ?_
  refine u_getI C gX6_bed_1 rfl (sec_is hk) ?_
  refine u_if_gt (tgt := 11) C dX6_bed_4 (by decide) (fun c_4 => ?_) (fun c_4 => ?_)
  · refine u_aload_n C dX6_bed_11 rfl ?_
    refine u_getI C gX6_bed_12 rfl (sec_is hk) ?_
    refine u_aload_n C dX6_bed_15 rfl ?_
    refine u_getI C gX6_bed_16 rfl (sec_is hk) ?_
    refine u_idiv C dX6_bed_19 (by intro e; (try simp only [u_le, Decidable.not_not] at c_4); simp_all) ?_
    exact ret _ _ _ _ dX6_bed_20  (by (try simp only [u_le, Decidable.not_not] at c_4); refine ⟨?_, ?_⟩ <;> simp [-Int32.not_lt, -Int32.not_le, iv_wi, iv_wj, jv_wi, u_le, f_bed, c_4])
  · refine u_iconst (v := 0) C dX6_bed_7 (by decide) ?_
    refine u_goto (tgt := 20) C dX6_bed_8 (by decide) ?_
    exact ret _ _ _ _ dX6_bed_20  (by (try simp only [u_le, Decidable.not_not] at c_4); refine ⟨?_, ?_⟩ <;> simp [-Int32.not_lt, -Int32.not_le, iv_wi, iv_wj, jv_wi, u_le, f_bed, c_4])
set_option maxHeartbeats 4000000 in
set_option maxRecDepth 100000 in
theorem c_X6_level (l : Launch) (D : va_G) (G : w_G) (M : w_M) (k : Nat) (hk : L_sec G (k))  : u_Mi l D G yX6_level cX6_level 1 (some .int) 1 20 [.ref (gP G k)] M (fun r M' => r = s_lev M k ∧ M' = M) := by
  refine u_bodyi (by decide +kernel) (Nat.le_of_ble_eq_true rfl) rfl (fun p e s m args below meth c A H0 Q C ret => ?_)
  refine u_aload_n C dX6_level_0 rfl ?_
  refine u_getI C gX6_level_1 rfl (sec_is hk) ?_
  refine u_if_gt (tgt := 11) C dX6_level_4 (by decide) (fun c_4 => ?_) (fun c_4 => ?_)
  · refine u_aload_n C dX6_level_11 rfl ?_
    refine u_calliV0 C ev_X6_bed dX6_level_12 ml_RX6_45 (sec_is hk) rfl (by decide) (c_X6_bed l D G _ _ hk ) (by decide) (Nat.le_of_ble_eq_true rfl) (fun r_12 M_12 q_12 => ?_)
    obtain ⟨rfl, e_12⟩ := q_12
    subst M_12
    refine u_aload_n C dX6_level_15 rfl ?_
    refine u_getR (k2 := (k + 20)) C gX6_level_16 rfl (sec_is hk) (sec_f0 hk) ?_
    refine u_getI C gX6_level_19 rfl (lay_is (sec_p0 hk)) ?_
    refine u_aload_n C dX6_level_22 rfl ?_
    refine u_getR (k2 := (k + 30)) C gX6_level_23 rfl (sec_is hk) (sec_f1 hk) ?_
    refine u_getI C gX6_level_26 rfl (lay_is (sec_p1 hk)) ?_
    refine u_iadd C dX6_level_29 ?_
    refine u_aload_n C dX6_level_30 rfl ?_
    refine u_getI C gX6_level_31 rfl (sec_is hk) ?_
    refine u_idiv C dX6_level_34 (by intro e; (try simp only [u_le, Decidable.not_not] at c_4); simp_all) ?_
    refine u_iadd C dX6_level_35 ?_
    exact ret _ _ _ _ dX6_level_36  (by (try simp only [u_le, Decidable.not_not] at c_4); refine ⟨?_, ?_⟩ <;> simp [-Int32.not_lt, -Int32.not_le, iv_wi, iv_wj, jv_wi, u_le, s_lev, f_lev, c_4])
  · refine u_iconst (v := 0) C dX6_level_7 (by decide) ?_
    refine u_goto (tgt := 36) C dX6_level_8 (by decide) ?_
    exact ret _ _ _ _ dX6_level_36  (by (try simp only [u_le, Decidable.not_not] at c_4); refine ⟨?_, ?_⟩ <;> simp [-Int32.not_lt, -Int32.not_le, iv_wi, iv_wj, jv_wi, u_le, s_lev, f_lev, c_4])
set_option maxHeartbeats 4000000 in
set_option maxRecDepth 100000 in
theorem c_X6_giveCloud (l : Launch) (D : va_G) (G : w_G) (M : w_M) (k : Nat) (flow : Int32) (hk : L_sec G (k))  : u_Mi l D G yX6_giveCloud cX6_giveCloud 3 (some .int) 1 22 [.ref (gP G k), .int flow] M (fun r M' => r = f_goes flow (iv M k 5) (iv M (k + 20) 0) ∧ M' = m_gc M k flow) := by
  refine u_bodyi (by decide +kernel) (Nat.le_of_ble_eq_true rfl) rfl (fun p e s m args below meth c A H0 Q C ret => ?_)
  refine u_iload_n C dX6_giveCloud_0 rfl ?_
  refine u_aload_n C dX6_giveCloud_1 rfl ?_
  refine u_getI C gX6_giveCloud_2 rfl (sec_is hk) ?_
  refine u_aload_n C dX6_giveCloud_5 rfl ?_
  refine u_getR (k2 := (k + 20)) C gX6_giveCloud_6 rfl (sec_is hk) (sec_f0 hk) ?_
  refine u_getI C gX6_giveCloud_9 rfl (lay_is (sec_p0 hk)) ?_
  refine u_calliN3 C es_X10_goesWith dX6_giveCloud_12 (by decide +kernel) (c_X10_goesWith l D G _ _ _ _  ) (by decide) (Nat.le_of_ble_eq_true rfl) (fun r_12 M_12 q_12 => ?_)
  obtain ⟨rfl, e_12⟩ := q_12
  subst M_12
  refine u_istore_n C dX6_giveCloud_15 (by decide) ?_
  refine u_aload_n C dX6_giveCloud_16 rfl ?_
  refine u_dup C dX6_giveCloud_17 rfl ?_
  refine u_getI C gX6_giveCloud_18 rfl (sec_is hk) ?_
  refine u_iload_n C dX6_giveCloud_21 rfl ?_
  refine u_isub C dX6_giveCloud_22 ?_
  refine u_putI C pX6_giveCloud_23 rfl (sec_is hk) ?_
  refine u_iload_n C dX6_giveCloud_26 rfl ?_
  exact ret _ _ _ _ dX6_giveCloud_27  (by skip; refine ⟨?_, ?_⟩ <;> simp [-Int32.not_lt, -Int32.not_le, iv_wi, iv_wj, jv_wi, u_le, m_gc, u_le])
set_option maxHeartbeats 4000000 in
set_option maxRecDepth 100000 in
theorem c_X6_refusal (l : Launch) (D : va_G) (G : w_G) (M : w_M) (k : Nat) (a : Int32) (hk : L_sec G (k))  : u_Mi l D G yX6_refusal cX6_refusal 2 (some .int) 0 0 [.ref (gP G k), .int a] M (fun r M' => r = f_ref a (iv M k 7) (iv M k 4) ∧ M' = M) := by
  refine u_bodyi (by decide +kernel) (Nat.le_of_ble_eq_true rfl) rfl (fun p e s m args below meth c A H0 Q C ret => ?_)
  refine u_aload_n C dX6_refusal_0 rfl ?_
  refine u_getI C gX6_refusal_1 rfl (sec_is hk) ?_
  refine u_if_ne (tgt := 9) C dX6_refusal_4 (by decide) (fun c_4 => ?_) (fun c_4 => ?_)
  · refine u_iload_n C dX6_refusal_9 rfl ?_
    refine u_aload_n C dX6_refusal_10 rfl ?_
    refine u_getI C gX6_refusal_11 rfl (sec_is hk) ?_
    refine u_icmp_le (tgt := 19) C dX6_refusal_14 (by decide) (fun c_14 => ?_) (fun c_14 => ?_)
    · refine u_aload_n C dX6_refusal_19 rfl ?_
      refine u_getI C gX6_refusal_20 rfl (sec_is hk) ?_
      refine u_iload_n C dX6_refusal_23 rfl ?_
      refine u_icmp_ge (tgt := 31) C dX6_refusal_24 (by decide) (fun c_24 => ?_) (fun c_24 => ?_)
      · refine u_iconst (v := 0) C dX6_refusal_31 (by decide) ?_
        exact ret _ _ _ _ dX6_refusal_32  (by (try simp only [u_le, Decidable.not_not] at c_4 c_14 c_24); refine ⟨?_, ?_⟩ <;> simp [-Int32.not_lt, -Int32.not_le, iv_wi, iv_wj, jv_wi, u_le, f_ref, c_4, c_14, c_24])
      · refine u_iconst (v := 3) C dX6_refusal_27 (by decide) ?_
        refine u_goto (tgt := 32) C dX6_refusal_28 (by decide) ?_
        exact ret _ _ _ _ dX6_refusal_32  (by (try simp only [u_le, Decidable.not_not] at c_4 c_14 c_24); refine ⟨?_, ?_⟩ <;> simp [-Int32.not_lt, -Int32.not_le, iv_wi, iv_wj, jv_wi, u_le, f_ref, c_4, c_14, c_24])
    · refine u_iconst (v := 2) C dX6_refusal_17 (by decide) ?_
      exact ret _ _ _ _ dX6_refusal_18  (by (try simp only [u_le, Decidable.not_not] at c_4 c_14); refine ⟨?_, ?_⟩ <;> simp [-Int32.not_lt, -Int32.not_le, iv_wi, iv_wj, jv_wi, u_le, f_ref, c_4, c_14])
  · refine u_iconst (v := 1) C dX6_refusal_7 (by decide) ?_
    exact ret _ _ _ _ dX6_refusal_8  (by (try simp only [u_le, Decidable.not_not] at c_4); refine ⟨?_, ?_⟩ <;> simp [-Int32.not_lt, -Int32.not_le, iv_wi, iv_wj, jv_wi, u_le, f_ref, c_4])
set_option maxHeartbeats 4000000 in
set_option maxRecDepth 100000 in
theorem c_X6_mix (l : Launch) (D : va_G) (G : w_G) (M : w_M) (k : Nat) (hk : L_sec G (k))  : u_Mv l D G yX6_mix cX6_mix 3 none 2 43 [.ref (gP G k)] M (fun M' => M' = m_mix M k) := by
  refine u_bodyv (by decide +kernel) (Nat.le_of_ble_eq_true rfl) rfl (fun p e s m args below meth c A H0 Q C ret => ?_)
  refine u_aload_n C dX6_mix_0 rfl ?_
  refine u_getI C gX6_mix_1 rfl (sec_is hk) ?_
  refine u_bipush (v := 20) C dX6_mix_4 (by decide) ?_
  refine u_icmp_ge (tgt := 10) C dX6_mix_6 (by decide) (fun c_6 => ?_) (fun c_6 => ?_)
  · refine u_aload_n C dX6_mix_10 rfl ?_
    refine u_getR (k2 := (k + 20)) C gX6_mix_11 rfl (sec_is hk) (sec_f0 hk) ?_
    refine u_getI C gX6_mix_14 rfl (lay_is (sec_p0 hk)) ?_
    refine u_aload_n C dX6_mix_17 rfl ?_
    refine u_getR (k2 := (k + 30)) C gX6_mix_18 rfl (sec_is hk) (sec_f1 hk) ?_
    refine u_getI C gX6_mix_21 rfl (lay_is (sec_p1 hk)) ?_
    refine u_mmin C dX6_mix_24 ml_RX6_56 wm_min (by decide) (Nat.le_of_ble_eq_true rfl) ?_
    refine u_iconst (v := 4) C dX6_mix_27 (by decide) ?_
    refine u_idiv C dX6_mix_28 (by decide) ?_
    refine u_istore_n C dX6_mix_29 (by decide) ?_
    refine u_aload_n C dX6_mix_30 rfl ?_
    refine u_getR (k2 := (k + 30)) C gX6_mix_31 rfl (sec_is hk) (sec_f1 hk) ?_
    refine u_iload_n C dX6_mix_34 rfl ?_
    refine u_calliV1 C ev_X2_saltWith dX6_mix_35 ml_RX6_62 (lay_is (sec_p1 hk)) rfl (by decide) (c_X2_saltWith l D G _ _ _ (sec_p1 hk) ) (by decide) (Nat.le_of_ble_eq_true rfl) (fun r_35 M_35 q_35 => ?_)
    obtain ⟨rfl, e_35⟩ := q_35
    subst M_35
    refine u_aload_n C dX6_mix_38 rfl ?_
    refine u_getR (k2 := (k + 20)) C gX6_mix_39 rfl (sec_is hk) (sec_f0 hk) ?_
    refine u_iload_n C dX6_mix_42 rfl ?_
    refine u_calliV1 C ev_X2_saltWith dX6_mix_43 ml_RX6_62 (lay_is (sec_p0 hk)) rfl (by decide) (c_X2_saltWith l D G _ _ _ (sec_p0 hk) ) (by decide) (Nat.le_of_ble_eq_true rfl) (fun r_43 M_43 q_43 => ?_)
    obtain ⟨rfl, e_43⟩ := q_43
    subst M_43
    refine u_isub C dX6_mix_46 ?_
    refine u_istore_n C dX6_mix_47 (by decide) ?_
    refine u_iload_n C dX6_mix_48 rfl ?_
    refine u_if_le (tgt := 78) C dX6_mix_49 (by decide) (fun c_49 => ?_) (fun c_49 => ?_)
    · exact ret _ _  _ dX6_mix_78  (by (try simp only [u_le, Decidable.not_not] at c_6 c_49); simp [-Int32.not_lt, -Int32.not_le, iv_wi, iv_wj, jv_wi, u_le, m_mix, f_min, c_6, c_49])
    · refine u_aload_n C dX6_mix_52 rfl ?_
      refine u_getR (k2 := (k + 30)) C gX6_mix_53 rfl (sec_is hk) (sec_f1 hk) ?_
      refine u_dup C dX6_mix_56 rfl ?_
      refine u_getI C gX6_mix_57 rfl (lay_is (sec_p1 hk)) ?_
      refine u_iload_n C dX6_mix_60 rfl ?_
      refine u_isub C dX6_mix_61 ?_
      refine u_putI C pX6_mix_62 rfl (lay_is (sec_p1 hk)) ?_
      refine u_aload_n C dX6_mix_65 rfl ?_
      refine u_getR (k2 := (k + 20)) C gX6_mix_66 rfl (sec_is hk) (sec_f0 hk) ?_
      refine u_dup C dX6_mix_69 rfl ?_
      refine u_getI C gX6_mix_70 rfl (lay_is (sec_p0 hk)) ?_
      refine u_iload_n C dX6_mix_73 rfl ?_
      refine u_iadd C dX6_mix_74 ?_
      refine u_putI C pX6_mix_75 rfl (lay_is (sec_p0 hk)) ?_
      exact ret _ _  _ dX6_mix_78  (by (try simp only [u_le, Decidable.not_not] at c_6 c_49); simp [-Int32.not_lt, -Int32.not_le, iv_wi, iv_wj, jv_wi, u_le, m_mix, f_min, c_6, c_49])
  · exact ret _ _  _ dX6_mix_9  (by (try simp only [u_le, Decidable.not_not] at c_6); simp [-Int32.not_lt, -Int32.not_le, iv_wi, iv_wj, jv_wi, u_le, m_mix, f_min, c_6])
set_option maxHeartbeats 4000000 in
set_option maxRecDepth 100000 in
theorem c_X6_settleOrLift (l : Launch) (D : va_G) (G : w_G) (M : w_M) (k : Nat) (hk : L_sec G (k))  : u_Mv l D G yX6_settleOrLift cX6_settleOrLift 2 none 1 21 [.ref (gP G k)] M (fun M' => M' = m_set M k) := by
  refine u_bodyv (by decide +kernel) (Nat.le_of_ble_eq_true rfl) rfl (fun p e s m args below meth c A H0 Q C ret => ?_)
  refine u_aload_n C dX6_settleOrLift_0 rfl ?_
  refine u_getI C gX6_settleOrLift_1 rfl (sec_is hk) ?_
  refine u_bipush (v := 10) C dX6_settleOrLift_4 (by decide) ?_
  refine u_icmp_ge (tgt := 44) C dX6_settleOrLift_6 (by decide) (fun c_6 => ?_) (fun c_6 => ?_)
  · refine u_aload_n C dX6_settleOrLift_44 rfl ?_
    refine u_getI C gX6_settleOrLift_45 rfl (sec_is hk) ?_
    refine u_bipush (v := 40) C dX6_settleOrLift_48 (by decide) ?_
    refine u_icmp_le (tgt := 88) C dX6_settleOrLift_50 (by decide) (fun c_50 => ?_) (fun c_50 => ?_)
    · exact ret _ _  _ dX6_settleOrLift_88  (by (try simp only [u_le, Decidable.not_not] at c_6 c_50); simp [-Int32.not_lt, -Int32.not_le, iv_wi, iv_wj, jv_wi, u_le, m_set, f_min, c_6, c_50])
    · refine u_aload_n C dX6_settleOrLift_53 rfl ?_
      refine u_getI C gX6_settleOrLift_54 rfl (sec_is hk) ?_
      refine u_bipush (v := 8) C dX6_settleOrLift_57 (by decide) ?_
      refine u_idiv C dX6_settleOrLift_59 (by decide) ?_
      refine u_aload_n C dX6_settleOrLift_60 rfl ?_
      refine u_getI C gX6_settleOrLift_61 rfl (sec_is hk) ?_
      refine u_mmin C dX6_settleOrLift_64 ml_RX6_56 wm_min (by decide) (Nat.le_of_ble_eq_true rfl) ?_
      refine u_istore_n C dX6_settleOrLift_67 (by decide) ?_
      refine u_aload_n C dX6_settleOrLift_68 rfl ?_
      refine u_dup C dX6_settleOrLift_69 rfl ?_
      refine u_getI C gX6_settleOrLift_70 rfl (sec_is hk) ?_
      refine u_iload_n C dX6_settleOrLift_73 rfl ?_
      refine u_isub C dX6_settleOrLift_74 ?_
      refine u_putI C pX6_settleOrLift_75 rfl (sec_is hk) ?_
      refine u_aload_n C dX6_settleOrLift_78 rfl ?_
      refine u_dup C dX6_settleOrLift_79 rfl ?_
      refine u_getI C gX6_settleOrLift_80 rfl (sec_is hk) ?_
      refine u_iload_n C dX6_settleOrLift_83 rfl ?_
      refine u_iadd C dX6_settleOrLift_84 ?_
      refine u_putI C pX6_settleOrLift_85 rfl (sec_is hk) ?_
      exact ret _ _  _ dX6_settleOrLift_88  (by (try simp only [u_le, Decidable.not_not] at c_6 c_50); simp [-Int32.not_lt, -Int32.not_le, iv_wi, iv_wj, jv_wi, u_le, m_set, f_min, c_6, c_50])
  · refine u_aload_n C dX6_settleOrLift_9 rfl ?_
    refine u_getI C gX6_settleOrLift_10 rfl (sec_is hk) ?_
    refine u_aload_n C dX6_settleOrLift_13 rfl ?_
    refine u_getI C gX6_settleOrLift_14 rfl (sec_is hk) ?_
    refine u_iconst (v := 2) C dX6_settleOrLift_17 (by decide) ?_
    refine u_idiv C dX6_settleOrLift_18 (by decide) ?_
    refine u_isub C dX6_settleOrLift_19 ?_
    refine u_istore_n C dX6_settleOrLift_20 (by decide) ?_
    refine u_aload_n C dX6_settleOrLift_21 rfl ?_
    refine u_dup C dX6_settleOrLift_22 rfl ?_
    refine u_getI C gX6_settleOrLift_23 rfl (sec_is hk) ?_
    refine u_iload_n C dX6_settleOrLift_26 rfl ?_
    refine u_isub C dX6_settleOrLift_27 ?_
    refine u_putI C pX6_settleOrLift_28 rfl (sec_is hk) ?_
    refine u_aload_n C dX6_settleOrLift_31 rfl ?_
    refine u_dup C dX6_settleOrLift_32 rfl ?_
    refine u_getI C gX6_settleOrLift_33 rfl (sec_is hk) ?_
    refine u_iload_n C dX6_settleOrLift_36 rfl ?_
    refine u_iadd C dX6_settleOrLift_37 ?_
    refine u_putI C pX6_settleOrLift_38 rfl (sec_is hk) ?_
    refine u_goto (tgt := 88) C dX6_settleOrLift_41 (by decide) ?_
    exact ret _ _  _ dX6_settleOrLift_88  (by (try simp only [u_le, Decidable.not_not] at c_6); simp [-Int32.not_lt, -Int32.not_le, iv_wi, iv_wj, jv_wi, u_le, m_set, f_min, c_6])
set_option maxHeartbeats 4000000 in
set_option maxRecDepth 100000 in
theorem c_X9_height (l : Launch) (D : va_G) (G : w_G) (M : w_M) (k : Nat) (h : Int32) (hk : L_trn G (k))  : u_Mi l D G yX9_height cX9_height 3 (some .int) 0 0 [.ref (gP G k), .int h] M (fun r M' => r = f_hgt (iv M k 0) (iv M k 1) (iv M k 2) (iv M k 3) h ∧ M' = M) := by
  refine u_bodyi (by decide +kernel) (Nat.le_of_ble_eq_true rfl) rfl (fun p e s m args below meth c A H0 Q C ret => ?_)
  refine u_aload_n C dX9_height_0 rfl ?_
  refine u_getI C gX9_height_1 rfl (trn_is hk) ?_
  refine u_if_le (tgt := 18) C dX9_height_4 (by decide) (fun c_4 => ?_) (fun c_4 => ?_)
  · refine u_iconst (v := 0) C dX9_height_18 (by decide) ?_
    exact ret _ _ _ _ dX9_height_19  (by (try simp only [u_le, Decidable.not_not] at c_4); refine ⟨?_, ?_⟩ <;> simp [-Int32.not_lt, -Int32.not_le, iv_wi, iv_wj, jv_wi, u_le, f_hgt, c_4])
  · refine u_aload_n C dX9_height_7 rfl ?_
    refine u_getI C gX9_height_8 rfl (trn_is hk) ?_
    refine u_aload_n C dX9_height_11 rfl ?_
    refine u_getI C gX9_height_12 rfl (trn_is hk) ?_
    refine u_icmp_gt (tgt := 20) C dX9_height_15 (by decide) (fun c_15 => ?_) (fun c_15 => ?_)
    · refine u_iload_n C dX9_height_20 rfl ?_
      refine u_aload_n C dX9_height_21 rfl ?_
      refine u_getI C gX9_height_22 rfl (trn_is hk) ?_
      refine u_iadd C dX9_height_25 ?_
      refine u_aload_n C dX9_height_26 rfl ?_
      refine u_getI C gX9_height_27 rfl (trn_is hk) ?_
      refine u_irem C dX9_height_30 (by (try simp only [u_le, Decidable.not_not] at c_4 c_15); exact u_nz1 c_4 c_15) ?_
      refine u_istore_n C dX9_height_31 (by decide) ?_
      refine u_iload_n C dX9_height_32 rfl ?_
      refine u_aload_n C dX9_height_33 rfl ?_
      refine u_getI C gX9_height_34 rfl (trn_is hk) ?_
      refine u_icmp_ge (tgt := 54) C dX9_height_37 (by decide) (fun c_37 => ?_) (fun c_37 => ?_)
      · refine u_aload_n C dX9_height_54 rfl ?_
        refine u_getI C gX9_height_55 rfl (trn_is hk) ?_
        refine u_aload_n C dX9_height_58 rfl ?_
        refine u_getI C gX9_height_59 rfl (trn_is hk) ?_
        refine u_iload_n C dX9_height_62 rfl ?_
        refine u_isub C dX9_height_63 ?_
        refine u_imul C dX9_height_64 ?_
        refine u_aload_n C dX9_height_65 rfl ?_
        refine u_getI C gX9_height_66 rfl (trn_is hk) ?_
        refine u_aload_n C dX9_height_69 rfl ?_
        refine u_getI C gX9_height_70 rfl (trn_is hk) ?_
        refine u_isub C dX9_height_73 ?_
        refine u_idiv C dX9_height_74 (by (try simp only [u_le, Decidable.not_not] at c_4 c_15 c_37); exact u_nz2 c_15) ?_
        exact ret _ _ _ _ dX9_height_75  (by (try simp only [u_le, Decidable.not_not] at c_4 c_15 c_37); refine ⟨?_, ?_⟩ <;> simp [-Int32.not_lt, -Int32.not_le, iv_wi, iv_wj, jv_wi, u_le, f_hgt, c_4, c_15, c_37])
      · refine u_aload_n C dX9_height_40 rfl ?_
        refine u_getI C gX9_height_41 rfl (trn_is hk) ?_
        refine u_iload_n C dX9_height_44 rfl ?_
        refine u_imul C dX9_height_45 ?_
        refine u_aload_n C dX9_height_46 rfl ?_
        refine u_getI C gX9_height_47 rfl (trn_is hk) ?_
        refine u_idiv C dX9_height_50 (by intro e; (try simp only [u_le, Decidable.not_not] at c_4 c_15 c_37); simp_all) ?_
        refine u_goto (tgt := 75) C dX9_height_51 (by decide) ?_
        exact ret _ _ _ _ dX9_height_75  (by (try simp only [u_le, Decidable.not_not] at c_4 c_15 c_37); refine ⟨?_, ?_⟩ <;> simp [-Int32.not_lt, -Int32.not_le, iv_wi, iv_wj, jv_wi, u_le, f_hgt, c_4, c_15, c_37])
    · refine u_iconst (v := 0) C dX9_height_18 (by decide) ?_
      exact ret _ _ _ _ dX9_height_19  (by (try simp only [u_le, Decidable.not_not] at c_4 c_15); refine ⟨?_, ?_⟩ <;> simp [-Int32.not_lt, -Int32.not_le, iv_wi, iv_wj, jv_wi, u_le, f_hgt, c_4, c_15])
