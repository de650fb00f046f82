theorem u_shl0 {x : Int32} (h : ¬ x = 0) : ¬ x.toInt64 = 0 := u_l0 h
def g_lev (M : w_M) (Y s : Nat) : Int32 := iv M (Y + 18) s / iv M (Y + 17) s + (iv M (Y + 22) s + iv M (Y + 22) (8 + s)) / iv M (Y + 17) s
def g_sal (M : w_M) (Y a s : Nat) : Int32 := f_sl (iv M (Y + 22) (8 * a + s)) (iv M (Y + 23) (8 * a + s))
def g_sg (M : w_M) (Y a s : Nat) (f : Int32) : Int32 := f_shr (iv M (Y + 23) (8 * a + s)) f (iv M (Y + 22) (8 * a + s))
def g_cg (M : w_M) (Y a s : Nat) (f : Int32) : Int32 := if nI a = 0 then f_shr (iv M (Y + 19) s) f (iv M (Y + 22) (8 * a + s)) else 0
def g_lv (M : w_M) (Y a s : Nat) (f : Int32) : w_M := wi (wi (wi (wi (wi M Y 41 (g_sg M Y a s f)) Y 42 (g_cg M Y a s f)) (Y + 22) (8 * a + s) (iv M (Y + 22) (8 * a + s) - f)) (Y + 23) (8 * a + s) (iv M (Y + 23) (8 * a + s) - g_sg M Y a s f)) (Y + 19) s (iv M (Y + 19) s - g_cg M Y a s f)
def g_fl1 (M : w_M) (Y a t : Nat) (f : Int32) : w_M := wi M (Y + 22) (8 * a + t) (iv M (Y + 22) (8 * a + t) + f)
def g_fl2 (M : w_M) (Y a t : Nat) : w_M := wi M (Y + 23) (8 * a + t) (iv M (Y + 23) (8 * a + t) + iv M Y 41)
def g_fl3 (M : w_M) (Y t : Nat) : w_M := wi M (Y + 19) t (iv M (Y + 19) t + iv M Y 42)
def g_fl (M : w_M) (Y a s t : Nat) (f : Int32) : w_M := g_fl3 (g_fl2 (g_fl1 (g_lv M Y a s f) Y a t f) Y a t) Y t
def gsadd (M : w_M) (Y i : Nat) (x : Int64) : w_M := wj M (Y + 40) i (jv M (Y + 40) i + x)
def f_hg (p r g f h : Int32) : Int32 := if (h + f) - (h + f) / p * p < r then g * ((h + f) - (h + f) / p * p) / r else g * (p - ((h + f) - (h + f) / p * p)) / (p - r)
def g_t (M : w_M) (Y : Nat) (h : Int32) : Nat → Int32
  | 0 => iv M Y 2
  | i + 1 => g_t M Y h i + f_hg (iv M (Y + 4) (4 * i)) (iv M (Y + 4) (4 * i + 1)) (iv M (Y + 4) (4 * i + 2)) (iv M (Y + 4) (4 * i + 3)) h
def g_s (M : w_M) (Y : Nat) (h : Int32) (n : Nat) : Nat → Int32
  | 0 => g_t M Y h n
  | j + 1 => g_s M Y h n j + (if fW h (iv M (Y + 6) (3 * j)) (iv M (Y + 6) (3 * j + 1)) = 0 then 0 else iv M (Y + 6) (3 * j + 2))
def g_for (M : w_M) (Y : Nat) (h : Int32) : Int32 := g_s M Y h (cN (iv M Y 3)) (cN (iv M Y 5))
def g_sea (M : w_M) (Y t : Nat) : Int32 := if t < cN (iv M Y 1) then iv M (Y + 7) t else g_for M Y (nI t)
/-- the turns can be reckoned with -/
def okT (M : w_M) (Y : Nat) : Prop := ∀ i, i < cN (iv M Y 3) → ¬ iv M (Y + 4) (4 * i) = 0 ∧ ¬ iv M (Y + 4) (4 * i + 1) = 0 ∧ ¬ iv M (Y + 4) (4 * i) - iv M (Y + 4) (4 * i + 1) = 0
def okS (M : w_M) (Y : Nat) : Prop := cB (iv M Y 1) 1000 ∧ cB (iv M Y 3) 6 ∧ cB (iv M Y 5) 20 ∧ okT M Y
def g_a (M : w_M) (a i : Nat) (x : Int32) : w_M := wi M a i (iv M a i + x)
def g_b (M : w_M) (a i : Nat) (x : Int32) : w_M := wi M a i (iv M a i - x)
def g_mo1 (M : w_M) (Y : Nat) (c : Int32) : w_M := gsadd (gsadd (g_a (g_a M (Y + 22) 8 c) (Y + 23) 8 (30 * c)) Y 0 c.toInt64) Y 4 (30 * c).toInt64
def g_mo2a (M : w_M) (Y : Nat) (f : Int32) : w_M := gsadd (g_lv M Y 0 0 f) Y 1 f.toInt64
def g_mo2b (M : w_M) (Y : Nat) : w_M := gsadd M Y 5 (iv M Y 41).toInt64
def g_mo2c (M : w_M) (Y : Nat) : w_M := gsadd M Y 8 (iv M Y 42).toInt64
def g_mo2 (M : w_M) (Y : Nat) (f : Int32) : w_M := g_mo2c (g_mo2b (g_mo2a M Y f) Y) Y
def g_mo (M : w_M) (Y : Nat) (h : Int32) : w_M := if 0 < h - g_lev M Y 0 then g_mo1 M Y ((h - g_lev M Y 0) * iv M (Y + 17) 0 / 2) else g_mo2 M Y (f_lt (-(h - g_lev M Y 0) * iv M (Y + 17) 0 / 2) (iv M (Y + 22) 0))
def g_nd (M : w_M) (Y k : Nat) : Int32 := g_lev M Y k - g_lev M Y (k + 1)
def g_na (M : w_M) (Y k : Nat) : Int32 := f_lt (iv M (Y + 17) k) (iv M (Y + 17) (k + 1))
def g_nr (M : w_M) (Y k : Nat) (f : Int32) : w_M := g_a (g_a M (Y + 20) k f) (Y + 20) (k + 1) f
def g_n1 (M : w_M) (Y k : Nat) : w_M := if 0 < g_nd M Y k then g_nr (g_fl M Y 1 k (k + 1) (f_lt (g_nd M Y k * g_na M Y k / 4) (iv M (Y + 22) (8 + k)))) Y k (f_lt (g_nd M Y k * g_na M Y k / 4) (iv M (Y + 22) (8 + k)))
  else g_nr (g_fl M Y 0 (k + 1) k (f_lt (-g_nd M Y k * g_na M Y k / 4) (iv M (Y + 22) (k + 1)))) Y k (f_lt (-g_nd M Y k * g_na M Y k / 4) (iv M (Y + 22) (k + 1)))
def g_n2 (M : w_M) (Y k : Nat) : w_M := if g_sal M Y 1 (k + 1) < g_sal M Y 1 k then g_fl (g_fl M Y 1 k (k + 1) (f_lt (iv M (Y + 22) (8 + k)) (iv M (Y + 22) (k + 1)) / 8)) Y 0 (k + 1) k (f_lt (iv M (Y + 22) (8 + k)) (iv M (Y + 22) (k + 1)) / 8) else M
def g_xl (M : w_M) (Y s : Nat) : Int32 := f_lt (iv M (Y + 22) s) (iv M (Y + 22) (8 + s))
def g_xm (M : w_M) (Y s : Nat) : Int32 := f_shr (iv M (Y + 23) (8 + s)) (g_xl M Y s / 4) (iv M (Y + 22) (8 + s)) - f_shr (iv M (Y + 23) s) (g_xl M Y s / 4) (iv M (Y + 22) s)
def g_mx (M : w_M) (Y s : Nat) : w_M := if iv M (Y + 20) s < 20 then M else if 0 < g_xm M Y s then wi (wi M (Y + 23) (8 + s) (iv M (Y + 23) (8 + s) - g_xm M Y s)) (Y + 23) s (iv M (Y + 23) s + g_xm M Y s) else M
def g_s1 (M : w_M) (Y s : Nat) : w_M := if iv M (Y + 20) s < 10 then wi (wi M (Y + 19) s (iv M (Y + 19) s - (iv M (Y + 19) s + 1) / 2)) (Y + 18) s (iv M (Y + 18) s + (iv M (Y + 19) s + 1) / 2) else M
def g_s2 (M : w_M) (Y s : Nat) : w_M := if 40 < iv M (Y + 20) s then wi (wi M (Y + 18) s (iv M (Y + 18) s - f_lt (iv M (Y + 20) s / 8) (iv M (Y + 18) s))) (Y + 19) s (iv M (Y + 19) s + f_lt (iv M (Y + 20) s / 8) (iv M (Y + 18) s)) else M
def g_ds (M : w_M) (Y k s : Nat) : Int32 := if iv M (Y + 22) s = 0 then 1 else if iv M (Y + 28) k < g_sal M Y 0 s then 1 else 0
def g_d0 (x : Int32) : Int32 := if x = 0 then 0 else 1
def g_d1 (M : w_M) (Y k : Nat) (x : Int32) : w_M := g_a (wi M (Y + 35) k x) (Y + 34) k (g_d0 x)
def g_df (M : w_M) (Y k s : Nat) : Int32 := f_lt (f_lt (iv M (Y + 27) k) (iv M (Y + 22) s)) (iv M (Y + 29) k - iv M (Y + 31) k)
def g_d2a (M : w_M) (Y k s : Nat) (f : Int32) : w_M := gsadd (g_a (g_a (wi (g_lv M Y 0 s f) (Y + 19) s (iv M (Y + 19) s)) (Y + 31) k f) (Y + 32) k f) Y 3 f.toInt64
def g_d2b (M : w_M) (Y : Nat) : w_M := gsadd M Y 6 (iv M Y 41).toInt64
def g_d2 (M : w_M) (Y k s : Nat) (f : Int32) : w_M := g_d2b (g_d2a M Y k s f) Y
def g_d4 (M : w_M) (Y k : Nat) (x : Int32) : w_M := g_a (g_b M (Y + 31) k x) (Y + 33) k (iv (g_b M (Y + 31) k x) (Y + 30) k - x)
def g_d3 (M : w_M) (Y k : Nat) : w_M := g_d4 M Y k (f_lt (iv M (Y + 30) k) (iv M (Y + 31) k))
def g_dr (M : w_M) (Y k s : Nat) : w_M := g_d3 (if g_ds M Y k s = 0 then g_d2 (g_d1 M Y k (g_ds M Y k s)) Y k s (g_df (g_d1 M Y k (g_ds M Y k s)) Y k s) else g_d1 M Y k (g_ds M Y k s)) Y k
set_option maxHeartbeats 1000000 in
set_option maxRecDepth 100000 in
theorem c_X11_isIn (l : Launch) (D : va_G) (G : w_G) (M : w_M) (v : Int32) (least : Int32) (most : Int32)   : u_Mi l D G yX11_isIn cX11_isIn 3 (some .boolean) 0 0 [.int v, .int least, .int most] M (fun r M' => r = fW v least most ∧ M' = M) := by
  refine u_bodyz (by decide +kernel) (Nat.le_of_ble_eq_true rfl) rfl (fun p e s m args below meth c A H0 Q C ret => ?_)
  refine u_iload_n C dX11_isIn_0 rfl ?_
  refine u_iload_n C dX11_isIn_1 rfl ?_
  refine u_icmp_lt (tgt := 14) C dX11_isIn_2 (by decide) (fun c_2 => ?_) (fun c_2 => ?_)
  · refine u_iconst (v := 0) C dX11_isIn_14 (by decide) ?_
    exact ret _ _ _ _ dX11_isIn_15 (by simp) (by (try simp only [u_le, Decidable.not_not] at c_2); refine ⟨?_, ?_⟩ <;> simp [-Int32.not_lt, -Int32.not_le, iv_wi, iv_wj, jv_wi, jv_wj, u_le, fW, c_2])
  · refine u_iload_n C dX11_isIn_5 rfl ?_
    refine u_iload_n C dX11_isIn_6 rfl ?_
    refine u_icmp_gt (tgt := 14) C dX11_isIn_7 (by decide) (fun c_7 => ?_) (fun c_7 => ?_)
    · refine u_iconst (v := 0) C dX11_isIn_14 (by decide) ?_
      exact ret _ _ _ _ dX11_isIn_15 (by simp) (by (try simp only [u_le, Decidable.not_not] at c_2 c_7); refine ⟨?_, ?_⟩ <;> simp [-Int32.not_lt, -Int32.not_le, iv_wi, iv_wj, jv_wi, jv_wj, u_le, fW, c_2, c_7])
    · refine u_iconst (v := 1) C dX11_isIn_10 (by decide) ?_
      refine u_goto (tgt := 15) C dX11_isIn_11 (by decide) ?_
      exact ret _ _ _ _ dX11_isIn_15 (by simp) (by (try simp only [u_le, Decidable.not_not] at c_2 c_7); refine ⟨?_, ?_⟩ <;> simp [-Int32.not_lt, -Int32.not_le, iv_wi, iv_wj, jv_wi, jv_wj, u_le, fW, c_2, c_7])
set_option maxHeartbeats 1000000 in
set_option maxRecDepth 100000 in
theorem c_X11_holds (l : Launch) (D : va_G) (G : w_G) (M : w_M) (Y : Nat) (x : Int32) (hY : L_mdl G (Y))  : u_Mi l D G yX11_holds cX11_holds 2 (some .boolean) 0 0 [.ref (gP G Y), .int x] M (fun r M' => r = (if x = 0 then 1 else 0) ∧ M' = wi M Y 0 x) := by
  refine u_bodyz (by decide +kernel) (Nat.le_of_ble_eq_true rfl) rfl (fun p e s m args below meth c A H0 Q C ret => ?_)
  refine u_aload_n C dX11_holds_0 rfl ?_
  refine u_iload_n C dX11_holds_1 rfl ?_
  refine u_putI C pX11_holds_2 rfl (mdl_is hY) ?_
  refine u_iload_n C dX11_holds_5 rfl ?_
  refine u_if_ne (tgt := 13) C dX11_holds_6 (by decide) (fun c_6 => ?_) (fun c_6 => ?_)
  · refine u_iconst (v := 0) C dX11_holds_13 (by decide) ?_
    exact ret _ _ _ _ dX11_holds_14 (by simp) (by simp [c_6])
  · refine u_iconst (v := 1) C dX11_holds_9 (by decide) ?_
    refine u_goto (tgt := 14) C dX11_holds_10 (by decide) ?_
    exact ret _ _ _ _ dX11_holds_14 (by simp) (by simp [c_6])
set_option maxHeartbeats 1000000 in
set_option maxRecDepth 100000 in
theorem c_X11_isSection (l : Launch) (D : va_G) (G : w_G) (M : w_M) (Y : Nat) (v : Int32) (hY : L_mdl G (Y))  : u_Mi l D G yX11_isSection cX11_isSection 2 (some .boolean) 1 22 [.ref (gP G Y), .int v] M (fun r M' => r = fW v 0 (iv M Y 16 - 1) ∧ M' = M) := by
  refine u_bodyz (by decide +kernel) (Nat.le_of_ble_eq_true rfl) rfl (fun p e s m args below meth c A H0 Q C ret => ?_)
  refine u_iload_n C dX11_isSection_0 rfl ?_
  refine u_iconst (v := 0) C dX11_isSection_1 (by decide) ?_
  refine u_aload_n C dX11_isSection_2 rfl ?_
  refine u_getI C gX11_isSection_3 rfl (mdl_is hY) ?_
  refine u_iconst (v := 1) C dX11_isSection_6 (by decide) ?_
  refine u_isub C dX11_isSection_7 ?_
  refine u_calliS3 C es_X11_isIn dX11_isSection_8 ml_RX11_109 (c_X11_isIn l D G _ _ _ _  ) (by decide) (Nat.le_of_ble_eq_true rfl) (fun r_8 M_8 q_8 => ?_)
  obtain ⟨rfl, e_8⟩ := q_8
  subst M_8
  exact ret _ _ _ _ dX11_isSection_11 (by unfold fW; split <;> simp) (⟨rfl, rfl⟩)
set_option maxHeartbeats 1000000 in
set_option maxRecDepth 100000 in
theorem c_X11_share (l : Launch) (D : va_G) (G : w_G) (M : w_M) (a : Int32) (f : Int32) (o : Int32)   : u_Mi l D G yX11_share cX11_share 3 (some .int) 0 0 [.int a, .int f, .int o] M (fun r M' => r = f_shr a f o ∧ M' = M) := by
  refine u_bodyi (by decide +kernel) (Nat.le_of_ble_eq_true rfl) rfl (fun p e s m args below meth c A H0 Q C ret => ?_)
  refine u_iload_n C dX11_share_0 rfl ?_
  refine u_if_ne (tgt := 8) C dX11_share_1 (by decide) (fun c_1 => ?_) (fun c_1 => ?_)
  · refine u_iload_n C dX11_share_8 rfl ?_
    refine u_i2l C dX11_share_9 ?_
    refine u_iload_n C dX11_share_10 rfl ?_
    refine u_i2l C dX11_share_11 ?_
    refine u_lmul C dX11_share_12 ?_
    refine u_iload_n C dX11_share_13 rfl ?_
    refine u_i2l C dX11_share_14 ?_
    refine u_ldiv C dX11_share_15 (u_l0 (by assumption)) ?_
    refine u_l2i C dX11_share_16 ?_
    exact ret _ _ _ _ dX11_share_17  (by (try simp only [u_le, Decidable.not_not] at c_1); refine ⟨?_, ?_⟩ <;> simp [-Int32.not_lt, -Int32.not_le, iv_wi, iv_wj, jv_wi, jv_wj, u_le, f_shr, c_1])
  · refine u_iconst (v := 0) C dX11_share_4 (by decide) ?_
    refine u_goto (tgt := 17) C dX11_share_5 (by decide) ?_
    exact ret _ _ _ _ dX11_share_17  (by (try simp only [u_le, Decidable.not_not] at c_1); refine ⟨?_, ?_⟩ <;> simp [-Int32.not_lt, -Int32.not_le, iv_wi, iv_wj, jv_wi, jv_wj, u_le, f_shr, c_1])
set_option maxHeartbeats 1000000 in
set_option maxRecDepth 100000 in
theorem c_X11_salinity (l : Launch) (D : va_G) (G : w_G) (M : w_M) (Y : Nat) (a : Nat) (s9 : Nat) (hY : L_mdl G (Y)) (ha : a < 2) (hs : s9 < 8) : u_Mi l D G yX11_salinity cX11_salinity 4 (some .int) 0 0 [.ref (gP G Y), .int (nI a), .int (nI s9)] M (fun r M' => r = g_sal M Y a s9 ∧ M' = M) := by
  refine u_bodyi (by decide +kernel) (Nat.le_of_ble_eq_true rfl) rfl (fun p e s m args below meth c A H0 Q C ret => ?_)
  refine u_aload_n C dX11_salinity_0 rfl ?_
  refine u_getR (k2 := (Y + 22)) C gX11_salinity_1 rfl (mdl_is hY) (mdl_f22 hY) ?_
  refine u_bipush (v := (nI 8)) C dX11_salinity_4 (by decide) ?_
  refine u_iload_n C dX11_salinity_6 rfl ?_
  refine u_imul C dX11_salinity_7 ?_
  rw [pk_mul (8) (a)]
  refine u_iload_n C dX11_salinity_8 rfl ?_
  refine u_iadd C dX11_salinity_9 ?_
  rw [nI_add (8 * a) (s9)]
  refine u_ialdN (i := (8 * a) + s9) C dX11_salinity_10 (a16_is (mdl_p22 hY)) (a16_n (mdl_p22 hY)) (by omega) (by decide) ?_
  refine u_istore_n C dX11_salinity_11 (by decide) ?_
  refine u_iload_n C dX11_salinity_12 rfl ?_
  refine u_if_ne (tgt := 20) C dX11_salinity_13 (by decide) (fun c_13 => ?_) (fun c_13 => ?_)
  · refine u_aload_n C dX11_salinity_20 rfl ?_
    refine u_getR (k2 := (Y + 23)) C gX11_salinity_21 rfl (mdl_is hY) (mdl_f23 hY) ?_
    refine u_bipush (v := (nI 8)) C dX11_salinity_24 (by decide) ?_
    refine u_iload_n C dX11_salinity_26 rfl ?_
    refine u_imul C dX11_salinity_27 ?_
    rw [pk_mul (8) (a)]
    refine u_iload_n C dX11_salinity_28 rfl ?_
    refine u_iadd C dX11_salinity_29 ?_
    rw [nI_add (8 * a) (s9)]
    refine u_ialdN (i := (8 * a) + s9) C dX11_salinity_30 (a16_is (mdl_p23 hY)) (a16_n (mdl_p23 hY)) (by omega) (by decide) ?_
    refine u_iload_n C dX11_salinity_31 rfl ?_
    refine u_idiv C dX11_salinity_32 (by assumption) ?_
    exact ret _ _ _ _ dX11_salinity_33  (by (try simp only [u_le, Decidable.not_not] at c_13); refine ⟨?_, ?_⟩ <;> simp [-Int32.not_lt, -Int32.not_le, iv_wi, iv_wj, jv_wi, jv_wj, u_le, g_sal, f_sl, c_13])
  · refine u_iconst (v := 0) C dX11_salinity_16 (by decide) ?_
    refine u_goto (tgt := 33) C dX11_salinity_17 (by decide) ?_
    exact ret _ _ _ _ dX11_salinity_33  (by (try simp only [u_le, Decidable.not_not] at c_13); refine ⟨?_, ?_⟩ <;> simp [-Int32.not_lt, -Int32.not_le, iv_wi, iv_wj, jv_wi, jv_wj, u_le, g_sal, f_sl, c_13])
set_option maxHeartbeats 1000000 in
set_option maxRecDepth 100000 in
theorem c_X11_bed (l : Launch) (D : va_G) (G : w_G) (M : w_M) (Y : Nat) (s9 : Nat) (hY : L_mdl G (Y)) (hs : s9 < 8) (hz : ¬ iv M (Y + 17) s9 = 0) : u_Mi l D G yX11_bed cX11_bed 2 (some .int) 0 0 [.ref (gP G Y), .int (nI s9)] M (fun r M' => r = iv M (Y + 18) s9 / iv M (Y + 17) s9 ∧ M' = M) := by
  refine u_bodyi (by decide +kernel) (Nat.le_of_ble_eq_true rfl) rfl (fun p e s m args below meth c A H0 Q C ret => ?_)
  refine u_aload_n C dX11_bed_0 rfl ?_
  refine u_getR (k2 := (Y + 18)) C gX11_bed_1 rfl (mdl_is hY) (mdl_f18 hY) ?_
  refine u_iload_n C dX11_bed_4 rfl ?_
  refine u_ialdN (i := s9) C dX11_bed_5 (a8_is (mdl_p18 hY)) (a8_n (mdl_p18 hY)) (by omega) (by decide) ?_
  refine u_aload_n C dX11_bed_6 rfl ?_
  refine u_getR (k2 := (Y + 17)) C gX11_bed_7 rfl (mdl_is hY) (mdl_f17 hY) ?_
  refine u_iload_n C dX11_bed_10 rfl ?_
  refine u_ialdN (i := s9) C dX11_bed_11 (a8_is (mdl_p17 hY)) (a8_n (mdl_p17 hY)) (by omega) (by decide) ?_
  refine u_idiv C dX11_bed_12 (by assumption) ?_
  exact ret _ _ _ _ dX11_bed_13  (⟨rfl, rfl⟩)
set_option maxHeartbeats 1000000 in
set_option maxRecDepth 100000 in
theorem c_X11_level (l : Launch) (D : va_G) (G : w_G) (M : w_M) (Y : Nat) (s9 : Nat) (hY : L_mdl G (Y)) (hs : s9 < 8) (hz : ¬ iv M (Y + 17) s9 = 0) : u_Mi l D G yX11_level cX11_level 2 (some .int) 1 21 [.ref (gP G Y), .int (nI s9)] M (fun r M' => r = g_lev M Y s9 ∧ M' = M) := by
  refine u_bodyi (by decide +kernel) (Nat.le_of_ble_eq_true rfl) rfl (fun p e s m args below meth c A H0 Q C ret => ?_)
  refine u_aload_n C dX11_level_0 rfl ?_
  refine u_iload_n C dX11_level_1 rfl ?_
  refine u_calliV1 C ev_X11_bed dX11_level_2 ml_RX11_151 (mdl_is hY) rfl (by decide) (c_X11_bed l D G _ _ _ hY hs hz) (by decide) (Nat.le_of_ble_eq_true rfl) (fun r_2 M_2 q_2 => ?_)
  obtain ⟨rfl, e_2⟩ := q_2
  subst M_2
  refine u_aload_n C dX11_level_5 rfl ?_
  refine u_getR (k2 := (Y + 22)) C gX11_level_6 rfl (mdl_is hY) (mdl_f22 hY) ?_
  refine u_iload_n C dX11_level_9 rfl ?_
  refine u_ialdN (i := s9) C dX11_level_10 (a16_is (mdl_p22 hY)) (a16_n (mdl_p22 hY)) (by omega) (by decide) ?_
  refine u_aload_n C dX11_level_11 rfl ?_
  refine u_getR (k2 := (Y + 22)) C gX11_level_12 rfl (mdl_is hY) (mdl_f22 hY) ?_
  refine u_bipush (v := (nI 8)) C dX11_level_15 (by decide) ?_
  refine u_iload_n C dX11_level_17 rfl ?_
  refine u_iadd C dX11_level_18 ?_
  rw [nI_add (8) (s9)]
  refine u_ialdN (i := 8 + s9) C dX11_level_19 (a16_is (mdl_p22 hY)) (a16_n (mdl_p22 hY)) (by omega) (by decide) ?_
  refine u_iadd C dX11_level_20 ?_
  refine u_aload_n C dX11_level_21 rfl ?_
  refine u_getR (k2 := (Y + 17)) C gX11_level_22 rfl (mdl_is hY) (mdl_f17 hY) ?_
  refine u_iload_n C dX11_level_25 rfl ?_
  refine u_ialdN (i := s9) C dX11_level_26 (a8_is (mdl_p17 hY)) (a8_n (mdl_p17 hY)) (by omega) (by decide) ?_
  refine u_idiv C dX11_level_27 (by assumption) ?_
  refine u_iadd C dX11_level_28 ?_
  exact ret _ _ _ _ dX11_level_29  (⟨rfl, rfl⟩)
set_option maxHeartbeats 1000000 in
set_option maxRecDepth 100000 in
theorem c_X11_leaves (l : Launch) (D : va_G) (G : w_G) (M : w_M) (Y : Nat) (a : Nat) (s9 : Nat) (f : Int32) (hY : L_mdl G (Y)) (ha : a < 2) (hs : s9 < 8) : u_Mv l D G yX11_leaves cX11_leaves 5 none 1 22 [.ref (gP G Y), .int (nI a), .int (nI s9), .int f] M (fun M' => M' = g_lv M Y a s9 f) := by
  refine u_bodyv (by decide +kernel) (Nat.le_of_ble_eq_true rfl) rfl (fun p e s m args below meth c A H0 Q C ret => ?_)
  refine u_bipush (v := (nI 8)) C dX11_leaves_0 (by decide) ?_
  refine u_iload_n C dX11_leaves_2 rfl ?_
  refine u_imul C dX11_leaves_3 ?_
  rw [pk_mul (8) (a)]
  refine u_iload_n C dX11_leaves_4 rfl ?_
  refine u_iadd C dX11_leaves_5 ?_
  rw [nI_add (8 * a) (s9)]
  refine u_istore C dX11_leaves_6 (by decide) ?_
  refine u_aload_n C dX11_leaves_8 rfl ?_
  refine u_aload_n C dX11_leaves_9 rfl ?_
  refine u_getR (k2 := (Y + 23)) C gX11_leaves_10 rfl (mdl_is hY) (mdl_f23 hY) ?_
  refine u_iload C dX11_leaves_13 rfl ?_
  refine u_ialdN (i := (8 * a) + s9) C dX11_leaves_15 (a16_is (mdl_p23 hY)) (a16_n (mdl_p23 hY)) (by omega) (by decide) ?_
  refine u_iload_n C dX11_leaves_16 rfl ?_
  refine u_aload_n C dX11_leaves_17 rfl ?_
  refine u_getR (k2 := (Y + 22)) C gX11_leaves_18 rfl (mdl_is hY) (mdl_f22 hY) ?_
  refine u_iload C dX11_leaves_21 rfl ?_
  refine u_ialdN (i := (8 * a) + s9) C dX11_leaves_23 (a16_is (mdl_p22 hY)) (a16_n (mdl_p22 hY)) (by omega) (by decide) ?_
  refine u_calliS3 C es_X11_share dX11_leaves_24 ml_RX11_155 (c_X11_share l D G _ _ _ _  ) (by decide) (Nat.le_of_ble_eq_true rfl) (fun r_24 M_24 q_24 => ?_)
  obtain ⟨rfl, e_24⟩ := q_24
  subst M_24
  refine u_putI C pX11_leaves_27 rfl (mdl_is hY) ?_
  refine u_aload_n C dX11_leaves_30 rfl ?_
  refine u_iload_n C dX11_leaves_31 rfl ?_
  refine u_if_ne (tgt := 55) C dX11_leaves_32 (by decide) (fun c_32 => ?_) (fun c_32 => ?_)
  · refine u_iconst (v := 0) C dX11_leaves_55 (by decide) ?_
    refine u_putI C pX11_leaves_56 rfl (mdl_is hY) ?_
    refine u_aload_n C dX11_leaves_59 rfl ?_
    refine u_getR (k2 := (Y + 22)) C gX11_leaves_60 rfl (mdl_is hY) (mdl_f22 hY) ?_
    refine u_iload C dX11_leaves_63 rfl ?_
    refine u_dup2 C dX11_leaves_65 rfl rfl ?_
    refine u_ialdN (i := (8 * a) + s9) C dX11_leaves_66 (a16_is (mdl_p22 hY)) (a16_n (mdl_p22 hY)) (by omega) (by decide) ?_
    refine u_iload_n C dX11_leaves_67 rfl ?_
    refine u_isub C dX11_leaves_68 ?_
    refine u_iastN (i := (8 * a) + s9) C dX11_leaves_69 (a16_is (mdl_p22 hY)) (a16_n (mdl_p22 hY)) (by omega) (by decide) ?_
    refine u_aload_n C dX11_leaves_70 rfl ?_
    refine u_getR (k2 := (Y + 23)) C gX11_leaves_71 rfl (mdl_is hY) (mdl_f23 hY) ?_
    refine u_iload C dX11_leaves_74 rfl ?_
    refine u_dup2 C dX11_leaves_76 rfl rfl ?_
    refine u_ialdN (i := (8 * a) + s9) C dX11_leaves_77 (a16_is (mdl_p23 hY)) (a16_n (mdl_p23 hY)) (by omega) (by decide) ?_
    refine u_aload_n C dX11_leaves_78 rfl ?_
    refine u_getI C gX11_leaves_79 rfl (mdl_is hY) ?_
    refine u_isub C dX11_leaves_82 ?_
    refine u_iastN (i := (8 * a) + s9) C dX11_leaves_83 (a16_is (mdl_p23 hY)) (a16_n (mdl_p23 hY)) (by omega) (by decide) ?_
    refine u_aload_n C dX11_leaves_84 rfl ?_
    refine u_getR (k2 := (Y + 19)) C gX11_leaves_85 rfl (mdl_is hY) (mdl_f19 hY) ?_
    refine u_iload_n C dX11_leaves_88 rfl ?_
    refine u_dup2 C dX11_leaves_89 rfl rfl ?_
    refine u_ialdN (i := s9) C dX11_leaves_90 (a8_is (mdl_p19 hY)) (a8_n (mdl_p19 hY)) (by omega) (by decide) ?_
    refine u_aload_n C dX11_leaves_91 rfl ?_
    refine u_getI C gX11_leaves_92 rfl (mdl_is hY) ?_
    refine u_isub C dX11_leaves_95 ?_
    refine u_iastN (i := s9) C dX11_leaves_96 (a8_is (mdl_p19 hY)) (a8_n (mdl_p19 hY)) (by omega) (by decide) ?_
    exact ret _ _  _ dX11_leaves_97  (by (try simp only [u_le, Decidable.not_not] at c_32); first | (simp [-Int32.not_lt, -Int32.not_le, iv_wi, iv_wj, jv_wi, jv_wj, u_le, g_lv, g_sg, g_cg, c_32]; done) | (simp [-Int32.not_lt, -Int32.not_le, iv_wi, iv_wj, jv_wi, jv_wj, u_le, g_lv, g_sg, g_cg, c_32]; rfl))
  · refine u_aload_n C dX11_leaves_35 rfl ?_
    refine u_getR (k2 := (Y + 19)) C gX11_leaves_36 rfl (mdl_is hY) (mdl_f19 hY) ?_
    refine u_iload_n C dX11_leaves_39 rfl ?_
    refine u_ialdN (i := s9) C dX11_leaves_40 (a8_is (mdl_p19 hY)) (a8_n (mdl_p19 hY)) (by omega) (by decide) ?_
    refine u_iload_n C dX11_leaves_41 rfl ?_
    refine u_aload_n C dX11_leaves_42 rfl ?_
    refine u_getR (k2 := (Y + 22)) C gX11_leaves_43 rfl (mdl_is hY) (mdl_f22 hY) ?_
    refine u_iload C dX11_leaves_46 rfl ?_
    refine u_ialdN (i := (8 * a) + s9) C dX11_leaves_48 (a16_is (mdl_p22 hY)) (a16_n (mdl_p22 hY)) (by omega) (by decide) ?_
    refine u_calliS3 C es_X11_share dX11_leaves_49 ml_RX11_155 (c_X11_share l D G _ _ _ _  ) (by decide) (Nat.le_of_ble_eq_true rfl) (fun r_49 M_49 q_49 => ?_)
    obtain ⟨rfl, e_49⟩ := q_49
    subst M_49
    refine u_goto (tgt := 56) C dX11_leaves_52 (by decide) ?_
    refine u_putI C pX11_leaves_56 rfl (mdl_is hY) ?_
    refine u_aload_n C dX11_leaves_59 rfl ?_
    refine u_getR (k2 := (Y + 22)) C gX11_leaves_60 rfl (mdl_is hY) (mdl_f22 hY) ?_
    refine u_iload C dX11_leaves_63 rfl ?_
    refine u_dup2 C dX11_leaves_65 rfl rfl ?_
    refine u_ialdN (i := (8 * a) + s9) C dX11_leaves_66 (a16_is (mdl_p22 hY)) (a16_n (mdl_p22 hY)) (by omega) (by decide) ?_
    refine u_iload_n C dX11_leaves_67 rfl ?_
    refine u_isub C dX11_leaves_68 ?_
    refine u_iastN (i := (8 * a) + s9) C dX11_leaves_69 (a16_is (mdl_p22 hY)) (a16_n (mdl_p22 hY)) (by omega) (by decide) ?_
    refine u_aload_n C dX11_leaves_70 rfl ?_
    refine u_getR (k2 := (Y + 23)) C gX11_leaves_71 rfl (mdl_is hY) (mdl_f23 hY) ?_
    refine u_iload C dX11_leaves_74 rfl ?_
    refine u_dup2 C dX11_leaves_76 rfl rfl ?_
    refine u_ialdN (i := (8 * a) + s9) C dX11_leaves_77 (a16_is (mdl_p23 hY)) (a16_n (mdl_p23 hY)) (by omega) (by decide) ?_
    refine u_aload_n C dX11_leaves_78 rfl ?_
    refine u_getI C gX11_leaves_79 rfl (mdl_is hY) ?_
    refine u_isub C dX11_leaves_82 ?_
    refine u_iastN (i := (8 * a) + s9) C dX11_leaves_83 (a16_is (mdl_p23 hY)) (a16_n (mdl_p23 hY)) (by omega) (by decide) ?_
    refine u_aload_n C dX11_leaves_84 rfl ?_
    refine u_getR (k2 := (Y + 19)) C gX11_leaves_85 rfl (mdl_is hY) (mdl_f19 hY) ?_
    refine u_iload_n C dX11_leaves_88 rfl ?_
    refine u_dup2 C dX11_leaves_89 rfl rfl ?_
    refine u_ialdN (i := s9) C dX11_leaves_90 (a8_is (mdl_p19 hY)) (a8_n (mdl_p19 hY)) (by omega) (by decide) ?_
    refine u_aload_n C dX11_leaves_91 rfl ?_
    refine u_getI C gX11_leaves_92 rfl (mdl_is hY) ?_
    refine u_isub C dX11_leaves_95 ?_
    refine u_iastN (i := s9) C dX11_leaves_96 (a8_is (mdl_p19 hY)) (a8_n (mdl_p19 hY)) (by omega) (by decide) ?_
    exact ret _ _  _ dX11_leaves_97  (by (try simp only [u_le, Decidable.not_not] at c_32); first | (simp [-Int32.not_lt, -Int32.not_le, iv_wi, iv_wj, jv_wi, jv_wj, u_le, g_lv, g_sg, g_cg, c_32]; done) | (simp [-Int32.not_lt, -Int32.not_le, iv_wi, iv_wj, jv_wi, jv_wj, u_le, g_lv, g_sg, g_cg, c_32]; rfl))
set_option maxHeartbeats 1000000 in
set_option maxRecDepth 100000 in
theorem c_X11_flows (l : Launch) (D : va_G) (G : w_G) (M : w_M) (Y : Nat) (a : Nat) (s9 : Nat) (t : Nat) (f : Int32) (hY : L_mdl G (Y)) (ha : a < 2) (hs : s9 < 8) (ht : t < 8) : u_Mv l D G yX11_flows cX11_flows 5 none 2 46 [.ref (gP G Y), .int (nI a), .int (nI s9), .int (nI t), .int f] M (fun M' => M' = g_fl M Y a s9 t f) := by
  refine u_bodyv (by decide +kernel) (Nat.le_of_ble_eq_true rfl) rfl (fun p e s m args below meth c A H0 Q C ret => ?_)
  refine u_aload_n C dX11_flows_0 rfl ?_
  refine u_iload_n C dX11_flows_1 rfl ?_
  refine u_iload_n C dX11_flows_2 rfl ?_
  refine u_iload C dX11_flows_3 rfl ?_
  refine u_callvV3 C ev_X11_leaves dX11_flows_5 ml_RX11_165 (mdl_is hY) rfl (by decide) (c_X11_leaves l D G _ _ _ _ _ hY ha hs) (by decide) (Nat.le_of_ble_eq_true rfl) (fun M_5 q_5 => ?_)
  obtain rfl := q_5
  refine u_aload_n C dX11_flows_8 rfl ?_
  refine u_getR (k2 := (Y + 22)) C gX11_flows_9 rfl (mdl_is hY) (mdl_f22 hY) ?_
  refine u_bipush (v := (nI 8)) C dX11_flows_12 (by decide) ?_
  refine u_iload_n C dX11_flows_14 rfl ?_
  refine u_imul C dX11_flows_15 ?_
  rw [pk_mul (8) (a)]
  refine u_iload_n C dX11_flows_16 rfl ?_
  refine u_iadd C dX11_flows_17 ?_
  rw [nI_add (8 * a) (t)]
  refine u_dup2 C dX11_flows_18 rfl rfl ?_
  refine u_ialdN (i := (8 * a) + t) C dX11_flows_19 (a16_is (mdl_p22 hY)) (a16_n (mdl_p22 hY)) (by omega) (by decide) ?_
  refine u_iload C dX11_flows_20 rfl ?_
  refine u_iadd C dX11_flows_22 ?_
  refine u_iastN (i := (8 * a) + t) C dX11_flows_23 (a16_is (mdl_p22 hY)) (a16_n (mdl_p22 hY)) (by omega) (by decide) ?_
  refine u_aload_n C dX11_flows_24 rfl ?_
  refine u_getR (k2 := (Y + 23)) C gX11_flows_25 rfl (mdl_is hY) (mdl_f23 hY) ?_
  refine u_bipush (v := (nI 8)) C dX11_flows_28 (by decide) ?_
  refine u_iload_n C dX11_flows_30 rfl ?_
  refine u_imul C dX11_flows_31 ?_
  rw [pk_mul (8) (a)]
  refine u_iload_n C dX11_flows_32 rfl ?_
  refine u_iadd C dX11_flows_33 ?_
  rw [nI_add (8 * a) (t)]
  refine u_dup2 C dX11_flows_34 rfl rfl ?_
  refine u_ialdN (i := (8 * a) + t) C dX11_flows_35 (a16_is (mdl_p23 hY)) (a16_n (mdl_p23 hY)) (by omega) (by decide) ?_
  refine u_aload_n C dX11_flows_36 rfl ?_
  refine u_getI C gX11_flows_37 rfl (mdl_is hY) ?_
  refine u_iadd C dX11_flows_40 ?_
  refine u_iastN (i := (8 * a) + t) C dX11_flows_41 (a16_is (mdl_p23 hY)) (a16_n (mdl_p23 hY)) (by omega) (by decide) ?_
  refine u_aload_n C dX11_flows_42 rfl ?_
  refine u_getR (k2 := (Y + 19)) C gX11_flows_43 rfl (mdl_is hY) (mdl_f19 hY) ?_
  refine u_iload_n C dX11_flows_46 rfl ?_
  refine u_dup2 C dX11_flows_47 rfl rfl ?_
  refine u_ialdN (i := t) C dX11_flows_48 (a8_is (mdl_p19 hY)) (a8_n (mdl_p19 hY)) (by omega) (by decide) ?_
  refine u_aload_n C dX11_flows_49 rfl ?_
  refine u_getI C gX11_flows_50 rfl (mdl_is hY) ?_
  refine u_iadd C dX11_flows_53 ?_
  refine u_iastN (i := t) C dX11_flows_54 (a8_is (mdl_p19 hY)) (a8_n (mdl_p19 hY)) (by omega) (by decide) ?_
  exact ret _ _  _ dX11_flows_55  (rfl)
set_option maxHeartbeats 1000000 in
set_option maxRecDepth 100000 in
theorem c_X11_mouth (l : Launch) (D : va_G) (G : w_G) (M : w_M) (Y : Nat) (h : Int32) (hY : L_mdl G (Y)) (hz : ¬ iv M (Y + 17) 0 = 0) : u_Mv l D G yX11_mouth cX11_mouth 4 none 2 46 [.ref (gP G Y), .int h] M (fun M' => M' = g_mo M Y h) := by
  refine u_bodyv (by decide +kernel) (Nat.le_of_ble_eq_true rfl) rfl (fun p e s m args below meth c A H0 Q C ret => ?_)
  refine u_iload_n C dX11_mouth_0 rfl ?_
  refine u_aload_n C dX11_mouth_1 rfl ?_
  refine u_iconst (v := (nI 0)) C dX11_mouth_2 (by decide) ?_
  refine u_calliV1 C ev_X11_level dX11_mouth_3 ml_RX11_175 (mdl_is hY) rfl (by decide) (c_X11_level l D G _ _ _ hY (by decide) hz) (by decide) (Nat.le_of_ble_eq_true rfl) (fun r_3 M_3 q_3 => ?_)
  obtain ⟨rfl, e_3⟩ := q_3
  subst M_3
  refine u_isub C dX11_mouth_6 ?_
  refine u_istore_n C dX11_mouth_7 (by decide) ?_
  refine u_iload_n C dX11_mouth_8 rfl ?_
  refine u_if_le (tgt := 76) C dX11_mouth_9 (by decide) (fun c_9 => ?_) (fun c_9 => ?_)
  · refine u_iload_n C dX11_mouth_76 rfl ?_
    refine u_ineg C dX11_mouth_77 ?_
    refine u_aload_n C dX11_mouth_78 rfl ?_
    refine u_getR (k2 := (Y + 17)) C gX11_mouth_79 rfl (mdl_is hY) (mdl_f17 hY) ?_
    refine u_iconst (v := (nI 0)) C dX11_mouth_82 (by decide) ?_
    refine u_ialdN (i := 0) C dX11_mouth_83 (a8_is (mdl_p17 hY)) (a8_n (mdl_p17 hY)) (by omega) (by decide) ?_
    refine u_imul C dX11_mouth_84 ?_
    refine u_iconst (v := 2) C dX11_mouth_85 (by decide) ?_
    refine u_idiv C dX11_mouth_86 (by decide) ?_
    refine u_istore_n C dX11_mouth_87 (by decide) ?_
    refine u_iload_n C dX11_mouth_88 rfl ?_
    refine u_aload_n C dX11_mouth_89 rfl ?_
    refine u_getR (k2 := (Y + 22)) C gX11_mouth_90 rfl (mdl_is hY) (mdl_f22 hY) ?_
    refine u_iconst (v := (nI 0)) C dX11_mouth_93 (by decide) ?_
    refine u_ialdN (i := 0) C dX11_mouth_94 (a16_is (mdl_p22 hY)) (a16_n (mdl_p22 hY)) (by omega) (by decide) ?_
    refine u_icmp_ge (tgt := 102) C dX11_mouth_95 (by decide) (fun c_95 => ?_) (fun c_95 => ?_)
    · refine u_aload_n C dX11_mouth_102 rfl ?_
      refine u_getR (k2 := (Y + 22)) C gX11_mouth_103 rfl (mdl_is hY) (mdl_f22 hY) ?_
      refine u_iconst (v := (nI 0)) C dX11_mouth_106 (by decide) ?_
      refine u_ialdN (i := 0) C dX11_mouth_107 (a16_is (mdl_p22 hY)) (a16_n (mdl_p22 hY)) (by omega) (by decide) ?_
      refine u_istore_n C dX11_mouth_108 (by decide) ?_
      refine u_aload_n C dX11_mouth_109 rfl ?_
      refine u_iconst (v := (nI 0)) C dX11_mouth_110 (by decide) ?_
      refine u_iconst (v := (nI 0)) C dX11_mouth_111 (by decide) ?_
      refine u_iload_n C dX11_mouth_112 rfl ?_
      refine u_callvV3 C ev_X11_leaves dX11_mouth_113 ml_RX11_165 (mdl_is hY) rfl (by decide) (c_X11_leaves l D G _ _ _ _ _ hY (by decide) (by decide)) (by decide) (Nat.le_of_ble_eq_true rfl) (fun M_113 q_113 => ?_)
      obtain rfl := q_113
      refine u_aload_n C dX11_mouth_116 rfl ?_
      refine u_getR (k2 := (Y + 40)) C gX11_mouth_117 rfl (mdl_is hY) (mdl_f40 hY) ?_
      refine u_iconst (v := (nI 1)) C dX11_mouth_120 (by decide) ?_
      refine u_dup2 C dX11_mouth_121 rfl rfl ?_
      refine u_laldN (i := 1) C dX11_mouth_122 (j10_is (mdl_p40 hY)) (j10_n (mdl_p40 hY)) (by omega) (by decide) ?_
      refine u_iload_n C dX11_mouth_123 rfl ?_
      refine u_i2l C dX11_mouth_124 ?_
      refine u_ladd C dX11_mouth_125 ?_
      refine u_lastN (i := 1) C dX11_mouth_126 (j10_is (mdl_p40 hY)) (j10_n (mdl_p40 hY)) (by omega) (by decide) ?_
      refine u_aload_n C dX11_mouth_127 rfl ?_
      refine u_getR (k2 := (Y + 40)) C gX11_mouth_128 rfl (mdl_is hY) (mdl_f40 hY) ?_
      refine u_iconst (v := (nI 5)) C dX11_mouth_131 (by decide) ?_
      refine u_dup2 C dX11_mouth_132 rfl rfl ?_
      refine u_laldN (i := 5) C dX11_mouth_133 (j10_is (mdl_p40 hY)) (j10_n (mdl_p40 hY)) (by omega) (by decide) ?_
      refine u_aload_n C dX11_mouth_134 rfl ?_
      refine u_getI C gX11_mouth_135 rfl (mdl_is hY) ?_
      refine u_i2l C dX11_mouth_138 ?_
      refine u_ladd C dX11_mouth_139 ?_
      refine u_lastN (i := 5) C dX11_mouth_140 (j10_is (mdl_p40 hY)) (j10_n (mdl_p40 hY)) (by omega) (by decide) ?_
      refine u_aload_n C dX11_mouth_141 rfl ?_
      refine u_getR (k2 := (Y + 40)) C gX11_mouth_142 rfl (mdl_is hY) (mdl_f40 hY) ?_
      refine u_bipush (v := (nI 8)) C dX11_mouth_145 (by decide) ?_
      refine u_dup2 C dX11_mouth_147 rfl rfl ?_
      refine u_laldN (i := 8) C dX11_mouth_148 (j10_is (mdl_p40 hY)) (j10_n (mdl_p40 hY)) (by omega) (by decide) ?_
      refine u_aload_n C dX11_mouth_149 rfl ?_
      refine u_getI C gX11_mouth_150 rfl (mdl_is hY) ?_
      refine u_i2l C dX11_mouth_153 ?_
      refine u_ladd C dX11_mouth_154 ?_
      refine u_lastN (i := 8) C dX11_mouth_155 (j10_is (mdl_p40 hY)) (j10_n (mdl_p40 hY)) (by omega) (by decide) ?_
      exact ret _ _  _ dX11_mouth_156  (by (try simp only [u_le, Decidable.not_not] at c_9 c_95); unfold g_mo f_lt; first | (rw [if_pos c_9]; rfl) | (rw [if_neg c_9, if_pos c_95]; rfl) | (rw [if_neg c_9, if_neg c_95]; rfl))
    · refine u_iload_n C dX11_mouth_98 rfl ?_
      refine u_goto (tgt := 108) C dX11_mouth_99 (by decide) ?_
      refine u_istore_n C dX11_mouth_108 (by decide) ?_
      refine u_aload_n C dX11_mouth_109 rfl ?_
      refine u_iconst (v := (nI 0)) C dX11_mouth_110 (by decide) ?_
      refine u_iconst (v := (nI 0)) C dX11_mouth_111 (by decide) ?_
      refine u_iload_n C dX11_mouth_112 rfl ?_
      refine u_callvV3 C ev_X11_leaves dX11_mouth_113 ml_RX11_165 (mdl_is hY) rfl (by decide) (c_X11_leaves l D G _ _ _ _ _ hY (by decide) (by decide)) (by decide) (Nat.le_of_ble_eq_true rfl) (fun M_113 q_113 => ?_)
      obtain rfl := q_113
      refine u_aload_n C dX11_mouth_116 rfl ?_
      refine u_getR (k2 := (Y + 40)) C gX11_mouth_117 rfl (mdl_is hY) (mdl_f40 hY) ?_
      refine u_iconst (v := (nI 1)) C dX11_mouth_120 (by decide) ?_
      refine u_dup2 C dX11_mouth_121 rfl rfl ?_
      refine u_laldN (i := 1) C dX11_mouth_122 (j10_is (mdl_p40 hY)) (j10_n (mdl_p40 hY)) (by omega) (by decide) ?_
      refine u_iload_n C dX11_mouth_123 rfl ?_
      refine u_i2l C dX11_mouth_124 ?_
      refine u_ladd C dX11_mouth_125 ?_
      refine u_lastN (i := 1) C dX11_mouth_126 (j10_is (mdl_p40 hY)) (j10_n (mdl_p40 hY)) (by omega) (by decide) ?_
      refine u_aload_n C dX11_mouth_127 rfl ?_
      refine u_getR (k2 := (Y + 40)) C gX11_mouth_128 rfl (mdl_is hY) (mdl_f40 hY) ?_
      refine u_iconst (v := (nI 5)) C dX11_mouth_131 (by decide) ?_
      refine u_dup2 C dX11_mouth_132 rfl rfl ?_
      refine u_laldN (i := 5) C dX11_mouth_133 (j10_is (mdl_p40 hY)) (j10_n (mdl_p40 hY)) (by omega) (by decide) ?_
      refine u_aload_n C dX11_mouth_134 rfl ?_
      refine u_getI C gX11_mouth_135 rfl (mdl_is hY) ?_
      refine u_i2l C dX11_mouth_138 ?_
      refine u_ladd C dX11_mouth_139 ?_
      refine u_lastN (i := 5) C dX11_mouth_140 (j10_is (mdl_p40 hY)) (j10_n (mdl_p40 hY)) (by omega) (by decide) ?_
      refine u_aload_n C dX11_mouth_141 rfl ?_
      refine u_getR (k2 := (Y + 40)) C gX11_mouth_142 rfl (mdl_is hY) (mdl_f40 hY) ?_
      refine u_bipush (v := (nI 8)) C dX11_mouth_145 (by decide) ?_
      refine u_dup2 C dX11_mouth_147 rfl rfl ?_
      refine u_laldN (i := 8) C dX11_mouth_148 (j10_is (mdl_p40 hY)) (j10_n (mdl_p40 hY)) (by omega) (by decide) ?_
      refine u_aload_n C dX11_mouth_149 rfl ?_
      refine u_getI C gX11_mouth_150 rfl (mdl_is hY) ?_
      refine u_i2l C dX11_mouth_153 ?_
      refine u_ladd C dX11_mouth_154 ?_
      refine u_lastN (i := 8) C dX11_mouth_155 (j10_is (mdl_p40 hY)) (j10_n (mdl_p40 hY)) (by omega) (by decide) ?_
      exact ret _ _  _ dX11_mouth_156  (by (try simp only [u_le, Decidable.not_not] at c_9 c_95); unfold g_mo f_lt; first | (rw [if_pos c_9]; rfl) | (rw [if_neg c_9, if_pos c_95]; rfl) | (rw [if_neg c_9, if_neg c_95]; rfl))
  · refine u_iload_n C dX11_mouth_12 rfl ?_
    refine u_aload_n C dX11_mouth_13 rfl ?_
    refine u_getR (k2 := (Y + 17)) C gX11_mouth_14 rfl (mdl_is hY) (mdl_f17 hY) ?_
    refine u_iconst (v := (nI 0)) C dX11_mouth_17 (by decide) ?_
    refine u_ialdN (i := 0) C dX11_mouth_18 (a8_is (mdl_p17 hY)) (a8_n (mdl_p17 hY)) (by omega) (by decide) ?_
    refine u_imul C dX11_mouth_19 ?_
    refine u_iconst (v := 2) C dX11_mouth_20 (by decide) ?_
    refine u_idiv C dX11_mouth_21 (by decide) ?_
    refine u_istore_n C dX11_mouth_22 (by decide) ?_
    refine u_aload_n C dX11_mouth_23 rfl ?_
    refine u_getR (k2 := (Y + 22)) C gX11_mouth_24 rfl (mdl_is hY) (mdl_f22 hY) ?_
    refine u_bipush (v := (nI 8)) C dX11_mouth_27 (by decide) ?_
    refine u_dup2 C dX11_mouth_29 rfl rfl ?_
    refine u_ialdN (i := 8) C dX11_mouth_30 (a16_is (mdl_p22 hY)) (a16_n (mdl_p22 hY)) (by omega) (by decide) ?_
    refine u_iload_n C dX11_mouth_31 rfl ?_
    refine u_iadd C dX11_mouth_32 ?_
    refine u_iastN (i := 8) C dX11_mouth_33 (a16_is (mdl_p22 hY)) (a16_n (mdl_p22 hY)) (by omega) (by decide) ?_
    refine u_aload_n C dX11_mouth_34 rfl ?_
    refine u_getR (k2 := (Y + 23)) C gX11_mouth_35 rfl (mdl_is hY) (mdl_f23 hY) ?_
    refine u_bipush (v := (nI 8)) C dX11_mouth_38 (by decide) ?_
    refine u_dup2 C dX11_mouth_40 rfl rfl ?_
    refine u_ialdN (i := 8) C dX11_mouth_41 (a16_is (mdl_p23 hY)) (a16_n (mdl_p23 hY)) (by omega) (by decide) ?_
    refine u_bipush (v := 30) C dX11_mouth_42 (by decide) ?_
    refine u_iload_n C dX11_mouth_44 rfl ?_
    refine u_imul C dX11_mouth_45 ?_
    refine u_iadd C dX11_mouth_46 ?_
    refine u_iastN (i := 8) C dX11_mouth_47 (a16_is (mdl_p23 hY)) (a16_n (mdl_p23 hY)) (by omega) (by decide) ?_
    refine u_aload_n C dX11_mouth_48 rfl ?_
    refine u_getR (k2 := (Y + 40)) C gX11_mouth_49 rfl (mdl_is hY) (mdl_f40 hY) ?_
    refine u_iconst (v := (nI 0)) C dX11_mouth_52 (by decide) ?_
    refine u_dup2 C dX11_mouth_53 rfl rfl ?_
    refine u_laldN (i := 0) C dX11_mouth_54 (j10_is (mdl_p40 hY)) (j10_n (mdl_p40 hY)) (by omega) (by decide) ?_
    refine u_iload_n C dX11_mouth_55 rfl ?_
    refine u_i2l C dX11_mouth_56 ?_
    refine u_ladd C dX11_mouth_57 ?_
    refine u_lastN (i := 0) C dX11_mouth_58 (j10_is (mdl_p40 hY)) (j10_n (mdl_p40 hY)) (by omega) (by decide) ?_
    refine u_aload_n C dX11_mouth_59 rfl ?_
    refine u_getR (k2 := (Y + 40)) C gX11_mouth_60 rfl (mdl_is hY) (mdl_f40 hY) ?_
    refine u_iconst (v := (nI 4)) C dX11_mouth_63 (by decide) ?_
    refine u_dup2 C dX11_mouth_64 rfl rfl ?_
    refine u_laldN (i := 4) C dX11_mouth_65 (j10_is (mdl_p40 hY)) (j10_n (mdl_p40 hY)) (by omega) (by decide) ?_
    refine u_bipush (v := 30) C dX11_mouth_66 (by decide) ?_
    refine u_iload_n C dX11_mouth_68 rfl ?_
    refine u_imul C dX11_mouth_69 ?_
    refine u_i2l C dX11_mouth_70 ?_
    refine u_ladd C dX11_mouth_71 ?_
    refine u_lastN (i := 4) C dX11_mouth_72 (j10_is (mdl_p40 hY)) (j10_n (mdl_p40 hY)) (by omega) (by decide) ?_
    refine u_goto (tgt := 156) C dX11_mouth_73 (by decide) ?_
    exact ret _ _  _ dX11_mouth_156  (by (try simp only [u_le, Decidable.not_not] at c_9); unfold g_mo f_lt; first | (rw [if_pos c_9]; rfl) | (rw [if_neg c_9, if_pos c_95]; rfl) | (rw [if_neg c_9, if_neg c_95]; rfl))
set_option maxHeartbeats 1000000 in
set_option maxRecDepth 100000 in
theorem c_X11_mixes (l : Launch) (D : va_G) (G : w_G) (M : w_M) (Y : Nat) (s9 : Nat) (hY : L_mdl G (Y)) (hs : s9 < 8) : u_Mv l D G yX11_mixes cX11_mixes 4 none 1 22 [.ref (gP G Y), .int (nI s9)] M (fun M' => M' = g_mx M Y s9) := by
  refine u_bodyv (by decide +kernel) (Nat.le_of_ble_eq_true rfl) rfl (fun p e s m args below meth c A H0 Q C ret => ?_)
  have J1 : ∀ x : Int32, x = g_xl M Y s9 → u_S p l e (u_rm 1 22) s m args below meth c 4 D A H0 0 0 Q 36 [(0, .ref (gP G Y)), (1, .int (nI s9))] [.int x] G M := by
    intro x hx
    subst hx
    refine u_istore_n C dX11_mixes_36 (by decide) ?_
    refine u_aload_n C dX11_mixes_37 rfl ?_
    refine u_getR (k2 := (Y + 23)) C gX11_mixes_38 rfl (mdl_is hY) (mdl_f23 hY) ?_
    refine u_bipush (v := (nI 8)) C dX11_mixes_41 (by decide) ?_
    refine u_iload_n C dX11_mixes_43 rfl ?_
    refine u_iadd C dX11_mixes_44 ?_
    rw [nI_add (8) (s9)]
    refine u_ialdN (i := 8 + s9) C dX11_mixes_45 (a16_is (mdl_p23 hY)) (a16_n (mdl_p23 hY)) (by omega) (by decide) ?_
    refine u_iload_n C dX11_mixes_46 rfl ?_
    refine u_iconst (v := 4) C dX11_mixes_47 (by decide) ?_
    refine u_idiv C dX11_mixes_48 (by decide) ?_
    refine u_aload_n C dX11_mixes_49 rfl ?_
    refine u_getR (k2 := (Y + 22)) C gX11_mixes_50 rfl (mdl_is hY) (mdl_f22 hY) ?_
    refine u_bipush (v := (nI 8)) C dX11_mixes_53 (by decide) ?_
    refine u_iload_n C dX11_mixes_55 rfl ?_
    refine u_iadd C dX11_mixes_56 ?_
    rw [nI_add (8) (s9)]
    refine u_ialdN (i := 8 + s9) C dX11_mixes_57 (a16_is (mdl_p22 hY)) (a16_n (mdl_p22 hY)) (by omega) (by decide) ?_
    refine u_calliS3 C es_X11_share dX11_mixes_58 ml_RX11_155 (c_X11_share l D G _ _ _ _  ) (by decide) (Nat.le_of_ble_eq_true rfl) (fun r_58 M_58 q_58 => ?_)
    obtain ⟨rfl, e_58⟩ := q_58
    subst M_58
    refine u_aload_n C dX11_mixes_61 rfl ?_
    refine u_getR (k2 := (Y + 23)) C gX11_mixes_62 rfl (mdl_is hY) (mdl_f23 hY) ?_
    refine u_iload_n C dX11_mixes_65 rfl ?_
    refine u_ialdN (i := s9) C dX11_mixes_66 (a16_is (mdl_p23 hY)) (a16_n (mdl_p23 hY)) (by omega) (by decide) ?_
    refine u_iload_n C dX11_mixes_67 rfl ?_
    refine u_iconst (v := 4) C dX11_mixes_68 (by decide) ?_
    refine u_idiv C dX11_mixes_69 (by decide) ?_
    refine u_aload_n C dX11_mixes_70 rfl ?_
    refine u_getR (k2 := (Y + 22)) C gX11_mixes_71 rfl (mdl_is hY) (mdl_f22 hY) ?_
    refine u_iload_n C dX11_mixes_74 rfl ?_
    refine u_ialdN (i := s9) C dX11_mixes_75 (a16_is (mdl_p22 hY)) (a16_n (mdl_p22 hY)) (by omega) (by decide) ?_
    refine u_calliS3 C es_X11_share dX11_mixes_76 ml_RX11_155 (c_X11_share l D G _ _ _ _  ) (by decide) (Nat.le_of_ble_eq_true rfl) (fun r_76 M_76 q_76 => ?_)
    obtain ⟨rfl, e_76⟩ := q_76
    subst M_76
    refine u_isub C dX11_mixes_79 ?_
    refine u_istore_n C dX11_mixes_80 (by decide) ?_
    refine u_aload_n C dX11_mixes_81 rfl ?_
    refine u_getR (k2 := (Y + 20)) C gX11_mixes_82 rfl (mdl_is hY) (mdl_f20 hY) ?_
    refine u_iload_n C dX11_mixes_85 rfl ?_
    refine u_ialdN (i := s9) C dX11_mixes_86 (a8_is (mdl_p20 hY)) (a8_n (mdl_p20 hY)) (by omega) (by decide) ?_
    refine u_bipush (v := 20) C dX11_mixes_87 (by decide) ?_
    refine u_icmp_lt (tgt := 119) C dX11_mixes_89 (by decide) (fun c_89 => ?_) (fun c_89 => ?_)
    · exact ret _ _  _ dX11_mixes_119  (by (try simp only [u_le, Decidable.not_not] at c_89); simp [-Int32.not_lt, -Int32.not_le, g_mx, g_xm, iv_wi, u_le, c_89])
    · refine u_iload_n C dX11_mixes_92 rfl ?_
      refine u_if_le (tgt := 119) C dX11_mixes_93 (by decide) (fun c_93 => ?_) (fun c_93 => ?_)
      · exact ret _ _  _ dX11_mixes_119  (by (try simp only [u_le, Decidable.not_not] at c_89 c_93); simp [-Int32.not_lt, -Int32.not_le, g_mx, g_xm, iv_wi, u_le, c_89, c_93])
      · refine u_aload_n C dX11_mixes_96 rfl ?_
        refine u_getR (k2 := (Y + 23)) C gX11_mixes_97 rfl (mdl_is hY) (mdl_f23 hY) ?_
        refine u_bipush (v := (nI 8)) C dX11_mixes_100 (by decide) ?_
        refine u_iload_n C dX11_mixes_102 rfl ?_
        refine u_iadd C dX11_mixes_103 ?_
        rw [nI_add (8) (s9)]
        refine u_dup2 C dX11_mixes_104 rfl rfl ?_
        refine u_ialdN (i := 8 + s9) C dX11_mixes_105 (a16_is (mdl_p23 hY)) (a16_n (mdl_p23 hY)) (by omega) (by decide) ?_
        refine u_iload_n C dX11_mixes_106 rfl ?_
        refine u_isub C dX11_mixes_107 ?_
        refine u_iastN (i := 8 + s9) C dX11_mixes_108 (a16_is (mdl_p23 hY)) (a16_n (mdl_p23 hY)) (by omega) (by decide) ?_
        refine u_aload_n C dX11_mixes_109 rfl ?_
        refine u_getR (k2 := (Y + 23)) C gX11_mixes_110 rfl (mdl_is hY) (mdl_f23 hY) ?_
        refine u_iload_n C dX11_mixes_113 rfl ?_
        refine u_dup2 C dX11_mixes_114 rfl rfl ?_
        refine u_ialdN (i := s9) C dX11_mixes_115 (a16_is (mdl_p23 hY)) (a16_n (mdl_p23 hY)) (by omega) (by decide) ?_
        refine u_iload_n C dX11_mixes_116 rfl ?_
        refine u_iadd C dX11_mixes_117 ?_
        refine u_iastN (i := s9) C dX11_mixes_118 (a16_is (mdl_p23 hY)) (a16_n (mdl_p23 hY)) (by omega) (by decide) ?_
        exact ret _ _  _ dX11_mixes_119  (by (try simp only [u_le, Decidable.not_not] at c_89 c_93); simp [-Int32.not_lt, -Int32.not_le, g_mx, g_xm, iv_wi, u_le, c_89, c_93])
  refine u_aload_n C dX11_mixes_0 rfl ?_
  refine u_getR (k2 := (Y + 22)) C gX11_mixes_1 rfl (mdl_is hY) (mdl_f22 hY) ?_
  refine u_iload_n C dX11_mixes_4 rfl ?_
  refine u_ialdN (i := s9) C dX11_mixes_5 (a16_is (mdl_p22 hY)) (a16_n (mdl_p22 hY)) (by omega) (by decide) ?_
  refine u_aload_n C dX11_mixes_6 rfl ?_
  refine u_getR (k2 := (Y + 22)) C gX11_mixes_7 rfl (mdl_is hY) (mdl_f22 hY) ?_
  refine u_bipush (v := (nI 8)) C dX11_mixes_10 (by decide) ?_
  refine u_iload_n C dX11_mixes_12 rfl ?_
  refine u_iadd C dX11_mixes_13 ?_
  rw [nI_add (8) (s9)]
  refine u_ialdN (i := 8 + s9) C dX11_mixes_14 (a16_is (mdl_p22 hY)) (a16_n (mdl_p22 hY)) (by omega) (by decide) ?_
  refine u_icmp_ge (tgt := 27) C dX11_mixes_15 (by decide) (fun c_15 => ?_) (fun c_15 => ?_)
  · refine u_aload_n C dX11_mixes_27 rfl ?_
    refine u_getR (k2 := (Y + 22)) C gX11_mixes_28 rfl (mdl_is hY) (mdl_f22 hY) ?_
    refine u_bipush (v := (nI 8)) C dX11_mixes_31 (by decide) ?_
    refine u_iload_n C dX11_mixes_33 rfl ?_
    refine u_iadd C dX11_mixes_34 ?_
    rw [nI_add (8) (s9)]
    refine u_ialdN (i := 8 + s9) C dX11_mixes_35 (a16_is (mdl_p22 hY)) (a16_n (mdl_p22 hY)) (by omega) (by decide) ?_
    exact u_loc [0, 1] rfl (J1 _ (by (try simp only [u_le, Decidable.not_not] at c_15); simp [-Int32.not_lt, -Int32.not_le, g_xl, f_lt, c_15]))
  · refine u_aload_n C dX11_mixes_18 rfl ?_
    refine u_getR (k2 := (Y + 22)) C gX11_mixes_19 rfl (mdl_is hY) (mdl_f22 hY) ?_
    refine u_iload_n C dX11_mixes_22 rfl ?_
    refine u_ialdN (i := s9) C dX11_mixes_23 (a16_is (mdl_p22 hY)) (a16_n (mdl_p22 hY)) (by omega) (by decide) ?_
    refine u_goto (tgt := 36) C dX11_mixes_24 (by decide) ?_
    exact u_loc [0, 1] rfl (J1 _ (by (try simp only [u_le, Decidable.not_not] at c_15); simp [-Int32.not_lt, -Int32.not_le, g_xl, f_lt, c_15]))
set_option maxHeartbeats 1000000 in
set_option maxRecDepth 100000 in
theorem c_X11_settles (l : Launch) (D : va_G) (G : w_G) (M : w_M) (Y : Nat) (s9 : Nat) (hY : L_mdl G (Y)) (hs : s9 < 8) : u_Mv l D G yX11_settles cX11_settles 3 none 0 0 [.ref (gP G Y), .int (nI s9)] M (fun M' => M' = g_s2 (g_s1 M Y s9) Y s9) := by
  refine u_bodyv (by decide +kernel) (Nat.le_of_ble_eq_true rfl) rfl (fun p e s m args below meth c A H0 Q C ret => ?_)
  have J2 : ∀ (M1 : w_M) (x : Int32), M1 = g_s1 M Y s9 → x = f_lt (iv M1 (Y + 20) s9 / 8) (iv M1 (Y + 18) s9) → 40 < iv M1 (Y + 20) s9 → u_S p l e (u_rm 0 0) s m args below meth c 3 D A H0 0 0 Q 89 [(0, .ref (gP G Y)), (1, .int (nI s9))] [.int x] G M1 := by
    intro M1 x hM hx h40
    subst hx
    refine u_istore_n C dX11_settles_89 (by decide) ?_
    refine u_aload_n C dX11_settles_90 rfl ?_
    refine u_getR (k2 := (Y + 18)) C gX11_settles_91 rfl (mdl_is hY) (mdl_f18 hY) ?_
    refine u_iload_n C dX11_settles_94 rfl ?_
    refine u_dup2 C dX11_settles_95 rfl rfl ?_
    refine u_ialdN (i := s9) C dX11_settles_96 (a8_is (mdl_p18 hY)) (a8_n (mdl_p18 hY)) (by omega) (by decide) ?_
    refine u_iload_n C dX11_settles_97 rfl ?_
    refine u_isub C dX11_settles_98 ?_
    refine u_iastN (i := s9) C dX11_settles_99 (a8_is (mdl_p18 hY)) (a8_n (mdl_p18 hY)) (by omega) (by decide) ?_
    refine u_aload_n C dX11_settles_100 rfl ?_
    refine u_getR (k2 := (Y + 19)) C gX11_settles_101 rfl (mdl_is hY) (mdl_f19 hY) ?_
    refine u_iload_n C dX11_settles_104 rfl ?_
    refine u_dup2 C dX11_settles_105 rfl rfl ?_
    refine u_ialdN (i := s9) C dX11_settles_106 (a8_is (mdl_p19 hY)) (a8_n (mdl_p19 hY)) (by omega) (by decide) ?_
    refine u_iload_n C dX11_settles_107 rfl ?_
    refine u_iadd C dX11_settles_108 ?_
    refine u_iastN (i := s9) C dX11_settles_109 (a8_is (mdl_p19 hY)) (a8_n (mdl_p19 hY)) (by omega) (by decide) ?_
    exact ret _ _  _ dX11_settles_110  (by skip; rw [← hM]; first | (simp [-Int32.not_lt, -Int32.not_le, g_s2, iv_wi, h40]; done) | (simp [-Int32.not_lt, -Int32.not_le, g_s2, iv_wi, u_le]))
  have J1 : ∀ M1 : w_M, M1 = g_s1 M Y s9 → u_S p l e (u_rm 0 0) s m args below meth c 3 D A H0 0 0 Q 42 [(0, .ref (gP G Y)), (1, .int (nI s9))] [] G M1 := by
    intro M1 hM
    refine u_aload_n C dX11_settles_42 rfl ?_
    refine u_getR (k2 := (Y + 20)) C gX11_settles_43 rfl (mdl_is hY) (mdl_f20 hY) ?_
    refine u_iload_n C dX11_settles_46 rfl ?_
    refine u_ialdN (i := s9) C dX11_settles_47 (a8_is (mdl_p20 hY)) (a8_n (mdl_p20 hY)) (by omega) (by decide) ?_
    refine u_bipush (v := 40) C dX11_settles_48 (by decide) ?_
    refine u_icmp_le (tgt := 110) C dX11_settles_50 (by decide) (fun c_50 => ?_) (fun c_50 => ?_)
    · exact ret _ _  _ dX11_settles_110  (by (try simp only [u_le, Decidable.not_not] at c_50); rw [← hM]; first | (simp [-Int32.not_lt, -Int32.not_le, g_s2, iv_wi, h40]; done) | (simp [-Int32.not_lt, -Int32.not_le, g_s2, iv_wi, c_50]))
    · refine u_aload_n C dX11_settles_53 rfl ?_
      refine u_getR (k2 := (Y + 20)) C gX11_settles_54 rfl (mdl_is hY) (mdl_f20 hY) ?_
      refine u_iload_n C dX11_settles_57 rfl ?_
      refine u_ialdN (i := s9) C dX11_settles_58 (a8_is (mdl_p20 hY)) (a8_n (mdl_p20 hY)) (by omega) (by decide) ?_
      refine u_bipush (v := 8) C dX11_settles_59 (by decide) ?_
      refine u_idiv C dX11_settles_61 (by decide) ?_
      refine u_aload_n C dX11_settles_62 rfl ?_
      refine u_getR (k2 := (Y + 18)) C gX11_settles_63 rfl (mdl_is hY) (mdl_f18 hY) ?_
      refine u_iload_n C dX11_settles_66 rfl ?_
      refine u_ialdN (i := s9) C dX11_settles_67 (a8_is (mdl_p18 hY)) (a8_n (mdl_p18 hY)) (by omega) (by decide) ?_
      refine u_icmp_ge (tgt := 83) C dX11_settles_68 (by decide) (fun c_68 => ?_) (fun c_68 => ?_)
      · refine u_aload_n C dX11_settles_83 rfl ?_
        refine u_getR (k2 := (Y + 18)) C gX11_settles_84 rfl (mdl_is hY) (mdl_f18 hY) ?_
        refine u_iload_n C dX11_settles_87 rfl ?_
        refine u_ialdN (i := s9) C dX11_settles_88 (a8_is (mdl_p18 hY)) (a8_n (mdl_p18 hY)) (by omega) (by decide) ?_
        exact u_loc [0, 1] rfl (J2 M1 _ hM (by (try simp only [u_le, Decidable.not_not] at c_50 c_68); simp [-Int32.not_lt, -Int32.not_le, f_lt, c_68]) (by (try simp only [u_le, Decidable.not_not] at c_50 c_68); exact c_50))
      · refine u_aload_n C dX11_settles_71 rfl ?_
        refine u_getR (k2 := (Y + 20)) C gX11_settles_72 rfl (mdl_is hY) (mdl_f20 hY) ?_
        refine u_iload_n C dX11_settles_75 rfl ?_
        refine u_ialdN (i := s9) C dX11_settles_76 (a8_is (mdl_p20 hY)) (a8_n (mdl_p20 hY)) (by omega) (by decide) ?_
        refine u_bipush (v := 8) C dX11_settles_77 (by decide) ?_
        refine u_idiv C dX11_settles_79 (by decide) ?_
        refine u_goto (tgt := 89) C dX11_settles_80 (by decide) ?_
        exact u_loc [0, 1] rfl (J2 M1 _ hM (by (try simp only [u_le, Decidable.not_not] at c_50 c_68); simp [-Int32.not_lt, -Int32.not_le, f_lt, c_68]) (by (try simp only [u_le, Decidable.not_not] at c_50 c_68); exact c_50))
  refine u_aload_n C dX11_settles_0 rfl ?_
  refine u_getR (k2 := (Y + 20)) C gX11_settles_1 rfl (mdl_is hY) (mdl_f20 hY) ?_
  refine u_iload_n C dX11_settles_4 rfl ?_
  refine u_ialdN (i := s9) C dX11_settles_5 (a8_is (mdl_p20 hY)) (a8_n (mdl_p20 hY)) (by omega) (by decide) ?_
  refine u_bipush (v := 10) C dX11_settles_6 (by decide) ?_
  refine u_icmp_ge (tgt := 42) C dX11_settles_8 (by decide) (fun c_8 => ?_) (fun c_8 => ?_)
  · exact u_loc [0, 1] rfl (J1 _ (by (try simp only [u_le, Decidable.not_not] at c_8); simp [-Int32.not_lt, -Int32.not_le, g_s1, iv_wi, u_le, c_8]))
  · refine u_aload_n C dX11_settles_11 rfl ?_
    refine u_getR (k2 := (Y + 19)) C gX11_settles_12 rfl (mdl_is hY) (mdl_f19 hY) ?_
    refine u_iload_n C dX11_settles_15 rfl ?_
    refine u_ialdN (i := s9) C dX11_settles_16 (a8_is (mdl_p19 hY)) (a8_n (mdl_p19 hY)) (by omega) (by decide) ?_
    refine u_iconst (v := 1) C dX11_settles_17 (by decide) ?_
    refine u_iadd C dX11_settles_18 ?_
    refine u_iconst (v := 2) C dX11_settles_19 (by decide) ?_
    refine u_idiv C dX11_settles_20 (by decide) ?_
    refine u_istore_n C dX11_settles_21 (by decide) ?_
    refine u_aload_n C dX11_settles_22 rfl ?_
    refine u_getR (k2 := (Y + 19)) C gX11_settles_23 rfl (mdl_is hY) (mdl_f19 hY) ?_
    refine u_iload_n C dX11_settles_26 rfl ?_
    refine u_dup2 C dX11_settles_27 rfl rfl ?_
    refine u_ialdN (i := s9) C dX11_settles_28 (a8_is (mdl_p19 hY)) (a8_n (mdl_p19 hY)) (by omega) (by decide) ?_
    refine u_iload_n C dX11_settles_29 rfl ?_
    refine u_isub C dX11_settles_30 ?_
    refine u_iastN (i := s9) C dX11_settles_31 (a8_is (mdl_p19 hY)) (a8_n (mdl_p19 hY)) (by omega) (by decide) ?_
    refine u_aload_n C dX11_settles_32 rfl ?_
    refine u_getR (k2 := (Y + 18)) C gX11_settles_33 rfl (mdl_is hY) (mdl_f18 hY) ?_
    refine u_iload_n C dX11_settles_36 rfl ?_
    refine u_dup2 C dX11_settles_37 rfl rfl ?_
    refine u_ialdN (i := s9) C dX11_settles_38 (a8_is (mdl_p18 hY)) (a8_n (mdl_p18 hY)) (by omega) (by decide) ?_
    refine u_iload_n C dX11_settles_39 rfl ?_
    refine u_iadd C dX11_settles_40 ?_
    refine u_iastN (i := s9) C dX11_settles_41 (a8_is (mdl_p18 hY)) (a8_n (mdl_p18 hY)) (by omega) (by decide) ?_
    exact u_loc [0, 1] rfl (J1 _ (by (try simp only [u_le, Decidable.not_not] at c_8); simp [-Int32.not_lt, -Int32.not_le, g_s1, iv_wi, u_le, c_8]))
set_option maxHeartbeats 1000000 in
set_option maxRecDepth 100000 in
theorem c_X11_heightOf (l : Launch) (D : va_G) (G : w_G) (M : w_M) (Y : Nat) (i : Nat) (h : Int32) (hY : L_mdl G (Y)) (hi : i < 6) (hp : ¬ iv M (Y + 4) (4 * i) = 0) (hr : ¬ iv M (Y + 4) (4 * i + 1) = 0) (hpr : ¬ iv M (Y + 4) (4 * i) - iv M (Y + 4) (4 * i + 1) = 0) : u_Mi l D G yX11_heightOf cX11_heightOf 7 (some .int) 0 0 [.ref (gP G Y), .int (nI i), .int h] M (fun r M' => r = f_hg (iv M (Y + 4) (4 * i)) (iv M (Y + 4) (4 * i + 1)) (iv M (Y + 4) (4 * i + 2)) (iv M (Y + 4) (4 * i + 3)) h ∧ M' = M) := by
  refine u_bodyi (by decide +kernel) (Nat.le_of_ble_eq_true rfl) rfl (fun p e s m args below meth c A H0 Q C ret => ?_)
  refine u_aload_n C dX11_heightOf_0 rfl ?_
  refine u_getR (k2 := (Y + 4)) C gX11_heightOf_1 rfl (mdl_is hY) (mdl_f4 hY) ?_
  refine u_iconst (v := (nI 4)) C dX11_heightOf_4 (by decide) ?_
  refine u_iload_n C dX11_heightOf_5 rfl ?_
  refine u_imul C dX11_heightOf_6 ?_
  rw [pk_mul (4) (i)]
  refine u_ialdN (i := 4 * i) C dX11_heightOf_7 (a24_is (mdl_p4 hY)) (a24_n (mdl_p4 hY)) (by omega) (by decide) ?_
  refine u_istore_n C dX11_heightOf_8 (by decide) ?_
  refine u_aload_n C dX11_heightOf_9 rfl ?_
  refine u_getR (k2 := (Y + 4)) C gX11_heightOf_10 rfl (mdl_is hY) (mdl_f4 hY) ?_
  refine u_iconst (v := (nI 4)) C dX11_heightOf_13 (by decide) ?_
  refine u_iload_n C dX11_heightOf_14 rfl ?_
  refine u_imul C dX11_heightOf_15 ?_
  rw [pk_mul (4) (i)]
  refine u_iconst (v := (nI 1)) C dX11_heightOf_16 (by decide) ?_
  refine u_iadd C dX11_heightOf_17 ?_
  rw [nI_add (4 * i) (1)]
  refine u_ialdN (i := (4 * i) + 1) C dX11_heightOf_18 (a24_is (mdl_p4 hY)) (a24_n (mdl_p4 hY)) (by omega) (by decide) ?_
  refine u_istore C dX11_heightOf_19 (by decide) ?_
  refine u_aload_n C dX11_heightOf_21 rfl ?_
  refine u_getR (k2 := (Y + 4)) C gX11_heightOf_22 rfl (mdl_is hY) (mdl_f4 hY) ?_
  refine u_iconst (v := (nI 4)) C dX11_heightOf_25 (by decide) ?_
  refine u_iload_n C dX11_heightOf_26 rfl ?_
  refine u_imul C dX11_heightOf_27 ?_
  rw [pk_mul (4) (i)]
  refine u_iconst (v := (nI 2)) C dX11_heightOf_28 (by decide) ?_
  refine u_iadd C dX11_heightOf_29 ?_
  rw [nI_add (4 * i) (2)]
  refine u_ialdN (i := (4 * i) + 2) C dX11_heightOf_30 (a24_is (mdl_p4 hY)) (a24_n (mdl_p4 hY)) (by omega) (by decide) ?_
  refine u_istore C dX11_heightOf_31 (by decide) ?_
  refine u_iload_n C dX11_heightOf_33 rfl ?_
  refine u_aload_n C dX11_heightOf_34 rfl ?_
  refine u_getR (k2 := (Y + 4)) C gX11_heightOf_35 rfl (mdl_is hY) (mdl_f4 hY) ?_
  refine u_iconst (v := (nI 4)) C dX11_heightOf_38 (by decide) ?_
  refine u_iload_n C dX11_heightOf_39 rfl ?_
  refine u_imul C dX11_heightOf_40 ?_
  rw [pk_mul (4) (i)]
  refine u_iconst (v := (nI 3)) C dX11_heightOf_41 (by decide) ?_
  refine u_iadd C dX11_heightOf_42 ?_
  rw [nI_add (4 * i) (3)]
  refine u_ialdN (i := (4 * i) + 3) C dX11_heightOf_43 (a24_is (mdl_p4 hY)) (a24_n (mdl_p4 hY)) (by omega) (by decide) ?_
  refine u_iadd C dX11_heightOf_44 ?_
  refine u_iload_n C dX11_heightOf_45 rfl ?_
  refine u_irem C dX11_heightOf_46 hp ?_
  refine u_istore C dX11_heightOf_47 (by decide) ?_
  refine u_iload C dX11_heightOf_49 rfl ?_
  refine u_iload C dX11_heightOf_51 rfl ?_
  refine u_icmp_ge (tgt := 67) C dX11_heightOf_53 (by decide) (fun c_53 => ?_) (fun c_53 => ?_)
  · refine u_iload C dX11_heightOf_67 rfl ?_
    refine u_iload_n C dX11_heightOf_69 rfl ?_
    refine u_iload C dX11_heightOf_70 rfl ?_
    refine u_isub C dX11_heightOf_72 ?_
    refine u_imul C dX11_heightOf_73 ?_
    refine u_iload_n C dX11_heightOf_74 rfl ?_
    refine u_iload C dX11_heightOf_75 rfl ?_
    refine u_isub C dX11_heightOf_77 ?_
    refine u_idiv C dX11_heightOf_78 hpr ?_
    exact ret _ _ _ _ dX11_heightOf_79  (by (try simp only [u_le, Decidable.not_not] at c_53); refine ⟨?_, ?_⟩ <;> simp [-Int32.not_lt, -Int32.not_le, iv_wi, iv_wj, jv_wi, jv_wj, u_le, f_hg, c_53])
  · refine u_iload C dX11_heightOf_56 rfl ?_
    refine u_iload C dX11_heightOf_58 rfl ?_
    refine u_imul C dX11_heightOf_60 ?_
    refine u_iload C dX11_heightOf_61 rfl ?_
    refine u_idiv C dX11_heightOf_63 hr ?_
    refine u_goto (tgt := 79) C dX11_heightOf_64 (by decide) ?_
    exact ret _ _ _ _ dX11_heightOf_79  (by (try simp only [u_le, Decidable.not_not] at c_53); refine ⟨?_, ?_⟩ <;> simp [-Int32.not_lt, -Int32.not_le, iv_wi, iv_wj, jv_wi, jv_wj, u_le, f_hg, c_53])
set_option maxHeartbeats 1000000 in
set_option maxRecDepth 100000 in
theorem c_X11_seaOf (l : Launch) (D : va_G) (G : w_G) (M : w_M) (Y : Nat) (t : Nat) (hY : L_mdl G (Y)) (ok : okS M Y) (ht : t < 2200) : u_Mi l D G yX11_seaOf cX11_seaOf 4 (some .int) 1 26 [.ref (gP G Y), .int (nI t)] M (fun r M' => r = g_sea M Y t ∧ M' = M) := by
  obtain ⟨o1, o3, o5, oT⟩ := id ok
  obtain ⟨o1a, o1b⟩ := cB_le o1 (by decide)
  obtain ⟨o3a, o3b⟩ := cB_le o3 (by decide)
  obtain ⟨o5a, o5b⟩ := cB_le o5 (by decide)
  refine u_bodyi (by decide +kernel) (Nat.le_of_ble_eq_true rfl) rfl (fun p e s m args below meth c A H0 Q C ret => ?_)
  have loop2 : ∀ (d j : Nat) (x2 x3 : Int32), cN (iv M Y 1) ≤ t → j ≤ cN (iv M Y 5) → cN (iv M Y 5) - j < d → x3 = nI j → x2 = g_s M Y (nI t) (cN (iv M Y 3)) j → u_S p l e (u_rm 1 26) s m args below meth c 4 D A H0 0 0 Q 47 [(0, .ref (gP G Y)), (1, .int (nI t)), (2, .int x2), (3, .int x3)] [] G M := by
    intro d
    induction d with
    | zero => intro j x2 x3 hge hj hd; omega
    | succ d ih =>
      intro j x2 x3 hge hj hd h3 h2
      subst h3
      refine u_iload_n C dX11_seaOf_47 rfl ?_
      refine u_aload_n C dX11_seaOf_48 rfl ?_
      refine u_getIv (x := nI (cN (iv M Y 5))) C gX11_seaOf_49 rfl (mdl_is hY) o5a ?_
      refine u_icmp_ge (tgt := 103) C dX11_seaOf_52 (by decide) (fun c_52 => ?_) (fun c_52 => ?_)
      · obtain rfl : j = cN (iv M Y 5) := by have := u_gei c_52 (by omega) (by omega); omega
        refine u_iload_n C dX11_seaOf_103 rfl ?_
        exact ret _ _ _ _ dX11_seaOf_104  (by rw [g_sea, if_neg (by omega), h2]; exact ⟨rfl, rfl⟩)
      · have hj2 : j < cN (iv M Y 5) := u_lt c_52 (by omega)
        refine u_iload_n C dX11_seaOf_55 rfl ?_
        refine u_iload_n C dX11_seaOf_56 rfl ?_
        refine u_aload_n C dX11_seaOf_57 rfl ?_
        refine u_getR (k2 := (Y + 6)) C gX11_seaOf_58 rfl (mdl_is hY) (mdl_f6 hY) ?_
        refine u_iconst (v := (nI 3)) C dX11_seaOf_61 (by decide) ?_
        refine u_iload_n C dX11_seaOf_62 rfl ?_
        refine u_imul C dX11_seaOf_63 ?_
        rw [pk_mul (3) (j)]
        refine u_ialdN (i := 3 * j) C dX11_seaOf_64 (a60_is (mdl_p6 hY)) (a60_n (mdl_p6 hY)) (by omega) (by decide) ?_
        refine u_aload_n C dX11_seaOf_65 rfl ?_
        refine u_getR (k2 := (Y + 6)) C gX11_seaOf_66 rfl (mdl_is hY) (mdl_f6 hY) ?_
        refine u_iconst (v := (nI 3)) C dX11_seaOf_69 (by decide) ?_
        refine u_iload_n C dX11_seaOf_70 rfl ?_
        refine u_imul C dX11_seaOf_71 ?_
        rw [pk_mul (3) (j)]
        refine u_iconst (v := (nI 1)) C dX11_seaOf_72 (by decide) ?_
        refine u_iadd C dX11_seaOf_73 ?_
        rw [nI_add (3 * j) (1)]
        refine u_ialdN (i := (3 * j) + 1) C dX11_seaOf_74 (a60_is (mdl_p6 hY)) (a60_n (mdl_p6 hY)) (by omega) (by decide) ?_
        refine u_calliS3 C es_X11_isIn dX11_seaOf_75 ml_RX11_109 (c_X11_isIn l D G _ _ _ _  ) (by decide) (Nat.le_of_ble_eq_true rfl) (fun r_75 M_75 q_75 => ?_)
        obtain ⟨rfl, e_75⟩ := q_75
        subst M_75
        refine u_if_eq (tgt := 94) C dX11_seaOf_78 (by decide) (fun c_78 => ?_) (fun c_78 => ?_)
        · refine u_iconst (v := 0) C dX11_seaOf_94 (by decide) ?_
          refine u_iadd C dX11_seaOf_95 ?_
          refine u_istore_n C dX11_seaOf_96 (by decide) ?_
          refine u_iinc C dX11_seaOf_97 (by decide) rfl ?_
          refine u_goto (tgt := 47) C dX11_seaOf_100 (by decide) ?_
          exact u_loc [0, 1, 2, 3] rfl (ih (j + 1) _ _ hge (by omega) (by omega) (nI_1 j) (by rw [h2]; simp [g_s, c_52, c_78]))
        · refine u_aload_n C dX11_seaOf_81 rfl ?_
          refine u_getR (k2 := (Y + 6)) C gX11_seaOf_82 rfl (mdl_is hY) (mdl_f6 hY) ?_
          refine u_iconst (v := (nI 3)) C dX11_seaOf_85 (by decide) ?_
          refine u_iload_n C dX11_seaOf_86 rfl ?_
          refine u_imul C dX11_seaOf_87 ?_
          rw [pk_mul (3) (j)]
          refine u_iconst (v := (nI 2)) C dX11_seaOf_88 (by decide) ?_
          refine u_iadd C dX11_seaOf_89 ?_
          rw [nI_add (3 * j) (2)]
          refine u_ialdN (i := (3 * j) + 2) C dX11_seaOf_90 (a60_is (mdl_p6 hY)) (a60_n (mdl_p6 hY)) (by omega) (by decide) ?_
          refine u_goto (tgt := 95) C dX11_seaOf_91 (by decide) ?_
          refine u_iadd C dX11_seaOf_95 ?_
          refine u_istore_n C dX11_seaOf_96 (by decide) ?_
          refine u_iinc C dX11_seaOf_97 (by decide) rfl ?_
          refine u_goto (tgt := 47) C dX11_seaOf_100 (by decide) ?_
          exact u_loc [0, 1, 2, 3] rfl (ih (j + 1) _ _ hge (by omega) (by omega) (nI_1 j) (by rw [h2]; simp [g_s, c_52, c_78]))
  have loop1 : ∀ (d i : Nat) (x2 x3 : Int32), cN (iv M Y 1) ≤ t → i ≤ cN (iv M Y 3) → cN (iv M Y 3) - i < d → x3 = nI i → x2 = g_t M Y (nI t) i → u_S p l e (u_rm 1 26) s m args below meth c 4 D A H0 0 0 Q 22 [(0, .ref (gP G Y)), (1, .int (nI t)), (2, .int x2), (3, .int x3)] [] G M := by
    intro d
    induction d with
    | zero => intro i x2 x3 hge hj hd; omega
    | succ d ih =>
      intro i x2 x3 hge hj hd h3 h2
      subst h3
      refine u_iload_n C dX11_seaOf_22 rfl ?_
      refine u_aload_n C dX11_seaOf_23 rfl ?_
      refine u_getIv (x := nI (cN (iv M Y 3))) C gX11_seaOf_24 rfl (mdl_is hY) o3a ?_
      refine u_icmp_ge (tgt := 45) C dX11_seaOf_27 (by decide) (fun c_27 => ?_) (fun c_27 => ?_)
      · obtain rfl : i = cN (iv M Y 3) := by have := u_gei c_27 (by omega) (by omega); omega
        refine u_iconst (v := 0) C dX11_seaOf_45 (by decide) ?_
        refine u_istore_n C dX11_seaOf_46 (by decide) ?_
        exact u_loc [0, 1, 2, 3] rfl (loop2 (cN (iv M Y 5) + 1) 0 _ _ hge (by omega) (by omega) nI_0.symm h2)
      · have hi : i < cN (iv M Y 3) := u_lt c_27 (by omega)
        refine u_iload_n C dX11_seaOf_30 rfl ?_
        refine u_aload_n C dX11_seaOf_31 rfl ?_
        refine u_iload_n C dX11_seaOf_32 rfl ?_
        refine u_iload_n C dX11_seaOf_33 rfl ?_
        refine u_calliV2 C ev_X11_heightOf dX11_seaOf_34 ml_RX11_135 (mdl_is hY) rfl (by decide) (c_X11_heightOf l D G _ _ _ _ hY (by omega) (oT i hi).1 (oT i hi).2.1 (oT i hi).2.2) (by decide) (Nat.le_of_ble_eq_true rfl) (fun r_34 M_34 q_34 => ?_)
        obtain ⟨rfl, e_34⟩ := q_34
        subst M_34
        refine u_iadd C dX11_seaOf_37 ?_
        refine u_istore_n C dX11_seaOf_38 (by decide) ?_
        refine u_iinc C dX11_seaOf_39 (by decide) rfl ?_
        refine u_goto (tgt := 22) C dX11_seaOf_42 (by decide) ?_
        exact u_loc [0, 1, 2, 3] rfl (ih (i + 1) _ _ hge (by omega) (by omega) (nI_1 i) (by rw [h2]; rfl))
  refine u_iload_n C dX11_seaOf_0 rfl ?_
  refine u_aload_n C dX11_seaOf_1 rfl ?_
  refine u_getIv (x := nI (cN (iv M Y 1))) C gX11_seaOf_2 rfl (mdl_is hY) o1a ?_
  refine u_icmp_ge (tgt := 15) C dX11_seaOf_5 (by decide) (fun c_5 => ?_) (fun c_5 => ?_)
  · refine u_aload_n C dX11_seaOf_15 rfl ?_
    refine u_getI C gX11_seaOf_16 rfl (mdl_is hY) ?_
    refine u_istore_n C dX11_seaOf_19 (by decide) ?_
    refine u_iconst (v := 0) C dX11_seaOf_20 (by decide) ?_
    refine u_istore_n C dX11_seaOf_21 (by decide) ?_
    exact u_loc [0, 1, 2, 3] rfl (loop1 (cN (iv M Y 3) + 1) 0 _ _ (u_gei c_5 (by omega) (by omega)) (by omega) (by omega) nI_0.symm rfl)
  · have hlt : t < cN (iv M Y 1) := u_lt c_5 (by omega)
    refine u_aload_n C dX11_seaOf_8 rfl ?_
    refine u_getR (k2 := (Y + 7)) C gX11_seaOf_9 rfl (mdl_is hY) (mdl_f7 hY) ?_
    refine u_iload_n C dX11_seaOf_12 rfl ?_
    refine u_ialdN (i := t) C dX11_seaOf_13 (a1001_is (mdl_p7 hY)) (a1001_n (mdl_p7 hY)) (by omega) (by decide) ?_
    exact ret _ _ _ _ dX11_seaOf_14  (by rw [g_sea, if_pos hlt]; exact ⟨rfl, rfl⟩)
set_option maxHeartbeats 1000000 in
set_option maxRecDepth 100000 in
theorem c_X11_neighbours (l : Launch) (D : va_G) (G : w_G) (M : w_M) (Y : Nat) (k : Nat) (hY : L_mdl G (Y)) (hk : k < 7) (hz : ¬ iv M (Y + 17) k = 0) (hz2 : ¬ iv M (Y + 17) (k + 1) = 0) : u_Mv l D G yX11_neighbours cX11_neighbours 7 none 3 70 [.ref (gP G Y), .int (nI k)] M (fun M' => M' = g_n2 (g_n1 M Y k) Y k) := by
  refine u_bodyv (by decide +kernel) (Nat.le_of_ble_eq_true rfl) rfl (fun p e s m args below meth c A H0 Q C ret => ?_)
  have J5 : ∀ M2 : w_M, M2 = g_n1 M Y k → u_S p l e (u_rm 3 70) s m args below meth c 7 D A H0 0 0 Q 166 [(0, .ref (gP G Y)), (1, .int (nI k)), (2, .int (nI (k + 1)))] [] G M2 := by
    intro M2 hM2
    refine u_aload_n C dX11_neighbours_166 rfl ?_
    refine u_iconst (v := (nI 1)) C dX11_neighbours_167 (by decide) ?_
    refine u_iload_n C dX11_neighbours_168 rfl ?_
    refine u_calliV2 C ev_X11_salinity dX11_neighbours_169 ml_RX11_182 (mdl_is hY) rfl (by decide) (c_X11_salinity l D G _ _ _ _ hY (by decide) (by omega)) (by decide) (Nat.le_of_ble_eq_true rfl) (fun r_169 M_169 q_169 => ?_)
    obtain ⟨rfl, e_169⟩ := q_169
    subst M_169
    refine u_aload_n C dX11_neighbours_172 rfl ?_
    refine u_iconst (v := (nI 1)) C dX11_neighbours_173 (by decide) ?_
    refine u_iload_n C dX11_neighbours_174 rfl ?_
    refine u_calliV2 C ev_X11_salinity dX11_neighbours_175 ml_RX11_182 (mdl_is hY) rfl (by decide) (c_X11_salinity l D G _ _ _ _ hY (by decide) (by omega)) (by decide) (Nat.le_of_ble_eq_true rfl) (fun r_175 M_175 q_175 => ?_)
    obtain ⟨rfl, e_175⟩ := q_175
    subst M_175
    refine u_icmp_le (tgt := 240) C dX11_neighbours_178 (by decide) (fun c_178 => ?_) (fun c_178 => ?_)
    · exact ret _ _  _ dX11_neighbours_240  (by (try simp only [u_le, Decidable.not_not] at c_178); rw [← hM2]; unfold g_n2 f_lt; first | rw [if_pos c_178, if_pos c_196] | rw [if_pos c_178, if_neg c_196] | rw [if_neg c_178])
    · refine u_aload_n C dX11_neighbours_181 rfl ?_
      refine u_getR (k2 := (Y + 22)) C gX11_neighbours_182 rfl (mdl_is hY) (mdl_f22 hY) ?_
      refine u_bipush (v := (nI 8)) C dX11_neighbours_185 (by decide) ?_
      refine u_iload_n C dX11_neighbours_187 rfl ?_
      refine u_iadd C dX11_neighbours_188 ?_
      rw [nI_add (8) (k)]
      refine u_ialdN (i := 8 + k) C dX11_neighbours_189 (a16_is (mdl_p22 hY)) (a16_n (mdl_p22 hY)) (by omega) (by decide) ?_
      refine u_aload_n C dX11_neighbours_190 rfl ?_
      refine u_getR (k2 := (Y + 22)) C gX11_neighbours_191 rfl (mdl_is hY) (mdl_f22 hY) ?_
      refine u_iload_n C dX11_neighbours_194 rfl ?_
      refine u_ialdN (i := k + 1) C dX11_neighbours_195 (a16_is (mdl_p22 hY)) (a16_n (mdl_p22 hY)) (by omega) (by decide) ?_
      refine u_icmp_ge (tgt := 211) C dX11_neighbours_196 (by decide) (fun c_196 => ?_) (fun c_196 => ?_)
      · refine u_aload_n C dX11_neighbours_211 rfl ?_
        refine u_getR (k2 := (Y + 22)) C gX11_neighbours_212 rfl (mdl_is hY) (mdl_f22 hY) ?_
        refine u_iload_n C dX11_neighbours_215 rfl ?_
        refine u_ialdN (i := k + 1) C dX11_neighbours_216 (a16_is (mdl_p22 hY)) (a16_n (mdl_p22 hY)) (by omega) (by decide) ?_
        refine u_bipush (v := 8) C dX11_neighbours_217 (by decide) ?_
        refine u_idiv C dX11_neighbours_219 (by decide) ?_
        refine u_istore C dX11_neighbours_220 (by decide) ?_
        refine u_aload_n C dX11_neighbours_222 rfl ?_
        refine u_iconst (v := (nI 1)) C dX11_neighbours_223 (by decide) ?_
        refine u_iload_n C dX11_neighbours_224 rfl ?_
        refine u_iload_n C dX11_neighbours_225 rfl ?_
        refine u_iload C dX11_neighbours_226 rfl ?_
        refine u_callvV4 C ev_X11_flows dX11_neighbours_228 ml_RX11_178 (mdl_is hY) rfl (by decide) (c_X11_flows l D G _ _ _ _ _ _ hY (by decide) (by omega) (by omega)) (by decide) (Nat.le_of_ble_eq_true rfl) (fun M_228 q_228 => ?_)
        obtain rfl := q_228
        refine u_aload_n C dX11_neighbours_231 rfl ?_
        refine u_iconst (v := (nI 0)) C dX11_neighbours_232 (by decide) ?_
        refine u_iload_n C dX11_neighbours_233 rfl ?_
        refine u_iload_n C dX11_neighbours_234 rfl ?_
        refine u_iload C dX11_neighbours_235 rfl ?_
        refine u_callvV4 C ev_X11_flows dX11_neighbours_237 ml_RX11_178 (mdl_is hY) rfl (by decide) (c_X11_flows l D G _ _ _ _ _ _ hY (by decide) (by omega) (by omega)) (by decide) (Nat.le_of_ble_eq_true rfl) (fun M_237 q_237 => ?_)
        obtain rfl := q_237
        exact ret _ _  _ dX11_neighbours_240  (by (try simp only [u_le, Decidable.not_not] at c_178 c_196); rw [← hM2]; unfold g_n2 f_lt; first | rw [if_pos c_178, if_pos c_196] | rw [if_pos c_178, if_neg c_196] | rw [if_neg c_178])
      · refine u_aload_n C dX11_neighbours_199 rfl ?_
        refine u_getR (k2 := (Y + 22)) C gX11_neighbours_200 rfl (mdl_is hY) (mdl_f22 hY) ?_
        refine u_bipush (v := (nI 8)) C dX11_neighbours_203 (by decide) ?_
        refine u_iload_n C dX11_neighbours_205 rfl ?_
        refine u_iadd C dX11_neighbours_206 ?_
        rw [nI_add (8) (k)]
        refine u_ialdN (i := 8 + k) C dX11_neighbours_207 (a16_is (mdl_p22 hY)) (a16_n (mdl_p22 hY)) (by omega) (by decide) ?_
        refine u_goto (tgt := 217) C dX11_neighbours_208 (by decide) ?_
        refine u_bipush (v := 8) C dX11_neighbours_217 (by decide) ?_
        refine u_idiv C dX11_neighbours_219 (by decide) ?_
        refine u_istore C dX11_neighbours_220 (by decide) ?_
        refine u_aload_n C dX11_neighbours_222 rfl ?_
        refine u_iconst (v := (nI 1)) C dX11_neighbours_223 (by decide) ?_
        refine u_iload_n C dX11_neighbours_224 rfl ?_
        refine u_iload_n C dX11_neighbours_225 rfl ?_
        refine u_iload C dX11_neighbours_226 rfl ?_
        refine u_callvV4 C ev_X11_flows dX11_neighbours_228 ml_RX11_178 (mdl_is hY) rfl (by decide) (c_X11_flows l D G _ _ _ _ _ _ hY (by decide) (by omega) (by omega)) (by decide) (Nat.le_of_ble_eq_true rfl) (fun M_228 q_228 => ?_)
        obtain rfl := q_228
        refine u_aload_n C dX11_neighbours_231 rfl ?_
        refine u_iconst (v := (nI 0)) C dX11_neighbours_232 (by decide) ?_
        refine u_iload_n C dX11_neighbours_233 rfl ?_
        refine u_iload_n C dX11_neighbours_234 rfl ?_
        refine u_iload C dX11_neighbours_235 rfl ?_
        refine u_callvV4 C ev_X11_flows dX11_neighbours_237 ml_RX11_178 (mdl_is hY) rfl (by decide) (c_X11_flows l D G _ _ _ _ _ _ hY (by decide) (by omega) (by omega)) (by decide) (Nat.le_of_ble_eq_true rfl) (fun M_237 q_237 => ?_)
        obtain rfl := q_237
        exact ret _ _  _ dX11_neighbours_240  (by (try simp only [u_le, Decidable.not_not] at c_178 c_196); rw [← hM2]; unfold g_n2 f_lt; first | rw [if_pos c_178, if_pos c_196] | rw [if_pos c_178, if_neg c_196] | rw [if_neg c_178])
  have J3 : ∀ (M1 : w_M) (f : Int32), g_n1 M Y k = g_nr M1 Y k f → u_S p l e (u_rm 3 70) s m args below meth c 7 D A H0 0 0 Q 144 [(0, .ref (gP G Y)), (1, .int (nI k)), (2, .int (nI (k + 1))), (5, .int f)] [] G M1 := by
    intro M1 f hM
    refine u_aload_n C dX11_neighbours_144 rfl ?_
    refine u_getR (k2 := (Y + 20)) C gX11_neighbours_145 rfl (mdl_is hY) (mdl_f20 hY) ?_
    refine u_iload_n C dX11_neighbours_148 rfl ?_
    refine u_dup2 C dX11_neighbours_149 rfl rfl ?_
    refine u_ialdN (i := k) C dX11_neighbours_150 (a8_is (mdl_p20 hY)) (a8_n (mdl_p20 hY)) (by omega) (by decide) ?_
    refine u_iload C dX11_neighbours_151 rfl ?_
    refine u_iadd C dX11_neighbours_153 ?_
    refine u_iastN (i := k) C dX11_neighbours_154 (a8_is (mdl_p20 hY)) (a8_n (mdl_p20 hY)) (by omega) (by decide) ?_
    refine u_aload_n C dX11_neighbours_155 rfl ?_
    refine u_getR (k2 := (Y + 20)) C gX11_neighbours_156 rfl (mdl_is hY) (mdl_f20 hY) ?_
    refine u_iload_n C dX11_neighbours_159 rfl ?_
    refine u_dup2 C dX11_neighbours_160 rfl rfl ?_
    refine u_ialdN (i := k + 1) C dX11_neighbours_161 (a8_is (mdl_p20 hY)) (a8_n (mdl_p20 hY)) (by omega) (by decide) ?_
    refine u_iload C dX11_neighbours_162 rfl ?_
    refine u_iadd C dX11_neighbours_164 ?_
    refine u_iastN (i := k + 1) C dX11_neighbours_165 (a8_is (mdl_p20 hY)) (a8_n (mdl_p20 hY)) (by omega) (by decide) ?_
    exact u_loc [0, 1, 2] rfl (J5 _ hM.symm)
  have J1 : ∀ x : Int32, x = g_na M Y k → u_S p l e (u_rm 3 70) s m args below meth c 7 D A H0 0 0 Q 46 [(0, .ref (gP G Y)), (1, .int (nI k)), (2, .int (nI (k + 1))), (3, .int (g_lev M Y k - g_lev M Y (k + 1)))] [.int x] G M := by
    intro x hx
    subst hx
    refine u_istore C dX11_neighbours_46 (by decide) ?_
    refine u_iload_n C dX11_neighbours_48 rfl ?_
    refine u_if_le (tgt := 56) C dX11_neighbours_49 (by decide) (fun c_49 => ?_) (fun c_49 => ?_)
    · refine u_iload_n C dX11_neighbours_56 rfl ?_
      refine u_ineg C dX11_neighbours_57 ?_
      refine u_iload C dX11_neighbours_58 rfl ?_
      refine u_imul C dX11_neighbours_60 ?_
      refine u_iconst (v := 4) C dX11_neighbours_61 (by decide) ?_
      refine u_idiv C dX11_neighbours_62 (by decide) ?_
      refine u_istore C dX11_neighbours_63 (by decide) ?_
      refine u_iload_n C dX11_neighbours_65 rfl ?_
      refine u_if_le (tgt := 111) C dX11_neighbours_66 (by decide) (fun c_66 => ?_) (fun c_66 => ?_)
      · refine u_iload C dX11_neighbours_111 rfl ?_
        refine u_aload_n C dX11_neighbours_113 rfl ?_
        refine u_getR (k2 := (Y + 22)) C gX11_neighbours_114 rfl (mdl_is hY) (mdl_f22 hY) ?_
        refine u_iload_n C dX11_neighbours_117 rfl ?_
        refine u_ialdN (i := k + 1) C dX11_neighbours_118 (a16_is (mdl_p22 hY)) (a16_n (mdl_p22 hY)) (by omega) (by decide) ?_
        refine u_icmp_ge (tgt := 127) C dX11_neighbours_119 (by decide) (fun c_119 => ?_) (fun c_119 => ?_)
        · refine u_aload_n C dX11_neighbours_127 rfl ?_
          refine u_getR (k2 := (Y + 22)) C gX11_neighbours_128 rfl (mdl_is hY) (mdl_f22 hY) ?_
          refine u_iload_n C dX11_neighbours_131 rfl ?_
          refine u_ialdN (i := k + 1) C dX11_neighbours_132 (a16_is (mdl_p22 hY)) (a16_n (mdl_p22 hY)) (by omega) (by decide) ?_
          refine u_istore C dX11_neighbours_133 (by decide) ?_
          refine u_aload_n C dX11_neighbours_135 rfl ?_
          refine u_iconst (v := (nI 0)) C dX11_neighbours_136 (by decide) ?_
          refine u_iload_n C dX11_neighbours_137 rfl ?_
          refine u_iload_n C dX11_neighbours_138 rfl ?_
          refine u_iload C dX11_neighbours_139 rfl ?_
          refine u_callvV4 C ev_X11_flows dX11_neighbours_141 ml_RX11_178 (mdl_is hY) rfl (by decide) (c_X11_flows l D G _ _ _ _ _ _ hY (by decide) (by omega) (by omega)) (by decide) (Nat.le_of_ble_eq_true rfl) (fun M_141 q_141 => ?_)
          obtain rfl := q_141
          exact u_loc [0, 1, 2, 5] rfl (J3 _ _ (by (try simp only [u_le, Decidable.not_not] at c_49 c_66 c_119); unfold g_n1 g_nd f_lt; first | rw [if_pos c_49, if_pos c_80] | rw [if_pos c_49, if_neg c_80] | rw [if_neg c_49, if_pos c_119] | rw [if_neg c_49, if_neg c_119]))
        · refine u_iload C dX11_neighbours_122 rfl ?_
          refine u_goto (tgt := 133) C dX11_neighbours_124 (by decide) ?_
          refine u_istore C dX11_neighbours_133 (by decide) ?_
          refine u_aload_n C dX11_neighbours_135 rfl ?_
          refine u_iconst (v := (nI 0)) C dX11_neighbours_136 (by decide) ?_
          refine u_iload_n C dX11_neighbours_137 rfl ?_
          refine u_iload_n C dX11_neighbours_138 rfl ?_
          refine u_iload C dX11_neighbours_139 rfl ?_
          refine u_callvV4 C ev_X11_flows dX11_neighbours_141 ml_RX11_178 (mdl_is hY) rfl (by decide) (c_X11_flows l D G _ _ _ _ _ _ hY (by decide) (by omega) (by omega)) (by decide) (Nat.le_of_ble_eq_true rfl) (fun M_141 q_141 => ?_)
          obtain rfl := q_141
          exact u_loc [0, 1, 2, 5] rfl (J3 _ _ (by (try simp only [u_le, Decidable.not_not] at c_49 c_66 c_119); unfold g_n1 g_nd f_lt; first | rw [if_pos c_49, if_pos c_80] | rw [if_pos c_49, if_neg c_80] | rw [if_neg c_49, if_pos c_119] | rw [if_neg c_49, if_neg c_119]))
      · exact absurd c_49 c_66
    · refine u_iload_n C dX11_neighbours_52 rfl ?_
      refine u_goto (tgt := 58) C dX11_neighbours_53 (by decide) ?_
      refine u_iload C dX11_neighbours_58 rfl ?_
      refine u_imul C dX11_neighbours_60 ?_
      refine u_iconst (v := 4) C dX11_neighbours_61 (by decide) ?_
      refine u_idiv C dX11_neighbours_62 (by decide) ?_
      refine u_istore C dX11_neighbours_63 (by decide) ?_
      refine u_iload_n C dX11_neighbours_65 rfl ?_
      refine u_if_le (tgt := 111) C dX11_neighbours_66 (by decide) (fun c_66 => ?_) (fun c_66 => ?_)
      · exact absurd c_66 c_49
      · refine u_iload C dX11_neighbours_69 rfl ?_
        refine u_aload_n C dX11_neighbours_71 rfl ?_
        refine u_getR (k2 := (Y + 22)) C gX11_neighbours_72 rfl (mdl_is hY) (mdl_f22 hY) ?_
        refine u_bipush (v := (nI 8)) C dX11_neighbours_75 (by decide) ?_
        refine u_iload_n C dX11_neighbours_77 rfl ?_
        refine u_iadd C dX11_neighbours_78 ?_
        rw [nI_add (8) (k)]
        refine u_ialdN (i := 8 + k) C dX11_neighbours_79 (a16_is (mdl_p22 hY)) (a16_n (mdl_p22 hY)) (by omega) (by decide) ?_
        refine u_icmp_ge (tgt := 88) C dX11_neighbours_80 (by decide) (fun c_80 => ?_) (fun c_80 => ?_)
        · refine u_aload_n C dX11_neighbours_88 rfl ?_
          refine u_getR (k2 := (Y + 22)) C gX11_neighbours_89 rfl (mdl_is hY) (mdl_f22 hY) ?_
          refine u_bipush (v := (nI 8)) C dX11_neighbours_92 (by decide) ?_
          refine u_iload_n C dX11_neighbours_94 rfl ?_
          refine u_iadd C dX11_neighbours_95 ?_
          rw [nI_add (8) (k)]
          refine u_ialdN (i := 8 + k) C dX11_neighbours_96 (a16_is (mdl_p22 hY)) (a16_n (mdl_p22 hY)) (by omega) (by decide) ?_
          refine u_istore C dX11_neighbours_97 (by decide) ?_
          refine u_aload_n C dX11_neighbours_99 rfl ?_
          refine u_iconst (v := (nI 1)) C dX11_neighbours_100 (by decide) ?_
          refine u_iload_n C dX11_neighbours_101 rfl ?_
          refine u_iload_n C dX11_neighbours_102 rfl ?_
          refine u_iload C dX11_neighbours_103 rfl ?_
          refine u_callvV4 C ev_X11_flows dX11_neighbours_105 ml_RX11_178 (mdl_is hY) rfl (by decide) (c_X11_flows l D G _ _ _ _ _ _ hY (by decide) (by omega) (by omega)) (by decide) (Nat.le_of_ble_eq_true rfl) (fun M_105 q_105 => ?_)
          obtain rfl := q_105
          refine u_goto (tgt := 144) C dX11_neighbours_108 (by decide) ?_
          exact u_loc [0, 1, 2, 5] rfl (J3 _ _ (by (try simp only [u_le, Decidable.not_not] at c_49 c_66 c_80); unfold g_n1 g_nd f_lt; first | rw [if_pos c_49, if_pos c_80] | rw [if_pos c_49, if_neg c_80] | rw [if_neg c_49, if_pos c_119] | rw [if_neg c_49, if_neg c_119]))
        · refine u_iload C dX11_neighbours_83 rfl ?_
          refine u_goto (tgt := 97) C dX11_neighbours_85 (by decide) ?_
          refine u_istore C dX11_neighbours_97 (by decide) ?_
          refine u_aload_n C dX11_neighbours_99 rfl ?_
          refine u_iconst (v := (nI 1)) C dX11_neighbours_100 (by decide) ?_
          refine u_iload_n C dX11_neighbours_101 rfl ?_
          refine u_iload_n C dX11_neighbours_102 rfl ?_
          refine u_iload C dX11_neighbours_103 rfl ?_
          refine u_callvV4 C ev_X11_flows dX11_neighbours_105 ml_RX11_178 (mdl_is hY) rfl (by decide) (c_X11_flows l D G _ _ _ _ _ _ hY (by decide) (by omega) (by omega)) (by decide) (Nat.le_of_ble_eq_true rfl) (fun M_105 q_105 => ?_)
          obtain rfl := q_105
          refine u_goto (tgt := 144) C dX11_neighbours_108 (by decide) ?_
          exact u_loc [0, 1, 2, 5] rfl (J3 _ _ (by (try simp only [u_le, Decidable.not_not] at c_49 c_66 c_80); unfold g_n1 g_nd f_lt; first | rw [if_pos c_49, if_pos c_80] | rw [if_pos c_49, if_neg c_80] | rw [if_neg c_49, if_pos c_119] | rw [if_neg c_49, if_neg c_119]))
  refine u_iload_n C dX11_neighbours_0 rfl ?_
  refine u_iconst (v := (nI 1)) C dX11_neighbours_1 (by decide) ?_
  refine u_iadd C dX11_neighbours_2 ?_
  rw [nI_add (k) (1)]
  refine u_istore_n C dX11_neighbours_3 (by decide) ?_
  refine u_aload_n C dX11_neighbours_4 rfl ?_
  refine u_iload_n C dX11_neighbours_5 rfl ?_
  refine u_calliV1 C ev_X11_level dX11_neighbours_6 ml_RX11_175 (mdl_is hY) rfl (by decide) (c_X11_level l D G _ _ _ hY (by omega) hz) (by decide) (Nat.le_of_ble_eq_true rfl) (fun r_6 M_6 q_6 => ?_)
  obtain ⟨rfl, e_6⟩ := q_6
  subst M_6
  refine u_aload_n C dX11_neighbours_9 rfl ?_
  refine u_iload_n C dX11_neighbours_10 rfl ?_
  refine u_calliV1 C ev_X11_level dX11_neighbours_11 ml_RX11_175 (mdl_is hY) rfl (by decide) (c_X11_level l D G _ _ _ hY (by omega) hz2) (by decide) (Nat.le_of_ble_eq_true rfl) (fun r_11 M_11 q_11 => ?_)
  obtain ⟨rfl, e_11⟩ := q_11
  subst M_11
  refine u_isub C dX11_neighbours_14 ?_
  refine u_istore_n C dX11_neighbours_15 (by decide) ?_
  refine u_aload_n C dX11_neighbours_16 rfl ?_
  refine u_getR (k2 := (Y + 17)) C gX11_neighbours_17 rfl (mdl_is hY) (mdl_f17 hY) ?_
  refine u_iload_n C dX11_neighbours_20 rfl ?_
  refine u_ialdN (i := k) C dX11_neighbours_21 (a8_is (mdl_p17 hY)) (a8_n (mdl_p17 hY)) (by omega) (by decide) ?_
  refine u_aload_n C dX11_neighbours_22 rfl ?_
  refine u_getR (k2 := (Y + 17)) C gX11_neighbours_23 rfl (mdl_is hY) (mdl_f17 hY) ?_
  refine u_iload_n C dX11_neighbours_26 rfl ?_
  refine u_ialdN (i := k + 1) C dX11_neighbours_27 (a8_is (mdl_p17 hY)) (a8_n (mdl_p17 hY)) (by omega) (by decide) ?_
  refine u_icmp_ge (tgt := 40) C dX11_neighbours_28 (by decide) (fun c_28 => ?_) (fun c_28 => ?_)
  · refine u_aload_n C dX11_neighbours_40 rfl ?_
    refine u_getR (k2 := (Y + 17)) C gX11_neighbours_41 rfl (mdl_is hY) (mdl_f17 hY) ?_
    refine u_iload_n C dX11_neighbours_44 rfl ?_
    refine u_ialdN (i := k + 1) C dX11_neighbours_45 (a8_is (mdl_p17 hY)) (a8_n (mdl_p17 hY)) (by omega) (by decide) ?_
    exact u_loc [0, 1, 2, 3] rfl (J1 _ (by (try simp only [u_le, Decidable.not_not] at c_28); simp [-Int32.not_lt, -Int32.not_le, g_na, f_lt, c_28]))
  · refine u_aload_n C dX11_neighbours_31 rfl ?_
    refine u_getR (k2 := (Y + 17)) C gX11_neighbours_32 rfl (mdl_is hY) (mdl_f17 hY) ?_
    refine u_iload_n C dX11_neighbours_35 rfl ?_
    refine u_ialdN (i := k) C dX11_neighbours_36 (a8_is (mdl_p17 hY)) (a8_n (mdl_p17 hY)) (by omega) (by decide) ?_
    refine u_goto (tgt := 46) C dX11_neighbours_37 (by decide) ?_
    exact u_loc [0, 1, 2, 3] rfl (J1 _ (by (try simp only [u_le, Decidable.not_not] at c_28); simp [-Int32.not_lt, -Int32.not_le, g_na, f_lt, c_28]))
set_option maxHeartbeats 1000000 in
set_option maxRecDepth 100000 in
theorem c_X11_drinks (l : Launch) (D : va_G) (G : w_G) (M : w_M) (Y : Nat) (k : Nat) (hY : L_mdl G (Y)) (s9 : Nat) (hk : k < 6) (hs : s9 < 8) (hat : iv M (Y + 26) k = nI s9) : u_Mv l D G yX11_drinks cX11_drinks 5 none 2 46 [.ref (gP G Y), .int (nI k)] M (fun M' => M' = g_dr M Y k s9) := by
  refine u_bodyv (by decide +kernel) (Nat.le_of_ble_eq_true rfl) rfl (fun p e s m args below meth c A H0 Q C ret => ?_)
  have J4 : ∀ M3 : w_M, g_dr M Y k s9 = g_d3 M3 Y k → u_S p l e (u_rm 2 46) s m args below meth c 5 D A H0 0 0 Q 209 [(0, .ref (gP G Y)), (1, .int (nI k))] [] G M3 := by
    intro M3 hM
    refine u_aload_n C dX11_drinks_209 rfl ?_
    refine u_getR (k2 := (Y + 30)) C gX11_drinks_210 rfl (mdl_is hY) (mdl_f30 hY) ?_
    refine u_iload_n C dX11_drinks_213 rfl ?_
    refine u_ialdN (i := k) C dX11_drinks_214 (a6_is (mdl_p30 hY)) (a6_n (mdl_p30 hY)) (by omega) (by decide) ?_
    refine u_aload_n C dX11_drinks_215 rfl ?_
    refine u_getR (k2 := (Y + 31)) C gX11_drinks_216 rfl (mdl_is hY) (mdl_f31 hY) ?_
    refine u_iload_n C dX11_drinks_219 rfl ?_
    refine u_ialdN (i := k) C dX11_drinks_220 (a6_is (mdl_p31 hY)) (a6_n (mdl_p31 hY)) (by omega) (by decide) ?_
    refine u_icmp_ge (tgt := 233) C dX11_drinks_221 (by decide) (fun c_221 => ?_) (fun c_221 => ?_)
    · refine u_aload_n C dX11_drinks_233 rfl ?_
      refine u_getR (k2 := (Y + 31)) C gX11_drinks_234 rfl (mdl_is hY) (mdl_f31 hY) ?_
      refine u_iload_n C dX11_drinks_237 rfl ?_
      refine u_ialdN (i := k) C dX11_drinks_238 (a6_is (mdl_p31 hY)) (a6_n (mdl_p31 hY)) (by omega) (by decide) ?_
      refine u_istore_n C dX11_drinks_239 (by decide) ?_
      refine u_aload_n C dX11_drinks_240 rfl ?_
      refine u_getR (k2 := (Y + 31)) C gX11_drinks_241 rfl (mdl_is hY) (mdl_f31 hY) ?_
      refine u_iload_n C dX11_drinks_244 rfl ?_
      refine u_dup2 C dX11_drinks_245 rfl rfl ?_
      refine u_ialdN (i := k) C dX11_drinks_246 (a6_is (mdl_p31 hY)) (a6_n (mdl_p31 hY)) (by omega) (by decide) ?_
      refine u_iload_n C dX11_drinks_247 rfl ?_
      refine u_isub C dX11_drinks_248 ?_
      refine u_iastN (i := k) C dX11_drinks_249 (a6_is (mdl_p31 hY)) (a6_n (mdl_p31 hY)) (by omega) (by decide) ?_
      refine u_aload_n C dX11_drinks_250 rfl ?_
      refine u_getR (k2 := (Y + 33)) C gX11_drinks_251 rfl (mdl_is hY) (mdl_f33 hY) ?_
      refine u_iload_n C dX11_drinks_254 rfl ?_
      refine u_dup2 C dX11_drinks_255 rfl rfl ?_
      refine u_ialdN (i := k) C dX11_drinks_256 (a6_is (mdl_p33 hY)) (a6_n (mdl_p33 hY)) (by omega) (by decide) ?_
      refine u_aload_n C dX11_drinks_257 rfl ?_
      refine u_getR (k2 := (Y + 30)) C gX11_drinks_258 rfl (mdl_is hY) (mdl_f30 hY) ?_
      refine u_iload_n C dX11_drinks_261 rfl ?_
      refine u_ialdN (i := k) C dX11_drinks_262 (a6_is (mdl_p30 hY)) (a6_n (mdl_p30 hY)) (by omega) (by decide) ?_
      refine u_iload_n C dX11_drinks_263 rfl ?_
      refine u_isub C dX11_drinks_264 ?_
      refine u_iadd C dX11_drinks_265 ?_
      refine u_iastN (i := k) C dX11_drinks_266 (a6_is (mdl_p33 hY)) (a6_n (mdl_p33 hY)) (by omega) (by decide) ?_
      exact ret _ _  _ dX11_drinks_267  (by (try simp only [u_le, Decidable.not_not] at c_221); rw [hM]; unfold g_d3 f_lt; first | (rw [if_pos c_221]; rfl) | (rw [if_neg c_221]; rfl))
    · refine u_aload_n C dX11_drinks_224 rfl ?_
      refine u_getR (k2 := (Y + 30)) C gX11_drinks_225 rfl (mdl_is hY) (mdl_f30 hY) ?_
      refine u_iload_n C dX11_drinks_228 rfl ?_
      refine u_ialdN (i := k) C dX11_drinks_229 (a6_is (mdl_p30 hY)) (a6_n (mdl_p30 hY)) (by omega) (by decide) ?_
      refine u_goto (tgt := 239) C dX11_drinks_230 (by decide) ?_
      refine u_istore_n C dX11_drinks_239 (by decide) ?_
      refine u_aload_n C dX11_drinks_240 rfl ?_
      refine u_getR (k2 := (Y + 31)) C gX11_drinks_241 rfl (mdl_is hY) (mdl_f31 hY) ?_
      refine u_iload_n C dX11_drinks_244 rfl ?_
      refine u_dup2 C dX11_drinks_245 rfl rfl ?_
      refine u_ialdN (i := k) C dX11_drinks_246 (a6_is (mdl_p31 hY)) (a6_n (mdl_p31 hY)) (by omega) (by decide) ?_
      refine u_iload_n C dX11_drinks_247 rfl ?_
      refine u_isub C dX11_drinks_248 ?_
      refine u_iastN (i := k) C dX11_drinks_249 (a6_is (mdl_p31 hY)) (a6_n (mdl_p31 hY)) (by omega) (by decide) ?_
      refine u_aload_n C dX11_drinks_250 rfl ?_
      refine u_getR (k2 := (Y + 33)) C gX11_drinks_251 rfl (mdl_is hY) (mdl_f33 hY) ?_
      refine u_iload_n C dX11_drinks_254 rfl ?_
      refine u_dup2 C dX11_drinks_255 rfl rfl ?_
      refine u_ialdN (i := k) C dX11_drinks_256 (a6_is (mdl_p33 hY)) (a6_n (mdl_p33 hY)) (by omega) (by decide) ?_
      refine u_aload_n C dX11_drinks_257 rfl ?_
      refine u_getR (k2 := (Y + 30)) C gX11_drinks_258 rfl (mdl_is hY) (mdl_f30 hY) ?_
      refine u_iload_n C dX11_drinks_261 rfl ?_
      refine u_ialdN (i := k) C dX11_drinks_262 (a6_is (mdl_p30 hY)) (a6_n (mdl_p30 hY)) (by omega) (by decide) ?_
      refine u_iload_n C dX11_drinks_263 rfl ?_
      refine u_isub C dX11_drinks_264 ?_
      refine u_iadd C dX11_drinks_265 ?_
      refine u_iastN (i := k) C dX11_drinks_266 (a6_is (mdl_p33 hY)) (a6_n (mdl_p33 hY)) (by omega) (by decide) ?_
      exact ret _ _  _ dX11_drinks_267  (by (try simp only [u_le, Decidable.not_not] at c_221); rw [hM]; unfold g_d3 f_lt; first | (rw [if_pos c_221]; rfl) | (rw [if_neg c_221]; rfl))
  have J2 : ∀ (M2 : w_M) (x : Int32), x = g_ds M Y k s9 → M2 = g_d1 M Y k x → iv M2 (Y + 35) k = x → u_S p l e (u_rm 2 46) s m args below meth c 5 D A H0 0 0 Q 65 [(0, .ref (gP G Y)), (1, .int (nI k)), (2, .int (nI s9))] [] G M2 := by
    intro M2 x hx hM2 hx2
    refine u_aload_n C dX11_drinks_65 rfl ?_
    refine u_getR (k2 := (Y + 35)) C gX11_drinks_66 rfl (mdl_is hY) (mdl_f35 hY) ?_
    refine u_iload_n C dX11_drinks_69 rfl ?_
    refine u_zaldNv (x := x) (i := k) C dX11_drinks_70 (z6_is (mdl_p35 hY)) (z6_n (mdl_p35 hY)) (by omega) (by decide) hx2 ?_
    refine u_if_ne (tgt := 209) C dX11_drinks_71 (by decide) (fun c_71 => ?_) (fun c_71 => ?_)
    · exact u_loc [0, 1] rfl (J4 _ (by (try simp only [u_le, Decidable.not_not] at c_71); rw [g_dr, ← hx, ← hM2]; first | rw [if_neg c_71] | (rw [if_pos c_71]; unfold g_df f_lt; first | (rw [if_pos c_86, if_pos c_119]; rfl) | (rw [if_pos c_86, if_neg c_119]; rfl) | (rw [if_neg c_86, if_pos c_119]; rfl) | (rw [if_neg c_86, if_neg c_119]; rfl))))
    · refine u_aload_n C dX11_drinks_74 rfl ?_
      refine u_getR (k2 := (Y + 27)) C gX11_drinks_75 rfl (mdl_is hY) (mdl_f27 hY) ?_
      refine u_iload_n C dX11_drinks_78 rfl ?_
      refine u_ialdN (i := k) C dX11_drinks_79 (a6_is (mdl_p27 hY)) (a6_n (mdl_p27 hY)) (by omega) (by decide) ?_
      refine u_aload_n C dX11_drinks_80 rfl ?_
      refine u_getR (k2 := (Y + 22)) C gX11_drinks_81 rfl (mdl_is hY) (mdl_f22 hY) ?_
      refine u_iload_n C dX11_drinks_84 rfl ?_
      refine u_ialdN (i := s9) C dX11_drinks_85 (a16_is (mdl_p22 hY)) (a16_n (mdl_p22 hY)) (by omega) (by decide) ?_
      refine u_icmp_ge (tgt := 98) C dX11_drinks_86 (by decide) (fun c_86 => ?_) (fun c_86 => ?_)
      · refine u_aload_n C dX11_drinks_98 rfl ?_
        refine u_getR (k2 := (Y + 22)) C gX11_drinks_99 rfl (mdl_is hY) (mdl_f22 hY) ?_
        refine u_iload_n C dX11_drinks_102 rfl ?_
        refine u_ialdN (i := s9) C dX11_drinks_103 (a16_is (mdl_p22 hY)) (a16_n (mdl_p22 hY)) (by omega) (by decide) ?_
        refine u_istore_n C dX11_drinks_104 (by decide) ?_
        refine u_iload_n C dX11_drinks_105 rfl ?_
        refine u_aload_n C dX11_drinks_106 rfl ?_
        refine u_getR (k2 := (Y + 29)) C gX11_drinks_107 rfl (mdl_is hY) (mdl_f29 hY) ?_
        refine u_iload_n C dX11_drinks_110 rfl ?_
        refine u_ialdN (i := k) C dX11_drinks_111 (a6_is (mdl_p29 hY)) (a6_n (mdl_p29 hY)) (by omega) (by decide) ?_
        refine u_aload_n C dX11_drinks_112 rfl ?_
        refine u_getR (k2 := (Y + 31)) C gX11_drinks_113 rfl (mdl_is hY) (mdl_f31 hY) ?_
        refine u_iload_n C dX11_drinks_116 rfl ?_
        refine u_ialdN (i := k) C dX11_drinks_117 (a6_is (mdl_p31 hY)) (a6_n (mdl_p31 hY)) (by omega) (by decide) ?_
        refine u_isub C dX11_drinks_118 ?_
        refine u_icmp_ge (tgt := 126) C dX11_drinks_119 (by decide) (fun c_119 => ?_) (fun c_119 => ?_)
        · refine u_aload_n C dX11_drinks_126 rfl ?_
          refine u_getR (k2 := (Y + 29)) C gX11_drinks_127 rfl (mdl_is hY) (mdl_f29 hY) ?_
          refine u_iload_n C dX11_drinks_130 rfl ?_
          refine u_ialdN (i := k) C dX11_drinks_131 (a6_is (mdl_p29 hY)) (a6_n (mdl_p29 hY)) (by omega) (by decide) ?_
          refine u_aload_n C dX11_drinks_132 rfl ?_
          refine u_getR (k2 := (Y + 31)) C gX11_drinks_133 rfl (mdl_is hY) (mdl_f31 hY) ?_
          refine u_iload_n C dX11_drinks_136 rfl ?_
          refine u_ialdN (i := k) C dX11_drinks_137 (a6_is (mdl_p31 hY)) (a6_n (mdl_p31 hY)) (by omega) (by decide) ?_
          refine u_isub C dX11_drinks_138 ?_
          refine u_istore_n C dX11_drinks_139 (by decide) ?_
          refine u_aload_n C dX11_drinks_140 rfl ?_
          refine u_getR (k2 := (Y + 19)) C gX11_drinks_141 rfl (mdl_is hY) (mdl_f19 hY) ?_
          refine u_iload_n C dX11_drinks_144 rfl ?_
          refine u_ialdN (i := s9) C dX11_drinks_145 (a8_is (mdl_p19 hY)) (a8_n (mdl_p19 hY)) (by omega) (by decide) ?_
          refine u_istore C dX11_drinks_146 (by decide) ?_
          refine u_aload_n C dX11_drinks_148 rfl ?_
          refine u_iconst (v := (nI 0)) C dX11_drinks_149 (by decide) ?_
          refine u_iload_n C dX11_drinks_150 rfl ?_
          refine u_iload_n C dX11_drinks_151 rfl ?_
          refine u_callvV3 C ev_X11_leaves dX11_drinks_152 ml_RX11_165 (mdl_is hY) rfl (by decide) (c_X11_leaves l D G _ _ _ _ _ hY (by decide) hs) (by decide) (Nat.le_of_ble_eq_true rfl) (fun M_152 q_152 => ?_)
          obtain rfl := q_152
          refine u_aload_n C dX11_drinks_155 rfl ?_
          refine u_getR (k2 := (Y + 19)) C gX11_drinks_156 rfl (mdl_is hY) (mdl_f19 hY) ?_
          refine u_iload_n C dX11_drinks_159 rfl ?_
          refine u_iload C dX11_drinks_160 rfl ?_
          refine u_iastN (i := s9) C dX11_drinks_162 (a8_is (mdl_p19 hY)) (a8_n (mdl_p19 hY)) (by omega) (by decide) ?_
          refine u_aload_n C dX11_drinks_163 rfl ?_
          refine u_getR (k2 := (Y + 31)) C gX11_drinks_164 rfl (mdl_is hY) (mdl_f31 hY) ?_
          refine u_iload_n C dX11_drinks_167 rfl ?_
          refine u_dup2 C dX11_drinks_168 rfl rfl ?_
          refine u_ialdN (i := k) C dX11_drinks_169 (a6_is (mdl_p31 hY)) (a6_n (mdl_p31 hY)) (by omega) (by decide) ?_
          refine u_iload_n C dX11_drinks_170 rfl ?_
          refine u_iadd C dX11_drinks_171 ?_
          refine u_iastN (i := k) C dX11_drinks_172 (a6_is (mdl_p31 hY)) (a6_n (mdl_p31 hY)) (by omega) (by decide) ?_
          refine u_aload_n C dX11_drinks_173 rfl ?_
          refine u_getR (k2 := (Y + 32)) C gX11_drinks_174 rfl (mdl_is hY) (mdl_f32 hY) ?_
          refine u_iload_n C dX11_drinks_177 rfl ?_
          refine u_dup2 C dX11_drinks_178 rfl rfl ?_
          refine u_ialdN (i := k) C dX11_drinks_179 (a6_is (mdl_p32 hY)) (a6_n (mdl_p32 hY)) (by omega) (by decide) ?_
          refine u_iload_n C dX11_drinks_180 rfl ?_
          refine u_iadd C dX11_drinks_181 ?_
          refine u_iastN (i := k) C dX11_drinks_182 (a6_is (mdl_p32 hY)) (a6_n (mdl_p32 hY)) (by omega) (by decide) ?_
          refine u_aload_n C dX11_drinks_183 rfl ?_
          refine u_getR (k2 := (Y + 40)) C gX11_drinks_184 rfl (mdl_is hY) (mdl_f40 hY) ?_
          refine u_iconst (v := (nI 3)) C dX11_drinks_187 (by decide) ?_
          refine u_dup2 C dX11_drinks_188 rfl rfl ?_
          refine u_laldN (i := 3) C dX11_drinks_189 (j10_is (mdl_p40 hY)) (j10_n (mdl_p40 hY)) (by omega) (by decide) ?_
          refine u_iload_n C dX11_drinks_190 rfl ?_
          refine u_i2l C dX11_drinks_191 ?_
          refine u_ladd C dX11_drinks_192 ?_
          refine u_lastN (i := 3) C dX11_drinks_193 (j10_is (mdl_p40 hY)) (j10_n (mdl_p40 hY)) (by omega) (by decide) ?_
          refine u_aload_n C dX11_drinks_194 rfl ?_
          refine u_getR (k2 := (Y + 40)) C gX11_drinks_195 rfl (mdl_is hY) (mdl_f40 hY) ?_
          refine u_bipush (v := (nI 6)) C dX11_drinks_198 (by decide) ?_
          refine u_dup2 C dX11_drinks_200 rfl rfl ?_
          refine u_laldN (i := 6) C dX11_drinks_201 (j10_is (mdl_p40 hY)) (j10_n (mdl_p40 hY)) (by omega) (by decide) ?_
          refine u_aload_n C dX11_drinks_202 rfl ?_
          refine u_getI C gX11_drinks_203 rfl (mdl_is hY) ?_
          refine u_i2l C dX11_drinks_206 ?_
          refine u_ladd C dX11_drinks_207 ?_
          refine u_lastN (i := 6) C dX11_drinks_208 (j10_is (mdl_p40 hY)) (j10_n (mdl_p40 hY)) (by omega) (by decide) ?_
          exact u_loc [0, 1] rfl (J4 _ (by (try simp only [u_le, Decidable.not_not] at c_71 c_86 c_119); rw [g_dr, ← hx, ← hM2]; first | rw [if_neg c_71] | (rw [if_pos c_71]; unfold g_df f_lt; first | (rw [if_pos c_86, if_pos c_119]; rfl) | (rw [if_pos c_86, if_neg c_119]; rfl) | (rw [if_neg c_86, if_pos c_119]; rfl) | (rw [if_neg c_86, if_neg c_119]; rfl))))
        · refine u_iload_n C dX11_drinks_122 rfl ?_
          refine u_goto (tgt := 139) C dX11_drinks_123 (by decide) ?_
          refine u_istore_n C dX11_drinks_139 (by decide) ?_
          refine u_aload_n C dX11_drinks_140 rfl ?_
          refine u_getR (k2 := (Y + 19)) C gX11_drinks_141 rfl (mdl_is hY) (mdl_f19 hY) ?_
          refine u_iload_n C dX11_drinks_144 rfl ?_
          refine u_ialdN (i := s9) C dX11_drinks_145 (a8_is (mdl_p19 hY)) (a8_n (mdl_p19 hY)) (by omega) (by decide) ?_
          refine u_istore C dX11_drinks_146 (by decide) ?_
          refine u_aload_n C dX11_drinks_148 rfl ?_
          refine u_iconst (v := (nI 0)) C dX11_drinks_149 (by decide) ?_
          refine u_iload_n C dX11_drinks_150 rfl ?_
          refine u_iload_n C dX11_drinks_151 rfl ?_
          refine u_callvV3 C ev_X11_leaves dX11_drinks_152 ml_RX11_165 (mdl_is hY) rfl (by decide) (c_X11_leaves l D G _ _ _ _ _ hY (by decide) hs) (by decide) (Nat.le_of_ble_eq_true rfl) (fun M_152 q_152 => ?_)
          obtain rfl := q_152
          refine u_aload_n C dX11_drinks_155 rfl ?_
          refine u_getR (k2 := (Y + 19)) C gX11_drinks_156 rfl (mdl_is hY) (mdl_f19 hY) ?_
          refine u_iload_n C dX11_drinks_159 rfl ?_
          refine u_iload C dX11_drinks_160 rfl ?_
          refine u_iastN (i := s9) C dX11_drinks_162 (a8_is (mdl_p19 hY)) (a8_n (mdl_p19 hY)) (by omega) (by decide) ?_
          refine u_aload_n C dX11_drinks_163 rfl ?_
          refine u_getR (k2 := (Y + 31)) C gX11_drinks_164 rfl (mdl_is hY) (mdl_f31 hY) ?_
          refine u_iload_n C dX11_drinks_167 rfl ?_
          refine u_dup2 C dX11_drinks_168 rfl rfl ?_
          refine u_ialdN (i := k) C dX11_drinks_169 (a6_is (mdl_p31 hY)) (a6_n (mdl_p31 hY)) (by omega) (by decide) ?_
          refine u_iload_n C dX11_drinks_170 rfl ?_
          refine u_iadd C dX11_drinks_171 ?_
          refine u_iastN (i := k) C dX11_drinks_172 (a6_is (mdl_p31 hY)) (a6_n (mdl_p31 hY)) (by omega) (by decide) ?_
          refine u_aload_n C dX11_drinks_173 rfl ?_
          refine u_getR (k2 := (Y + 32)) C gX11_drinks_174 rfl (mdl_is hY) (mdl_f32 hY) ?_
          refine u_iload_n C dX11_drinks_177 rfl ?_
          refine u_dup2 C dX11_drinks_178 rfl rfl ?_
          refine u_ialdN (i := k) C dX11_drinks_179 (a6_is (mdl_p32 hY)) (a6_n (mdl_p32 hY)) (by omega) (by decide) ?_
          refine u_iload_n C dX11_drinks_180 rfl ?_
          refine u_iadd C dX11_drinks_181 ?_
          refine u_iastN (i := k) C dX11_drinks_182 (a6_is (mdl_p32 hY)) (a6_n (mdl_p32 hY)) (by omega) (by decide) ?_
          refine u_aload_n C dX11_drinks_183 rfl ?_
          refine u_getR (k2 := (Y + 40)) C gX11_drinks_184 rfl (mdl_is hY) (mdl_f40 hY) ?_
          refine u_iconst (v := (nI 3)) C dX11_drinks_187 (by decide) ?_
          refine u_dup2 C dX11_drinks_188 rfl rfl ?_
          refine u_laldN (i := 3) C dX11_drinks_189 (j10_is (mdl_p40 hY)) (j10_n (mdl_p40 hY)) (by omega) (by decide) ?_
          refine u_iload_n C dX11_drinks_190 rfl ?_
          refine u_i2l C dX11_drinks_191 ?_
          refine u_ladd C dX11_drinks_192 ?_
          refine u_lastN (i := 3) C dX11_drinks_193 (j10_is (mdl_p40 hY)) (j10_n (mdl_p40 hY)) (by omega) (by decide) ?_
          refine u_aload_n C dX11_drinks_194 rfl ?_
          refine u_getR (k2 := (Y + 40)) C gX11_drinks_195 rfl (mdl_is hY) (mdl_f40 hY) ?_
          refine u_bipush (v := (nI 6)) C dX11_drinks_198 (by decide) ?_
          refine u_dup2 C dX11_drinks_200 rfl rfl ?_
          refine u_laldN (i := 6) C dX11_drinks_201 (j10_is (mdl_p40 hY)) (j10_n (mdl_p40 hY)) (by omega) (by decide) ?_
          refine u_aload_n C dX11_drinks_202 rfl ?_
          refine u_getI C gX11_drinks_203 rfl (mdl_is hY) ?_
          refine u_i2l C dX11_drinks_206 ?_
          refine u_ladd C dX11_drinks_207 ?_
          refine u_lastN (i := 6) C dX11_drinks_208 (j10_is (mdl_p40 hY)) (j10_n (mdl_p40 hY)) (by omega) (by decide) ?_
          exact u_loc [0, 1] rfl (J4 _ (by (try simp only [u_le, Decidable.not_not] at c_71 c_86 c_119); rw [g_dr, ← hx, ← hM2]; first | rw [if_neg c_71] | (rw [if_pos c_71]; unfold g_df f_lt; first | (rw [if_pos c_86, if_pos c_119]; rfl) | (rw [if_pos c_86, if_neg c_119]; rfl) | (rw [if_neg c_86, if_pos c_119]; rfl) | (rw [if_neg c_86, if_neg c_119]; rfl))))
      · refine u_aload_n C dX11_drinks_89 rfl ?_
        refine u_getR (k2 := (Y + 27)) C gX11_drinks_90 rfl (mdl_is hY) (mdl_f27 hY) ?_
        refine u_iload_n C dX11_drinks_93 rfl ?_
        refine u_ialdN (i := k) C dX11_drinks_94 (a6_is (mdl_p27 hY)) (a6_n (mdl_p27 hY)) (by omega) (by decide) ?_
        refine u_goto (tgt := 104) C dX11_drinks_95 (by decide) ?_
        refine u_istore_n C dX11_drinks_104 (by decide) ?_
        refine u_iload_n C dX11_drinks_105 rfl ?_
        refine u_aload_n C dX11_drinks_106 rfl ?_
        refine u_getR (k2 := (Y + 29)) C gX11_drinks_107 rfl (mdl_is hY) (mdl_f29 hY) ?_
        refine u_iload_n C dX11_drinks_110 rfl ?_
        refine u_ialdN (i := k) C dX11_drinks_111 (a6_is (mdl_p29 hY)) (a6_n (mdl_p29 hY)) (by omega) (by decide) ?_
        refine u_aload_n C dX11_drinks_112 rfl ?_
        refine u_getR (k2 := (Y + 31)) C gX11_drinks_113 rfl (mdl_is hY) (mdl_f31 hY) ?_
        refine u_iload_n C dX11_drinks_116 rfl ?_
        refine u_ialdN (i := k) C dX11_drinks_117 (a6_is (mdl_p31 hY)) (a6_n (mdl_p31 hY)) (by omega) (by decide) ?_
        refine u_isub C dX11_drinks_118 ?_
        refine u_icmp_ge (tgt := 126) C dX11_drinks_119 (by decide) (fun c_119 => ?_) (fun c_119 => ?_)
        · refine u_aload_n C dX11_drinks_126 rfl ?_
          refine u_getR (k2 := (Y + 29)) C gX11_drinks_127 rfl (mdl_is hY) (mdl_f29 hY) ?_
          refine u_iload_n C dX11_drinks_130 rfl ?_
          refine u_ialdN (i := k) C dX11_drinks_131 (a6_is (mdl_p29 hY)) (a6_n (mdl_p29 hY)) (by omega) (by decide) ?_
          refine u_aload_n C dX11_drinks_132 rfl ?_
          refine u_getR (k2 := (Y + 31)) C gX11_drinks_133 rfl (mdl_is hY) (mdl_f31 hY) ?_
          refine u_iload_n C dX11_drinks_136 rfl ?_
          refine u_ialdN (i := k) C dX11_drinks_137 (a6_is (mdl_p31 hY)) (a6_n (mdl_p31 hY)) (by omega) (by decide) ?_
          refine u_isub C dX11_drinks_138 ?_
          refine u_istore_n C dX11_drinks_139 (by decide) ?_
          refine u_aload_n C dX11_drinks_140 rfl ?_
          refine u_getR (k2 := (Y + 19)) C gX11_drinks_141 rfl (mdl_is hY) (mdl_f19 hY) ?_
          refine u_iload_n C dX11_drinks_144 rfl ?_
          refine u_ialdN (i := s9) C dX11_drinks_145 (a8_is (mdl_p19 hY)) (a8_n (mdl_p19 hY)) (by omega) (by decide) ?_
          refine u_istore C dX11_drinks_146 (by decide) ?_
          refine u_aload_n C dX11_drinks_148 rfl ?_
          refine u_iconst (v := (nI 0)) C dX11_drinks_149 (by decide) ?_
          refine u_iload_n C dX11_drinks_150 rfl ?_
          refine u_iload_n C dX11_drinks_151 rfl ?_
          refine u_callvV3 C ev_X11_leaves dX11_drinks_152 ml_RX11_165 (mdl_is hY) rfl (by decide) (c_X11_leaves l D G _ _ _ _ _ hY (by decide) hs) (by decide) (Nat.le_of_ble_eq_true rfl) (fun M_152 q_152 => ?_)
          obtain rfl := q_152
          refine u_aload_n C dX11_drinks_155 rfl ?_
          refine u_getR (k2 := (Y + 19)) C gX11_drinks_156 rfl (mdl_is hY) (mdl_f19 hY) ?_
          refine u_iload_n C dX11_drinks_159 rfl ?_
          refine u_iload C dX11_drinks_160 rfl ?_
          refine u_iastN (i := s9) C dX11_drinks_162 (a8_is (mdl_p19 hY)) (a8_n (mdl_p19 hY)) (by omega) (by decide) ?_
          refine u_aload_n C dX11_drinks_163 rfl ?_
          refine u_getR (k2 := (Y + 31)) C gX11_drinks_164 rfl (mdl_is hY) (mdl_f31 hY) ?_
          refine u_iload_n C dX11_drinks_167 rfl ?_
          refine u_dup2 C dX11_drinks_168 rfl rfl ?_
          refine u_ialdN (i := k) C dX11_drinks_169 (a6_is (mdl_p31 hY)) (a6_n (mdl_p31 hY)) (by omega) (by decide) ?_
          refine u_iload_n C dX11_drinks_170 rfl ?_
          refine u_iadd C dX11_drinks_171 ?_
          refine u_iastN (i := k) C dX11_drinks_172 (a6_is (mdl_p31 hY)) (a6_n (mdl_p31 hY)) (by omega) (by decide) ?_
          refine u_aload_n C dX11_drinks_173 rfl ?_
          refine u_getR (k2 := (Y + 32)) C gX11_drinks_174 rfl (mdl_is hY) (mdl_f32 hY) ?_
          refine u_iload_n C dX11_drinks_177 rfl ?_
          refine u_dup2 C dX11_drinks_178 rfl rfl ?_
          refine u_ialdN (i := k) C dX11_drinks_179 (a6_is (mdl_p32 hY)) (a6_n (mdl_p32 hY)) (by omega) (by decide) ?_
          refine u_iload_n C dX11_drinks_180 rfl ?_
          refine u_iadd C dX11_drinks_181 ?_
          refine u_iastN (i := k) C dX11_drinks_182 (a6_is (mdl_p32 hY)) (a6_n (mdl_p32 hY)) (by omega) (by decide) ?_
          refine u_aload_n C dX11_drinks_183 rfl ?_
          refine u_getR (k2 := (Y + 40)) C gX11_drinks_184 rfl (mdl_is hY) (mdl_f40 hY) ?_
          refine u_iconst (v := (nI 3)) C dX11_drinks_187 (by decide) ?_
          refine u_dup2 C dX11_drinks_188 rfl rfl ?_
          refine u_laldN (i := 3) C dX11_drinks_189 (j10_is (mdl_p40 hY)) (j10_n (mdl_p40 hY)) (by omega) (by decide) ?_
          refine u_iload_n C dX11_drinks_190 rfl ?_
          refine u_i2l C dX11_drinks_191 ?_
          refine u_ladd C dX11_drinks_192 ?_
          refine u_lastN (i := 3) C dX11_drinks_193 (j10_is (mdl_p40 hY)) (j10_n (mdl_p40 hY)) (by omega) (by decide) ?_
          refine u_aload_n C dX11_drinks_194 rfl ?_
          refine u_getR (k2 := (Y + 40)) C gX11_drinks_195 rfl (mdl_is hY) (mdl_f40 hY) ?_
          refine u_bipush (v := (nI 6)) C dX11_drinks_198 (by decide) ?_
          refine u_dup2 C dX11_drinks_200 rfl rfl ?_
          refine u_laldN (i := 6) C dX11_drinks_201 (j10_is (mdl_p40 hY)) (j10_n (mdl_p40 hY)) (by omega) (by decide) ?_
          refine u_aload_n C dX11_drinks_202 rfl ?_
          refine u_getI C gX11_drinks_203 rfl (mdl_is hY) ?_
          refine u_i2l C dX11_drinks_206 ?_
          refine u_ladd C dX11_drinks_207 ?_
          refine u_lastN (i := 6) C dX11_drinks_208 (j10_is (mdl_p40 hY)) (j10_n (mdl_p40 hY)) (by omega) (by decide) ?_
          exact u_loc [0, 1] rfl (J4 _ (by (try simp only [u_le, Decidable.not_not] at c_71 c_86 c_119); rw [g_dr, ← hx, ← hM2]; first | rw [if_neg c_71] | (rw [if_pos c_71]; unfold g_df f_lt; first | (rw [if_pos c_86, if_pos c_119]; rfl) | (rw [if_pos c_86, if_neg c_119]; rfl) | (rw [if_neg c_86, if_pos c_119]; rfl) | (rw [if_neg c_86, if_neg c_119]; rfl))))
        · refine u_iload_n C dX11_drinks_122 rfl ?_
          refine u_goto (tgt := 139) C dX11_drinks_123 (by decide) ?_
          refine u_istore_n C dX11_drinks_139 (by decide) ?_
          refine u_aload_n C dX11_drinks_140 rfl ?_
          refine u_getR (k2 := (Y + 19)) C gX11_drinks_141 rfl (mdl_is hY) (mdl_f19 hY) ?_
          refine u_iload_n C dX11_drinks_144 rfl ?_
          refine u_ialdN (i := s9) C dX11_drinks_145 (a8_is (mdl_p19 hY)) (a8_n (mdl_p19 hY)) (by omega) (by decide) ?_
          refine u_istore C dX11_drinks_146 (by decide) ?_
          refine u_aload_n C dX11_drinks_148 rfl ?_
          refine u_iconst (v := (nI 0)) C dX11_drinks_149 (by decide) ?_
          refine u_iload_n C dX11_drinks_150 rfl ?_
          refine u_iload_n C dX11_drinks_151 rfl ?_
          refine u_callvV3 C ev_X11_leaves dX11_drinks_152 ml_RX11_165 (mdl_is hY) rfl (by decide) (c_X11_leaves l D G _ _ _ _ _ hY (by decide) hs) (by decide) (Nat.le_of_ble_eq_true rfl) (fun M_152 q_152 => ?_)
          obtain rfl := q_152
          refine u_aload_n C dX11_drinks_155 rfl ?_
          refine u_getR (k2 := (Y + 19)) C gX11_drinks_156 rfl (mdl_is hY) (mdl_f19 hY) ?_
          refine u_iload_n C dX11_drinks_159 rfl ?_
          refine u_iload C dX11_drinks_160 rfl ?_
          refine u_iastN (i := s9) C dX11_drinks_162 (a8_is (mdl_p19 hY)) (a8_n (mdl_p19 hY)) (by omega) (by decide) ?_
          refine u_aload_n C dX11_drinks_163 rfl ?_
          refine u_getR (k2 := (Y + 31)) C gX11_drinks_164 rfl (mdl_is hY) (mdl_f31 hY) ?_
          refine u_iload_n C dX11_drinks_167 rfl ?_
          refine u_dup2 C dX11_drinks_168 rfl rfl ?_
          refine u_ialdN (i := k) C dX11_drinks_169 (a6_is (mdl_p31 hY)) (a6_n (mdl_p31 hY)) (by omega) (by decide) ?_
          refine u_iload_n C dX11_drinks_170 rfl ?_
          refine u_iadd C dX11_drinks_171 ?_
          refine u_iastN (i := k) C dX11_drinks_172 (a6_is (mdl_p31 hY)) (a6_n (mdl_p31 hY)) (by omega) (by decide) ?_
          refine u_aload_n C dX11_drinks_173 rfl ?_
          refine u_getR (k2 := (Y + 32)) C gX11_drinks_174 rfl (mdl_is hY) (mdl_f32 hY) ?_
          refine u_iload_n C dX11_drinks_177 rfl ?_
          refine u_dup2 C dX11_drinks_178 rfl rfl ?_
          refine u_ialdN (i := k) C dX11_drinks_179 (a6_is (mdl_p32 hY)) (a6_n (mdl_p32 hY)) (by omega) (by decide) ?_
          refine u_iload_n C dX11_drinks_180 rfl ?_
          refine u_iadd C dX11_drinks_181 ?_
          refine u_iastN (i := k) C dX11_drinks_182 (a6_is (mdl_p32 hY)) (a6_n (mdl_p32 hY)) (by omega) (by decide) ?_
          refine u_aload_n C dX11_drinks_183 rfl ?_
          refine u_getR (k2 := (Y + 40)) C gX11_drinks_184 rfl (mdl_is hY) (mdl_f40 hY) ?_
          refine u_iconst (v := (nI 3)) C dX11_drinks_187 (by decide) ?_
          refine u_dup2 C dX11_drinks_188 rfl rfl ?_
          refine u_laldN (i := 3) C dX11_drinks_189 (j10_is (mdl_p40 hY)) (j10_n (mdl_p40 hY)) (by omega) (by decide) ?_
          refine u_iload_n C dX11_drinks_190 rfl ?_
          refine u_i2l C dX11_drinks_191 ?_
          refine u_ladd C dX11_drinks_192 ?_
          refine u_lastN (i := 3) C dX11_drinks_193 (j10_is (mdl_p40 hY)) (j10_n (mdl_p40 hY)) (by omega) (by decide) ?_
          refine u_aload_n C dX11_drinks_194 rfl ?_
          refine u_getR (k2 := (Y + 40)) C gX11_drinks_195 rfl (mdl_is hY) (mdl_f40 hY) ?_
          refine u_bipush (v := (nI 6)) C dX11_drinks_198 (by decide) ?_
          refine u_dup2 C dX11_drinks_200 rfl rfl ?_
          refine u_laldN (i := 6) C dX11_drinks_201 (j10_is (mdl_p40 hY)) (j10_n (mdl_p40 hY)) (by omega) (by decide) ?_
          refine u_aload_n C dX11_drinks_202 rfl ?_
          refine u_getI C gX11_drinks_203 rfl (mdl_is hY) ?_
          refine u_i2l C dX11_drinks_206 ?_
          refine u_ladd C dX11_drinks_207 ?_
          refine u_lastN (i := 6) C dX11_drinks_208 (j10_is (mdl_p40 hY)) (j10_n (mdl_p40 hY)) (by omega) (by decide) ?_
          exact u_loc [0, 1] rfl (J4 _ (by (try simp only [u_le, Decidable.not_not] at c_71 c_86 c_119); rw [g_dr, ← hx, ← hM2]; first | rw [if_neg c_71] | (rw [if_pos c_71]; unfold g_df f_lt; first | (rw [if_pos c_86, if_pos c_119]; rfl) | (rw [if_pos c_86, if_neg c_119]; rfl) | (rw [if_neg c_86, if_pos c_119]; rfl) | (rw [if_neg c_86, if_neg c_119]; rfl))))
  have J1 : ∀ x : Int32, x = g_ds M Y k s9 → (x = 0 ∨ x = 1) → u_S p l e (u_rm 2 46) s m args below meth c 5 D A H0 0 0 Q 41 [(0, .ref (gP G Y)), (1, .int (nI k)), (2, .int (nI s9))] [.int x, .int (nI k), .ref (gP G (Y + 35))] G M := by
    intro x hx h01
    refine u_zastN (i := k) C dX11_drinks_41 (z6_is (mdl_p35 hY)) (z6_n (mdl_p35 hY)) (by omega) (by decide) (by exact h01) ?_
    refine u_aload_n C dX11_drinks_42 rfl ?_
    refine u_getR (k2 := (Y + 34)) C gX11_drinks_43 rfl (mdl_is hY) (mdl_f34 hY) ?_
    refine u_iload_n C dX11_drinks_46 rfl ?_
    refine u_dup2 C dX11_drinks_47 rfl rfl ?_
    refine u_ialdN (i := k) C dX11_drinks_48 (a6_is (mdl_p34 hY)) (a6_n (mdl_p34 hY)) (by omega) (by decide) ?_
    refine u_aload_n C dX11_drinks_49 rfl ?_
    refine u_getR (k2 := (Y + 35)) C gX11_drinks_50 rfl (mdl_is hY) (mdl_f35 hY) ?_
    refine u_iload_n C dX11_drinks_53 rfl ?_
    refine u_zaldNv (x := x) (i := k) C dX11_drinks_54 (z6_is (mdl_p35 hY)) (z6_n (mdl_p35 hY)) (by omega) (by decide) (by simp [iv_wi]) ?_
    refine u_if_eq (tgt := 62) C dX11_drinks_55 (by decide) (fun c_55 => ?_) (fun c_55 => ?_)
    · refine u_iconst (v := 0) C dX11_drinks_62 (by decide) ?_
      refine u_iadd C dX11_drinks_63 ?_
      refine u_iastN (i := k) C dX11_drinks_64 (a6_is (mdl_p34 hY)) (a6_n (mdl_p34 hY)) (by omega) (by decide) ?_
      exact u_loc [0, 1, 2] rfl (J2 _ x hx (by (try simp only [u_le, Decidable.not_not] at c_55); unfold g_d1 g_d0; first | (rw [if_pos c_55]; rfl) | (rw [if_neg c_55]; rfl)) (by simp [iv_wi]))
    · refine u_iconst (v := 1) C dX11_drinks_58 (by decide) ?_
      refine u_goto (tgt := 63) C dX11_drinks_59 (by decide) ?_
      refine u_iadd C dX11_drinks_63 ?_
      refine u_iastN (i := k) C dX11_drinks_64 (a6_is (mdl_p34 hY)) (a6_n (mdl_p34 hY)) (by omega) (by decide) ?_
      exact u_loc [0, 1, 2] rfl (J2 _ x hx (by (try simp only [u_le, Decidable.not_not] at c_55); unfold g_d1 g_d0; first | (rw [if_pos c_55]; rfl) | (rw [if_neg c_55]; rfl)) (by simp [iv_wi]))
  refine u_aload_n C dX11_drinks_0 rfl ?_
  refine u_getR (k2 := (Y + 26)) C gX11_drinks_1 rfl (mdl_is hY) (mdl_f26 hY) ?_
  refine u_iload_n C dX11_drinks_4 rfl ?_
  refine u_ialdNv (x := nI s9) (i := k) C dX11_drinks_5 (a6_is (mdl_p26 hY)) (a6_n (mdl_p26 hY)) (by omega) (by decide) hat ?_
  refine u_istore_n C dX11_drinks_6 (by decide) ?_
  refine u_aload_n C dX11_drinks_7 rfl ?_
  refine u_getR (k2 := (Y + 35)) C gX11_drinks_8 rfl (mdl_is hY) (mdl_f35 hY) ?_
  refine u_iload_n C dX11_drinks_11 rfl ?_
  refine u_aload_n C dX11_drinks_12 rfl ?_
  refine u_getR (k2 := (Y + 22)) C gX11_drinks_13 rfl (mdl_is hY) (mdl_f22 hY) ?_
  refine u_iload_n C dX11_drinks_16 rfl ?_
  refine u_ialdN (i := s9) C dX11_drinks_17 (a16_is (mdl_p22 hY)) (a16_n (mdl_p22 hY)) (by omega) (by decide) ?_
  refine u_if_eq (tgt := 36) C dX11_drinks_18 (by decide) (fun c_18 => ?_) (fun c_18 => ?_)
  · refine u_iconst (v := 1) C dX11_drinks_36 (by decide) ?_
    refine u_goto (tgt := 41) C dX11_drinks_37 (by decide) ?_
    exact u_loc [0, 1, 2] rfl (J1 _ (by (try simp only [u_le, Decidable.not_not] at c_18); simp [-Int32.not_lt, -Int32.not_le, g_ds, c_18]) (by simp))
  · refine u_aload_n C dX11_drinks_21 rfl ?_
    refine u_iconst (v := (nI 0)) C dX11_drinks_22 (by decide) ?_
    refine u_iload_n C dX11_drinks_23 rfl ?_
    refine u_calliV2 C ev_X11_salinity dX11_drinks_24 ml_RX11_182 (mdl_is hY) rfl (by decide) (c_X11_salinity l D G _ _ _ _ hY (by decide) hs) (by decide) (Nat.le_of_ble_eq_true rfl) (fun r_24 M_24 q_24 => ?_)
    obtain ⟨rfl, e_24⟩ := q_24
    subst M_24
    refine u_aload_n C dX11_drinks_27 rfl ?_
    refine u_getR (k2 := (Y + 28)) C gX11_drinks_28 rfl (mdl_is hY) (mdl_f28 hY) ?_
    refine u_iload_n C dX11_drinks_31 rfl ?_
    refine u_ialdN (i := k) C dX11_drinks_32 (a6_is (mdl_p28 hY)) (a6_n (mdl_p28 hY)) (by omega) (by decide) ?_
    refine u_icmp_le (tgt := 40) C dX11_drinks_33 (by decide) (fun c_33 => ?_) (fun c_33 => ?_)
    · refine u_iconst (v := 0) C dX11_drinks_40 (by decide) ?_
      exact u_loc [0, 1, 2] rfl (J1 _ (by (try simp only [u_le, Decidable.not_not] at c_18 c_33); simp [-Int32.not_lt, -Int32.not_le, g_ds, c_18, c_33]) (by simp))
    · refine u_iconst (v := 1) C dX11_drinks_36 (by decide) ?_
      refine u_goto (tgt := 41) C dX11_drinks_37 (by decide) ?_
      exact u_loc [0, 1, 2] rfl (J1 _ (by (try simp only [u_le, Decidable.not_not] at c_18 c_33); simp [-Int32.not_lt, -Int32.not_le, g_ds, c_18, c_33]) (by simp))
