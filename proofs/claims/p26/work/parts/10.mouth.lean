def sadd (M : w_M) (B i : Nat) (x : Int64) : w_M := wj M (B + 5) i (jv M (B + 5) i + x)
theorem iv_sadd (M : w_M) (B i : Nat) (x : Int64) (a j : Nat) : iv (sadd M B i x) a j = iv M a j := rfl
def m_ms1 (M : w_M) (B k : Nat) (f : Int32) : w_M := sadd (sadd (m_in M (k + 30) f (30 * f)) B 0 f.toInt64) B 4 (30 * f).toInt64
def m_ms2 (M : w_M) (B k : Nat) (f : Int32) : w_M := sadd (sadd (m_out (sadd (m_gc M k f) B 8 (f_goes f (iv M k 5) (iv M (k + 20) 0)).toInt64) (k + 20) f) B 5 (f_goes f (iv M (k + 20) 1) (iv M (k + 20) 0)).toInt64) B 1 f.toInt64
def m_sea (M : w_M) (B k : Nat) (h : Int32) : w_M := if 0 < h - s_lev M k then m_ms1 M B k ((h - s_lev M k) * iv M k 3 / 2) else if h - s_lev M k < 0 then m_ms2 M B k (f_min (-(h - s_lev M k) * iv M k 3 / 2) (iv M (k + 20) 0)) else M
def m_riv (M : w_M) (B k : Nat) : w_M := sadd (sadd (wi (m_in M (k + 20) (iv M B 7) 0) k 5 (iv M k 5 + iv M B 8)) B 2 (iv M B 7).toInt64) B 7 (iv M B 8).toInt64
def m_fl (M : w_M) (k1 k2 : Nat) (f : Int32) : w_M := m_in (m_out M (k1 + 30) f) (k2 + 30) f (f_goes f (iv M (k1 + 30) 1) (iv M (k1 + 30) 0))
def m_fu1 (M : w_M) (k1 : Nat) (f : Int32) : w_M := m_out (m_gc M k1 f) (k1 + 20) f
def m_fu (M : w_M) (k1 k2 : Nat) (f : Int32) : w_M := m_in (wi (m_fu1 M k1 f) k2 5 (iv (m_fu1 M k1 f) k2 5 + f_goes f (iv M k1 5) (iv M (k1 + 20) 0))) (k2 + 20) f (f_goes f (iv (m_gc M k1 f) (k1 + 20) 1) (iv (m_gc M k1 f) (k1 + 20) 0))
def m_runs (M : w_M) (k1 k2 : Nat) (f : Int32) : w_M := wi (wi M k1 6 (iv M k1 6 + f)) k2 6 (iv (wi M k1 6 (iv M k1 6 + f)) k2 6 + f)
def s_d (M : w_M) (k1 k2 : Nat) : Int32 := s_lev M k1 - s_lev M k2
def m_level (M : w_M) (k1 k2 : Nat) : w_M := if 0 < s_d M k1 k2 then m_runs (m_fl M k1 k2 (f_min (s_d M k1 k2 * f_min (iv M k1 3) (iv M k2 3) / 4) (iv M (k1 + 30) 0))) k1 k2 (f_min (s_d M k1 k2 * f_min (iv M k1 3) (iv M k2 3) / 4) (iv M (k1 + 30) 0))
  else if s_d M k1 k2 < 0 then m_runs (m_fu M k2 k1 (f_min (-s_d M k1 k2 * f_min (iv M k1 3) (iv M k2 3) / 4) (iv M (k2 + 20) 0))) k1 k2 (f_min (-s_d M k1 k2 * f_min (iv M k1 3) (iv M k2 3) / 4) (iv M (k2 + 20) 0))
  else m_runs M k1 k2 0
def m_creep (M : w_M) (k1 k2 : Nat) : w_M := if f_sal (iv M (k2 + 30) 0) (iv M (k2 + 30) 1) < f_sal (iv M (k1 + 30) 0) (iv M (k1 + 30) 1) then m_fu (m_fl M k1 k2 (f_min (iv M (k1 + 30) 0) (iv M (k2 + 20) 0) / 8)) k2 k1 (f_min (iv M (k1 + 30) 0) (iv M (k2 + 20) 0) / 8) else M
def m_z (M : w_M) (B : Nat) : Nat → w_M
  | 0 => M
  | i + 1 => wj (m_z M B i) (B + 5) i 0
def m_sb (M : w_M) (k : Nat) : w_M := wi (wi (wi M k 3 0) k 4 0) k 5 50
def m_bb (M : w_M) (k : Nat) : w_M := wi (wi (wi (wi M k 3 0) k 4 (-1)) k 5 0) k 6 0
def m_mbeg (M : w_M) (B : Nat) : w_M := wi (wi (wi (wi (wi (m_z (m_bb (m_sb M (B + 1)) (B + 2)) B 10) B 5 0) B 6 0) B 7 0) B 8 0) B 9 0
def s_has (M : w_M) (B : Nat) (v : Int32) : Int32 := if v < 0 then 0 else if iv M B 5 ≤ v then 0 else 1
def m_asec (M : w_M) (B : Nat) (ar up low mud : Int32) : w_M := wi (m_sbeg M (B + 100 + cN (iv M B 5)) ar up low mud) B 5 (iv M B 5 + 1)
def m_aint (M : w_M) (B : Nat) (a b c d e : Int32) : w_M := wi (m_ibeg M (B + 150 + cN (iv M B 6)) a b c d e) B 6 (iv M B 6 + 1)
def m_mud1 (M : w_M) (k : Nat) (a : Int32) : w_M := wi (wi M k 7 (iv M k 7 - a)) k 4 (iv M k 4 - a)
def m_mudS (M : w_M) (B i : Nat) (a : Int32) : w_M := sadd (m_mud1 M (B + 100 + i) a) B 9 a.toInt64
def m_mudC (M : w_M) (B i j : Nat) (a : Int32) : w_M := wi (m_mud1 M (B + 100 + i) a) (B + 100 + j) 5 (iv (m_mud1 M (B + 100 + i) a) (B + 100 + j) 5 + a)
theorem u_ltI {i n : Nat} (h : nI i < nI n) (hn : n < 2 ^ 31) (hi : i < 2 ^ 31) : i < n := (nI_ltI hi hn).mp h
theorem u_has {M : w_M} {B i n : Nat} (hn8 : n ≤ 8) (hn : iv M B 5 = nI n) (hi : i < n) : s_has M B (nI i) = 1 := by
  rw [s_has, if_neg (nI_pos (by omega)), hn, if_neg (nI_ge hi (by omega))]
set_option maxHeartbeats 4000000 in
set_option maxRecDepth 100000 in
theorem c_X3_meetSea (l : Launch) (D : va_G) (G : w_G) (M : w_M) (B : Nat) (k : Nat) (h : Int32) (hB : L_mou G (B)) (hk : L_sec G (k))  : u_Mv l D G yX3_meetSea cX3_meetSea 5 none 2 44 [.ref (gP G B), .ref (gP G k), .int h] M (fun M' => M' = m_sea M B k h) := by
  refine u_bodyv (by decide +kernel) (Nat.le_of_ble_eq_true rfl) rfl (fun p e s m args below meth c A H0 Q C ret => ?_)
  refine u_iload_n C dX3_meetSea_0 rfl ?_
  refine u_aload_n C dX3_meetSea_1 rfl ?_
  refine u_calliV0 C ev_X6_level dX3_meetSea_2 ml_RX3_170 (sec_is hk) rfl (by decide) (c_X6_level l D G _ _ hk ) (by decide) (Nat.le_of_ble_eq_true rfl) (fun r_2 M_2 q_2 => ?_)
  obtain ⟨rfl, e_2⟩ := q_2
  subst M_2
  refine u_isub C dX3_meetSea_5 ?_
  refine u_istore_n C dX3_meetSea_6 (by decide) ?_
  refine u_iload_n C dX3_meetSea_7 rfl ?_
  refine u_if_le (tgt := 65) C dX3_meetSea_8 (by decide) (fun c_8 => ?_) (fun c_8 => ?_)
  · refine u_iload_n C dX3_meetSea_65 rfl ?_
    refine u_if_ge (tgt := 138) C dX3_meetSea_66 (by decide) (fun c_66 => ?_) (fun c_66 => ?_)
    · exact ret _ _  _ dX3_meetSea_138  (by (try simp only [u_le, Decidable.not_not] at c_8 c_66); first | (simp [-Int32.not_lt, -Int32.not_le, m_sea, iv_wi, iv_wj, jv_wi, jv_wj, m_ms1, m_ms2, sadd, m_in, m_out, m_gc, f_min, c_8, c_66]; done) | (simp [-Int32.not_lt, -Int32.not_le, m_sea, iv_wi, iv_wj, jv_wi, jv_wj, m_ms1, m_ms2, sadd, m_in, m_out, m_gc, f_min, c_8, c_66]; rfl))
    · refine u_iload_n C dX3_meetSea_69 rfl ?_
      refine u_ineg C dX3_meetSea_70 ?_
      refine u_aload_n C dX3_meetSea_71 rfl ?_
      refine u_getI C gX3_meetSea_72 rfl (sec_is hk) ?_
      refine u_imul C dX3_meetSea_75 ?_
      refine u_iconst (v := 2) C dX3_meetSea_76 (by decide) ?_
      refine u_idiv C dX3_meetSea_77 (by decide) ?_
      refine u_aload_n C dX3_meetSea_78 rfl ?_
      refine u_getR (k2 := (k + 20)) C gX3_meetSea_79 rfl (sec_is hk) (sec_f0 hk) ?_
      refine u_getI C gX3_meetSea_82 rfl (lay_is (sec_p0 hk)) ?_
      refine u_mmin C dX3_meetSea_85 ml_RX3_119 wm_min (by decide) (Nat.le_of_ble_eq_true rfl) ?_
      refine u_istore C dX3_meetSea_88 (by decide) ?_
      refine u_aload_n C dX3_meetSea_90 rfl ?_
      refine u_getR (k2 := (B + 5)) C gX3_meetSea_91 rfl (mou_is hB) (mou_f4 hB) ?_
      refine u_bipush (v := 8) C dX3_meetSea_94 (by decide) ?_
      refine u_dup2 C dX3_meetSea_96 rfl rfl ?_
      refine u_laldN (i := 8) C dX3_meetSea_97 (j10_is (mou_p4 hB)) (j10_n (mou_p4 hB)) (by decide) (by decide) ?_
      refine u_aload_n C dX3_meetSea_98 rfl ?_
      refine u_iload C dX3_meetSea_99 rfl ?_
      refine u_calliV1 C ev_X6_giveCloud dX3_meetSea_101 ml_RX3_192 (sec_is hk) rfl (by decide) (c_X6_giveCloud l D G _ _ _ hk ) (by decide) (Nat.le_of_ble_eq_true rfl) (fun r_101 M_101 q_101 => ?_)
      obtain ⟨rfl, e_101⟩ := q_101
      subst M_101
      refine u_i2l C dX3_meetSea_104 ?_
      refine u_ladd C dX3_meetSea_105 ?_
      refine u_lastN (i := 8) C dX3_meetSea_106 (j10_is (mou_p4 hB)) (j10_n (mou_p4 hB)) (by decide) (by decide) ?_
      refine u_aload_n C dX3_meetSea_107 rfl ?_
      refine u_getR (k2 := (B + 5)) C gX3_meetSea_108 rfl (mou_is hB) (mou_f4 hB) ?_
      refine u_iconst (v := 5) C dX3_meetSea_111 (by decide) ?_
      refine u_dup2 C dX3_meetSea_112 rfl rfl ?_
      refine u_laldN (i := 5) C dX3_meetSea_113 (j10_is (mou_p4 hB)) (j10_n (mou_p4 hB)) (by decide) (by decide) ?_
      refine u_aload_n C dX3_meetSea_114 rfl ?_
      refine u_getR (k2 := (k + 20)) C gX3_meetSea_115 rfl (sec_is hk) (sec_f0 hk) ?_
      refine u_iload C dX3_meetSea_118 rfl ?_
      refine u_calliV1 C ev_X2_giveOut dX3_meetSea_120 ml_RX3_195 (lay_is (sec_p0 hk)) rfl (by decide) (c_X2_giveOut l D G _ _ _ (sec_p0 hk) ) (by decide) (Nat.le_of_ble_eq_true rfl) (fun r_120 M_120 q_120 => ?_)
      obtain ⟨rfl, e_120⟩ := q_120
      subst M_120
      refine u_i2l C dX3_meetSea_123 ?_
      refine u_ladd C dX3_meetSea_124 ?_
      refine u_lastN (i := 5) C dX3_meetSea_125 (j10_is (mou_p4 hB)) (j10_n (mou_p4 hB)) (by decide) (by decide) ?_
      refine u_aload_n C dX3_meetSea_126 rfl ?_
      refine u_getR (k2 := (B + 5)) C gX3_meetSea_127 rfl (mou_is hB) (mou_f4 hB) ?_
      refine u_iconst (v := 1) C dX3_meetSea_130 (by decide) ?_
      refine u_dup2 C dX3_meetSea_131 rfl rfl ?_
      refine u_laldN (i := 1) C dX3_meetSea_132 (j10_is (mou_p4 hB)) (j10_n (mou_p4 hB)) (by decide) (by decide) ?_
      refine u_iload C dX3_meetSea_133 rfl ?_
      refine u_i2l C dX3_meetSea_135 ?_
      refine u_ladd C dX3_meetSea_136 ?_
      refine u_lastN (i := 1) C dX3_meetSea_137 (j10_is (mou_p4 hB)) (j10_n (mou_p4 hB)) (by decide) (by decide) ?_
      exact ret _ _  _ dX3_meetSea_138  (by (try simp only [u_le, Decidable.not_not] at c_8 c_66); first | (simp [-Int32.not_lt, -Int32.not_le, m_sea, iv_wi, iv_wj, jv_wi, jv_wj, m_ms1, m_ms2, sadd, m_in, m_out, m_gc, f_min, c_8, c_66]; done) | (simp [-Int32.not_lt, -Int32.not_le, m_sea, iv_wi, iv_wj, jv_wi, jv_wj, m_ms1, m_ms2, sadd, m_in, m_out, m_gc, f_min, c_8, c_66]; rfl))
  · refine u_iload_n C dX3_meetSea_11 rfl ?_
    refine u_aload_n C dX3_meetSea_12 rfl ?_
    refine u_getI C gX3_meetSea_13 rfl (sec_is hk) ?_
    refine u_imul C dX3_meetSea_16 ?_
    refine u_iconst (v := 2) C dX3_meetSea_17 (by decide) ?_
    refine u_idiv C dX3_meetSea_18 (by decide) ?_
    refine u_istore C dX3_meetSea_19 (by decide) ?_
    refine u_aload_n C dX3_meetSea_21 rfl ?_
    refine u_getR (k2 := (k + 30)) C gX3_meetSea_22 rfl (sec_is hk) (sec_f1 hk) ?_
    refine u_iload C dX3_meetSea_25 rfl ?_
    refine u_bipush (v := 30) C dX3_meetSea_27 (by decide) ?_
    refine u_iload C dX3_meetSea_29 rfl ?_
    refine u_imul C dX3_meetSea_31 ?_
    refine u_callvV2 C ev_X2_takeIn dX3_meetSea_32 ml_RX3_181 (lay_is (sec_p1 hk)) rfl (by decide) (c_X2_takeIn l D G _ _ _ _ (sec_p1 hk) ) (by decide) (Nat.le_of_ble_eq_true rfl) (fun M_32 q_32 => ?_)
    obtain rfl := q_32
    refine u_aload_n C dX3_meetSea_35 rfl ?_
    refine u_getR (k2 := (B + 5)) C gX3_meetSea_36 rfl (mou_is hB) (mou_f4 hB) ?_
    refine u_iconst (v := 0) C dX3_meetSea_39 (by decide) ?_
    refine u_dup2 C dX3_meetSea_40 rfl rfl ?_
    refine u_laldN (i := 0) C dX3_meetSea_41 (j10_is (mou_p4 hB)) (j10_n (mou_p4 hB)) (by decide) (by decide) ?_
    refine u_iload C dX3_meetSea_42 rfl ?_
    refine u_i2l C dX3_meetSea_44 ?_
    refine u_ladd C dX3_meetSea_45 ?_
    refine u_lastN (i := 0) C dX3_meetSea_46 (j10_is (mou_p4 hB)) (j10_n (mou_p4 hB)) (by decide) (by decide) ?_
    refine u_aload_n C dX3_meetSea_47 rfl ?_
    refine u_getR (k2 := (B + 5)) C gX3_meetSea_48 rfl (mou_is hB) (mou_f4 hB) ?_
    refine u_iconst (v := 4) C dX3_meetSea_51 (by decide) ?_
    refine u_dup2 C dX3_meetSea_52 rfl rfl ?_
    refine u_laldN (i := 4) C dX3_meetSea_53 (j10_is (mou_p4 hB)) (j10_n (mou_p4 hB)) (by decide) (by decide) ?_
    refine u_bipush (v := 30) C dX3_meetSea_54 (by decide) ?_
    refine u_iload C dX3_meetSea_56 rfl ?_
    refine u_imul C dX3_meetSea_58 ?_
    refine u_i2l C dX3_meetSea_59 ?_
    refine u_ladd C dX3_meetSea_60 ?_
    refine u_lastN (i := 4) C dX3_meetSea_61 (j10_is (mou_p4 hB)) (j10_n (mou_p4 hB)) (by decide) (by decide) ?_
    refine u_goto (tgt := 138) C dX3_meetSea_62 (by decide) ?_
    exact ret _ _  _ dX3_meetSea_138  (by (try simp only [u_le, Decidable.not_not] at c_8); first | (simp [-Int32.not_lt, -Int32.not_le, m_sea, iv_wi, iv_wj, jv_wi, jv_wj, m_ms1, m_ms2, sadd, m_in, m_out, m_gc, f_min, c_8]; done) | (simp [-Int32.not_lt, -Int32.not_le, m_sea, iv_wi, iv_wj, jv_wi, jv_wj, m_ms1, m_ms2, sadd, m_in, m_out, m_gc, f_min, c_8]; rfl))
set_option maxHeartbeats 4000000 in
set_option maxRecDepth 100000 in
theorem c_X3_meetRiver (l : Launch) (D : va_G) (G : w_G) (M : w_M) (B : Nat) (k : Nat) (hB : L_mou G (B)) (hk : L_sec G (k))  : u_Mv l D G yX3_meetRiver cX3_meetRiver 2 none 1 22 [.ref (gP G B), .ref (gP G k)] M (fun M' => M' = m_riv M B k) := by
  have hkB : B ≠ k := u_is_ne (mou_is hB) (sec_is hk) (by decide)
  have hkB2 : B ≠ k + 20 := u_is_ne (mou_is hB) (lay_is (sec_p0 hk)) (by decide)
  refine u_bodyv (by decide +kernel) (Nat.le_of_ble_eq_true rfl) rfl (fun p e s m args below meth c A H0 Q C ret => ?_)
  refine u_aload_n C dX3_meetRiver_0 rfl ?_
  refine u_getR (k2 := (k + 20)) C gX3_meetRiver_1 rfl (sec_is hk) (sec_f0 hk) ?_
  refine u_aload_n C dX3_meetRiver_4 rfl ?_
  refine u_getI C gX3_meetRiver_5 rfl (mou_is hB) ?_
  refine u_iconst (v := 0) C dX3_meetRiver_8 (by decide) ?_
  refine u_callvV2 C ev_X2_takeIn dX3_meetRiver_9 ml_RX3_181 (lay_is (sec_p0 hk)) rfl (by decide) (c_X2_takeIn l D G _ _ _ _ (sec_p0 hk) ) (by decide) (Nat.le_of_ble_eq_true rfl) (fun M_9 q_9 => ?_)
  obtain rfl := q_9
  refine u_aload_n C dX3_meetRiver_12 rfl ?_
  refine u_dup C dX3_meetRiver_13 rfl ?_
  refine u_getI C gX3_meetRiver_14 rfl (sec_is hk) ?_
  refine u_aload_n C dX3_meetRiver_17 rfl ?_
  refine u_getI C gX3_meetRiver_18 rfl (mou_is hB) ?_
  refine u_iadd C dX3_meetRiver_21 ?_
  refine u_putI C pX3_meetRiver_22 rfl (sec_is hk) ?_
  refine u_aload_n C dX3_meetRiver_25 rfl ?_
  refine u_getR (k2 := (B + 5)) C gX3_meetRiver_26 rfl (mou_is hB) (mou_f4 hB) ?_
  refine u_iconst (v := 2) C dX3_meetRiver_29 (by decide) ?_
  refine u_dup2 C dX3_meetRiver_30 rfl rfl ?_
  refine u_laldN (i := 2) C dX3_meetRiver_31 (j10_is (mou_p4 hB)) (j10_n (mou_p4 hB)) (by decide) (by decide) ?_
  refine u_aload_n C dX3_meetRiver_32 rfl ?_
  refine u_getI C gX3_meetRiver_33 rfl (mou_is hB) ?_
  refine u_i2l C dX3_meetRiver_36 ?_
  refine u_ladd C dX3_meetRiver_37 ?_
  refine u_lastN (i := 2) C dX3_meetRiver_38 (j10_is (mou_p4 hB)) (j10_n (mou_p4 hB)) (by decide) (by decide) ?_
  refine u_aload_n C dX3_meetRiver_39 rfl ?_
  refine u_getR (k2 := (B + 5)) C gX3_meetRiver_40 rfl (mou_is hB) (mou_f4 hB) ?_
  refine u_bipush (v := 7) C dX3_meetRiver_43 (by decide) ?_
  refine u_dup2 C dX3_meetRiver_45 rfl rfl ?_
  refine u_laldN (i := 7) C dX3_meetRiver_46 (j10_is (mou_p4 hB)) (j10_n (mou_p4 hB)) (by decide) (by decide) ?_
  refine u_aload_n C dX3_meetRiver_47 rfl ?_
  refine u_getI C gX3_meetRiver_48 rfl (mou_is hB) ?_
  refine u_i2l C dX3_meetRiver_51 ?_
  refine u_ladd C dX3_meetRiver_52 ?_
  refine u_lastN (i := 7) C dX3_meetRiver_53 (j10_is (mou_p4 hB)) (j10_n (mou_p4 hB)) (by decide) (by decide) ?_
  exact ret _ _  _ dX3_meetRiver_54  (by simp [m_riv, sadd, m_in, iv_wi, iv_wj, jv_wi, jv_wj, hkB, hkB2])
set_option maxHeartbeats 4000000 in
set_option maxRecDepth 100000 in
theorem c_X3_flowInLow (l : Launch) (D : va_G) (G : w_G) (M : w_M) (B : Nat) (k1 : Nat) (k2 : Nat) (f : Int32) (hB : L_mou G (B)) (hk1 : L_sec G (k1)) (hk2 : L_sec G (k2))  : u_Mv l D G yX3_flowInLow cX3_flowInLow 5 none 2 44 [.ref (gP G B), .ref (gP G k1), .ref (gP G k2), .int f] M (fun M' => M' = m_fl M k1 k2 f) := by
  refine u_bodyv (by decide +kernel) (Nat.le_of_ble_eq_true rfl) rfl (fun p e s m args below meth c A H0 Q C ret => ?_)
  refine u_aload_n C dX3_flowInLow_0 rfl ?_
  refine u_getR (k2 := (k1 + 30)) C gX3_flowInLow_1 rfl (sec_is hk1) (sec_f1 hk1) ?_
  refine u_iload_n C dX3_flowInLow_4 rfl ?_
  refine u_calliV1 C ev_X2_giveOut dX3_flowInLow_5 ml_RX3_195 (lay_is (sec_p1 hk1)) rfl (by decide) (c_X2_giveOut l D G _ _ _ (sec_p1 hk1) ) (by decide) (Nat.le_of_ble_eq_true rfl) (fun r_5 M_5 q_5 => ?_)
  obtain ⟨rfl, e_5⟩ := q_5
  subst M_5
  refine u_istore C dX3_flowInLow_8 (by decide) ?_
  refine u_aload_n C dX3_flowInLow_10 rfl ?_
  refine u_getR (k2 := (k2 + 30)) C gX3_flowInLow_11 rfl (sec_is hk2) (sec_f1 hk2) ?_
  refine u_iload_n C dX3_flowInLow_14 rfl ?_
  refine u_iload C dX3_flowInLow_15 rfl ?_
  refine u_callvV2 C ev_X2_takeIn dX3_flowInLow_17 ml_RX3_181 (lay_is (sec_p1 hk2)) rfl (by decide) (c_X2_takeIn l D G _ _ _ _ (sec_p1 hk2) ) (by decide) (Nat.le_of_ble_eq_true rfl) (fun M_17 q_17 => ?_)
  obtain rfl := q_17
  exact ret _ _  _ dX3_flowInLow_20  (rfl)
set_option maxHeartbeats 4000000 in
set_option maxRecDepth 100000 in
theorem c_X3_flowInUp (l : Launch) (D : va_G) (G : w_G) (M : w_M) (B : Nat) (k1 : Nat) (k2 : Nat) (f : Int32) (hB : L_mou G (B)) (hk1 : L_sec G (k1)) (hk2 : L_sec G (k2))  : u_Mv l D G yX3_flowInUp cX3_flowInUp 6 none 2 44 [.ref (gP G B), .ref (gP G k1), .ref (gP G k2), .int f] M (fun M' => M' = m_fu M k1 k2 f) := by
  refine u_bodyv (by decide +kernel) (Nat.le_of_ble_eq_true rfl) rfl (fun p e s m args below meth c A H0 Q C ret => ?_)
  refine u_aload_n C dX3_flowInUp_0 rfl ?_
  refine u_iload_n C dX3_flowInUp_1 rfl ?_
  refine u_calliV1 C ev_X6_giveCloud dX3_flowInUp_2 ml_RX3_192 (sec_is hk1) rfl (by decide) (c_X6_giveCloud l D G _ _ _ hk1 ) (by decide) (Nat.le_of_ble_eq_true rfl) (fun r_2 M_2 q_2 => ?_)
  obtain ⟨rfl, e_2⟩ := q_2
  subst M_2
  refine u_istore C dX3_flowInUp_5 (by decide) ?_
  refine u_aload_n C dX3_flowInUp_7 rfl ?_
  refine u_getR (k2 := (k1 + 20)) C gX3_flowInUp_8 rfl (sec_is hk1) (sec_f0 hk1) ?_
  refine u_iload_n C dX3_flowInUp_11 rfl ?_
  refine u_calliV1 C ev_X2_giveOut dX3_flowInUp_12 ml_RX3_195 (lay_is (sec_p0 hk1)) rfl (by decide) (c_X2_giveOut l D G _ _ _ (sec_p0 hk1) ) (by decide) (Nat.le_of_ble_eq_true rfl) (fun r_12 M_12 q_12 => ?_)
  obtain ⟨rfl, e_12⟩ := q_12
  subst M_12
  refine u_istore C dX3_flowInUp_15 (by decide) ?_
  refine u_aload_n C dX3_flowInUp_17 rfl ?_
  refine u_dup C dX3_flowInUp_18 rfl ?_
  refine u_getI C gX3_flowInUp_19 rfl (sec_is hk2) ?_
  refine u_iload C dX3_flowInUp_22 rfl ?_
  refine u_iadd C dX3_flowInUp_24 ?_
  refine u_putI C pX3_flowInUp_25 rfl (sec_is hk2) ?_
  refine u_aload_n C dX3_flowInUp_28 rfl ?_
  refine u_getR (k2 := (k2 + 20)) C gX3_flowInUp_29 rfl (sec_is hk2) (sec_f0 hk2) ?_
  refine u_iload_n C dX3_flowInUp_32 rfl ?_
  refine u_iload C dX3_flowInUp_33 rfl ?_
  refine u_callvV2 C ev_X2_takeIn dX3_flowInUp_35 ml_RX3_181 (lay_is (sec_p0 hk2)) rfl (by decide) (c_X2_takeIn l D G _ _ _ _ (sec_p0 hk2) ) (by decide) (Nat.le_of_ble_eq_true rfl) (fun M_35 q_35 => ?_)
  obtain rfl := q_35
  exact ret _ _  _ dX3_flowInUp_38  (rfl)
set_option maxHeartbeats 4000000 in
set_option maxRecDepth 100000 in
theorem c_X3_flowByLevels (l : Launch) (D : va_G) (G : w_G) (M : w_M) (B : Nat) (k1 : Nat) (k2 : Nat) (hB : L_mou G (B)) (hk1 : L_sec G (k1)) (hk2 : L_sec G (k2))  : u_Mv l D G yX3_flowByLevels cX3_flowByLevels 6 none 3 69 [.ref (gP G B), .ref (gP G k1), .ref (gP G k2)] M (fun M' => M' = m_level M k1 k2) := by
  refine u_bodyv (by decide +kernel) (Nat.le_of_ble_eq_true rfl) rfl (fun p e s m args below meth c A H0 Q C ret => ?_)
  refine u_aload_n C dX3_flowByLevels_0 rfl ?_
  refine u_calliV0 C ev_X6_level dX3_flowByLevels_1 ml_RX3_170 (sec_is hk1) rfl (by decide) (c_X6_level l D G _ _ hk1 ) (by decide) (Nat.le_of_ble_eq_true rfl) (fun r_1 M_1 q_1 => ?_)
  obtain ⟨rfl, e_1⟩ := q_1
  subst M_1
  refine u_aload_n C dX3_flowByLevels_4 rfl ?_
  refine u_calliV0 C ev_X6_level dX3_flowByLevels_5 ml_RX3_170 (sec_is hk2) rfl (by decide) (c_X6_level l D G _ _ hk2 ) (by decide) (Nat.le_of_ble_eq_true rfl) (fun r_5 M_5 q_5 => ?_)
  obtain ⟨rfl, e_5⟩ := q_5
  subst M_5
  refine u_isub C dX3_flowByLevels_8 ?_
  refine u_istore_n C dX3_flowByLevels_9 (by decide) ?_
  refine u_aload_n C dX3_flowByLevels_10 rfl ?_
  refine u_getI C gX3_flowByLevels_11 rfl (sec_is hk1) ?_
  refine u_aload_n C dX3_flowByLevels_14 rfl ?_
  refine u_getI C gX3_flowByLevels_15 rfl (sec_is hk2) ?_
  refine u_mmin C dX3_flowByLevels_18 ml_RX3_119 wm_min (by decide) (Nat.le_of_ble_eq_true rfl) ?_
  refine u_istore C dX3_flowByLevels_21 (by decide) ?_
  refine u_iconst (v := 0) C dX3_flowByLevels_23 (by decide) ?_
  refine u_istore C dX3_flowByLevels_24 (by decide) ?_
  refine u_iload_n C dX3_flowByLevels_26 rfl ?_
  refine u_if_le (tgt := 59) C dX3_flowByLevels_27 (by decide) (fun c_27 => ?_) (fun c_27 => ?_)
  · refine u_iload_n C dX3_flowByLevels_59 rfl ?_
    refine u_if_ge (tgt := 90) C dX3_flowByLevels_60 (by decide) (fun c_60 => ?_) (fun c_60 => ?_)
    · refine u_aload_n C dX3_flowByLevels_90 rfl ?_
      refine u_dup C dX3_flowByLevels_91 rfl ?_
      refine u_getI C gX3_flowByLevels_92 rfl (sec_is hk1) ?_
      refine u_iload C dX3_flowByLevels_95 rfl ?_
      refine u_iadd C dX3_flowByLevels_97 ?_
      refine u_putI C pX3_flowByLevels_98 rfl (sec_is hk1) ?_
      refine u_aload_n C dX3_flowByLevels_101 rfl ?_
      refine u_dup C dX3_flowByLevels_102 rfl ?_
      refine u_getI C gX3_flowByLevels_103 rfl (sec_is hk2) ?_
      refine u_iload C dX3_flowByLevels_106 rfl ?_
      refine u_iadd C dX3_flowByLevels_108 ?_
      refine u_putI C pX3_flowByLevels_109 rfl (sec_is hk2) ?_
      exact ret _ _  _ dX3_flowByLevels_112  (by (try simp only [u_le, Decidable.not_not] at c_27 c_60); first | (simp only [m_level, s_d]; rw [if_neg c_27, if_neg c_60]; rfl) | (simp [-Int32.not_lt, -Int32.not_le, m_level, s_d, m_runs, c_27, c_60]; done) | (simp [-Int32.not_lt, -Int32.not_le, m_level, s_d, c_27, c_60]; rfl))
    · refine u_iload_n C dX3_flowByLevels_63 rfl ?_
      refine u_ineg C dX3_flowByLevels_64 ?_
      refine u_iload C dX3_flowByLevels_65 rfl ?_
      refine u_imul C dX3_flowByLevels_67 ?_
      refine u_iconst (v := 4) C dX3_flowByLevels_68 (by decide) ?_
      refine u_idiv C dX3_flowByLevels_69 (by decide) ?_
      refine u_aload_n C dX3_flowByLevels_70 rfl ?_
      refine u_getR (k2 := (k2 + 20)) C gX3_flowByLevels_71 rfl (sec_is hk2) (sec_f0 hk2) ?_
      refine u_getI C gX3_flowByLevels_74 rfl (lay_is (sec_p0 hk2)) ?_
      refine u_mmin C dX3_flowByLevels_77 ml_RX3_119 wm_min (by decide) (Nat.le_of_ble_eq_true rfl) ?_
      refine u_istore C dX3_flowByLevels_80 (by decide) ?_
      refine u_aload_n C dX3_flowByLevels_82 rfl ?_
      refine u_aload_n C dX3_flowByLevels_83 rfl ?_
      refine u_aload_n C dX3_flowByLevels_84 rfl ?_
      refine u_iload C dX3_flowByLevels_85 rfl ?_
      refine u_callvV3 C ev_X3_flowInUp dX3_flowByLevels_87 ml_RX3_202 (mou_is hB) rfl (by decide) (c_X3_flowInUp l D G _ _ _ _ _ hB hk2 hk1 ) (by decide) (Nat.le_of_ble_eq_true rfl) (fun M_87 q_87 => ?_)
      obtain rfl := q_87
      refine u_aload_n C dX3_flowByLevels_90 rfl ?_
      refine u_dup C dX3_flowByLevels_91 rfl ?_
      refine u_getI C gX3_flowByLevels_92 rfl (sec_is hk1) ?_
      refine u_iload C dX3_flowByLevels_95 rfl ?_
      refine u_iadd C dX3_flowByLevels_97 ?_
      refine u_putI C pX3_flowByLevels_98 rfl (sec_is hk1) ?_
      refine u_aload_n C dX3_flowByLevels_101 rfl ?_
      refine u_dup C dX3_flowByLevels_102 rfl ?_
      refine u_getI C gX3_flowByLevels_103 rfl (sec_is hk2) ?_
      refine u_iload C dX3_flowByLevels_106 rfl ?_
      refine u_iadd C dX3_flowByLevels_108 ?_
      refine u_putI C pX3_flowByLevels_109 rfl (sec_is hk2) ?_
      exact ret _ _  _ dX3_flowByLevels_112  (by (try simp only [u_le, Decidable.not_not] at c_27 c_60); first | (simp only [m_level, s_d]; rw [if_neg c_27, if_neg c_60]; rfl) | (simp [-Int32.not_lt, -Int32.not_le, m_level, s_d, m_runs, c_27, c_60]; done) | (simp [-Int32.not_lt, -Int32.not_le, m_level, s_d, c_27, c_60]; rfl))
  · refine u_iload_n C dX3_flowByLevels_30 rfl ?_
    refine u_iload C dX3_flowByLevels_31 rfl ?_
    refine u_imul C dX3_flowByLevels_33 ?_
    refine u_iconst (v := 4) C dX3_flowByLevels_34 (by decide) ?_
    refine u_idiv C dX3_flowByLevels_35 (by decide) ?_
    refine u_aload_n C dX3_flowByLevels_36 rfl ?_
    refine u_getR (k2 := (k1 + 30)) C gX3_flowByLevels_37 rfl (sec_is hk1) (sec_f1 hk1) ?_
    refine u_getI C gX3_flowByLevels_40 rfl (lay_is (sec_p1 hk1)) ?_
    refine u_mmin C dX3_flowByLevels_43 ml_RX3_119 wm_min (by decide) (Nat.le_of_ble_eq_true rfl) ?_
    refine u_istore C dX3_flowByLevels_46 (by decide) ?_
    refine u_aload_n C dX3_flowByLevels_48 rfl ?_
    refine u_aload_n C dX3_flowByLevels_49 rfl ?_
    refine u_aload_n C dX3_flowByLevels_50 rfl ?_
    refine u_iload C dX3_flowByLevels_51 rfl ?_
    refine u_callvV3 C ev_X3_flowInLow dX3_flowByLevels_53 ml_RX3_198 (mou_is hB) rfl (by decide) (c_X3_flowInLow l D G _ _ _ _ _ hB hk1 hk2 ) (by decide) (Nat.le_of_ble_eq_true rfl) (fun M_53 q_53 => ?_)
    obtain rfl := q_53
    refine u_goto (tgt := 90) C dX3_flowByLevels_56 (by decide) ?_
    refine u_aload_n C dX3_flowByLevels_90 rfl ?_
    refine u_dup C dX3_flowByLevels_91 rfl ?_
    refine u_getI C gX3_flowByLevels_92 rfl (sec_is hk1) ?_
    refine u_iload C dX3_flowByLevels_95 rfl ?_
    refine u_iadd C dX3_flowByLevels_97 ?_
    refine u_putI C pX3_flowByLevels_98 rfl (sec_is hk1) ?_
    refine u_aload_n C dX3_flowByLevels_101 rfl ?_
    refine u_dup C dX3_flowByLevels_102 rfl ?_
    refine u_getI C gX3_flowByLevels_103 rfl (sec_is hk2) ?_
    refine u_iload C dX3_flowByLevels_106 rfl ?_
    refine u_iadd C dX3_flowByLevels_108 ?_
    refine u_putI C pX3_flowByLevels_109 rfl (sec_is hk2) ?_
    exact ret _ _  _ dX3_flowByLevels_112  (by (try simp only [u_le, Decidable.not_not] at c_27); first | (simp only [m_level, s_d]; rw [if_neg c_27, if_neg c_60]; rfl) | (simp [-Int32.not_lt, -Int32.not_le, m_level, s_d, m_runs, c_27]; done) | (simp [-Int32.not_lt, -Int32.not_le, m_level, s_d, c_27]; rfl))
set_option maxHeartbeats 4000000 in
set_option maxRecDepth 100000 in
theorem c_X3_creep (l : Launch) (D : va_G) (G : w_G) (M : w_M) (B : Nat) (k1 : Nat) (k2 : Nat) (hB : L_mou G (B)) (hk1 : L_sec G (k1)) (hk2 : L_sec G (k2))  : u_Mv l D G yX3_creep cX3_creep 4 none 3 69 [.ref (gP G B), .ref (gP G k1), .ref (gP G k2)] M (fun M' => M' = m_creep M k1 k2) := by
  refine u_bodyv (by decide +kernel) (Nat.le_of_ble_eq_true rfl) rfl (fun p e s m args below meth c A H0 Q C ret => ?_)
  refine u_aload_n C dX3_creep_0 rfl ?_
  refine u_getR (k2 := (k1 + 30)) C gX3_creep_1 rfl (sec_is hk1) (sec_f1 hk1) ?_
  refine u_calliV0 C ev_X2_salinity dX3_creep_4 ml_RX3_205 (lay_is (sec_p1 hk1)) rfl (by decide) (c_X2_salinity l D G _ _ (sec_p1 hk1) ) (by decide) (Nat.le_of_ble_eq_true rfl) (fun r_4 M_4 q_4 => ?_)
  obtain ⟨rfl, e_4⟩ := q_4
  subst M_4
  refine u_aload_n C dX3_creep_7 rfl ?_
  refine u_getR (k2 := (k2 + 30)) C gX3_creep_8 rfl (sec_is hk2) (sec_f1 hk2) ?_
  refine u_calliV0 C ev_X2_salinity dX3_creep_11 ml_RX3_205 (lay_is (sec_p1 hk2)) rfl (by decide) (c_X2_salinity l D G _ _ (sec_p1 hk2) ) (by decide) (Nat.le_of_ble_eq_true rfl) (fun r_11 M_11 q_11 => ?_)
  obtain ⟨rfl, e_11⟩ := q_11
  subst M_11
  refine u_icmp_le (tgt := 52) C dX3_creep_14 (by decide) (fun c_14 => ?_) (fun c_14 => ?_)
  · exact ret _ _  _ dX3_creep_52  (by (try simp only [u_le, Decidable.not_not] at c_14); first | (rw [m_creep, if_pos c_14]; rfl) | (rw [m_creep, if_neg c_14]))
  · refine u_aload_n C dX3_creep_17 rfl ?_
    refine u_getR (k2 := (k1 + 30)) C gX3_creep_18 rfl (sec_is hk1) (sec_f1 hk1) ?_
    refine u_getI C gX3_creep_21 rfl (lay_is (sec_p1 hk1)) ?_
    refine u_aload_n C dX3_creep_24 rfl ?_
    refine u_getR (k2 := (k2 + 20)) C gX3_creep_25 rfl (sec_is hk2) (sec_f0 hk2) ?_
    refine u_getI C gX3_creep_28 rfl (lay_is (sec_p0 hk2)) ?_
    refine u_mmin C dX3_creep_31 ml_RX3_119 wm_min (by decide) (Nat.le_of_ble_eq_true rfl) ?_
    refine u_bipush (v := 8) C dX3_creep_34 (by decide) ?_
    refine u_idiv C dX3_creep_36 (by decide) ?_
    refine u_istore_n C dX3_creep_37 (by decide) ?_
    refine u_aload_n C dX3_creep_38 rfl ?_
    refine u_aload_n C dX3_creep_39 rfl ?_
    refine u_aload_n C dX3_creep_40 rfl ?_
    refine u_iload_n C dX3_creep_41 rfl ?_
    refine u_callvV3 C ev_X3_flowInLow dX3_creep_42 ml_RX3_198 (mou_is hB) rfl (by decide) (c_X3_flowInLow l D G _ _ _ _ _ hB hk1 hk2 ) (by decide) (Nat.le_of_ble_eq_true rfl) (fun M_42 q_42 => ?_)
    obtain rfl := q_42
    refine u_aload_n C dX3_creep_45 rfl ?_
    refine u_aload_n C dX3_creep_46 rfl ?_
    refine u_aload_n C dX3_creep_47 rfl ?_
    refine u_iload_n C dX3_creep_48 rfl ?_
    refine u_callvV3 C ev_X3_flowInUp dX3_creep_49 ml_RX3_202 (mou_is hB) rfl (by decide) (c_X3_flowInUp l D G _ _ _ _ _ hB hk2 hk1 ) (by decide) (Nat.le_of_ble_eq_true rfl) (fun M_49 q_49 => ?_)
    obtain rfl := q_49
    exact ret _ _  _ dX3_creep_52  (by (try simp only [u_le, Decidable.not_not] at c_14); first | (rw [m_creep, if_pos c_14]; rfl) | (rw [m_creep, if_neg c_14]))
set_option maxHeartbeats 4000000 in
set_option maxRecDepth 100000 in
theorem c_X3_begin (l : Launch) (D : va_G) (G : w_G) (M : w_M) (B : Nat) (hB : L_mou G (B))  : u_Mv l D G yX3_begin cX3_begin 2 none 1 20 [.ref (gP G B)] M (fun M' => M' = m_mbeg M B) := by
  refine u_bodyv (by decide +kernel) (Nat.le_of_ble_eq_true rfl) rfl (fun p e s m args below meth c A H0 Q C ret => ?_)
  have loop1 : ∀ (d i : Nat) (x1 : Int32), i ≤ 10 → 10 - i < d → x1 = nI i → u_S p l e (u_rm 1 20) s m args below meth c 2 D A H0 0 0 Q 16 [(0, .ref (gP G B)), (1, .int x1)] [] G (m_z (m_bb (m_sb M (B + 1)) (B + 2)) B i) := by
    intro d
    induction d with
    | zero => intro i x1 hj hd; omega
    | succ d ih =>
      intro i x1 hj hd h1
      subst h1
      refine u_iload_n C dX3_begin_16 rfl ?_
      refine u_aload_n C dX3_begin_17 rfl ?_
      refine u_getR (k2 := (B + 5)) C gX3_begin_18 rfl (mou_is hB) (mou_f4 hB) ?_
      refine u_alenJ C dX3_begin_21 (j10_is (mou_p4 hB)) ?_
      rw [j10_n (mou_p4 hB)]
      refine u_icmp_ge (tgt := 38) C dX3_begin_22 (by decide) (fun c_22 => ?_) (fun c_22 => ?_)
      · obtain rfl : i = 10 := by have := u_gei (n := 10) c_22 (by omega) (by omega); omega
        refine u_aload_n C dX3_begin_38 rfl ?_
        refine u_iconst (v := 0) C dX3_begin_39 (by decide) ?_
        refine u_putI C pX3_begin_40 rfl (mou_is hB) ?_
        refine u_aload_n C dX3_begin_43 rfl ?_
        refine u_iconst (v := 0) C dX3_begin_44 (by decide) ?_
        refine u_putI C pX3_begin_45 rfl (mou_is hB) ?_
        refine u_aload_n C dX3_begin_48 rfl ?_
        refine u_iconst (v := 0) C dX3_begin_49 (by decide) ?_
        refine u_putI C pX3_begin_50 rfl (mou_is hB) ?_
        refine u_aload_n C dX3_begin_53 rfl ?_
        refine u_iconst (v := 0) C dX3_begin_54 (by decide) ?_
        refine u_putI C pX3_begin_55 rfl (mou_is hB) ?_
        refine u_aload_n C dX3_begin_58 rfl ?_
        refine u_iconst (v := 0) C dX3_begin_59 (by decide) ?_
        refine u_putI C pX3_begin_60 rfl (mou_is hB) ?_
        exact ret _ _  _ dX3_begin_63  (rfl)
      · have hi : i < 10 := u_lt (n := 10) c_22 (by omega)
        refine u_aload_n C dX3_begin_25 rfl ?_
        refine u_getR (k2 := (B + 5)) C gX3_begin_26 rfl (mou_is hB) (mou_f4 hB) ?_
        refine u_iload_n C dX3_begin_29 rfl ?_
        refine u_lconst (v := 0) C dX3_begin_30 (by decide) ?_
        refine u_lastN (i := i) C dX3_begin_31 (j10_is (mou_p4 hB)) (j10_n (mou_p4 hB)) (by omega) (by decide) ?_
        refine u_iinc C dX3_begin_32 (by decide) rfl ?_
        refine u_goto (tgt := 16) C dX3_begin_35 (by decide) ?_
        exact u_loc [0, 1] rfl (ih (i + 1) _ (by omega) (by omega) (nI_1 i))
  refine u_aload_n C dX3_begin_0 rfl ?_
  refine u_getR (k2 := (B + 1)) C gX3_begin_1 rfl (mou_is hB) (mou_f0 hB) ?_
  refine u_callvV0 C ev_X5_begin dX3_begin_4 ml_RX3_43 (sea_is (mou_p0 hB)) rfl (by decide) (c_X5_begin l D G _ _ (mou_p0 hB) ) (by decide) (Nat.le_of_ble_eq_true rfl) (fun M_4 q_4 => ?_)
  obtain rfl := q_4
  refine u_aload_n C dX3_begin_7 rfl ?_
  refine u_getR (k2 := (B + 2)) C gX3_begin_8 rfl (mou_is hB) (mou_f1 hB) ?_
  refine u_callvV0 C ev_X0_begin dX3_begin_11 ml_RX3_46 (bar_is (mou_p1 hB)) rfl (by decide) (c_X0_begin l D G _ _ (mou_p1 hB) ) (by decide) (Nat.le_of_ble_eq_true rfl) (fun M_11 q_11 => ?_)
  obtain rfl := q_11
  refine u_iconst (v := 0) C dX3_begin_14 (by decide) ?_
  refine u_istore_n C dX3_begin_15 (by decide) ?_
  exact u_loc [0, 1] rfl (loop1 11 0 _ (by omega) (by omega) nI_0.symm)
set_option maxHeartbeats 4000000 in
set_option maxRecDepth 100000 in
theorem c_X3_hasSection (l : Launch) (D : va_G) (G : w_G) (M : w_M) (B : Nat) (v : Int32) (hB : L_mou G (B))  : u_Mi l D G yX3_hasSection cX3_hasSection 2 (some .boolean) 0 0 [.ref (gP G B), .int v] M (fun r M' => r = s_has M B v ∧ M' = M) := by
  refine u_bodyz (by decide +kernel) (Nat.le_of_ble_eq_true rfl) rfl (fun p e s m args below meth c A H0 Q C ret => ?_)
  refine u_iload_n C dX3_hasSection_0 rfl ?_
  refine u_if_lt (tgt := 16) C dX3_hasSection_1 (by decide) (fun c_1 => ?_) (fun c_1 => ?_)
  · refine u_iconst (v := 0) C dX3_hasSection_16 (by decide) ?_
    exact ret _ _ _ _ dX3_hasSection_17 (by simp) (by (try simp only [u_le, Decidable.not_not] at c_1); refine ⟨?_, rfl⟩; simp [-Int32.not_lt, -Int32.not_le, s_has, u_le, c_1])
  · refine u_iload_n C dX3_hasSection_4 rfl ?_
    refine u_aload_n C dX3_hasSection_5 rfl ?_
    refine u_getI C gX3_hasSection_6 rfl (mou_is hB) ?_
    refine u_icmp_ge (tgt := 16) C dX3_hasSection_9 (by decide) (fun c_9 => ?_) (fun c_9 => ?_)
    · refine u_iconst (v := 0) C dX3_hasSection_16 (by decide) ?_
      exact ret _ _ _ _ dX3_hasSection_17 (by simp) (by (try simp only [u_le, Decidable.not_not] at c_1 c_9); refine ⟨?_, rfl⟩; simp [-Int32.not_lt, -Int32.not_le, s_has, u_le, c_1, c_9])
    · refine u_iconst (v := 1) C dX3_hasSection_12 (by decide) ?_
      refine u_goto (tgt := 17) C dX3_hasSection_13 (by decide) ?_
      exact ret _ _ _ _ dX3_hasSection_17 (by simp) (by (try simp only [u_le, Decidable.not_not] at c_1 c_9); refine ⟨?_, rfl⟩; simp [-Int32.not_lt, -Int32.not_le, s_has, u_le, c_1, c_9])
set_option maxHeartbeats 4000000 in
set_option maxRecDepth 100000 in
theorem c_X3_addSection (l : Launch) (D : va_G) (G : w_G) (M : w_M) (B : Nat) (ar : Int32) (up : Int32) (low : Int32) (mud : Int32) (hB : L_mou G (B)) (n : Nat) (hn8 : n < 8) (hn : iv M B 5 = nI n) : u_Mv l D G yX3_addSection cX3_addSection 5 none 2 45 [.ref (gP G B), .int ar, .int up, .int low, .int mud] M (fun M' => M' = m_asec M B ar up low mud) := by
  have en : cN (iv M B 5) = n := by rw [hn]; exact cN_nI (by omega)
  refine u_bodyv (by decide +kernel) (Nat.le_of_ble_eq_true rfl) rfl (fun p e s m args below meth c A H0 Q C ret => ?_)
  refine u_aload_n C dX3_addSection_0 rfl ?_
  refine u_getI C gX3_addSection_1 rfl (mou_is hB) ?_
  refine u_aload_n C dX3_addSection_4 rfl ?_
  refine u_getR (k2 := (B + 3)) C gX3_addSection_5 rfl (mou_is hB) (mou_f2 hB) ?_
  refine u_alenR C dX3_addSection_8 (aSec_is (mou_p2 hB)) (by decide) ?_
  rw [aSec_n (mou_p2 hB)]
  rw [hn]
  refine u_icmp_ge (tgt := 39) C dX3_addSection_9 (by decide) (fun c_9 => ?_) (fun c_9 => ?_)
  · exact absurd c_9 (nI_ge hn8 (by decide))
  · refine u_aload_n C dX3_addSection_12 rfl ?_
    refine u_getR (k2 := (B + 3)) C gX3_addSection_13 rfl (mou_is hB) (mou_f2 hB) ?_
    refine u_aload_n C dX3_addSection_16 rfl ?_
    refine u_getI C gX3_addSection_17 rfl (mou_is hB) ?_
    rw [hn]
    refine u_aaldN (k2 := (B + 100 + n)) (i := n) C dX3_addSection_20 (aSec_is (mou_p2 hB)) (by decide) (aSec_n (mou_p2 hB)) hn8 (by decide) (aSec_f (i := n) (mou_p2 hB) hn8) ?_
    refine u_iload_n C dX3_addSection_21 rfl ?_
    refine u_iload_n C dX3_addSection_22 rfl ?_
    refine u_iload_n C dX3_addSection_23 rfl ?_
    refine u_iload C dX3_addSection_24 rfl ?_
    refine u_callvV4 C ev_X6_begin dX3_addSection_26 ml_RX3_94 (sec_is (aSec_p (i := n) (mou_p2 hB) hn8)) rfl (by decide) (c_X6_begin l D G _ _ _ _ _ _ (aSec_p (i := n) (mou_p2 hB) hn8) ) (by decide) (Nat.le_of_ble_eq_true rfl) (fun M_26 q_26 => ?_)
    obtain rfl := q_26
    refine u_aload_n C dX3_addSection_29 rfl ?_
    refine u_dup C dX3_addSection_30 rfl ?_
    refine u_getI C gX3_addSection_31 rfl (mou_is hB) ?_
    refine u_iconst (v := 1) C dX3_addSection_34 (by decide) ?_
    refine u_iadd C dX3_addSection_35 ?_
    refine u_putI C pX3_addSection_36 rfl (mou_is hB) ?_
    exact ret _ _  _ dX3_addSection_39  (by have e1 : ¬ B = B + 100 + n := (by omega); have e2 : ¬ B = B + 100 + n + 20 := (by omega); have e3 : ¬ B = B + 100 + n + 30 := (by omega); simp [m_asec, en, m_sbeg, iv_wi, e1, e2, e3])
set_option maxHeartbeats 4000000 in
set_option maxRecDepth 100000 in
theorem c_X3_addIntake (l : Launch) (D : va_G) (G : w_G) (M : w_M) (B : Nat) (a : Int32) (b : Int32) (c1 : Int32) (d1 : Int32) (e1 : Int32) (hB : L_mou G (B)) (n : Nat) (hn8 : n < 6) (hn : iv M B 6 = nI n) : u_Mv l D G yX3_addIntake cX3_addIntake 6 none 1 25 [.ref (gP G B), .int a, .int b, .int c1, .int d1, .int e1] M (fun M' => M' = m_aint M B a b c1 d1 e1) := by
  have en : cN (iv M B 6) = n := by rw [hn]; exact cN_nI (by omega)
  refine u_bodyv (by decide +kernel) (Nat.le_of_ble_eq_true rfl) rfl (fun p e s m args below meth c A H0 Q C ret => ?_)
  refine u_aload_n C dX3_addIntake_0 rfl ?_
  refine u_getI C gX3_addIntake_1 rfl (mou_is hB) ?_
  refine u_aload_n C dX3_addIntake_4 rfl ?_
  refine u_getR (k2 := (B + 4)) C gX3_addIntake_5 rfl (mou_is hB) (mou_f3 hB) ?_
  refine u_alenR C dX3_addIntake_8 (aInt_is (mou_p3 hB)) (by decide) ?_
  rw [aInt_n (mou_p3 hB)]
  rw [hn]
  refine u_icmp_ge (tgt := 41) C dX3_addIntake_9 (by decide) (fun c_9 => ?_) (fun c_9 => ?_)
  · exact absurd c_9 (nI_ge hn8 (by decide))
  · refine u_aload_n C dX3_addIntake_12 rfl ?_
    refine u_getR (k2 := (B + 4)) C gX3_addIntake_13 rfl (mou_is hB) (mou_f3 hB) ?_
    refine u_aload_n C dX3_addIntake_16 rfl ?_
    refine u_getI C gX3_addIntake_17 rfl (mou_is hB) ?_
    rw [hn]
    refine u_aaldN (k2 := (B + 150 + n)) (i := n) C dX3_addIntake_20 (aInt_is (mou_p3 hB)) (by decide) (aInt_n (mou_p3 hB)) hn8 (by decide) (aInt_f (i := n) (mou_p3 hB) hn8) ?_
    refine u_iload_n C dX3_addIntake_21 rfl ?_
    refine u_iload_n C dX3_addIntake_22 rfl ?_
    refine u_iload_n C dX3_addIntake_23 rfl ?_
    refine u_iload C dX3_addIntake_24 rfl ?_
    refine u_iload C dX3_addIntake_26 rfl ?_
    refine u_callvV5 C ev_X1_begin dX3_addIntake_28 ml_RX3_96 (int_is (aInt_p (i := n) (mou_p3 hB) hn8)) rfl (by decide) (c_X1_begin l D G _ _ _ _ _ _ _ (aInt_p (i := n) (mou_p3 hB) hn8) ) (by decide) (Nat.le_of_ble_eq_true rfl) (fun M_28 q_28 => ?_)
    obtain rfl := q_28
    refine u_aload_n C dX3_addIntake_31 rfl ?_
    refine u_dup C dX3_addIntake_32 rfl ?_
    refine u_getI C gX3_addIntake_33 rfl (mou_is hB) ?_
    refine u_iconst (v := 1) C dX3_addIntake_36 (by decide) ?_
    refine u_iadd C dX3_addIntake_37 ?_
    refine u_putI C pX3_addIntake_38 rfl (mou_is hB) ?_
    exact ret _ _  _ dX3_addIntake_41  (by have e1 : ¬ B = B + 150 + n := (by omega); simp [m_aint, en, m_ibeg, iv_wi, e1])
set_option maxHeartbeats 4000000 in
set_option maxRecDepth 100000 in
theorem c_X3_setPermit (l : Launch) (D : va_G) (G : w_G) (M : w_M) (B : Nat) (i : Nat) (a : Int32) (hB : L_mou G (B)) (n : Nat) (hn8 : n ≤ 8) (hn : iv M B 5 = nI n) (hi : i < n) : u_Mv l D G yX3_setPermit cX3_setPermit 3 none 1 21 [.ref (gP G B), .int (nI i), .int a] M (fun M' => M' = wi M (B + 100 + i) 7 a) := by
  refine u_bodyv (by decide +kernel) (Nat.le_of_ble_eq_true rfl) rfl (fun p e s m args below meth c A H0 Q C ret => ?_)
  refine u_aload_n C dX3_setPermit_0 rfl ?_
  refine u_iload_n C dX3_setPermit_1 rfl ?_
  refine u_calliV1 C ev_X3_hasSection dX3_setPermit_2 ml_RX3_98 (mou_is hB) rfl (by decide) (c_X3_hasSection l D G _ _ _ hB ) (by decide) (Nat.le_of_ble_eq_true rfl) (fun r_2 M_2 q_2 => ?_)
  obtain ⟨rfl, e_2⟩ := q_2
  subst M_2
  rw [u_has hn8 hn hi]
  refine u_if_eq (tgt := 18) C dX3_setPermit_5 (by decide) (fun c_5 => ?_) (fun c_5 => ?_)
  · exact absurd c_5 (by decide)
  · refine u_aload_n C dX3_setPermit_8 rfl ?_
    refine u_getR (k2 := (B + 3)) C gX3_setPermit_9 rfl (mou_is hB) (mou_f2 hB) ?_
    refine u_iload_n C dX3_setPermit_12 rfl ?_
    refine u_aaldN (k2 := (B + 100 + i)) (i := i) C dX3_setPermit_13 (aSec_is (mou_p2 hB)) (by decide) (aSec_n (mou_p2 hB)) (by omega) (by decide) (aSec_f (i := i) (mou_p2 hB) (by omega)) ?_
    refine u_iload_n C dX3_setPermit_14 rfl ?_
    refine u_putI C pX3_setPermit_15 rfl (sec_is (aSec_p (i := i) (mou_p2 hB) (by omega))) ?_
    exact ret _ _  _ dX3_setPermit_18  (rfl)
set_option maxHeartbeats 4000000 in
set_option maxRecDepth 100000 in
theorem c_X3_moveMudS (l : Launch) (D : va_G) (G : w_G) (M : w_M) (B : Nat) (i : Nat) (a : Int32) (hB : L_mou G (B)) (n : Nat) (hn8 : n ≤ 8) (hn : iv M B 5 = nI n) (hi : i < n) : u_Mv l D G yX3_moveMud cX3_moveMud 4 none 1 21 [.ref (gP G B), .int (nI i), .int a, .int (-1)] M (fun M' => M' = m_mudS M B i a) := by
  refine u_bodyv (by decide +kernel) (Nat.le_of_ble_eq_true rfl) rfl (fun p e s m args below meth c A H0 Q C ret => ?_)
  refine u_aload_n C dX3_moveMud_0 rfl ?_
  refine u_iload_n C dX3_moveMud_1 rfl ?_
  refine u_calliV1 C ev_X3_hasSection dX3_moveMud_2 ml_RX3_98 (mou_is hB) rfl (by decide) (c_X3_hasSection l D G _ _ _ hB ) (by decide) (Nat.le_of_ble_eq_true rfl) (fun r_2 M_2 q_2 => ?_)
  obtain ⟨rfl, e_2⟩ := q_2
  subst M_2
  rw [u_has hn8 hn hi]
  refine u_if_ne (tgt := 9) C dX3_moveMud_5 (by decide) (fun c_5 => ?_) (fun c_5 => ?_)
  · refine u_aload_n C dX3_moveMud_9 rfl ?_
    refine u_getR (k2 := (B + 3)) C gX3_moveMud_10 rfl (mou_is hB) (mou_f2 hB) ?_
    refine u_iload_n C dX3_moveMud_13 rfl ?_
    refine u_aaldN (k2 := (B + 100 + i)) (i := i) C dX3_moveMud_14 (aSec_is (mou_p2 hB)) (by decide) (aSec_n (mou_p2 hB)) (by omega) (by decide) (aSec_f (i := i) (mou_p2 hB) (by omega)) ?_
    refine u_dup C dX3_moveMud_15 rfl ?_
    refine u_getI C gX3_moveMud_16 rfl (sec_is (aSec_p (i := i) (mou_p2 hB) (by omega))) ?_
    refine u_iload_n C dX3_moveMud_19 rfl ?_
    refine u_isub C dX3_moveMud_20 ?_
    refine u_putI C pX3_moveMud_21 rfl (sec_is (aSec_p (i := i) (mou_p2 hB) (by omega))) ?_
    refine u_aload_n C dX3_moveMud_24 rfl ?_
    refine u_getR (k2 := (B + 3)) C gX3_moveMud_25 rfl (mou_is hB) (mou_f2 hB) ?_
    refine u_iload_n C dX3_moveMud_28 rfl ?_
    refine u_aaldN (k2 := (B + 100 + i)) (i := i) C dX3_moveMud_29 (aSec_is (mou_p2 hB)) (by decide) (aSec_n (mou_p2 hB)) (by omega) (by decide) (aSec_f (i := i) (mou_p2 hB) (by omega)) ?_
    refine u_dup C dX3_moveMud_30 rfl ?_
    refine u_getI C gX3_moveMud_31 rfl (sec_is (aSec_p (i := i) (mou_p2 hB) (by omega))) ?_
    refine u_iload_n C dX3_moveMud_34 rfl ?_
    refine u_isub C dX3_moveMud_35 ?_
    refine u_putI C pX3_moveMud_36 rfl (sec_is (aSec_p (i := i) (mou_p2 hB) (by omega))) ?_
    refine u_aload_n C dX3_moveMud_39 rfl ?_
    refine u_iload_n C dX3_moveMud_40 rfl ?_
    refine u_calliV1 C ev_X3_hasSection dX3_moveMud_41 ml_RX3_98 (mou_is hB) rfl (by decide) (c_X3_hasSection l D G _ _ _ hB ) (by decide) (Nat.le_of_ble_eq_true rfl) (fun r_41 M_41 q_41 => ?_)
    obtain ⟨rfl, e_41⟩ := q_41
    subst M_41
    rw [show s_has (wi (wi M (B + 100 + i) 7 (iv M (B + 100 + i) 7 - a)) (B + 100 + i) 4 (iv (wi M (B + 100 + i) 7 (iv M (B + 100 + i) 7 - a)) (B + 100 + i) 4 - a)) B (-1) = 0 from by rw [s_has, if_pos (by decide)]]
    refine u_if_eq (tgt := 65) C dX3_moveMud_44 (by decide) (fun c_44 => ?_) (fun c_44 => ?_)
    · refine u_aload_n C dX3_moveMud_65 rfl ?_
      refine u_getR (k2 := (B + 5)) C gX3_moveMud_66 rfl (mou_is hB) (mou_f4 hB) ?_
      refine u_bipush (v := 9) C dX3_moveMud_69 (by decide) ?_
      refine u_dup2 C dX3_moveMud_71 rfl rfl ?_
      refine u_laldN (i := 9) C dX3_moveMud_72 (j10_is (mou_p4 hB)) (j10_n (mou_p4 hB)) (by decide) (by decide) ?_
      refine u_iload_n C dX3_moveMud_73 rfl ?_
      refine u_i2l C dX3_moveMud_74 ?_
      refine u_ladd C dX3_moveMud_75 ?_
      refine u_lastN (i := 9) C dX3_moveMud_76 (j10_is (mou_p4 hB)) (j10_n (mou_p4 hB)) (by decide) (by decide) ?_
      exact ret _ _  _ dX3_moveMud_77  (by simp [m_mudS, m_mud1, sadd, iv_wi])
    · exact absurd rfl c_44
  · exact absurd c_5 (by decide)
set_option maxHeartbeats 4000000 in
set_option maxRecDepth 100000 in
theorem c_X3_moveMudC (l : Launch) (D : va_G) (G : w_G) (M : w_M) (B : Nat) (i : Nat) (a : Int32) (j : Nat) (hB : L_mou G (B)) (n : Nat) (hn8 : n ≤ 8) (hn : iv M B 5 = nI n) (hi : i < n) (hj : j < n) : u_Mv l D G yX3_moveMud cX3_moveMud 4 none 1 21 [.ref (gP G B), .int (nI i), .int a, .int (nI j)] M (fun M' => M' = m_mudC M B i j a) := by
  refine u_bodyv (by decide +kernel) (Nat.le_of_ble_eq_true rfl) rfl (fun p e s m args below meth c A H0 Q C ret => ?_)
  refine u_aload_n C dX3_moveMud_0 rfl ?_
  refine u_iload_n C dX3_moveMud_1 rfl ?_
  refine u_calliV1 C ev_X3_hasSection dX3_moveMud_2 ml_RX3_98 (mou_is hB) rfl (by decide) (c_X3_hasSection l D G _ _ _ hB ) (by decide) (Nat.le_of_ble_eq_true rfl) (fun r_2 M_2 q_2 => ?_)
  obtain ⟨rfl, e_2⟩ := q_2
  subst M_2
  rw [u_has hn8 hn hi]
  refine u_if_ne (tgt := 9) C dX3_moveMud_5 (by decide) (fun c_5 => ?_) (fun c_5 => ?_)
  · refine u_aload_n C dX3_moveMud_9 rfl ?_
    refine u_getR (k2 := (B + 3)) C gX3_moveMud_10 rfl (mou_is hB) (mou_f2 hB) ?_
    refine u_iload_n C dX3_moveMud_13 rfl ?_
    refine u_aaldN (k2 := (B + 100 + i)) (i := i) C dX3_moveMud_14 (aSec_is (mou_p2 hB)) (by decide) (aSec_n (mou_p2 hB)) (by omega) (by decide) (aSec_f (i := i) (mou_p2 hB) (by omega)) ?_
    refine u_dup C dX3_moveMud_15 rfl ?_
    refine u_getI C gX3_moveMud_16 rfl (sec_is (aSec_p (i := i) (mou_p2 hB) (by omega))) ?_
    refine u_iload_n C dX3_moveMud_19 rfl ?_
    refine u_isub C dX3_moveMud_20 ?_
    refine u_putI C pX3_moveMud_21 rfl (sec_is (aSec_p (i := i) (mou_p2 hB) (by omega))) ?_
    refine u_aload_n C dX3_moveMud_24 rfl ?_
    refine u_getR (k2 := (B + 3)) C gX3_moveMud_25 rfl (mou_is hB) (mou_f2 hB) ?_
    refine u_iload_n C dX3_moveMud_28 rfl ?_
    refine u_aaldN (k2 := (B + 100 + i)) (i := i) C dX3_moveMud_29 (aSec_is (mou_p2 hB)) (by decide) (aSec_n (mou_p2 hB)) (by omega) (by decide) (aSec_f (i := i) (mou_p2 hB) (by omega)) ?_
    refine u_dup C dX3_moveMud_30 rfl ?_
    refine u_getI C gX3_moveMud_31 rfl (sec_is (aSec_p (i := i) (mou_p2 hB) (by omega))) ?_
    refine u_iload_n C dX3_moveMud_34 rfl ?_
    refine u_isub C dX3_moveMud_35 ?_
    refine u_putI C pX3_moveMud_36 rfl (sec_is (aSec_p (i := i) (mou_p2 hB) (by omega))) ?_
    refine u_aload_n C dX3_moveMud_39 rfl ?_
    refine u_iload_n C dX3_moveMud_40 rfl ?_
    refine u_calliV1 C ev_X3_hasSection dX3_moveMud_41 ml_RX3_98 (mou_is hB) rfl (by decide) (c_X3_hasSection l D G _ _ _ hB ) (by decide) (Nat.le_of_ble_eq_true rfl) (fun r_41 M_41 q_41 => ?_)
    obtain ⟨rfl, e_41⟩ := q_41
    subst M_41
    rw [u_has hn8 (by have e1 : ¬ B = B + 100 + i := (by omega); simp [iv_wi, e1, hn]) hj]
    refine u_if_eq (tgt := 65) C dX3_moveMud_44 (by decide) (fun c_44 => ?_) (fun c_44 => ?_)
    · exact absurd c_44 (by decide)
    · refine u_aload_n C dX3_moveMud_47 rfl ?_
      refine u_getR (k2 := (B + 3)) C gX3_moveMud_48 rfl (mou_is hB) (mou_f2 hB) ?_
      refine u_iload_n C dX3_moveMud_51 rfl ?_
      refine u_aaldN (k2 := (B + 100 + j)) (i := j) C dX3_moveMud_52 (aSec_is (mou_p2 hB)) (by decide) (aSec_n (mou_p2 hB)) (by omega) (by decide) (aSec_f (i := j) (mou_p2 hB) (by omega)) ?_
      refine u_dup C dX3_moveMud_53 rfl ?_
      refine u_getI C gX3_moveMud_54 rfl (sec_is (aSec_p (i := j) (mou_p2 hB) (by omega))) ?_
      refine u_iload_n C dX3_moveMud_57 rfl ?_
      refine u_iadd C dX3_moveMud_58 ?_
      refine u_putI C pX3_moveMud_59 rfl (sec_is (aSec_p (i := j) (mou_p2 hB) (by omega))) ?_
      refine u_goto (tgt := 77) C dX3_moveMud_62 (by decide) ?_
      exact ret _ _  _ dX3_moveMud_77  (by simp [m_mudC, m_mud1, iv_wi])
  · exact absurd c_5 (by decide)
