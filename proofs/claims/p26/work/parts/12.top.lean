theorem cB_le {x : Int32} {b : Nat} (h : cB x b) (hb : b < 2 ^ 31) : x = nI (cN x) ∧ cN x ≤ b := by
  obtain ⟨n, h1, rfl⟩ := h
  rw [cN_nI (by omega)]
  exact ⟨rfl, h1⟩
theorem ne_look {M : w_M} {k s0 t a j : Nat} (h0 : a ≠ k) (h1 : a ≠ k + 7) (h2 : a ≠ k + 8) (h3 : a ≠ k + 9) : iv (m_look M k s0 t) a j = iv M a j := by
  have e1 : ∀ x : Int32, iv (wi M k 6 x) a j = iv M a j := fun x => by rw [iv_wi, if_neg (fun z => h0 z.1)]
  have e2 : iv (m_lk2 (wi M k 6 1) k t) a j = iv M a j := by
    simp only [m_lk2]
    rw [iv_wi, if_neg (fun z => h0 z.1), iv_wi, if_neg (fun z => h3 z.1), iv_wi, if_neg (fun z => h1 z.1), e1]
  have e3 : ∀ M2 : w_M, iv (m_lk3 M2 k s0 t) a j = iv M2 a j := by
    intro M2
    simp only [m_lk3]
    split
    · rfl
    · rw [iv_wi, if_neg (fun z => h3 z.1), iv_wi, if_neg (fun z => h2 z.1)]
  unfold m_look
  split
  · rw [e3]
    split
    · exact e2
    · exact e1 1
  · exact e1 0
theorem look_f {M : w_M} {k s0 t j : Nat} (h3 : j ≠ 3) (h6 : j ≠ 6) : iv (m_look M k s0 t) k j = iv M k j := by
  have e1 : ∀ x : Int32, iv (wi M k 6 x) k j = iv M k j := fun x => by rw [iv_wi, if_neg (fun z => h6 z.2)]
  have e2 : iv (m_lk2 (wi M k 6 1) k t) k j = iv M k j := by
    simp only [m_lk2]
    rw [iv_wi, if_neg (fun z => h3 z.2), iv_wi, if_neg (by omega), iv_wi, if_neg (by omega), e1]
  have e3 : ∀ M2 : w_M, iv (m_lk3 M2 k s0 t) k j = iv M2 k j := by
    intro M2
    simp only [m_lk3]
    split
    · rfl
    · rw [iv_wi, if_neg (by omega), iv_wi, if_neg (by omega)]
  unfold m_look
  split
  · rw [e3]
    split
    · exact e2
    · exact e1 1
  · exact e1 0
theorem look_c {M : w_M} {k s0 t : Nat} : iv (m_look M k s0 t) k 3 = if b_clo M k s0 t = true ∧ iv M k 6 = 0 ∧ cN (iv M k 3) < 500 then iv M k 3 + 1 else iv M k 3 := by
  have e1 : ∀ x : Int32, iv (wi M k 6 x) k 3 = iv M k 3 := fun x => by rw [iv_wi, if_neg (fun z => absurd z.2 (by decide))]
  have e2 : iv (m_lk2 (wi M k 6 1) k t) k 3 = iv M k 3 + 1 := by
    simp only [m_lk2]
    rw [iv_wi, if_pos ⟨rfl, rfl⟩, e1]
  have e3 : ∀ M2 : w_M, iv (m_lk3 M2 k s0 t) k 3 = iv M2 k 3 := by
    intro M2
    simp only [m_lk3]
    split
    · rfl
    · rw [iv_wi, if_neg (by omega), iv_wi, if_neg (by omega)]
  unfold m_look
  by_cases hb : b_clo M k s0 t = true
  · rw [if_pos hb, e3]
    by_cases h2 : iv M k 6 = 0 ∧ cN (iv M k 3) < 500
    · rw [if_pos h2, if_pos ⟨hb, h2⟩, e2]
    · rw [if_neg h2, if_neg (fun z => h2 z.2), e1]
  · rw [if_neg hb, if_neg (fun z => hb z.1), e1]
theorem look_cB {M : w_M} {k s0 t : Nat} (h : cB (iv M k 3) 500) : cB (iv (m_look M k s0 t) k 3) 500 := by
  rw [look_c]
  obtain ⟨h1, h2⟩ := cB_le h (by decide)
  split
  · next q => exact ⟨cN (iv M k 3) + 1, by omega, by have e := nI_1 (cN (iv M k 3)); rw [← h1] at e; exact e⟩
  · exact h
/-- what an hour leaves as it is -/
theorem hour_lo {M : w_M} {B n ic t : Nat} {h : Int32} : lo (B + 2) M (m_hour M B n ic t h) := (lw6 n).tr (lo_wi (by omega))
theorem hour_mid {M : w_M} {B n ic t : Nat} {h : Int32} {a j : Nat} (h1 : a ≠ B + 2) (h2 : a < B + 100) (h3 : a ≠ B + 8) (h4 : a ≠ B + 9) (h5 : a ≠ B + 10) (h6 : a ≠ B + 11) : iv (m_hour M B n ic t h) a j = iv M a j := by
  unfold m_hour
  rw [iv_wi, if_neg (by omega), lo_eh n a h2, lo_srv ic a h2, lo_mx n a h2, lo_lv (n - 1) a h2, lo_ab a h2, ne_look h1 (by omega) (by omega) (by omega), lo_r0 n a h2]
theorem hour_bar {M : w_M} {B n ic t : Nat} {h : Int32} {j : Nat} : iv (m_hour M B n ic t h) (B + 2) j = iv (m_look (m_r0 M B n) (B + 2) (B + 1) t) (B + 2) j := by
  unfold m_hour
  rw [iv_wi, if_neg (by omega), lo_eh n _ (by omega), lo_srv ic _ (by omega), lo_mx n _ (by omega), lo_lv (n - 1) _ (by omega), lo_ab _ (by omega)]
/-- the class's hour, with the counts read off -/
def m_hr (M : w_M) (B : Nat) : w_M := wi (m_hour M B (cN (iv M B 5)) (cN (iv M B 6)) (cN (iv M B 9)) (s_for M (B + 1) (nI (cN (iv M B 9))))) B 9 (nI (cN (iv M B 9) + 1))
def m_go (M : w_M) (B : Nat) : Nat → w_M
  | 0 => M
  | c + 1 => m_go (m_hr M B) B c
theorem hr_B {M : w_M} {B j : Nat} (hj : j ≠ 9) : iv (m_hr M B) B j = iv M B j := by
  unfold m_hr
  rw [iv_wi, if_neg (fun z => hj z.2), hour_lo B (by omega)]
theorem hr_9 {M : w_M} {B : Nat} : iv (m_hr M B) B 9 = nI (cN (iv M B 9) + 1) := by
  unfold m_hr
  rw [iv_wi, if_pos ⟨rfl, rfl⟩]
theorem hr_o {M : w_M} {B a j : Nat} (h : a ≠ B) : iv (m_hr M B) a j = iv (m_hour M B (cN (iv M B 5)) (cN (iv M B 6)) (cN (iv M B 9)) (s_for M (B + 1) (nI (cN (iv M B 9))))) a j := by
  unfold m_hr
  rw [iv_wi, if_neg (fun z => h z.1)]
theorem hr_ok {M : w_M} {B : Nat} (h : okC M B) (ht : cN (iv M B 9) < 1000) : okC (m_hr M B) B := by
  obtain ⟨h1, h2, h3, h4, h5, h6, h7⟩ := h
  refine ⟨by rw [hr_B (by decide)]; exact h1, by rw [hr_B (by decide)]; exact h2, by rw [hr_9]; exact ⟨_, by omega, rfl⟩, ?_, ?_, ?_, ?_⟩
  · rw [hr_o (by omega), hour_lo _ (by omega)]; exact h4
  · rw [hr_o (by omega), hour_lo _ (by omega)]; exact h5
  · rw [hr_o (by omega), hour_bar]
    refine look_cB ?_
    rw [lo_r0 _ _ (by omega)]
    exact h6
  · rw [hr_o (by omega), hour_bar, look_f (by decide) (by decide), lo_r0 _ _ (by omega)]
    exact h7
theorem u_min1000 {t : Nat} (h : t ≤ 1000) : (if (1000 : Int32) < nI t then 1000 else nI t) = nI t := by
  rw [if_neg]
  rw [show (1000 : Int32) = nI 1000 from rfl]
  exact nI_nlt h (by omega)
def s_win (M : w_M) (k : Nat) (ht hs : Int32) : Nat → Nat → Int32 → Int32
  | 0, _, _ => -1
  | c + 1, j, g => if (if s_for M k (nI j) < ht then 0 else g + 1) = hs then nI j - hs + 1 else s_win M k ht hs c (j + 1) (if s_for M k (nI j) < ht then 0 else g + 1)
def s_sea (M : w_M) (B t : Nat) : Int32 := if t < cN (iv M B 9) then iv M (B + 8) t else s_for M (B + 1) (nI t)
theorem hi_keep {M : w_M} {k : Nat} {h kd a b c d e : Int32} {x j : Nat} (hx : k + 1 < x) : iv (m_keep M k h kd a b c d e) x j = iv M x j := by
  simp only [m_keep, iv_wi]
  have e1 : ¬ x = k + 1 := by omega
  have e2 : ¬ x = k := by omega
  simp only [e1, e2, false_and, if_false]
set_option maxHeartbeats 4000000 in
set_option maxRecDepth 100000 in
theorem c_X3_goOnTo (l : Launch) (D : va_G) (G : w_G) (M : w_M) (B : Nat) (t : Nat) (hB : L_mou G (B)) (ok : okC M B) (ht : t ≤ 1000) : u_Mv l D G yX3_goOnTo cX3_goOnTo 4 none 5 116 [.ref (gP G B), .int (nI t)] M (fun M' => M' = m_go M B (t - cN (iv M B 9))) := by
  refine u_bodyv (by decide +kernel) (Nat.le_of_ble_eq_true rfl) rfl (fun p e s m args below meth c A H0 Q C ret => ?_)
  have loop1 : ∀ (d : Nat) (M2 : w_M) (x3 : Int32), okC M2 B → t - cN (iv M2 B 9) < d → m_go M B (t - cN (iv M B 9)) = m_go M2 B (t - cN (iv M2 B 9)) → x3 = nI (cN (iv M2 B 9)) → u_S p l e (u_rm 5 116) s m args below meth c 4 D A H0 0 0 Q 13 [(0, .ref (gP G B)), (1, .int (nI t)), (2, .int (nI t)), (3, .int x3)] [] G M2 := by
    intro d
    induction d with
    | zero => intro M2 x3 ok2 hd; omega
    | succ d ih =>
      intro M2 x3 ok2 hd hM h3
      subst h3
      obtain ⟨o1, o2, o3, o4, o5, o6, o7⟩ := id ok2
      obtain ⟨o1a, o1b⟩ := cB_le o1 (by decide)
      obtain ⟨o2a, o2b⟩ := cB_le o2 (by decide)
      obtain ⟨o3a, o3b⟩ := cB_le o3 (by decide)
      refine u_iload_n C dX3_goOnTo_13 rfl ?_
      refine u_iload_n C dX3_goOnTo_14 rfl ?_
      refine u_icmp_ge (tgt := 35) C dX3_goOnTo_15 (by decide) (fun c_15 => ?_) (fun c_15 => ?_)
      · have hge : t ≤ cN (iv M2 B 9) := u_gei c_15 (by omega) (by omega)
        exact ret _ _  _ dX3_goOnTo_35  (by rw [hM, show t - cN (iv M2 B 9) = 0 by omega]; rfl)
      · have hlt : cN (iv M2 B 9) < t := u_lt c_15 (by omega)
        refine u_aload_n C dX3_goOnTo_18 rfl ?_
        refine u_callvV0 C ev_X3_letHourGoBy dX3_goOnTo_19 ml_RX3_125 (mou_is hB) rfl (by decide) (c_X3_letHourGoBy l D G _ _ hB _ _ _ o1b o1a o2b o2a (by omega) o3a o4 o5 o6 o7) (by decide) (Nat.le_of_ble_eq_true rfl) (fun M_19 q_19 => ?_)
        obtain rfl := q_19
        refine u_aload_n C dX3_goOnTo_22 rfl ?_
        refine u_iload_n C dX3_goOnTo_23 rfl ?_
        refine u_iconst (v := 1) C dX3_goOnTo_24 (by decide) ?_
        refine u_iadd C dX3_goOnTo_25 ?_
        refine u_putI C pX3_goOnTo_26 rfl (mou_is hB) ?_
        refine u_iinc C dX3_goOnTo_29 (by decide) rfl ?_
        refine u_goto (tgt := 13) C dX3_goOnTo_32 (by decide) ?_
        exact u_loc [0, 1, 2, 3] rfl (u_eq (ih (m_hr M2 B) _ (hr_ok ok2 (by omega)) (by rw [hr_9, cN_nI (by omega)]; omega) (by rw [hM, hr_9, cN_nI (by omega), show t - cN (iv M2 B 9) = (t - (cN (iv M2 B 9) + 1)) + 1 by omega]; rfl) (by rw [hr_9, cN_nI (by omega)]; exact nI_1 _)) rfl rfl (by rw [m_hr, ← nI_1]))
  refine u_iload_n C dX3_goOnTo_0 rfl ?_
  refine u_sipush (v := 1000) C dX3_goOnTo_1 (by decide) ?_
  refine u_mmin C dX3_goOnTo_4 ml_RX3_119 wm_min (by decide) (Nat.le_of_ble_eq_true rfl) ?_
  refine u_istore_n C dX3_goOnTo_7 (by decide) ?_
  refine u_aload_n C dX3_goOnTo_8 rfl ?_
  refine u_getI C gX3_goOnTo_9 rfl (mou_is hB) ?_
  refine u_istore_n C dX3_goOnTo_12 (by decide) ?_
  rw [u_min1000 ht]
  exact u_loc [0, 1, 2, 3] rfl (loop1 (t + 1) M _ ok (by omega) rfl (cB_le ok.2.2.1 (by decide)).1)
set_option maxHeartbeats 4000000 in
set_option maxRecDepth 100000 in
theorem c_X3_seaOf (l : Launch) (D : va_G) (G : w_G) (M : w_M) (B : Nat) (t : Nat) (hB : L_mou G (B)) (ok : okC M B) (ht : t < 2100) : u_Mi l D G yX3_seaOf cX3_seaOf 2 (some .int) 2 45 [.ref (gP G B), .int (nI t)] M (fun r M' => r = s_sea M B t ∧ M' = M) := by
  obtain ⟨o1, o2, o3, o4, o5, o6, o7⟩ := id ok
  obtain ⟨o3a, o3b⟩ := cB_le o3 (by decide)
  refine u_bodyi (by decide +kernel) (Nat.le_of_ble_eq_true rfl) rfl (fun p e s m args below meth c A H0 Q C ret => ?_)
  refine u_iload_n C dX3_seaOf_0 rfl ?_
  refine u_if_lt (tgt := 29) C dX3_seaOf_1 (by decide) (fun c_1 => ?_) (fun c_1 => ?_)
  · exact absurd c_1 (nI_pos (by omega))
  · refine u_iload_n C dX3_seaOf_4 rfl ?_
    refine u_aload_n C dX3_seaOf_5 rfl ?_
    refine u_getI C gX3_seaOf_6 rfl (mou_is hB) ?_
    rw [o3a]
    refine u_icmp_ge (tgt := 29) C dX3_seaOf_9 (by decide) (fun c_9 => ?_) (fun c_9 => ?_)
    · refine u_aload_n C dX3_seaOf_29 rfl ?_
      refine u_getR (k2 := (B + 1)) C gX3_seaOf_30 rfl (mou_is hB) (mou_f0 hB) ?_
      refine u_iload_n C dX3_seaOf_33 rfl ?_
      refine u_calliV1 C ev_X5_foretold dX3_seaOf_34 ml_RX3_115 (sea_is (mou_p0 hB)) rfl (by decide) (c_X5_foretold l D G _ _ _ (mou_p0 hB) o4 o5) (by decide) (Nat.le_of_ble_eq_true rfl) (fun r_34 M_34 q_34 => ?_)
      obtain ⟨rfl, e_34⟩ := q_34
      subst M_34
      exact ret _ _ _ _ dX3_seaOf_37  (by first | (rw [s_sea, if_neg (by have := u_gei c_9 (by omega) (by omega); omega)]; exact ⟨rfl, rfl⟩) | (exfalso; have := u_gei c_16 (by omega) (by omega); omega))
    · have hlt : t < cN (iv M B 9) := u_lt c_9 (by omega)
      refine u_iload_n C dX3_seaOf_12 rfl ?_
      refine u_sipush (v := 1000) C dX3_seaOf_13 (by decide) ?_
      rw [show (1000 : Int32) = nI 1000 from rfl]
      refine u_icmp_ge (tgt := 29) C dX3_seaOf_16 (by decide) (fun c_16 => ?_) (fun c_16 => ?_)
      · refine u_aload_n C dX3_seaOf_29 rfl ?_
        refine u_getR (k2 := (B + 1)) C gX3_seaOf_30 rfl (mou_is hB) (mou_f0 hB) ?_
        refine u_iload_n C dX3_seaOf_33 rfl ?_
        refine u_calliV1 C ev_X5_foretold dX3_seaOf_34 ml_RX3_115 (sea_is (mou_p0 hB)) rfl (by decide) (c_X5_foretold l D G _ _ _ (mou_p0 hB) o4 o5) (by decide) (Nat.le_of_ble_eq_true rfl) (fun r_34 M_34 q_34 => ?_)
        obtain ⟨rfl, e_34⟩ := q_34
        subst M_34
        exact ret _ _ _ _ dX3_seaOf_37  (by first | (rw [s_sea, if_neg (by have := u_gei c_9 (by omega) (by omega); omega)]; exact ⟨rfl, rfl⟩) | (exfalso; have := u_gei c_16 (by omega) (by omega); omega))
      · have hlt2 : t < 1000 := u_lt c_16 (by omega)
        refine u_aload_n C dX3_seaOf_19 rfl ?_
        refine u_getR (k2 := (B + 1)) C gX3_seaOf_20 rfl (mou_is hB) (mou_f0 hB) ?_
        refine u_getR (k2 := (B + 8)) C gX3_seaOf_23 rfl (sea_is (mou_p0 hB)) (sea_f2 (mou_p0 hB)) ?_
        refine u_iload_n C dX3_seaOf_26 rfl ?_
        refine u_ialdN (i := t) C dX3_seaOf_27 (a1000_is (sea_p2 (mou_p0 hB))) (a1000_n (sea_p2 (mou_p0 hB))) (by omega) (by decide) ?_
        exact ret _ _ _ _ dX3_seaOf_28  (by rw [s_sea, if_pos hlt]; exact ⟨rfl, rfl⟩)
set_option maxHeartbeats 4000000 in
set_option maxRecDepth 100000 in
theorem c_X3_firstHourAt (l : Launch) (D : va_G) (G : w_G) (M : w_M) (B : Nat) (ht : Int32) (hs : Nat) (hB : L_mou G (B)) (ok : okC M B) (hh : hs ≤ 24) : u_Mi l D G yX3_firstHourAt cX3_firstHourAt 5 (some .int) 2 45 [.ref (gP G B), .int ht, .int (nI hs)] M (fun r M' => r = s_win M (B + 1) ht (nI hs) (100 + hs) (cN (iv M B 9)) 0 ∧ M' = M) := by
  obtain ⟨o1, o2, o3, o4, o5, o6, o7⟩ := id ok
  obtain ⟨o3a, o3b⟩ := cB_le o3 (by decide)
  refine u_bodyi (by decide +kernel) (Nat.le_of_ble_eq_true rfl) rfl (fun p e s m args below meth c A H0 Q C ret => ?_)
  have loop1 : ∀ (d j : Nat) (x3 x4 : Int32), j ≤ cN (iv M B 9) + 100 + hs → cN (iv M B 9) + 100 + hs - j < d → x4 = nI j → s_win M (B + 1) ht (nI hs) (100 + hs) (cN (iv M B 9)) 0 = s_win M (B + 1) ht (nI hs) (cN (iv M B 9) + 100 + hs - j) j x3 → u_S p l e (u_rm 2 45) s m args below meth c 5 D A H0 0 0 Q 8 [(0, .ref (gP G B)), (1, .int ht), (2, .int (nI hs)), (3, .int x3), (4, .int x4)] [] G M := by
    intro d
    induction d with
    | zero => intro j x3 x4 hj hd; omega
    | succ d ih =>
      intro j x3 x4 hj hd h4 hres
      subst h4
      refine u_iload C dX3_firstHourAt_8 rfl ?_
      refine u_aload_n C dX3_firstHourAt_10 rfl ?_
      refine u_getI C gX3_firstHourAt_11 rfl (mou_is hB) ?_
      rw [o3a]
      refine u_bipush (v := 100) C dX3_firstHourAt_14 (by decide) ?_
      refine u_iadd C dX3_firstHourAt_16 ?_
      refine u_iload_n C dX3_firstHourAt_17 rfl ?_
      refine u_iadd C dX3_firstHourAt_18 ?_
      rw [show nI (cN (iv M B 9)) + 100 + nI hs = nI (cN (iv M B 9) + 100 + hs) from by rw [show (100 : Int32) = nI 100 from rfl, nI_add, nI_add]]
      refine u_icmp_ge (tgt := 61) C dX3_firstHourAt_19 (by decide) (fun c_19 => ?_) (fun c_19 => ?_)
      · have hge : cN (iv M B 9) + 100 + hs ≤ j := u_gei c_19 (by omega) (by omega)
        refine u_iconst (v := (-1)) C dX3_firstHourAt_61 (by decide) ?_
        exact ret _ _ _ _ dX3_firstHourAt_62  (by rw [hres, show cN (iv M B 9) + 100 + hs - j = 0 by omega]; simp [s_win])
      · have hlt : j < cN (iv M B 9) + 100 + hs := u_lt c_19 (by omega)
        obtain ⟨c9, hc⟩ : ∃ c9, cN (iv M B 9) + 100 + hs - j = c9 + 1 := ⟨cN (iv M B 9) + 100 + hs - j - 1, by omega⟩
        refine u_aload_n C dX3_firstHourAt_22 rfl ?_
        refine u_getR (k2 := (B + 1)) C gX3_firstHourAt_23 rfl (mou_is hB) (mou_f0 hB) ?_
        refine u_iload C dX3_firstHourAt_26 rfl ?_
        refine u_calliV1 C ev_X5_foretold dX3_firstHourAt_28 ml_RX3_115 (sea_is (mou_p0 hB)) rfl (by decide) (c_X5_foretold l D G _ _ _ (mou_p0 hB) o4 o5) (by decide) (Nat.le_of_ble_eq_true rfl) (fun r_28 M_28 q_28 => ?_)
        obtain ⟨rfl, e_28⟩ := q_28
        subst M_28
        refine u_iload_n C dX3_firstHourAt_31 rfl ?_
        refine u_icmp_lt (tgt := 41) C dX3_firstHourAt_32 (by decide) (fun c_32 => ?_) (fun c_32 => ?_)
        · refine u_iconst (v := 0) C dX3_firstHourAt_41 (by decide) ?_
          refine u_istore_n C dX3_firstHourAt_42 (by decide) ?_
          refine u_iload_n C dX3_firstHourAt_43 rfl ?_
          refine u_iload_n C dX3_firstHourAt_44 rfl ?_
          refine u_icmp_ne (tgt := 55) C dX3_firstHourAt_45 (by decide) (fun c_45 => ?_) (fun c_45 => ?_)
          · refine u_iinc C dX3_firstHourAt_55 (by decide) rfl ?_
            refine u_goto (tgt := 8) C dX3_firstHourAt_58 (by decide) ?_
            exact u_loc [0, 1, 2, 3, 4] rfl (ih (j + 1) _ _ (by omega) (by omega) (nI_1 j) (by (try simp only [u_le, Decidable.not_not] at c_19 c_32 c_45); rw [hres, hc, show cN (iv M B 9) + 100 + hs - (j + 1) = c9 by omega]; simp [-Int32.not_lt, -Int32.not_le, s_win, c_19, c_32, c_45]))
          · refine u_iload C dX3_firstHourAt_48 rfl ?_
            refine u_iload_n C dX3_firstHourAt_50 rfl ?_
            refine u_isub C dX3_firstHourAt_51 ?_
            refine u_iconst (v := 1) C dX3_firstHourAt_52 (by decide) ?_
            refine u_iadd C dX3_firstHourAt_53 ?_
            exact ret _ _ _ _ dX3_firstHourAt_54  (by (try simp only [u_le, Decidable.not_not] at c_19 c_32 c_45); rw [hres, hc]; simp [-Int32.not_lt, -Int32.not_le, s_win, c_19, c_32, c_45])
        · refine u_iload_n C dX3_firstHourAt_35 rfl ?_
          refine u_iconst (v := 1) C dX3_firstHourAt_36 (by decide) ?_
          refine u_iadd C dX3_firstHourAt_37 ?_
          refine u_goto (tgt := 42) C dX3_firstHourAt_38 (by decide) ?_
          refine u_istore_n C dX3_firstHourAt_42 (by decide) ?_
          refine u_iload_n C dX3_firstHourAt_43 rfl ?_
          refine u_iload_n C dX3_firstHourAt_44 rfl ?_
          refine u_icmp_ne (tgt := 55) C dX3_firstHourAt_45 (by decide) (fun c_45 => ?_) (fun c_45 => ?_)
          · refine u_iinc C dX3_firstHourAt_55 (by decide) rfl ?_
            refine u_goto (tgt := 8) C dX3_firstHourAt_58 (by decide) ?_
            exact u_loc [0, 1, 2, 3, 4] rfl (ih (j + 1) _ _ (by omega) (by omega) (nI_1 j) (by (try simp only [u_le, Decidable.not_not] at c_19 c_32 c_45); rw [hres, hc, show cN (iv M B 9) + 100 + hs - (j + 1) = c9 by omega]; simp [-Int32.not_lt, -Int32.not_le, s_win, c_19, c_32, c_45]))
          · refine u_iload C dX3_firstHourAt_48 rfl ?_
            refine u_iload_n C dX3_firstHourAt_50 rfl ?_
            refine u_isub C dX3_firstHourAt_51 ?_
            refine u_iconst (v := 1) C dX3_firstHourAt_52 (by decide) ?_
            refine u_iadd C dX3_firstHourAt_53 ?_
            exact ret _ _ _ _ dX3_firstHourAt_54  (by (try simp only [u_le, Decidable.not_not] at c_19 c_32 c_45); rw [hres, hc]; simp [-Int32.not_lt, -Int32.not_le, s_win, c_19, c_32, c_45])
  refine u_iconst (v := 0) C dX3_firstHourAt_0 (by decide) ?_
  refine u_istore_n C dX3_firstHourAt_1 (by decide) ?_
  refine u_aload_n C dX3_firstHourAt_2 rfl ?_
  refine u_getI C gX3_firstHourAt_3 rfl (mou_is hB) ?_
  refine u_istore C dX3_firstHourAt_6 (by decide) ?_
  rw [o3a]
  exact u_loc [0, 1, 2, 3, 4] rfl (loop1 (101 + hs) _ _ _ (by omega) (by omega) rfl (by congr 1; omega))
set_option maxHeartbeats 4000000 in
set_option maxRecDepth 100000 in
theorem c_X3_hear_0 (l : Launch) (D : va_G) (G : w_G) (M : w_M) (B : Nat) (a : Int32) (b : Int32) (c1 : Int32) (d1 : Int32) (e1 : Int32) (hB : L_mou G (B)) (hn : cB (iv M (B + 1) 3) 6) : u_Mv l D G yX3_hear cX3_hear 7 none 3 69 [.ref (gP G B), .int 0, .int a, .int b, .int c1, .int d1, .int e1] M (fun M' => M' = m_addT M (B + 1) a b c1 d1) := by
  refine u_bodyv (by decide +kernel) (Nat.le_of_ble_eq_true rfl) rfl (fun p e s m args below meth c A H0 Q C ret => ?_)
  refine u_iload_n C dX3_hear_0 rfl ?_
  refine u_tin (off := 51) (tgt := 52) C dX3_hear_1 (by decide) (by decide) (by decide) (by decide) ?_
  refine u_aload_n C dX3_hear_52 rfl ?_
  refine u_getR (k2 := (B + 1)) C gX3_hear_53 rfl (mou_is hB) (mou_f0 hB) ?_
  refine u_iload_n C dX3_hear_56 rfl ?_
  refine u_iload_n C dX3_hear_57 rfl ?_
  refine u_iload C dX3_hear_58 rfl ?_
  refine u_iload C dX3_hear_60 rfl ?_
  refine u_callvV4 C ev_X5_addTurn dX3_hear_62 ml_RX3_63 (sea_is (mou_p0 hB)) rfl (by decide) (c_X5_addTurn l D G _ _ _ _ _ _ (mou_p0 hB) hn) (by decide) (Nat.le_of_ble_eq_true rfl) (fun M_62 q_62 => ?_)
  obtain rfl := q_62
  refine u_goto (tgt := 173) C dX3_hear_65 (by decide) ?_
  exact ret _ _  _ dX3_hear_173  (rfl)
set_option maxHeartbeats 4000000 in
set_option maxRecDepth 100000 in
theorem c_X3_hear_1 (l : Launch) (D : va_G) (G : w_G) (M : w_M) (B : Nat) (a : Int32) (b : Int32) (c1 : Int32) (d1 : Int32) (e1 : Int32) (hB : L_mou G (B))  : u_Mv l D G yX3_hear cX3_hear 7 none 3 69 [.ref (gP G B), .int 1, .int a, .int b, .int c1, .int d1, .int e1] M (fun M' => M' = wi M (B + 1) 5 a) := by
  refine u_bodyv (by decide +kernel) (Nat.le_of_ble_eq_true rfl) rfl (fun p e s m args below meth c A H0 Q C ret => ?_)
  refine u_iload_n C dX3_hear_0 rfl ?_
  refine u_tin (off := 67) (tgt := 68) C dX3_hear_1 (by decide) (by decide) (by decide) (by decide) ?_
  refine u_aload_n C dX3_hear_68 rfl ?_
  refine u_getR (k2 := (B + 1)) C gX3_hear_69 rfl (mou_is hB) (mou_f0 hB) ?_
  refine u_iload_n C dX3_hear_72 rfl ?_
  refine u_putI C pX3_hear_73 rfl (sea_is (mou_p0 hB)) ?_
  refine u_goto (tgt := 173) C dX3_hear_76 (by decide) ?_
  exact ret _ _  _ dX3_hear_173  (rfl)
set_option maxHeartbeats 4000000 in
set_option maxRecDepth 100000 in
theorem c_X3_hear_2 (l : Launch) (D : va_G) (G : w_G) (M : w_M) (B : Nat) (a : Int32) (b : Int32) (c1 : Int32) (d1 : Int32) (e1 : Int32) (hB : L_mou G (B)) (hn : cB (iv M (B + 1) 4) 20) : u_Mv l D G yX3_hear cX3_hear 7 none 3 69 [.ref (gP G B), .int 2, .int a, .int b, .int c1, .int d1, .int e1] M (fun M' => M' = m_addS M (B + 1) a b c1) := by
  refine u_bodyv (by decide +kernel) (Nat.le_of_ble_eq_true rfl) rfl (fun p e s m args below meth c A H0 Q C ret => ?_)
  refine u_iload_n C dX3_hear_0 rfl ?_
  refine u_tin (off := 78) (tgt := 79) C dX3_hear_1 (by decide) (by decide) (by decide) (by decide) ?_
  refine u_aload_n C dX3_hear_79 rfl ?_
  refine u_getR (k2 := (B + 1)) C gX3_hear_80 rfl (mou_is hB) (mou_f0 hB) ?_
  refine u_iload_n C dX3_hear_83 rfl ?_
  refine u_iload_n C dX3_hear_84 rfl ?_
  refine u_iload C dX3_hear_85 rfl ?_
  refine u_callvV3 C ev_X5_addSurge dX3_hear_87 ml_RX3_70 (sea_is (mou_p0 hB)) rfl (by decide) (c_X5_addSurge l D G _ _ _ _ _ (mou_p0 hB) hn) (by decide) (Nat.le_of_ble_eq_true rfl) (fun M_87 q_87 => ?_)
  obtain rfl := q_87
  refine u_goto (tgt := 173) C dX3_hear_90 (by decide) ?_
  exact ret _ _  _ dX3_hear_173  (rfl)
set_option maxHeartbeats 4000000 in
set_option maxRecDepth 100000 in
theorem c_X3_hear_3 (l : Launch) (D : va_G) (G : w_G) (M : w_M) (B : Nat) (a : Int32) (b : Int32) (c1 : Int32) (d1 : Int32) (e1 : Int32) (hB : L_mou G (B))  : u_Mv l D G yX3_hear cX3_hear 7 none 3 69 [.ref (gP G B), .int 3, .int a, .int b, .int c1, .int d1, .int e1] M (fun M' => M' = wi (wi M B 7 a) B 8 b) := by
  refine u_bodyv (by decide +kernel) (Nat.le_of_ble_eq_true rfl) rfl (fun p e s m args below meth c A H0 Q C ret => ?_)
  refine u_iload_n C dX3_hear_0 rfl ?_
  refine u_tin (off := 92) (tgt := 93) C dX3_hear_1 (by decide) (by decide) (by decide) (by decide) ?_
  refine u_aload_n C dX3_hear_93 rfl ?_
  refine u_iload_n C dX3_hear_94 rfl ?_
  refine u_putI C pX3_hear_95 rfl (mou_is hB) ?_
  refine u_aload_n C dX3_hear_98 rfl ?_
  refine u_iload_n C dX3_hear_99 rfl ?_
  refine u_putI C pX3_hear_100 rfl (mou_is hB) ?_
  refine u_goto (tgt := 173) C dX3_hear_103 (by decide) ?_
  exact ret _ _  _ dX3_hear_173  (rfl)
set_option maxHeartbeats 4000000 in
set_option maxRecDepth 100000 in
theorem c_X3_hear_4 (l : Launch) (D : va_G) (G : w_G) (M : w_M) (B : Nat) (a : Int32) (b : Int32) (c1 : Int32) (d1 : Int32) (e1 : Int32) (hB : L_mou G (B))  : u_Mv l D G yX3_hear cX3_hear 7 none 3 69 [.ref (gP G B), .int 4, .int a, .int b, .int c1, .int d1, .int e1] M (fun M' => M' = wi (wi M (B + 2) 4 a) (B + 2) 5 b) := by
  refine u_bodyv (by decide +kernel) (Nat.le_of_ble_eq_true rfl) rfl (fun p e s m args below meth c A H0 Q C ret => ?_)
  refine u_iload_n C dX3_hear_0 rfl ?_
  refine u_tin (off := 105) (tgt := 106) C dX3_hear_1 (by decide) (by decide) (by decide) (by decide) ?_
  refine u_aload_n C dX3_hear_106 rfl ?_
  refine u_getR (k2 := (B + 2)) C gX3_hear_107 rfl (mou_is hB) (mou_f1 hB) ?_
  refine u_iload_n C dX3_hear_110 rfl ?_
  refine u_putI C pX3_hear_111 rfl (bar_is (mou_p1 hB)) ?_
  refine u_aload_n C dX3_hear_114 rfl ?_
  refine u_getR (k2 := (B + 2)) C gX3_hear_115 rfl (mou_is hB) (mou_f1 hB) ?_
  refine u_iload_n C dX3_hear_118 rfl ?_
  refine u_putI C pX3_hear_119 rfl (bar_is (mou_p1 hB)) ?_
  refine u_goto (tgt := 173) C dX3_hear_122 (by decide) ?_
  exact ret _ _  _ dX3_hear_173  (rfl)
set_option maxHeartbeats 4000000 in
set_option maxRecDepth 100000 in
theorem c_X3_hear_5 (l : Launch) (D : va_G) (G : w_G) (M : w_M) (B : Nat) (a : Int32) (b : Int32) (c1 : Int32) (d1 : Int32) (e1 : Int32) (hB : L_mou G (B)) (n : Nat) (hn8 : n < 8) (hn : iv M B 5 = nI n) : u_Mv l D G yX3_hear cX3_hear 7 none 3 69 [.ref (gP G B), .int 5, .int a, .int b, .int c1, .int d1, .int e1] M (fun M' => M' = m_asec M B a b c1 d1) := by
  refine u_bodyv (by decide +kernel) (Nat.le_of_ble_eq_true rfl) rfl (fun p e s m args below meth c A H0 Q C ret => ?_)
  refine u_iload_n C dX3_hear_0 rfl ?_
  refine u_tin (off := 124) (tgt := 125) C dX3_hear_1 (by decide) (by decide) (by decide) (by decide) ?_
  refine u_aload_n C dX3_hear_125 rfl ?_
  refine u_iload_n C dX3_hear_126 rfl ?_
  refine u_iload_n C dX3_hear_127 rfl ?_
  refine u_iload C dX3_hear_128 rfl ?_
  refine u_iload C dX3_hear_130 rfl ?_
  refine u_callvV4 C ev_X3_addSection dX3_hear_132 ml_RX3_80 (mou_is hB) rfl (by decide) (c_X3_addSection l D G _ _ _ _ _ _ hB n hn8 hn) (by decide) (Nat.le_of_ble_eq_true rfl) (fun M_132 q_132 => ?_)
  obtain rfl := q_132
  refine u_goto (tgt := 173) C dX3_hear_135 (by decide) ?_
  exact ret _ _  _ dX3_hear_173  (rfl)
set_option maxHeartbeats 4000000 in
set_option maxRecDepth 100000 in
theorem c_X3_hear_6 (l : Launch) (D : va_G) (G : w_G) (M : w_M) (B : Nat) (a : Int32) (b : Int32) (c1 : Int32) (d1 : Int32) (e1 : Int32) (hB : L_mou G (B)) (n : Nat) (hn8 : n < 6) (hn : iv M B 6 = nI n) : u_Mv l D G yX3_hear cX3_hear 7 none 3 69 [.ref (gP G B), .int 6, .int a, .int b, .int c1, .int d1, .int e1] M (fun M' => M' = m_aint M B a b c1 d1 e1) := by
  refine u_bodyv (by decide +kernel) (Nat.le_of_ble_eq_true rfl) rfl (fun p e s m args below meth c A H0 Q C ret => ?_)
  refine u_iload_n C dX3_hear_0 rfl ?_
  refine u_tin (off := 137) (tgt := 138) C dX3_hear_1 (by decide) (by decide) (by decide) (by decide) ?_
  refine u_aload_n C dX3_hear_138 rfl ?_
  refine u_iload_n C dX3_hear_139 rfl ?_
  refine u_iload_n C dX3_hear_140 rfl ?_
  refine u_iload C dX3_hear_141 rfl ?_
  refine u_iload C dX3_hear_143 rfl ?_
  refine u_iload C dX3_hear_145 rfl ?_
  refine u_callvV5 C ev_X3_addIntake dX3_hear_147 ml_RX3_83 (mou_is hB) rfl (by decide) (c_X3_addIntake l D G _ _ _ _ _ _ _ hB n hn8 hn) (by decide) (Nat.le_of_ble_eq_true rfl) (fun M_147 q_147 => ?_)
  obtain rfl := q_147
  refine u_goto (tgt := 173) C dX3_hear_150 (by decide) ?_
  exact ret _ _  _ dX3_hear_173  (rfl)
set_option maxHeartbeats 4000000 in
set_option maxRecDepth 100000 in
theorem c_X3_hear_7 (l : Launch) (D : va_G) (G : w_G) (M : w_M) (B : Nat) (i : Nat) (b : Int32) (c1 : Int32) (d1 : Int32) (e1 : Int32) (hB : L_mou G (B)) (n : Nat) (hn8 : n ≤ 8) (hn : iv M B 5 = nI n) (hi : i < n) : u_Mv l D G yX3_hear cX3_hear 7 none 3 69 [.ref (gP G B), .int 7, .int (nI i), .int b, .int c1, .int d1, .int e1] M (fun M' => M' = wi M (B + 100 + i) 7 b) := by
  refine u_bodyv (by decide +kernel) (Nat.le_of_ble_eq_true rfl) rfl (fun p e s m args below meth c A H0 Q C ret => ?_)
  refine u_iload_n C dX3_hear_0 rfl ?_
  refine u_tin (off := 152) (tgt := 153) C dX3_hear_1 (by decide) (by decide) (by decide) (by decide) ?_
  refine u_aload_n C dX3_hear_153 rfl ?_
  refine u_iload_n C dX3_hear_154 rfl ?_
  refine u_iload_n C dX3_hear_155 rfl ?_
  refine u_callvV2 C ev_X3_setPermit dX3_hear_156 ml_RX3_87 (mou_is hB) rfl (by decide) (c_X3_setPermit l D G _ _ _ _ hB n hn8 hn hi) (by decide) (Nat.le_of_ble_eq_true rfl) (fun M_156 q_156 => ?_)
  obtain rfl := q_156
  refine u_goto (tgt := 173) C dX3_hear_159 (by decide) ?_
  exact ret _ _  _ dX3_hear_173  (rfl)
set_option maxHeartbeats 4000000 in
set_option maxRecDepth 100000 in
theorem c_X3_hear_8S (l : Launch) (D : va_G) (G : w_G) (M : w_M) (B : Nat) (i : Nat) (b : Int32) (d1 : Int32) (e1 : Int32) (hB : L_mou G (B)) (n : Nat) (hn8 : n ≤ 8) (hn : iv M B 5 = nI n) (hi : i < n) : u_Mv l D G yX3_hear cX3_hear 7 none 3 69 [.ref (gP G B), .int 8, .int (nI i), .int b, .int (-1), .int d1, .int e1] M (fun M' => M' = m_mudS M B i b) := by
  refine u_bodyv (by decide +kernel) (Nat.le_of_ble_eq_true rfl) rfl (fun p e s m args below meth c A H0 Q C ret => ?_)
  refine u_iload_n C dX3_hear_0 rfl ?_
  refine u_tin (off := 161) (tgt := 162) C dX3_hear_1 (by decide) (by decide) (by decide) (by decide) ?_
  refine u_aload_n C dX3_hear_162 rfl ?_
  refine u_iload_n C dX3_hear_163 rfl ?_
  refine u_iload_n C dX3_hear_164 rfl ?_
  refine u_iload C dX3_hear_165 rfl ?_
  refine u_callvV3 C ev_X3_moveMud dX3_hear_167 ml_RX3_91 (mou_is hB) rfl (by decide) (c_X3_moveMudS l D G _ _ _ _ hB n hn8 hn hi) (by decide) (Nat.le_of_ble_eq_true rfl) (fun M_167 q_167 => ?_)
  obtain rfl := q_167
  refine u_goto (tgt := 173) C dX3_hear_170 (by decide) ?_
  exact ret _ _  _ dX3_hear_173  (rfl)
set_option maxHeartbeats 4000000 in
set_option maxRecDepth 100000 in
theorem c_X3_hear_8C (l : Launch) (D : va_G) (G : w_G) (M : w_M) (B : Nat) (i : Nat) (b : Int32) (j : Nat) (d1 : Int32) (e1 : Int32) (hB : L_mou G (B)) (n : Nat) (hn8 : n ≤ 8) (hn : iv M B 5 = nI n) (hi : i < n) (hj : j < n) : u_Mv l D G yX3_hear cX3_hear 7 none 3 69 [.ref (gP G B), .int 8, .int (nI i), .int b, .int (nI j), .int d1, .int e1] M (fun M' => M' = m_mudC M B i j b) := by
  refine u_bodyv (by decide +kernel) (Nat.le_of_ble_eq_true rfl) rfl (fun p e s m args below meth c A H0 Q C ret => ?_)
  refine u_iload_n C dX3_hear_0 rfl ?_
  refine u_tin (off := 161) (tgt := 162) C dX3_hear_1 (by decide) (by decide) (by decide) (by decide) ?_
  refine u_aload_n C dX3_hear_162 rfl ?_
  refine u_iload_n C dX3_hear_163 rfl ?_
  refine u_iload_n C dX3_hear_164 rfl ?_
  refine u_iload C dX3_hear_165 rfl ?_
  refine u_callvV3 C ev_X3_moveMud dX3_hear_167 ml_RX3_91 (mou_is hB) rfl (by decide) (c_X3_moveMudC l D G _ _ _ _ _ hB n hn8 hn hi hj) (by decide) (Nat.le_of_ble_eq_true rfl) (fun M_167 q_167 => ?_)
  obtain rfl := q_167
  refine u_goto (tgt := 173) C dX3_hear_170 (by decide) ?_
  exact ret _ _  _ dX3_hear_173  (rfl)
set_option maxHeartbeats 4000000 in
set_option maxRecDepth 100000 in
theorem c_X10_tell_0 (l : Launch) (D : va_G) (G : w_G) (M : w_M) (X : Nat) (a : Int32) (b : Int32) (c1 : Int32) (d1 : Int32) (e1 : Int32) (hX : L_sal G (X)) (hk : ∃ n9 : Nat, n9 < 512 ∧ iv M (X + 1) 1 = nI n9) (hn : cB (iv M (X + 1001) 3) 6) : u_Mv l D G yX10_tell cX10_tell 7 none 4 95 [.ref (gP G X), .int 0, .int a, .int b, .int c1, .int d1, .int e1] M (fun M' => M' = m_addT (m_keep M (X + 1) (iv M (X + 1000) 9) 0 a b c1 d1 e1) (X + 1001) a b c1 d1) := by
  refine u_bodyv (by decide +kernel) (Nat.le_of_ble_eq_true rfl) rfl (fun p e s m args below meth c A H0 Q C ret => ?_)
  refine u_aload_n C dX10_tell_0 rfl ?_
  refine u_getR (k2 := (X + 1)) C gX10_tell_1 rfl (sal_is hX) (sal_f2 hX) ?_
  refine u_aload_n C dX10_tell_4 rfl ?_
  refine u_getR (k2 := (X + 1000)) C gX10_tell_5 rfl (sal_is hX) (sal_f0 hX) ?_
  refine u_getI C gX10_tell_8 rfl (mou_is (sal_p0 hX)) ?_
  refine u_iload_n C dX10_tell_11 rfl ?_
  refine u_iload_n C dX10_tell_12 rfl ?_
  refine u_iload_n C dX10_tell_13 rfl ?_
  refine u_iload C dX10_tell_14 rfl ?_
  refine u_iload C dX10_tell_16 rfl ?_
  refine u_iload C dX10_tell_18 rfl ?_
  refine u_callvV7 C ev_X8_keep dX10_tell_20 ml_RX10_236 (tld_is (sal_p2 hX)) rfl (by decide) (c_X8_keep l D G _ _ _ _ _ _ _ _ _ (sal_p2 hX) hk) (by decide) (Nat.le_of_ble_eq_true rfl) (fun M_20 q_20 => ?_)
  obtain rfl := q_20
  refine u_aload_n C dX10_tell_23 rfl ?_
  refine u_getR (k2 := (X + 1000)) C gX10_tell_24 rfl (sal_is hX) (sal_f0 hX) ?_
  refine u_iload_n C dX10_tell_27 rfl ?_
  refine u_iload_n C dX10_tell_28 rfl ?_
  refine u_iload_n C dX10_tell_29 rfl ?_
  refine u_iload C dX10_tell_30 rfl ?_
  refine u_iload C dX10_tell_32 rfl ?_
  refine u_iload C dX10_tell_34 rfl ?_
  refine u_callvV6 C ev_X3_hear dX10_tell_36 ml_RX10_186 (mou_is (sal_p0 hX)) rfl (by decide) (c_X3_hear_0 l D G _ _ _ _ _ _ _ (sal_p0 hX) (by rw [hi_keep (by omega)]; exact hn)) (by decide) (Nat.le_of_ble_eq_true rfl) (fun M_36 q_36 => ?_)
  obtain rfl := q_36
  exact ret _ _  _ dX10_tell_39  (rfl)
set_option maxHeartbeats 4000000 in
set_option maxRecDepth 100000 in
theorem c_X10_tell_1 (l : Launch) (D : va_G) (G : w_G) (M : w_M) (X : Nat) (a : Int32) (b : Int32) (c1 : Int32) (d1 : Int32) (e1 : Int32) (hX : L_sal G (X)) (hk : ∃ n9 : Nat, n9 < 512 ∧ iv M (X + 1) 1 = nI n9)  : u_Mv l D G yX10_tell cX10_tell 7 none 4 95 [.ref (gP G X), .int 1, .int a, .int b, .int c1, .int d1, .int e1] M (fun M' => M' = wi (m_keep M (X + 1) (iv M (X + 1000) 9) 1 a b c1 d1 e1) (X + 1001) 5 a) := by
  refine u_bodyv (by decide +kernel) (Nat.le_of_ble_eq_true rfl) rfl (fun p e s m args below meth c A H0 Q C ret => ?_)
  refine u_aload_n C dX10_tell_0 rfl ?_
  refine u_getR (k2 := (X + 1)) C gX10_tell_1 rfl (sal_is hX) (sal_f2 hX) ?_
  refine u_aload_n C dX10_tell_4 rfl ?_
  refine u_getR (k2 := (X + 1000)) C gX10_tell_5 rfl (sal_is hX) (sal_f0 hX) ?_
  refine u_getI C gX10_tell_8 rfl (mou_is (sal_p0 hX)) ?_
  refine u_iload_n C dX10_tell_11 rfl ?_
  refine u_iload_n C dX10_tell_12 rfl ?_
  refine u_iload_n C dX10_tell_13 rfl ?_
  refine u_iload C dX10_tell_14 rfl ?_
  refine u_iload C dX10_tell_16 rfl ?_
  refine u_iload C dX10_tell_18 rfl ?_
  refine u_callvV7 C ev_X8_keep dX10_tell_20 ml_RX10_236 (tld_is (sal_p2 hX)) rfl (by decide) (c_X8_keep l D G _ _ _ _ _ _ _ _ _ (sal_p2 hX) hk) (by decide) (Nat.le_of_ble_eq_true rfl) (fun M_20 q_20 => ?_)
  obtain rfl := q_20
  refine u_aload_n C dX10_tell_23 rfl ?_
  refine u_getR (k2 := (X + 1000)) C gX10_tell_24 rfl (sal_is hX) (sal_f0 hX) ?_
  refine u_iload_n C dX10_tell_27 rfl ?_
  refine u_iload_n C dX10_tell_28 rfl ?_
  refine u_iload_n C dX10_tell_29 rfl ?_
  refine u_iload C dX10_tell_30 rfl ?_
  refine u_iload C dX10_tell_32 rfl ?_
  refine u_iload C dX10_tell_34 rfl ?_
  refine u_callvV6 C ev_X3_hear dX10_tell_36 ml_RX10_186 (mou_is (sal_p0 hX)) rfl (by decide) (c_X3_hear_1 l D G _ _ _ _ _ _ _ (sal_p0 hX) ) (by decide) (Nat.le_of_ble_eq_true rfl) (fun M_36 q_36 => ?_)
  obtain rfl := q_36
  exact ret _ _  _ dX10_tell_39  (rfl)
set_option maxHeartbeats 4000000 in
set_option maxRecDepth 100000 in
theorem c_X10_tell_2 (l : Launch) (D : va_G) (G : w_G) (M : w_M) (X : Nat) (a : Int32) (b : Int32) (c1 : Int32) (d1 : Int32) (e1 : Int32) (hX : L_sal G (X)) (hk : ∃ n9 : Nat, n9 < 512 ∧ iv M (X + 1) 1 = nI n9) (hn : cB (iv M (X + 1001) 4) 20) : u_Mv l D G yX10_tell cX10_tell 7 none 4 95 [.ref (gP G X), .int 2, .int a, .int b, .int c1, .int d1, .int e1] M (fun M' => M' = m_addS (m_keep M (X + 1) (iv M (X + 1000) 9) 2 a b c1 d1 e1) (X + 1001) a b c1) := by
  refine u_bodyv (by decide +kernel) (Nat.le_of_ble_eq_true rfl) rfl (fun p e s m args below meth c A H0 Q C ret => ?_)
  refine u_aload_n C dX10_tell_0 rfl ?_
  refine u_getR (k2 := (X + 1)) C gX10_tell_1 rfl (sal_is hX) (sal_f2 hX) ?_
  refine u_aload_n C dX10_tell_4 rfl ?_
  refine u_getR (k2 := (X + 1000)) C gX10_tell_5 rfl (sal_is hX) (sal_f0 hX) ?_
  refine u_getI C gX10_tell_8 rfl (mou_is (sal_p0 hX)) ?_
  refine u_iload_n C dX10_tell_11 rfl ?_
  refine u_iload_n C dX10_tell_12 rfl ?_
  refine u_iload_n C dX10_tell_13 rfl ?_
  refine u_iload C dX10_tell_14 rfl ?_
  refine u_iload C dX10_tell_16 rfl ?_
  refine u_iload C dX10_tell_18 rfl ?_
  refine u_callvV7 C ev_X8_keep dX10_tell_20 ml_RX10_236 (tld_is (sal_p2 hX)) rfl (by decide) (c_X8_keep l D G _ _ _ _ _ _ _ _ _ (sal_p2 hX) hk) (by decide) (Nat.le_of_ble_eq_true rfl) (fun M_20 q_20 => ?_)
  obtain rfl := q_20
  refine u_aload_n C dX10_tell_23 rfl ?_
  refine u_getR (k2 := (X + 1000)) C gX10_tell_24 rfl (sal_is hX) (sal_f0 hX) ?_
  refine u_iload_n C dX10_tell_27 rfl ?_
  refine u_iload_n C dX10_tell_28 rfl ?_
  refine u_iload_n C dX10_tell_29 rfl ?_
  refine u_iload C dX10_tell_30 rfl ?_
  refine u_iload C dX10_tell_32 rfl ?_
  refine u_iload C dX10_tell_34 rfl ?_
  refine u_callvV6 C ev_X3_hear dX10_tell_36 ml_RX10_186 (mou_is (sal_p0 hX)) rfl (by decide) (c_X3_hear_2 l D G _ _ _ _ _ _ _ (sal_p0 hX) (by rw [hi_keep (by omega)]; exact hn)) (by decide) (Nat.le_of_ble_eq_true rfl) (fun M_36 q_36 => ?_)
  obtain rfl := q_36
  exact ret _ _  _ dX10_tell_39  (rfl)
set_option maxHeartbeats 4000000 in
set_option maxRecDepth 100000 in
theorem c_X10_tell_3 (l : Launch) (D : va_G) (G : w_G) (M : w_M) (X : Nat) (a : Int32) (b : Int32) (c1 : Int32) (d1 : Int32) (e1 : Int32) (hX : L_sal G (X)) (hk : ∃ n9 : Nat, n9 < 512 ∧ iv M (X + 1) 1 = nI n9)  : u_Mv l D G yX10_tell cX10_tell 7 none 4 95 [.ref (gP G X), .int 3, .int a, .int b, .int c1, .int d1, .int e1] M (fun M' => M' = wi (wi (m_keep M (X + 1) (iv M (X + 1000) 9) 3 a b c1 d1 e1) (X + 1000) 7 a) (X + 1000) 8 b) := by
  refine u_bodyv (by decide +kernel) (Nat.le_of_ble_eq_true rfl) rfl (fun p e s m args below meth c A H0 Q C ret => ?_)
  refine u_aload_n C dX10_tell_0 rfl ?_
  refine u_getR (k2 := (X + 1)) C gX10_tell_1 rfl (sal_is hX) (sal_f2 hX) ?_
  refine u_aload_n C dX10_tell_4 rfl ?_
  refine u_getR (k2 := (X + 1000)) C gX10_tell_5 rfl (sal_is hX) (sal_f0 hX) ?_
  refine u_getI C gX10_tell_8 rfl (mou_is (sal_p0 hX)) ?_
  refine u_iload_n C dX10_tell_11 rfl ?_
  refine u_iload_n C dX10_tell_12 rfl ?_
  refine u_iload_n C dX10_tell_13 rfl ?_
  refine u_iload C dX10_tell_14 rfl ?_
  refine u_iload C dX10_tell_16 rfl ?_
  refine u_iload C dX10_tell_18 rfl ?_
  refine u_callvV7 C ev_X8_keep dX10_tell_20 ml_RX10_236 (tld_is (sal_p2 hX)) rfl (by decide) (c_X8_keep l D G _ _ _ _ _ _ _ _ _ (sal_p2 hX) hk) (by decide) (Nat.le_of_ble_eq_true rfl) (fun M_20 q_20 => ?_)
  obtain rfl := q_20
  refine u_aload_n C dX10_tell_23 rfl ?_
  refine u_getR (k2 := (X + 1000)) C gX10_tell_24 rfl (sal_is hX) (sal_f0 hX) ?_
  refine u_iload_n C dX10_tell_27 rfl ?_
  refine u_iload_n C dX10_tell_28 rfl ?_
  refine u_iload_n C dX10_tell_29 rfl ?_
  refine u_iload C dX10_tell_30 rfl ?_
  refine u_iload C dX10_tell_32 rfl ?_
  refine u_iload C dX10_tell_34 rfl ?_
  refine u_callvV6 C ev_X3_hear dX10_tell_36 ml_RX10_186 (mou_is (sal_p0 hX)) rfl (by decide) (c_X3_hear_3 l D G _ _ _ _ _ _ _ (sal_p0 hX) ) (by decide) (Nat.le_of_ble_eq_true rfl) (fun M_36 q_36 => ?_)
  obtain rfl := q_36
  exact ret _ _  _ dX10_tell_39  (rfl)
set_option maxHeartbeats 4000000 in
set_option maxRecDepth 100000 in
theorem c_X10_tell_4 (l : Launch) (D : va_G) (G : w_G) (M : w_M) (X : Nat) (a : Int32) (b : Int32) (c1 : Int32) (d1 : Int32) (e1 : Int32) (hX : L_sal G (X)) (hk : ∃ n9 : Nat, n9 < 512 ∧ iv M (X + 1) 1 = nI n9)  : u_Mv l D G yX10_tell cX10_tell 7 none 4 95 [.ref (gP G X), .int 4, .int a, .int b, .int c1, .int d1, .int e1] M (fun M' => M' = wi (wi (m_keep M (X + 1) (iv M (X + 1000) 9) 4 a b c1 d1 e1) (X + 1002) 4 a) (X + 1002) 5 b) := by
  refine u_bodyv (by decide +kernel) (Nat.le_of_ble_eq_true rfl) rfl (fun p e s m args below meth c A H0 Q C ret => ?_)
  refine u_aload_n C dX10_tell_0 rfl ?_
  refine u_getR (k2 := (X + 1)) C gX10_tell_1 rfl (sal_is hX) (sal_f2 hX) ?_
  refine u_aload_n C dX10_tell_4 rfl ?_
  refine u_getR (k2 := (X + 1000)) C gX10_tell_5 rfl (sal_is hX) (sal_f0 hX) ?_
  refine u_getI C gX10_tell_8 rfl (mou_is (sal_p0 hX)) ?_
  refine u_iload_n C dX10_tell_11 rfl ?_
  refine u_iload_n C dX10_tell_12 rfl ?_
  refine u_iload_n C dX10_tell_13 rfl ?_
  refine u_iload C dX10_tell_14 rfl ?_
  refine u_iload C dX10_tell_16 rfl ?_
  refine u_iload C dX10_tell_18 rfl ?_
  refine u_callvV7 C ev_X8_keep dX10_tell_20 ml_RX10_236 (tld_is (sal_p2 hX)) rfl (by decide) (c_X8_keep l D G _ _ _ _ _ _ _ _ _ (sal_p2 hX) hk) (by decide) (Nat.le_of_ble_eq_true rfl) (fun M_20 q_20 => ?_)
  obtain rfl := q_20
  refine u_aload_n C dX10_tell_23 rfl ?_
  refine u_getR (k2 := (X + 1000)) C gX10_tell_24 rfl (sal_is hX) (sal_f0 hX) ?_
  refine u_iload_n C dX10_tell_27 rfl ?_
  refine u_iload_n C dX10_tell_28 rfl ?_
  refine u_iload_n C dX10_tell_29 rfl ?_
  refine u_iload C dX10_tell_30 rfl ?_
  refine u_iload C dX10_tell_32 rfl ?_
  refine u_iload C dX10_tell_34 rfl ?_
  refine u_callvV6 C ev_X3_hear dX10_tell_36 ml_RX10_186 (mou_is (sal_p0 hX)) rfl (by decide) (c_X3_hear_4 l D G _ _ _ _ _ _ _ (sal_p0 hX) ) (by decide) (Nat.le_of_ble_eq_true rfl) (fun M_36 q_36 => ?_)
  obtain rfl := q_36
  exact ret _ _  _ dX10_tell_39  (rfl)
set_option maxHeartbeats 4000000 in
set_option maxRecDepth 100000 in
theorem c_X10_tell_5 (l : Launch) (D : va_G) (G : w_G) (M : w_M) (X : Nat) (a : Int32) (b : Int32) (c1 : Int32) (d1 : Int32) (e1 : Int32) (hX : L_sal G (X)) (hk : ∃ n9 : Nat, n9 < 512 ∧ iv M (X + 1) 1 = nI n9) (n : Nat) (hn8 : n < 8) (hn : iv M (X + 1000) 5 = nI n) : u_Mv l D G yX10_tell cX10_tell 7 none 4 95 [.ref (gP G X), .int 5, .int a, .int b, .int c1, .int d1, .int e1] M (fun M' => M' = m_asec (m_keep M (X + 1) (iv M (X + 1000) 9) 5 a b c1 d1 e1) (X + 1000) a b c1 d1) := by
  refine u_bodyv (by decide +kernel) (Nat.le_of_ble_eq_true rfl) rfl (fun p e s m args below meth c A H0 Q C ret => ?_)
  refine u_aload_n C dX10_tell_0 rfl ?_
  refine u_getR (k2 := (X + 1)) C gX10_tell_1 rfl (sal_is hX) (sal_f2 hX) ?_
  refine u_aload_n C dX10_tell_4 rfl ?_
  refine u_getR (k2 := (X + 1000)) C gX10_tell_5 rfl (sal_is hX) (sal_f0 hX) ?_
  refine u_getI C gX10_tell_8 rfl (mou_is (sal_p0 hX)) ?_
  refine u_iload_n C dX10_tell_11 rfl ?_
  refine u_iload_n C dX10_tell_12 rfl ?_
  refine u_iload_n C dX10_tell_13 rfl ?_
  refine u_iload C dX10_tell_14 rfl ?_
  refine u_iload C dX10_tell_16 rfl ?_
  refine u_iload C dX10_tell_18 rfl ?_
  refine u_callvV7 C ev_X8_keep dX10_tell_20 ml_RX10_236 (tld_is (sal_p2 hX)) rfl (by decide) (c_X8_keep l D G _ _ _ _ _ _ _ _ _ (sal_p2 hX) hk) (by decide) (Nat.le_of_ble_eq_true rfl) (fun M_20 q_20 => ?_)
  obtain rfl := q_20
  refine u_aload_n C dX10_tell_23 rfl ?_
  refine u_getR (k2 := (X + 1000)) C gX10_tell_24 rfl (sal_is hX) (sal_f0 hX) ?_
  refine u_iload_n C dX10_tell_27 rfl ?_
  refine u_iload_n C dX10_tell_28 rfl ?_
  refine u_iload_n C dX10_tell_29 rfl ?_
  refine u_iload C dX10_tell_30 rfl ?_
  refine u_iload C dX10_tell_32 rfl ?_
  refine u_iload C dX10_tell_34 rfl ?_
  refine u_callvV6 C ev_X3_hear dX10_tell_36 ml_RX10_186 (mou_is (sal_p0 hX)) rfl (by decide) (c_X3_hear_5 l D G _ _ _ _ _ _ _ (sal_p0 hX) n hn8 (by rw [hi_keep (by omega)]; exact hn)) (by decide) (Nat.le_of_ble_eq_true rfl) (fun M_36 q_36 => ?_)
  obtain rfl := q_36
  exact ret _ _  _ dX10_tell_39  (rfl)
set_option maxHeartbeats 4000000 in
set_option maxRecDepth 100000 in
theorem c_X10_tell_6 (l : Launch) (D : va_G) (G : w_G) (M : w_M) (X : Nat) (a : Int32) (b : Int32) (c1 : Int32) (d1 : Int32) (e1 : Int32) (hX : L_sal G (X)) (hk : ∃ n9 : Nat, n9 < 512 ∧ iv M (X + 1) 1 = nI n9) (n : Nat) (hn8 : n < 6) (hn : iv M (X + 1000) 6 = nI n) : u_Mv l D G yX10_tell cX10_tell 7 none 4 95 [.ref (gP G X), .int 6, .int a, .int b, .int c1, .int d1, .int e1] M (fun M' => M' = m_aint (m_keep M (X + 1) (iv M (X + 1000) 9) 6 a b c1 d1 e1) (X + 1000) a b c1 d1 e1) := by
  refine u_bodyv (by decide +kernel) (Nat.le_of_ble_eq_true rfl) rfl (fun p e s m args below meth c A H0 Q C ret => ?_)
  refine u_aload_n C dX10_tell_0 rfl ?_
  refine u_getR (k2 := (X + 1)) C gX10_tell_1 rfl (sal_is hX) (sal_f2 hX) ?_
  refine u_aload_n C dX10_tell_4 rfl ?_
  refine u_getR (k2 := (X + 1000)) C gX10_tell_5 rfl (sal_is hX) (sal_f0 hX) ?_
  refine u_getI C gX10_tell_8 rfl (mou_is (sal_p0 hX)) ?_
  refine u_iload_n C dX10_tell_11 rfl ?_
  refine u_iload_n C dX10_tell_12 rfl ?_
  refine u_iload_n C dX10_tell_13 rfl ?_
  refine u_iload C dX10_tell_14 rfl ?_
  refine u_iload C dX10_tell_16 rfl ?_
  refine u_iload C dX10_tell_18 rfl ?_
  refine u_callvV7 C ev_X8_keep dX10_tell_20 ml_RX10_236 (tld_is (sal_p2 hX)) rfl (by decide) (c_X8_keep l D G _ _ _ _ _ _ _ _ _ (sal_p2 hX) hk) (by decide) (Nat.le_of_ble_eq_true rfl) (fun M_20 q_20 => ?_)
  obtain rfl := q_20
  refine u_aload_n C dX10_tell_23 rfl ?_
  refine u_getR (k2 := (X + 1000)) C gX10_tell_24 rfl (sal_is hX) (sal_f0 hX) ?_
  refine u_iload_n C dX10_tell_27 rfl ?_
  refine u_iload_n C dX10_tell_28 rfl ?_
  refine u_iload_n C dX10_tell_29 rfl ?_
  refine u_iload C dX10_tell_30 rfl ?_
  refine u_iload C dX10_tell_32 rfl ?_
  refine u_iload C dX10_tell_34 rfl ?_
  refine u_callvV6 C ev_X3_hear dX10_tell_36 ml_RX10_186 (mou_is (sal_p0 hX)) rfl (by decide) (c_X3_hear_6 l D G _ _ _ _ _ _ _ (sal_p0 hX) n hn8 (by rw [hi_keep (by omega)]; exact hn)) (by decide) (Nat.le_of_ble_eq_true rfl) (fun M_36 q_36 => ?_)
  obtain rfl := q_36
  exact ret _ _  _ dX10_tell_39  (rfl)
set_option maxHeartbeats 4000000 in
set_option maxRecDepth 100000 in
theorem c_X10_tell_7 (l : Launch) (D : va_G) (G : w_G) (M : w_M) (X : Nat) (i : Nat) (b : Int32) (c1 : Int32) (d1 : Int32) (e1 : Int32) (hX : L_sal G (X)) (hk : ∃ n9 : Nat, n9 < 512 ∧ iv M (X + 1) 1 = nI n9) (n : Nat) (hn8 : n ≤ 8) (hn : iv M (X + 1000) 5 = nI n) (hi : i < n) : u_Mv l D G yX10_tell cX10_tell 7 none 4 95 [.ref (gP G X), .int 7, .int (nI i), .int b, .int c1, .int d1, .int e1] M (fun M' => M' = wi (m_keep M (X + 1) (iv M (X + 1000) 9) 7 (nI i) b c1 d1 e1) (X + 1000 + 100 + i) 7 b) := by
  refine u_bodyv (by decide +kernel) (Nat.le_of_ble_eq_true rfl) rfl (fun p e s m args below meth c A H0 Q C ret => ?_)
  refine u_aload_n C dX10_tell_0 rfl ?_
  refine u_getR (k2 := (X + 1)) C gX10_tell_1 rfl (sal_is hX) (sal_f2 hX) ?_
  refine u_aload_n C dX10_tell_4 rfl ?_
  refine u_getR (k2 := (X + 1000)) C gX10_tell_5 rfl (sal_is hX) (sal_f0 hX) ?_
  refine u_getI C gX10_tell_8 rfl (mou_is (sal_p0 hX)) ?_
  refine u_iload_n C dX10_tell_11 rfl ?_
  refine u_iload_n C dX10_tell_12 rfl ?_
  refine u_iload_n C dX10_tell_13 rfl ?_
  refine u_iload C dX10_tell_14 rfl ?_
  refine u_iload C dX10_tell_16 rfl ?_
  refine u_iload C dX10_tell_18 rfl ?_
  refine u_callvV7 C ev_X8_keep dX10_tell_20 ml_RX10_236 (tld_is (sal_p2 hX)) rfl (by decide) (c_X8_keep l D G _ _ _ _ _ _ _ _ _ (sal_p2 hX) hk) (by decide) (Nat.le_of_ble_eq_true rfl) (fun M_20 q_20 => ?_)
  obtain rfl := q_20
  refine u_aload_n C dX10_tell_23 rfl ?_
  refine u_getR (k2 := (X + 1000)) C gX10_tell_24 rfl (sal_is hX) (sal_f0 hX) ?_
  refine u_iload_n C dX10_tell_27 rfl ?_
  refine u_iload_n C dX10_tell_28 rfl ?_
  refine u_iload_n C dX10_tell_29 rfl ?_
  refine u_iload C dX10_tell_30 rfl ?_
  refine u_iload C dX10_tell_32 rfl ?_
  refine u_iload C dX10_tell_34 rfl ?_
  refine u_callvV6 C ev_X3_hear dX10_tell_36 ml_RX10_186 (mou_is (sal_p0 hX)) rfl (by decide) (c_X3_hear_7 l D G _ _ _ _ _ _ _ (sal_p0 hX) n hn8 (by rw [hi_keep (by omega)]; exact hn) hi) (by decide) (Nat.le_of_ble_eq_true rfl) (fun M_36 q_36 => ?_)
  obtain rfl := q_36
  exact ret _ _  _ dX10_tell_39  (rfl)
set_option maxHeartbeats 4000000 in
set_option maxRecDepth 100000 in
theorem c_X10_tell_8S (l : Launch) (D : va_G) (G : w_G) (M : w_M) (X : Nat) (i : Nat) (b : Int32) (d1 : Int32) (e1 : Int32) (hX : L_sal G (X)) (hk : ∃ n9 : Nat, n9 < 512 ∧ iv M (X + 1) 1 = nI n9) (n : Nat) (hn8 : n ≤ 8) (hn : iv M (X + 1000) 5 = nI n) (hi : i < n) : u_Mv l D G yX10_tell cX10_tell 7 none 4 95 [.ref (gP G X), .int 8, .int (nI i), .int b, .int (-1), .int d1, .int e1] M (fun M' => M' = m_mudS (m_keep M (X + 1) (iv M (X + 1000) 9) 8 (nI i) b ((-1)) d1 e1) (X + 1000) i b) := by
  refine u_bodyv (by decide +kernel) (Nat.le_of_ble_eq_true rfl) rfl (fun p e s m args below meth c A H0 Q C ret => ?_)
  refine u_aload_n C dX10_tell_0 rfl ?_
  refine u_getR (k2 := (X + 1)) C gX10_tell_1 rfl (sal_is hX) (sal_f2 hX) ?_
  refine u_aload_n C dX10_tell_4 rfl ?_
  refine u_getR (k2 := (X + 1000)) C gX10_tell_5 rfl (sal_is hX) (sal_f0 hX) ?_
  refine u_getI C gX10_tell_8 rfl (mou_is (sal_p0 hX)) ?_
  refine u_iload_n C dX10_tell_11 rfl ?_
  refine u_iload_n C dX10_tell_12 rfl ?_
  refine u_iload_n C dX10_tell_13 rfl ?_
  refine u_iload C dX10_tell_14 rfl ?_
  refine u_iload C dX10_tell_16 rfl ?_
  refine u_iload C dX10_tell_18 rfl ?_
  refine u_callvV7 C ev_X8_keep dX10_tell_20 ml_RX10_236 (tld_is (sal_p2 hX)) rfl (by decide) (c_X8_keep l D G _ _ _ _ _ _ _ _ _ (sal_p2 hX) hk) (by decide) (Nat.le_of_ble_eq_true rfl) (fun M_20 q_20 => ?_)
  obtain rfl := q_20
  refine u_aload_n C dX10_tell_23 rfl ?_
  refine u_getR (k2 := (X + 1000)) C gX10_tell_24 rfl (sal_is hX) (sal_f0 hX) ?_
  refine u_iload_n C dX10_tell_27 rfl ?_
  refine u_iload_n C dX10_tell_28 rfl ?_
  refine u_iload_n C dX10_tell_29 rfl ?_
  refine u_iload C dX10_tell_30 rfl ?_
  refine u_iload C dX10_tell_32 rfl ?_
  refine u_iload C dX10_tell_34 rfl ?_
  refine u_callvV6 C ev_X3_hear dX10_tell_36 ml_RX10_186 (mou_is (sal_p0 hX)) rfl (by decide) (c_X3_hear_8S l D G _ _ _ _ _ _ (sal_p0 hX) n hn8 (by rw [hi_keep (by omega)]; exact hn) hi) (by decide) (Nat.le_of_ble_eq_true rfl) (fun M_36 q_36 => ?_)
  obtain rfl := q_36
  exact ret _ _  _ dX10_tell_39  (rfl)
set_option maxHeartbeats 4000000 in
set_option maxRecDepth 100000 in
theorem c_X10_tell_8C (l : Launch) (D : va_G) (G : w_G) (M : w_M) (X : Nat) (i : Nat) (b : Int32) (j : Nat) (d1 : Int32) (e1 : Int32) (hX : L_sal G (X)) (hk : ∃ n9 : Nat, n9 < 512 ∧ iv M (X + 1) 1 = nI n9) (n : Nat) (hn8 : n ≤ 8) (hn : iv M (X + 1000) 5 = nI n) (hi : i < n) (hj : j < n) : u_Mv l D G yX10_tell cX10_tell 7 none 4 95 [.ref (gP G X), .int 8, .int (nI i), .int b, .int (nI j), .int d1, .int e1] M (fun M' => M' = m_mudC (m_keep M (X + 1) (iv M (X + 1000) 9) 8 (nI i) b (nI j) d1 e1) (X + 1000) i j b) := by
  refine u_bodyv (by decide +kernel) (Nat.le_of_ble_eq_true rfl) rfl (fun p e s m args below meth c A H0 Q C ret => ?_)
  refine u_aload_n C dX10_tell_0 rfl ?_
  refine u_getR (k2 := (X + 1)) C gX10_tell_1 rfl (sal_is hX) (sal_f2 hX) ?_
  refine u_aload_n C dX10_tell_4 rfl ?_
  refine u_getR (k2 := (X + 1000)) C gX10_tell_5 rfl (sal_is hX) (sal_f0 hX) ?_
  refine u_getI C gX10_tell_8 rfl (mou_is (sal_p0 hX)) ?_
  refine u_iload_n C dX10_tell_11 rfl ?_
  refine u_iload_n C dX10_tell_12 rfl ?_
  refine u_iload_n C dX10_tell_13 rfl ?_
  refine u_iload C dX10_tell_14 rfl ?_
  refine u_iload C dX10_tell_16 rfl ?_
  refine u_iload C dX10_tell_18 rfl ?_
  refine u_callvV7 C ev_X8_keep dX10_tell_20 ml_RX10_236 (tld_is (sal_p2 hX)) rfl (by decide) (c_X8_keep l D G _ _ _ _ _ _ _ _ _ (sal_p2 hX) hk) (by decide) (Nat.le_of_ble_eq_true rfl) (fun M_20 q_20 => ?_)
  obtain rfl := q_20
  refine u_aload_n C dX10_tell_23 rfl ?_
  refine u_getR (k2 := (X + 1000)) C gX10_tell_24 rfl (sal_is hX) (sal_f0 hX) ?_
  refine u_iload_n C dX10_tell_27 rfl ?_
  refine u_iload_n C dX10_tell_28 rfl ?_
  refine u_iload_n C dX10_tell_29 rfl ?_
  refine u_iload C dX10_tell_30 rfl ?_
  refine u_iload C dX10_tell_32 rfl ?_
  refine u_iload C dX10_tell_34 rfl ?_
  refine u_callvV6 C ev_X3_hear dX10_tell_36 ml_RX10_186 (mou_is (sal_p0 hX)) rfl (by decide) (c_X3_hear_8C l D G _ _ _ _ _ _ _ (sal_p0 hX) n hn8 (by rw [hi_keep (by omega)]; exact hn) hi hj) (by decide) (Nat.le_of_ble_eq_true rfl) (fun M_36 q_36 => ?_)
  obtain rfl := q_36
  exact ret _ _  _ dX10_tell_39  (rfl)
