/-- nothing below a number changes -/
def lo (b : Nat) (M M' : w_M) : Prop := ∀ a, a < b → ∀ j, iv M' a j = iv M a j
theorem lo.rf {b : Nat} {M : w_M} : lo b M M := fun _ _ _ => rfl
theorem lo.tr {b : Nat} {M M1 M2 : w_M} (h1 : lo b M M1) (h2 : lo b M1 M2) : lo b M M2 := fun a ha j => (h2 a ha j).trans (h1 a ha j)
theorem lo.le {b b' : Nat} {M M' : w_M} (h : lo b M M') (hb : b' ≤ b) : lo b' M M' := fun a ha j => h a (Nat.lt_of_lt_of_le ha hb) j
theorem lo_wi {b : Nat} {M : w_M} {a j : Nat} {x : Int32} (h : b ≤ a) : lo b M (wi M a j x) := fun c hc k => by rw [iv_wi, if_neg]; intro z; omega
theorem lo_wj {b : Nat} {M : w_M} {a j : Nat} {x : Int64} : lo b M (wj M a j x) := fun _ _ _ => rfl
theorem lo_sadd {b : Nat} {M : w_M} {B i : Nat} {x : Int64} : lo b M (sadd M B i x) := fun _ _ _ => rfl
theorem lo_out {b : Nat} {M : w_M} {k : Nat} {f : Int32} (h : b ≤ k) : lo b M (m_out M k f) := (lo_wi h).tr (lo_wi h)
theorem lo_in {b : Nat} {M : w_M} {k : Nat} {x y : Int32} (h : b ≤ k) : lo b M (m_in M k x y) := (lo_wi h).tr (lo_wi h)
theorem lo_gc {b : Nat} {M : w_M} {k : Nat} {f : Int32} (h : b ≤ k) : lo b M (m_gc M k f) := lo_wi h
theorem lo_ms1 {b : Nat} {M : w_M} {B k : Nat} {f : Int32} (h : b ≤ k) : lo b M (m_ms1 M B k f) := ((lo_in (by omega)).tr lo_sadd).tr lo_sadd
theorem lo_ms2 {b : Nat} {M : w_M} {B k : Nat} {f : Int32} (h : b ≤ k) : lo b M (m_ms2 M B k f) := ((((lo_gc h).tr lo_sadd).tr (lo_out (by omega))).tr lo_sadd).tr lo_sadd
theorem lo_sea {b : Nat} {M : w_M} {B k : Nat} {x : Int32} (h : b ≤ k) : lo b M (m_sea M B k x) := by
  unfold m_sea
  split
  · exact lo_ms1 h
  · split
    · exact lo_ms2 h
    · exact lo.rf
theorem lo_riv {b : Nat} {M : w_M} {B k : Nat} (h : b ≤ k) : lo b M (m_riv M B k) := (((lo_in (by omega)).tr (lo_wi h)).tr lo_sadd).tr lo_sadd
theorem lo_fl {b : Nat} {M : w_M} {k1 k2 : Nat} {f : Int32} (h1 : b ≤ k1) (h2 : b ≤ k2) : lo b M (m_fl M k1 k2 f) := (lo_out (by omega)).tr (lo_in (by omega))
theorem lo_fu {b : Nat} {M : w_M} {k1 k2 : Nat} {f : Int32} (h1 : b ≤ k1) (h2 : b ≤ k2) : lo b M (m_fu M k1 k2 f) := (((lo_gc h1).tr (lo_out (by omega))).tr (lo_wi h2)).tr (lo_in (by omega))
theorem lo_runs {b : Nat} {M : w_M} {k1 k2 : Nat} {f : Int32} (h1 : b ≤ k1) (h2 : b ≤ k2) : lo b M (m_runs M k1 k2 f) := (lo_wi h1).tr (lo_wi h2)
theorem lo_level {b : Nat} {M : w_M} {k1 k2 : Nat} (h1 : b ≤ k1) (h2 : b ≤ k2) : lo b M (m_level M k1 k2) := by
  unfold m_level
  split
  · exact (lo_fl h1 h2).tr (lo_runs h1 h2)
  · split
    · exact (lo_fu h2 h1).tr (lo_runs h1 h2)
    · exact lo_runs h1 h2
theorem lo_creep {b : Nat} {M : w_M} {k1 k2 : Nat} (h1 : b ≤ k1) (h2 : b ≤ k2) : lo b M (m_creep M k1 k2) := by
  unfold m_creep
  split
  · exact (lo_fl h1 h2).tr (lo_fu h2 h1)
  · exact lo.rf
theorem lo_mix {b : Nat} {M : w_M} {k : Nat} (h : b ≤ k) : lo b M (m_mix M k) := by
  unfold m_mix
  split
  · exact lo.rf
  · split
    · exact (lo_wi (by omega)).tr (lo_wi (by omega))
    · exact lo.rf
theorem lo_set {b : Nat} {M : w_M} {k : Nat} (h : b ≤ k) : lo b M (m_set M k) := by
  unfold m_set
  split
  · exact (lo_wi h).tr (lo_wi h)
  · split
    · exact (lo_wi h).tr (lo_wi h)
    · exact lo.rf
theorem lo_take {b : Nat} {M : w_M} {k u j : Nat} (h : b ≤ k) (hu : b ≤ u) : lo b M (m_take M k u j) := by
  unfold m_take
  split
  · exact (((((lo_wi h).tr (lo_out hu)).tr (lo_wi h)).tr (lo_wi h)).tr lo_wj).tr lo_wj
  · exact (lo_wi h).tr (lo_wi h)
theorem lo_sup {b : Nat} {M : w_M} {k : Nat} (h : b ≤ k) : lo b M (m_sup M k) := (lo_wi h).tr (lo_wi h)
def m_tk (M : w_M) (B i : Nat) : w_M := m_sup (if s_has M B (iv M (B + 150 + i) 0) = 0 then M else m_take M (B + 150 + i) (B + 100 + cN (iv M (B + 150 + i) 0) + 20) (B + 5)) (B + 150 + i)
def m_srv (M : w_M) (B : Nat) : Nat → w_M
  | 0 => M
  | i + 1 => m_tk (m_srv M B i) B i
theorem lo_tk {M : w_M} {B i : Nat} : lo (B + 100) M (m_tk M B i) := by
  unfold m_tk
  split
  · exact lo_sup (by omega)
  · exact (lo_take (by omega) (by omega)).tr (lo_sup (by omega))
theorem lo_srv {M : w_M} {B : Nat} : ∀ i, lo (B + 100) M (m_srv M B i)
  | 0 => lo.rf
  | i + 1 => (lo_srv i).tr lo_tk
def m_r0 (M : w_M) (B : Nat) : Nat → w_M
  | 0 => M
  | i + 1 => wi (m_r0 M B i) (B + 100 + i) 6 0
theorem lo_r0 {M : w_M} {B : Nat} : ∀ i, lo (B + 100) M (m_r0 M B i)
  | 0 => lo.rf
  | i + 1 => (lo_r0 i).tr (lo_wi (by omega))
def m_lv (M : w_M) (B : Nat) : Nat → w_M
  | 0 => M
  | i + 1 => m_creep (m_level (m_lv M B i) (B + 100 + i) (B + 100 + (i + 1))) (B + 100 + i) (B + 100 + (i + 1))
theorem lo_lv {M : w_M} {B : Nat} : ∀ i, lo (B + 100) M (m_lv M B i)
  | 0 => lo.rf
  | i + 1 => ((lo_lv i).tr (lo_level (by omega) (by omega))).tr (lo_creep (by omega) (by omega))
def m_mx (M : w_M) (B : Nat) : Nat → w_M
  | 0 => M
  | i + 1 => m_set (m_mix (m_mx M B i) (B + 100 + i)) (B + 100 + i)
theorem lo_mx {M : w_M} {B : Nat} : ∀ i, lo (B + 100) M (m_mx M B i)
  | 0 => lo.rf
  | i + 1 => ((lo_mx i).tr (lo_mix (by omega))).tr (lo_set (by omega))
def m_eh (M : w_M) (B t : Nat) : Nat → w_M
  | 0 => M
  | i + 1 => wi (m_eh M B t i) (B + 100 + i + 40) (t % 24) (f_sal (iv (m_eh M B t i) (B + 100 + i + 30) 0) (iv (m_eh M B t i) (B + 100 + i + 30) 1))
theorem lo_eh {M : w_M} {B t : Nat} : ∀ i, lo (B + 100) M (m_eh M B t i)
  | 0 => lo.rf
  | i + 1 => (lo_eh i).tr (lo_wi (by omega))
def m_ab (M : w_M) (B n : Nat) (h : Int32) : w_M := if n = 0 then M else m_riv (if iv M (B + 2) 6 = 0 then m_sea M B (B + 100) h else M) B (B + 100 + (n - 1))
theorem lo_ab {M : w_M} {B n : Nat} {h : Int32} : lo (B + 100) M (m_ab M B n h) := by
  unfold m_ab
  split
  · exact lo.rf
  · refine lo.tr ?_ (lo_riv (by omega))
    split
    · exact lo_sea (by omega)
    · exact lo.rf
def m_hour (M : w_M) (B n ic t : Nat) (h : Int32) : w_M := wi (m_eh (m_srv (m_mx (m_lv (m_ab (m_look (m_r0 M B n) (B + 2) (B + 1) t) B n h) B (n - 1)) B n) B ic) B t n) (B + 8) t h
theorem s_t_lo {M M' : w_M} {k : Nat} {h : Int32} (e : lo (k + 49) M M') : ∀ i, i ≤ 6 → s_t M' k h i = s_t M k h i := by
  intro i
  induction i with
  | zero => intro _; exact e _ (by omega) _
  | succ i ih => intro hi; simp only [s_t]; rw [ih (by omega), e _ (by omega), e _ (by omega), e _ (by omega), e _ (by omega)]
theorem s_s_lo {M M' : w_M} {k n : Nat} {h : Int32} (e : lo (k + 49) M M') (hn : n ≤ 6) : ∀ j, j ≤ 20 → s_s M' k h n j = s_s M k h n j := by
  intro j
  induction j with
  | zero => intro _; exact s_t_lo e n hn
  | succ j ih => intro hj; simp only [s_s]; rw [ih (by omega), e _ (by omega), e _ (by omega), e _ (by omega)]
theorem s_for_lo {M M' : w_M} {k : Nat} {h : Int32} (e : lo (k + 49) M M') (hn : cB (iv M k 3) 6) (hm : cB (iv M k 4) 20) : s_for M' k h = s_for M k h := by
  obtain ⟨n, h1, h2⟩ := hn
  obtain ⟨m, h3, h4⟩ := hm
  unfold s_for
  rw [e k (by omega), e k (by omega), h2, h4, cN_nI (by omega), cN_nI (by omega)]
  exact s_s_lo e h1 m h3
/-- the counts are in their bounds -/
def okC (M : w_M) (B : Nat) : Prop := cB (iv M B 5) 8 ∧ cB (iv M B 6) 6 ∧ cB (iv M B 9) 1000 ∧ cB (iv M (B + 1) 3) 6 ∧ cB (iv M (B + 1) 4) 20 ∧ cB (iv M (B + 2) 3) 500 ∧ cB (iv M (B + 2) 5) 12
theorem u_nsub1 {n : Nat} (h : 0 < n) : nI n - 1 = nI (n - 1) := by
  obtain ⟨k, rfl⟩ : ∃ k, n = k + 1 := ⟨n - 1, by omega⟩
  exact nI_pred k
theorem u_hasN {M : w_M} {B n : Nat} {v : Int32} (hn8 : n ≤ 8) (hn : iv M B 5 = nI n) (h : ¬ s_has M B v = 0) : ∃ j, j < n ∧ v = nI j := by
  unfold s_has at h
  by_cases h1 : v < 0
  · rw [if_pos h1] at h; exact absurd rfl h
  · rw [if_neg h1] at h
    obtain ⟨j, hj, rfl⟩ := nI_of h1
    by_cases h2 : iv M B 5 ≤ nI j
    · rw [if_pos h2] at h; exact absurd rfl h
    · rw [hn] at h2
      exact ⟨j, u_lt h2 hj, rfl⟩
theorem lo_lk2 {M : w_M} {k t b : Nat} (hb : b ≤ k) : lo b M (m_lk2 M k t) := ((lo_wi (by omega)).tr (lo_wi (by omega))).tr (lo_wi hb)
theorem lo_lk3 {M : w_M} {k s0 t b : Nat} (hb : b ≤ k) : lo b M (m_lk3 M k s0 t) := by
  unfold m_lk3
  split
  · exact lo.rf
  · exact (lo_wi (by omega)).tr (lo_wi (by omega))
theorem lo_look {M : w_M} {k s0 t b : Nat} (hb : b ≤ k) : lo b M (m_look M k s0 t) := by
  unfold m_look
  split
  · refine lo.tr ?_ (lo_lk3 hb)
    split
    · exact (lo_wi hb).tr (lo_lk2 hb)
    · exact lo_wi hb
  · exact lo_wi hb
theorem lw1 {M : w_M} {B n t : Nat} : lo (B + 2) M (m_look (m_r0 M B n) (B + 2) (B + 1) t) := ((lo_r0 n).le (by omega)).tr (lo_look (by omega))
theorem lw2 {M : w_M} {B n t : Nat} {h : Int32} : lo (B + 2) M (m_ab (m_look (m_r0 M B n) (B + 2) (B + 1) t) B n h) := lw1.tr (lo_ab.le (by omega))
theorem lw3 {M : w_M} {B n t : Nat} {h : Int32} (i : Nat) : lo (B + 2) M (m_lv (m_ab (m_look (m_r0 M B n) (B + 2) (B + 1) t) B n h) B i) := lw2.tr ((lo_lv i).le (by omega))
theorem lw4 {M : w_M} {B n t i0 : Nat} {h : Int32} (i : Nat) : lo (B + 2) M (m_mx (m_lv (m_ab (m_look (m_r0 M B n) (B + 2) (B + 1) t) B n h) B i0) B i) := (lw3 i0).tr ((lo_mx i).le (by omega))
theorem lw5 {M : w_M} {B n t i0 i1 : Nat} {h : Int32} (i : Nat) : lo (B + 2) M (m_srv (m_mx (m_lv (m_ab (m_look (m_r0 M B n) (B + 2) (B + 1) t) B n h) B i0) B i1) B i) := (lw4 i1).tr ((lo_srv i).le (by omega))
theorem lw6 {M : w_M} {B n t i0 i1 i2 : Nat} {h : Int32} (i : Nat) : lo (B + 2) M (m_eh (m_srv (m_mx (m_lv (m_ab (m_look (m_r0 M B n) (B + 2) (B + 1) t) B n h) B i0) B i1) B i2) B t i) := (lw5 i2).tr ((lo_eh i).le (by omega))
set_option maxHeartbeats 4000000 in
set_option maxRecDepth 100000 in
theorem c_X3_serveIntakes (l : Launch) (D : va_G) (G : w_G) (M : w_M) (B : Nat) (hB : L_mou G (B)) (n ic : Nat) (hn8 : n ≤ 8) (hn : iv M B 5 = nI n) (hi6 : ic ≤ 6) (hic : iv M B 6 = nI ic) : u_Mv l D G yX3_serveIntakes cX3_serveIntakes 3 none 3 68 [.ref (gP G B)] M (fun M' => M' = m_srv M B ic) := by
  refine u_bodyv (by decide +kernel) (Nat.le_of_ble_eq_true rfl) rfl (fun p e s m args below meth c A H0 Q C ret => ?_)
  have loop1 : ∀ (d i : Nat) (x1 : Int32), i ≤ ic → ic - i < d → x1 = nI i → u_S p l e (u_rm 3 68) s m args below meth c 3 D A H0 0 0 Q 2 [(0, .ref (gP G B)), (1, .int x1)] [] G (m_srv M B i) := by
    intro d
    induction d with
    | zero => intro i x1 hj hd; omega
    | succ d ih =>
      intro i x1 hj hd h1
      subst h1
      have l5 : iv (m_srv M B i) B 5 = nI n := by rw [lo_srv i B (by omega)]; exact hn
      have l6 : iv (m_srv M B i) B 6 = nI ic := by rw [lo_srv i B (by omega)]; exact hic
      refine u_iload_n C dX3_serveIntakes_2 rfl ?_
      refine u_aload_n C dX3_serveIntakes_3 rfl ?_
      refine u_getI C gX3_serveIntakes_4 rfl (mou_is hB) ?_
      rw [l6]
      refine u_icmp_ge (tgt := 58) C dX3_serveIntakes_7 (by decide) (fun c_7 => ?_) (fun c_7 => ?_)
      · obtain rfl : ic = i := by have := u_gei c_7 (by omega) (by omega); omega
        exact ret _ _  _ dX3_serveIntakes_58  (rfl)
      · have hi : i < ic := u_lt c_7 (by omega)
        refine u_aload_n C dX3_serveIntakes_10 rfl ?_
        refine u_getR (k2 := (B + 4)) C gX3_serveIntakes_11 rfl (mou_is hB) (mou_f3 hB) ?_
        refine u_iload_n C dX3_serveIntakes_14 rfl ?_
        refine u_aaldN (k2 := (B + 150 + i)) (i := i) C dX3_serveIntakes_15 (aInt_is (mou_p3 hB)) (by decide) (aInt_n (mou_p3 hB)) (by omega) (by decide) (aInt_f (i := i) (mou_p3 hB) (by omega)) ?_
        refine u_astore_n C dX3_serveIntakes_16 (by decide) ?_
        refine u_aload_n C dX3_serveIntakes_17 rfl ?_
        refine u_aload_n C dX3_serveIntakes_18 rfl ?_
        refine u_getI C gX3_serveIntakes_19 rfl (int_is (aInt_p (i := i) (mou_p3 hB) (by omega))) ?_
        refine u_calliV1 C ev_X3_hasSection dX3_serveIntakes_22 ml_RX3_98 (mou_is hB) rfl (by decide) (c_X3_hasSection l D G _ _ _ hB ) (by decide) (Nat.le_of_ble_eq_true rfl) (fun r_22 M_22 q_22 => ?_)
        obtain ⟨rfl, e_22⟩ := q_22
        subst M_22
        refine u_if_eq (tgt := 48) C dX3_serveIntakes_25 (by decide) (fun c_25 => ?_) (fun c_25 => ?_)
        · refine u_aload_n C dX3_serveIntakes_48 rfl ?_
          refine u_callvV0 C ev_X1_supply dX3_serveIntakes_49 ml_RX3_215 (int_is (aInt_p (i := i) (mou_p3 hB) (by omega))) rfl (by decide) (c_X1_supply l D G _ _ (aInt_p (i := i) (mou_p3 hB) (by omega)) ) (by decide) (Nat.le_of_ble_eq_true rfl) (fun M_49 q_49 => ?_)
          obtain rfl := q_49
          refine u_iinc C dX3_serveIntakes_52 (by decide) rfl ?_
          refine u_goto (tgt := 2) C dX3_serveIntakes_55 (by decide) ?_
          exact u_loc [0, 1] rfl (u_eq (ih (i + 1) _ (by omega) (by omega) (nI_1 i)) rfl rfl (by simp only [m_srv, m_tk]; first | rw [if_pos c_25] | (rw [if_neg c_25, hej, cN_nI (by omega)])))
        · obtain ⟨j, hjn, hej⟩ := u_hasN hn8 l5 c_25
          refine u_aload_n C dX3_serveIntakes_28 rfl ?_
          refine u_aload_n C dX3_serveIntakes_29 rfl ?_
          refine u_getR (k2 := (B + 3)) C gX3_serveIntakes_30 rfl (mou_is hB) (mou_f2 hB) ?_
          refine u_aload_n C dX3_serveIntakes_33 rfl ?_
          refine u_getI C gX3_serveIntakes_34 rfl (int_is (aInt_p (i := i) (mou_p3 hB) (by omega))) ?_
          rw [hej]
          refine u_aaldN (k2 := (B + 100 + j)) (i := j) C dX3_serveIntakes_37 (aSec_is (mou_p2 hB)) (by decide) (aSec_n (mou_p2 hB)) (by omega) (by decide) (aSec_f (i := j) (mou_p2 hB) (by omega)) ?_
          refine u_getR (k2 := (B + 100 + j + 20)) C gX3_serveIntakes_38 rfl (sec_is (aSec_p (i := j) (mou_p2 hB) (by omega))) (sec_f0 (aSec_p (i := j) (mou_p2 hB) (by omega))) ?_
          refine u_aload_n C dX3_serveIntakes_41 rfl ?_
          refine u_getR (k2 := (B + 5)) C gX3_serveIntakes_42 rfl (mou_is hB) (mou_f4 hB) ?_
          refine u_callvV2 C ev_X1_take dX3_serveIntakes_45 ml_RX3_211 (int_is (aInt_p (i := i) (mou_p3 hB) (by omega))) rfl (by decide) (c_X1_take l D G _ _ _ _ (aInt_p (i := i) (mou_p3 hB) (by omega)) (sec_p0 (aSec_p (i := j) (mou_p2 hB) (by omega))) (mou_p4 hB) ) (by decide) (Nat.le_of_ble_eq_true rfl) (fun M_45 q_45 => ?_)
          obtain rfl := q_45
          refine u_aload_n C dX3_serveIntakes_48 rfl ?_
          refine u_callvV0 C ev_X1_supply dX3_serveIntakes_49 ml_RX3_215 (int_is (aInt_p (i := i) (mou_p3 hB) (by omega))) rfl (by decide) (c_X1_supply l D G _ _ (aInt_p (i := i) (mou_p3 hB) (by omega)) ) (by decide) (Nat.le_of_ble_eq_true rfl) (fun M_49 q_49 => ?_)
          obtain rfl := q_49
          refine u_iinc C dX3_serveIntakes_52 (by decide) rfl ?_
          refine u_goto (tgt := 2) C dX3_serveIntakes_55 (by decide) ?_
          exact u_loc [0, 1] rfl (u_eq (ih (i + 1) _ (by omega) (by omega) (nI_1 i)) rfl rfl (by simp only [m_srv, m_tk]; first | rw [if_pos c_25] | (rw [if_neg c_25, hej, cN_nI (by omega)])))
  refine u_iconst (v := 0) C dX3_serveIntakes_0 (by decide) ?_
  refine u_istore_n C dX3_serveIntakes_1 (by decide) ?_
  exact u_loc [0, 1] rfl (loop1 (ic + 1) 0 _ (by omega) (by omega) nI_0.symm)
set_option maxHeartbeats 4000000 in
set_option maxRecDepth 100000 in
theorem c_X3_letHourGoBy (l : Launch) (D : va_G) (G : w_G) (M : w_M) (B : Nat) (hB : L_mou G (B)) (n ic t : Nat) (hn8 : n ≤ 8) (hn : iv M B 5 = nI n) (hi6 : ic ≤ 6) (hic : iv M B 6 = nI ic) (ht : t < 1000) (ht9 : iv M B 9 = nI t) (h1 : cB (iv M (B + 1) 3) 6) (h2 : cB (iv M (B + 1) 4) 20) (h3 : cB (iv M (B + 2) 3) 500) (h4 : cB (iv M (B + 2) 5) 12) : u_Mv l D G yX3_letHourGoBy cX3_letHourGoBy 3 none 4 94 [.ref (gP G B)] M (fun M' => M' = m_hour M B n ic t (s_for M (B + 1) (nI t))) := by
  refine u_bodyv (by decide +kernel) (Nat.le_of_ble_eq_true rfl) rfl (fun p e s m args below meth c A H0 Q C ret => ?_)
  have loop5 : ∀ (d i : Nat) (x2 : Int32), i ≤ n → n - i < d → x2 = nI i → u_S p l e (u_rm 4 94) s m args below meth c 3 D A H0 0 0 Q 190 [(0, .ref (gP G B)), (1, .int (s_for M (B + 1) (nI t))), (2, .int x2)] [] G (m_eh (m_srv (m_mx (m_lv (m_ab (m_look (m_r0 M B n) (B + 2) (B + 1) t) B n (s_for M (B + 1) (nI t))) B (n - 1)) B n) B ic) B t i) := by
    intro d
    induction d with
    | zero => intro i x2 hj hd; omega
    | succ d ih =>
      intro i x2 hj hd h1
      subst h1
      have l5 : iv (m_eh (m_srv (m_mx (m_lv (m_ab (m_look (m_r0 M B n) (B + 2) (B + 1) t) B n (s_for M (B + 1) (nI t))) B (n - 1)) B n) B ic) B t i) B 5 = nI n := by rw [lw6 i B (by omega)]; exact hn
      have l9 : iv (m_eh (m_srv (m_mx (m_lv (m_ab (m_look (m_r0 M B n) (B + 2) (B + 1) t) B n (s_for M (B + 1) (nI t))) B (n - 1)) B n) B ic) B t i) B 9 = nI t := by rw [lw6 i B (by omega)]; exact ht9
      refine u_iload_n C dX3_letHourGoBy_190 rfl ?_
      refine u_aload_n C dX3_letHourGoBy_191 rfl ?_
      refine u_getI C gX3_letHourGoBy_192 rfl (mou_is hB) ?_
      rw [l5]
      refine u_icmp_ge (tgt := 217) C dX3_letHourGoBy_195 (by decide) (fun c_195 => ?_) (fun c_195 => ?_)
      · obtain rfl : n = i := by have := u_gei c_195 (by omega) (by omega); omega
        refine u_aload_n C dX3_letHourGoBy_217 rfl ?_
        refine u_getR (k2 := (B + 1)) C gX3_letHourGoBy_218 rfl (mou_is hB) (mou_f0 hB) ?_
        refine u_aload_n C dX3_letHourGoBy_221 rfl ?_
        refine u_getI C gX3_letHourGoBy_222 rfl (mou_is hB) ?_
        rw [l9]
        refine u_iload_n C dX3_letHourGoBy_225 rfl ?_
        refine u_callvV2 C ev_X5_keep dX3_letHourGoBy_226 ml_RX3_167 (sea_is (mou_p0 hB)) rfl (by decide) (c_X5_keep l D G _ _ _ _ (mou_p0 hB) ht) (by decide) (Nat.le_of_ble_eq_true rfl) (fun M_226 q_226 => ?_)
        obtain rfl := q_226
        exact ret _ _  _ dX3_letHourGoBy_229  (rfl)
      · have hi : i < n := u_lt c_195 (by omega)
        refine u_aload_n C dX3_letHourGoBy_198 rfl ?_
        refine u_getR (k2 := (B + 3)) C gX3_letHourGoBy_199 rfl (mou_is hB) (mou_f2 hB) ?_
        refine u_iload_n C dX3_letHourGoBy_202 rfl ?_
        refine u_aaldN (k2 := (B + 100 + i)) (i := i) C dX3_letHourGoBy_203 (aSec_is (mou_p2 hB)) (by decide) (aSec_n (mou_p2 hB)) (by omega) (by decide) (aSec_f (i := i) (mou_p2 hB) (by omega)) ?_
        refine u_aload_n C dX3_letHourGoBy_204 rfl ?_
        refine u_getI C gX3_letHourGoBy_205 rfl (mou_is hB) ?_
        rw [l9]
        refine u_callvV1 C ev_X6_endHour dX3_letHourGoBy_208 ml_RX3_163 (sec_is (aSec_p (i := i) (mou_p2 hB) (by omega))) rfl (by decide) (c_X6_endHour l D G _ _ _ (aSec_p (i := i) (mou_p2 hB) (by omega)) ht) (by decide) (Nat.le_of_ble_eq_true rfl) (fun M_208 q_208 => ?_)
        obtain rfl := q_208
        refine u_iinc C dX3_letHourGoBy_211 (by decide) rfl ?_
        refine u_goto (tgt := 190) C dX3_letHourGoBy_214 (by decide) ?_
        exact u_loc [0, 1, 2] rfl (ih (i + 1) _ (by omega) (by omega) (nI_1 i))
  have loop4 : ∀ (d i : Nat) (x2 : Int32), i ≤ n → n - i < d → x2 = nI i → u_S p l e (u_rm 4 94) s m args below meth c 3 D A H0 0 0 Q 152 [(0, .ref (gP G B)), (1, .int (s_for M (B + 1) (nI t))), (2, .int x2)] [] G (m_mx (m_lv (m_ab (m_look (m_r0 M B n) (B + 2) (B + 1) t) B n (s_for M (B + 1) (nI t))) B (n - 1)) B i) := by
    intro d
    induction d with
    | zero => intro i x2 hj hd; omega
    | succ d ih =>
      intro i x2 hj hd h1
      subst h1
      have l5 : iv (m_mx (m_lv (m_ab (m_look (m_r0 M B n) (B + 2) (B + 1) t) B n (s_for M (B + 1) (nI t))) B (n - 1)) B i) B 5 = nI n := by rw [lw4 i B (by omega)]; exact hn
      refine u_iload_n C dX3_letHourGoBy_152 rfl ?_
      refine u_aload_n C dX3_letHourGoBy_153 rfl ?_
      refine u_getI C gX3_letHourGoBy_154 rfl (mou_is hB) ?_
      rw [l5]
      refine u_icmp_ge (tgt := 184) C dX3_letHourGoBy_157 (by decide) (fun c_157 => ?_) (fun c_157 => ?_)
      · obtain rfl : n = i := by have := u_gei c_157 (by omega) (by omega); omega
        refine u_aload_n C dX3_letHourGoBy_184 rfl ?_
        refine u_callvV0 C ev_X3_serveIntakes dX3_letHourGoBy_185 ml_RX3_160 (mou_is hB) rfl (by decide) (c_X3_serveIntakes l D G _ _ hB n ic hn8 (by rw [lw4 n B (by omega)]; exact hn) hi6 (by rw [lw4 n B (by omega)]; exact hic)) (by decide) (Nat.le_of_ble_eq_true rfl) (fun M_185 q_185 => ?_)
        obtain rfl := q_185
        refine u_iconst (v := 0) C dX3_letHourGoBy_188 (by decide) ?_
        refine u_istore_n C dX3_letHourGoBy_189 (by decide) ?_
        exact u_loc [0, 1, 2] rfl (loop5 (n + 1) 0 _ (by omega) (by omega) nI_0.symm)
      · have hi : i < n := u_lt c_157 (by omega)
        refine u_aload_n C dX3_letHourGoBy_160 rfl ?_
        refine u_getR (k2 := (B + 3)) C gX3_letHourGoBy_161 rfl (mou_is hB) (mou_f2 hB) ?_
        refine u_iload_n C dX3_letHourGoBy_164 rfl ?_
        refine u_aaldN (k2 := (B + 100 + i)) (i := i) C dX3_letHourGoBy_165 (aSec_is (mou_p2 hB)) (by decide) (aSec_n (mou_p2 hB)) (by omega) (by decide) (aSec_f (i := i) (mou_p2 hB) (by omega)) ?_
        refine u_callvV0 C ev_X6_mix dX3_letHourGoBy_166 ml_RX3_154 (sec_is (aSec_p (i := i) (mou_p2 hB) (by omega))) rfl (by decide) (c_X6_mix l D G _ _ (aSec_p (i := i) (mou_p2 hB) (by omega)) ) (by decide) (Nat.le_of_ble_eq_true rfl) (fun M_166 q_166 => ?_)
        obtain rfl := q_166
        refine u_aload_n C dX3_letHourGoBy_169 rfl ?_
        refine u_getR (k2 := (B + 3)) C gX3_letHourGoBy_170 rfl (mou_is hB) (mou_f2 hB) ?_
        refine u_iload_n C dX3_letHourGoBy_173 rfl ?_
        refine u_aaldN (k2 := (B + 100 + i)) (i := i) C dX3_letHourGoBy_174 (aSec_is (mou_p2 hB)) (by decide) (aSec_n (mou_p2 hB)) (by omega) (by decide) (aSec_f (i := i) (mou_p2 hB) (by omega)) ?_
        refine u_callvV0 C ev_X6_settleOrLift dX3_letHourGoBy_175 ml_RX3_157 (sec_is (aSec_p (i := i) (mou_p2 hB) (by omega))) rfl (by decide) (c_X6_settleOrLift l D G _ _ (aSec_p (i := i) (mou_p2 hB) (by omega)) ) (by decide) (Nat.le_of_ble_eq_true rfl) (fun M_175 q_175 => ?_)
        obtain rfl := q_175
        refine u_iinc C dX3_letHourGoBy_178 (by decide) rfl ?_
        refine u_goto (tgt := 152) C dX3_letHourGoBy_181 (by decide) ?_
        exact u_loc [0, 1, 2] rfl (ih (i + 1) _ (by omega) (by omega) (nI_1 i))
  have loop3 : ∀ (d i : Nat) (x2 : Int32), i ≤ (n - 1) → (n - 1) - i < d → x2 = nI i → u_S p l e (u_rm 4 94) s m args below meth c 3 D A H0 0 0 Q 98 [(0, .ref (gP G B)), (1, .int (s_for M (B + 1) (nI t))), (2, .int x2)] [] G (m_lv (m_ab (m_look (m_r0 M B n) (B + 2) (B + 1) t) B n (s_for M (B + 1) (nI t))) B i) := by
    intro d
    induction d with
    | zero => intro i x2 hj hd; omega
    | succ d ih =>
      intro i x2 hj hd h1
      subst h1
      have l5 : iv (m_lv (m_ab (m_look (m_r0 M B n) (B + 2) (B + 1) t) B n (s_for M (B + 1) (nI t))) B i) B 5 = nI n := by rw [lw3 i B (by omega)]; exact hn
      refine u_iload_n C dX3_letHourGoBy_98 rfl ?_
      refine u_iconst (v := 1) C dX3_letHourGoBy_99 (by decide) ?_
      refine u_iadd C dX3_letHourGoBy_100 ?_
      refine u_aload_n C dX3_letHourGoBy_101 rfl ?_
      refine u_getI C gX3_letHourGoBy_102 rfl (mou_is hB) ?_
      rw [l5, show nI i + 1 = nI (i + 1) from nI_1 i]
      refine u_icmp_ge (tgt := 150) C dX3_letHourGoBy_105 (by decide) (fun c_105 => ?_) (fun c_105 => ?_)
      · obtain rfl : i = n - 1 := by have := u_gei c_105 (by omega) (by omega); omega
        refine u_iconst (v := 0) C dX3_letHourGoBy_150 (by decide) ?_
        refine u_istore_n C dX3_letHourGoBy_151 (by decide) ?_
        exact u_loc [0, 1, 2] rfl (loop4 (n + 1) 0 _ (by omega) (by omega) nI_0.symm)
      · have hi : i + 1 < n := u_lt c_105 (by omega)
        refine u_aload_n C dX3_letHourGoBy_108 rfl ?_
        refine u_aload_n C dX3_letHourGoBy_109 rfl ?_
        refine u_getR (k2 := (B + 3)) C gX3_letHourGoBy_110 rfl (mou_is hB) (mou_f2 hB) ?_
        refine u_iload_n C dX3_letHourGoBy_113 rfl ?_
        refine u_aaldN (k2 := (B + 100 + i)) (i := i) C dX3_letHourGoBy_114 (aSec_is (mou_p2 hB)) (by decide) (aSec_n (mou_p2 hB)) (by omega) (by decide) (aSec_f (i := i) (mou_p2 hB) (by omega)) ?_
        refine u_aload_n C dX3_letHourGoBy_115 rfl ?_
        refine u_getR (k2 := (B + 3)) C gX3_letHourGoBy_116 rfl (mou_is hB) (mou_f2 hB) ?_
        refine u_iload_n C dX3_letHourGoBy_119 rfl ?_
        refine u_iconst (v := 1) C dX3_letHourGoBy_120 (by decide) ?_
        refine u_iadd C dX3_letHourGoBy_121 ?_
        rw [show nI i + 1 = nI (i + 1) from nI_1 i]
        refine u_aaldN (k2 := (B + 100 + (i + 1))) (i := i + 1) C dX3_letHourGoBy_122 (aSec_is (mou_p2 hB)) (by decide) (aSec_n (mou_p2 hB)) (by omega) (by decide) (aSec_f (i := i + 1) (mou_p2 hB) (by omega)) ?_
        refine u_callvV2 C ev_X3_flowByLevels dX3_letHourGoBy_123 ml_RX3_147 (mou_is hB) rfl (by decide) (c_X3_flowByLevels l D G _ _ _ _ hB (aSec_p (i := i) (mou_p2 hB) (by omega)) (aSec_p (i := i + 1) (mou_p2 hB) (by omega)) ) (by decide) (Nat.le_of_ble_eq_true rfl) (fun M_123 q_123 => ?_)
        obtain rfl := q_123
        refine u_aload_n C dX3_letHourGoBy_126 rfl ?_
        refine u_aload_n C dX3_letHourGoBy_127 rfl ?_
        refine u_getR (k2 := (B + 3)) C gX3_letHourGoBy_128 rfl (mou_is hB) (mou_f2 hB) ?_
        refine u_iload_n C dX3_letHourGoBy_131 rfl ?_
        refine u_aaldN (k2 := (B + 100 + i)) (i := i) C dX3_letHourGoBy_132 (aSec_is (mou_p2 hB)) (by decide) (aSec_n (mou_p2 hB)) (by omega) (by decide) (aSec_f (i := i) (mou_p2 hB) (by omega)) ?_
        refine u_aload_n C dX3_letHourGoBy_133 rfl ?_
        refine u_getR (k2 := (B + 3)) C gX3_letHourGoBy_134 rfl (mou_is hB) (mou_f2 hB) ?_
        refine u_iload_n C dX3_letHourGoBy_137 rfl ?_
        refine u_iconst (v := 1) C dX3_letHourGoBy_138 (by decide) ?_
        refine u_iadd C dX3_letHourGoBy_139 ?_
        rw [show nI i + 1 = nI (i + 1) from nI_1 i]
        refine u_aaldN (k2 := (B + 100 + (i + 1))) (i := i + 1) C dX3_letHourGoBy_140 (aSec_is (mou_p2 hB)) (by decide) (aSec_n (mou_p2 hB)) (by omega) (by decide) (aSec_f (i := i + 1) (mou_p2 hB) (by omega)) ?_
        refine u_callvV2 C ev_X3_creep dX3_letHourGoBy_141 ml_RX3_151 (mou_is hB) rfl (by decide) (c_X3_creep l D G _ _ _ _ hB (aSec_p (i := i) (mou_p2 hB) (by omega)) (aSec_p (i := i + 1) (mou_p2 hB) (by omega)) ) (by decide) (Nat.le_of_ble_eq_true rfl) (fun M_141 q_141 => ?_)
        obtain rfl := q_141
        refine u_iinc C dX3_letHourGoBy_144 (by decide) rfl ?_
        refine u_goto (tgt := 98) C dX3_letHourGoBy_147 (by decide) ?_
        exact u_loc [0, 1, 2] rfl (ih (i + 1) _ (by omega) (by omega) (nI_1 i))
  have loop1 : ∀ (d i : Nat) (x2 : Int32), i ≤ n → n - i < d → x2 = nI i → u_S p l e (u_rm 4 94) s m args below meth c 3 D A H0 0 0 Q 14 [(0, .ref (gP G B)), (1, .int (s_for M (B + 1) (nI t))), (2, .int x2)] [] G (m_r0 M B i) := by
    intro d
    induction d with
    | zero => intro i x2 hj hd; omega
    | succ d ih =>
      intro i x2 hj hd h1
      subst h1
      have l5 : iv (m_r0 M B i) B 5 = nI n := by rw [lo_r0 i B (by omega)]; exact hn
      refine u_iload_n C dX3_letHourGoBy_14 rfl ?_
      refine u_aload_n C dX3_letHourGoBy_15 rfl ?_
      refine u_getI C gX3_letHourGoBy_16 rfl (mou_is hB) ?_
      rw [l5]
      refine u_icmp_ge (tgt := 38) C dX3_letHourGoBy_19 (by decide) (fun c_19 => ?_) (fun c_19 => ?_)
      · obtain rfl : n = i := by have := u_gei c_19 (by omega) (by omega); omega
        refine u_aload_n C dX3_letHourGoBy_38 rfl ?_
        refine u_getR (k2 := (B + 2)) C gX3_letHourGoBy_39 rfl (mou_is hB) (mou_f1 hB) ?_
        refine u_aload_n C dX3_letHourGoBy_42 rfl ?_
        refine u_getR (k2 := (B + 1)) C gX3_letHourGoBy_43 rfl (mou_is hB) (mou_f0 hB) ?_
        refine u_aload_n C dX3_letHourGoBy_46 rfl ?_
        refine u_getI C gX3_letHourGoBy_47 rfl (mou_is hB) ?_
        rw [show iv (m_r0 M B n) B 9 = nI t from by rw [lo_r0 n B (by omega)]; exact ht9]
        refine u_callvV2 C ev_X0_look dX3_letHourGoBy_50 ml_RX3_131 (bar_is (mou_p1 hB)) rfl (by decide) (c_X0_look l D G _ _ _ (mou_p1 hB) (mou_p0 hB) (by rw [lo_r0 n (B + 1) (by omega)]; exact h1) (by rw [lo_r0 n (B + 1) (by omega)]; exact h2) (by rw [lo_r0 n (B + 1 + 1) (by omega)]; exact h4) (by rw [lo_r0 n (B + 1 + 1) (by omega)]; exact h3) ht) (by decide) (Nat.le_of_ble_eq_true rfl) (fun M_50 q_50 => ?_)
        obtain rfl := q_50
        refine u_aload_n C dX3_letHourGoBy_53 rfl ?_
        refine u_getI C gX3_letHourGoBy_54 rfl (mou_is hB) ?_
        have l5b : iv (m_look (m_r0 M B n) (B + 2) (B + 1) t) B 5 = nI n := by rw [lw1 B (by omega)]; exact hn
        rw [l5b]
        refine u_if_le (tgt := 96) C dX3_letHourGoBy_57 (by decide) (fun c_57 => ?_) (fun c_57 => ?_)
        · refine u_iconst (v := 0) C dX3_letHourGoBy_96 (by decide) ?_
          refine u_istore_n C dX3_letHourGoBy_97 (by decide) ?_
          have hn0 : n = 0 := by rcases n with _ | n; rfl; exact absurd c_57 (nI_nle (by omega) (by omega))
          exact u_loc [0, 1, 2] rfl (u_eq (loop3 ((n - 1) + 1) 0 _ (by omega) (by omega) nI_0.symm) rfl rfl (by simp [m_lv, m_ab, hn0]))
        · have hpos : 0 < n := by rcases n with _ | n; exact absurd (by decide) c_57; omega
          refine u_aload_n C dX3_letHourGoBy_60 rfl ?_
          refine u_getR (k2 := (B + 2)) C gX3_letHourGoBy_61 rfl (mou_is hB) (mou_f1 hB) ?_
          refine u_getI C gX3_letHourGoBy_64 rfl (bar_is (mou_p1 hB)) ?_
          refine u_if_ne (tgt := 81) C dX3_letHourGoBy_67 (by decide) (fun c_67 => ?_) (fun c_67 => ?_)
          · have l5c : iv (m_sea (m_look (m_r0 M B n) (B + 2) (B + 1) t) B (B + 100 + 0) (s_for M (B + 1) (nI t))) B 5 = nI n := by rw [lo_sea (b := B + 100) (by omega) B (by omega)]; exact l5b
            refine u_aload_n C dX3_letHourGoBy_81 rfl ?_
            refine u_aload_n C dX3_letHourGoBy_82 rfl ?_
            refine u_getR (k2 := (B + 3)) C gX3_letHourGoBy_83 rfl (mou_is hB) (mou_f2 hB) ?_
            refine u_aload_n C dX3_letHourGoBy_86 rfl ?_
            refine u_getI C gX3_letHourGoBy_87 rfl (mou_is hB) ?_
            first | rw [l5b] | rw [l5c]
            refine u_iconst (v := 1) C dX3_letHourGoBy_90 (by decide) ?_
            refine u_isub C dX3_letHourGoBy_91 ?_
            rw [u_nsub1 hpos]
            refine u_aaldN (k2 := (B + 100 + (n - 1))) (i := n - 1) C dX3_letHourGoBy_92 (aSec_is (mou_p2 hB)) (by decide) (aSec_n (mou_p2 hB)) (by omega) (by decide) (aSec_f (i := n - 1) (mou_p2 hB) (by omega)) ?_
            refine u_callvV1 C ev_X3_meetRiver dX3_letHourGoBy_93 ml_RX3_143 (mou_is hB) rfl (by decide) (c_X3_meetRiver l D G _ _ _ hB (aSec_p (i := n - 1) (mou_p2 hB) (by omega)) ) (by decide) (Nat.le_of_ble_eq_true rfl) (fun M_93 q_93 => ?_)
            obtain rfl := q_93
            refine u_iconst (v := 0) C dX3_letHourGoBy_96 (by decide) ?_
            refine u_istore_n C dX3_letHourGoBy_97 (by decide) ?_
            exact u_loc [0, 1, 2] rfl (u_eq (loop3 ((n - 1) + 1) 0 _ (by omega) (by omega) nI_0.symm) rfl rfl (by simp only [m_lv, m_ab]; rw [if_neg (by omega)]; first | rw [if_neg c_67] | rw [if_pos c_67]))
          · refine u_aload_n C dX3_letHourGoBy_70 rfl ?_
            refine u_aload_n C dX3_letHourGoBy_71 rfl ?_
            refine u_getR (k2 := (B + 3)) C gX3_letHourGoBy_72 rfl (mou_is hB) (mou_f2 hB) ?_
            refine u_iconst (v := 0) C dX3_letHourGoBy_75 (by decide) ?_
            refine u_aaldN (k2 := (B + 100)) (i := 0) C dX3_letHourGoBy_76 (aSec_is (mou_p2 hB)) (by decide) (aSec_n (mou_p2 hB)) (by omega) (by decide) (aSec_f (i := 0) (mou_p2 hB) (by omega)) ?_
            refine u_iload_n C dX3_letHourGoBy_77 rfl ?_
            refine u_callvV2 C ev_X3_meetSea dX3_letHourGoBy_78 ml_RX3_139 (mou_is hB) rfl (by decide) (c_X3_meetSea l D G _ _ _ _ hB (aSec_p (i := 0) (mou_p2 hB) (by omega)) ) (by decide) (Nat.le_of_ble_eq_true rfl) (fun M_78 q_78 => ?_)
            obtain rfl := q_78
            have l5c : iv (m_sea (m_look (m_r0 M B n) (B + 2) (B + 1) t) B (B + 100 + 0) (s_for M (B + 1) (nI t))) B 5 = nI n := by rw [lo_sea (b := B + 100) (by omega) B (by omega)]; exact l5b
            refine u_aload_n C dX3_letHourGoBy_81 rfl ?_
            refine u_aload_n C dX3_letHourGoBy_82 rfl ?_
            refine u_getR (k2 := (B + 3)) C gX3_letHourGoBy_83 rfl (mou_is hB) (mou_f2 hB) ?_
            refine u_aload_n C dX3_letHourGoBy_86 rfl ?_
            refine u_getI C gX3_letHourGoBy_87 rfl (mou_is hB) ?_
            first | rw [l5b] | rw [l5c]
            refine u_iconst (v := 1) C dX3_letHourGoBy_90 (by decide) ?_
            refine u_isub C dX3_letHourGoBy_91 ?_
            rw [u_nsub1 hpos]
            refine u_aaldN (k2 := (B + 100 + (n - 1))) (i := n - 1) C dX3_letHourGoBy_92 (aSec_is (mou_p2 hB)) (by decide) (aSec_n (mou_p2 hB)) (by omega) (by decide) (aSec_f (i := n - 1) (mou_p2 hB) (by omega)) ?_
            refine u_callvV1 C ev_X3_meetRiver dX3_letHourGoBy_93 ml_RX3_143 (mou_is hB) rfl (by decide) (c_X3_meetRiver l D G _ _ _ hB (aSec_p (i := n - 1) (mou_p2 hB) (by omega)) ) (by decide) (Nat.le_of_ble_eq_true rfl) (fun M_93 q_93 => ?_)
            obtain rfl := q_93
            refine u_iconst (v := 0) C dX3_letHourGoBy_96 (by decide) ?_
            refine u_istore_n C dX3_letHourGoBy_97 (by decide) ?_
            exact u_loc [0, 1, 2] rfl (u_eq (loop3 ((n - 1) + 1) 0 _ (by omega) (by omega) nI_0.symm) rfl rfl (by simp only [m_lv, m_ab]; rw [if_neg (by omega)]; first | rw [if_neg c_67] | rw [if_pos c_67]))
      · have hi : i < n := u_lt c_19 (by omega)
        refine u_aload_n C dX3_letHourGoBy_22 rfl ?_
        refine u_getR (k2 := (B + 3)) C gX3_letHourGoBy_23 rfl (mou_is hB) (mou_f2 hB) ?_
        refine u_iload_n C dX3_letHourGoBy_26 rfl ?_
        refine u_aaldN (k2 := (B + 100 + i)) (i := i) C dX3_letHourGoBy_27 (aSec_is (mou_p2 hB)) (by decide) (aSec_n (mou_p2 hB)) (by omega) (by decide) (aSec_f (i := i) (mou_p2 hB) (by omega)) ?_
        refine u_iconst (v := 0) C dX3_letHourGoBy_28 (by decide) ?_
        refine u_putI C pX3_letHourGoBy_29 rfl (sec_is (aSec_p (i := i) (mou_p2 hB) (by omega))) ?_
        refine u_iinc C dX3_letHourGoBy_32 (by decide) rfl ?_
        refine u_goto (tgt := 14) C dX3_letHourGoBy_35 (by decide) ?_
        exact u_loc [0, 1, 2] rfl (ih (i + 1) _ (by omega) (by omega) (nI_1 i))
  refine u_aload_n C dX3_letHourGoBy_0 rfl ?_
  refine u_getR (k2 := (B + 1)) C gX3_letHourGoBy_1 rfl (mou_is hB) (mou_f0 hB) ?_
  refine u_aload_n C dX3_letHourGoBy_4 rfl ?_
  refine u_getI C gX3_letHourGoBy_5 rfl (mou_is hB) ?_
  rw [ht9]
  refine u_calliV1 C ev_X5_foretold dX3_letHourGoBy_8 ml_RX3_115 (sea_is (mou_p0 hB)) rfl (by decide) (c_X5_foretold l D G _ _ _ (mou_p0 hB) h1 h2) (by decide) (Nat.le_of_ble_eq_true rfl) (fun r_8 M_8 q_8 => ?_)
  obtain ⟨rfl, e_8⟩ := q_8
  subst M_8
  refine u_istore_n C dX3_letHourGoBy_11 (by decide) ?_
  refine u_iconst (v := 0) C dX3_letHourGoBy_12 (by decide) ?_
  refine u_istore_n C dX3_letHourGoBy_13 (by decide) ?_
  exact u_loc [0, 1, 2] rfl (loop1 (n + 1) 0 _ (by omega) (by omega) nI_0.symm)
