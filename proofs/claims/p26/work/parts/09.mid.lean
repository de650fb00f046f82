theorem u_is_ne {G : w_G} {a b i j : Nat} (h1 : u_is G a i) (h2 : u_is G b j) (hij : i ≠ j) : a ≠ b := fun e => hij (by rw [← h1.2, ← h2.2, e])
def s_t (M : w_M) (k : Nat) (h : Int32) : Nat → Int32
  | 0 => iv M k 5
  | i + 1 => s_t M k h i + f_hgt (iv M (k + 19 + i) 0) (iv M (k + 19 + i) 1) (iv M (k + 19 + i) 2) (iv M (k + 19 + i) 3) h
def s_s (M : w_M) (k : Nat) (h : Int32) (n : Nat) : Nat → Int32
  | 0 => s_t M k h n
  | j + 1 => if h < iv M (k + 29 + j) 0 then s_s M k h n j else if iv M (k + 29 + j) 1 < h then s_s M k h n j else s_s M k h n j + iv M (k + 29 + j) 2
def s_for (M : w_M) (k : Nat) (h : Int32) : Int32 := s_s M k h (cN (iv M k 3)) (cN (iv M k 4))
def s_abv (M : w_M) (k : Nat) (mark : Int32) : Nat → Nat → Bool
  | 0, _ => false
  | c + 1, j => if mark < s_for M k (nI j) then true else s_abv M k mark c (j + 1)
def m_addT (M : w_M) (k : Nat) (p r g f : Int32) : w_M := if cN (iv M k 3) < 6 then wi (wi (wi (wi (wi M (k + 19 + cN (iv M k 3)) 0 p) (k + 19 + cN (iv M k 3)) 1 r) (k + 19 + cN (iv M k 3)) 2 g) (k + 19 + cN (iv M k 3)) 3 f) k 3 (iv M k 3 + 1) else M
def m_addS (M : w_M) (k : Nat) (a b x : Int32) : w_M := if cN (iv M k 4) < 20 then wi (wi (wi (wi M (k + 29 + cN (iv M k 4)) 0 a) (k + 29 + cN (iv M k 4)) 1 b) (k + 29 + cN (iv M k 4)) 2 x) k 4 (iv M k 4 + 1) else M
theorem u_xor24 : ∀ t, t < 1024 → 0 ≤ nI t ^^^ 24 := by decide +kernel
def s_fr (M : w_M) (k : Nat) (grain : Int32) : Nat → Nat → Bool
  | 0, _ => false
  | c + 1, j => if iv M (k + 40) (j % 24) < grain then true else s_fr M k grain c (j + 1)
theorem u_max0 {a b : Nat} (ha : a < 2 ^ 30) (hb : b < 2 ^ 30) : (if (0 : Int32) < nI a - nI b then nI a - nI b else 0) = nI (a - b) := by
  rcases Nat.lt_or_ge b a with q | q
  · rw [pk_sub (Nat.le_of_lt q), if_pos (by rw [← nI_0]; exact nI_lt (by omega) (by omega))]
  · rw [if_neg, Nat.sub_eq_zero_of_le q, nI_0]
    rw [Int32.lt_iff_toInt_lt, pk_sub_toInt ha hb]
    show ¬ (0 : Int) < _
    omega
def s_ans (M : w_M) (k : Nat) (w : Nat) : Int32 := match w with
  | 0 => iv M (k + 20) 0 | 1 => iv M (k + 20) 1 | 2 => iv M (k + 30) 0 | 3 => iv M (k + 30) 1 | 4 => iv M k 5 | 5 => iv M k 4 | 6 => s_lev M k
  | 7 => f_sal (iv M (k + 20) 0) (iv M (k + 20) 1) | 8 => f_sal (iv M (k + 30) 0) (iv M (k + 30) 1) | _ => iv M k 6
def m_keep (M : w_M) (k : Nat) (h kd a b c d e : Int32) : w_M := wi (wi (wi (wi (wi (wi (wi (wi M (k + 1) (7 * cN (iv M k 1)) h) (k + 1) (7 * cN (iv M k 1) + 1) kd) (k + 1) (7 * cN (iv M k 1) + 2) a) (k + 1) (7 * cN (iv M k 1) + 3) b) (k + 1) (7 * cN (iv M k 1) + 4) c) (k + 1) (7 * cN (iv M k 1) + 5) d) (k + 1) (7 * cN (iv M k 1) + 6) e) k 1 (iv M k 1 + 1)
def t_flow (M : w_M) (k u : Nat) : Int32 := f_min (f_min (iv M k 1) (iv M u 0)) (iv M k 3 - iv M k 5)
def t_stop (M : w_M) (k u : Nat) : Int32 := if iv M u 0 ≤ 0 then 1 else if f_sal (iv M u 0) (iv M u 1) ≤ iv M k 2 then 0 else 1
def m_take (M : w_M) (k u j : Nat) : w_M := if t_stop M k u = 0 then wj (wj (wi (wi (m_out (wi M k 9 0) u (t_flow M k u)) k 5 (iv M k 5 + t_flow M k u)) k 6 (iv M k 6 + t_flow M k u)) j 3 (jv M j 3 + (t_flow M k u).toInt64)) j 6 (jv M j 6 + (f_goes (t_flow M k u) (iv M u 1) (iv M u 0)).toInt64) else wi (wi M k 9 1) k 8 (iv M k 8 + 1)
def m_sup (M : w_M) (k : Nat) : w_M := wi (wi M k 5 (iv M k 5 - f_min (iv M k 4) (iv M k 5))) k 7 (iv M k 7 + (iv M k 4 - f_min (iv M k 4) (iv M k 5)))
def i_ans (M : w_M) (k : Nat) (w : Nat) : Int32 := match w with
  | 0 => iv M k 5 | 1 => iv M k 6 | 2 => iv M k 7 | 3 => if iv M k 9 = 0 then 0 else 1 | _ => iv M k 8
def b_ans (M : w_M) (k i : Nat) (w : Nat) : Int32 := match w with
  | 0 => iv M (k + 7) i | 1 => iv M (k + 8) i | _ => if iv M (k + 9) i = 0 then 0 else 1
def m_ibeg (M : w_M) (k : Nat) (a b c d e : Int32) : w_M := wi (wi (wi (wi (wi (wi (wi (wi (wi (wi M k 0 a) k 1 b) k 2 c) k 3 d) k 4 e) k 5 0) k 6 0) k 7 0) k 8 0) k 9 0
def b_clo (M : w_M) (k s0 t : Nat) : Bool := if iv M k 4 = -1 then false else s_abv M s0 (iv M k 4) (cN (iv M k 5) + 1) t
def m_lk2 (M : w_M) (k t : Nat) : w_M := wi (wi (wi M (k + 7) (cN (iv M k 3)) (nI t)) (k + 9) (cN (iv M k 3)) 0) k 3 (iv M k 3 + 1)
def m_lk3 (M : w_M) (k s0 t : Nat) : w_M := if cN (iv M k 3) = 0 then M else wi (wi M (k + 8) (cN (iv M k 3) - 1) (nI t)) (k + 9) (cN (iv M k 3) - 1) (if iv M (k + 9) (cN (iv M k 3) - 1) = 0 then (if iv M k 4 < s_for (wi M (k + 8) (cN (iv M k 3) - 1) (nI t)) s0 (nI t) then 1 else 0) else 1)
def m_look (M : w_M) (k s0 t : Nat) : w_M := if b_clo M k s0 t = true then m_lk3 (if iv M k 6 = 0 ∧ cN (iv M k 3) < 500 then m_lk2 (wi M k 6 1) k t else wi M k 6 1) k s0 t else wi M k 6 0
theorem u_i0 (n : Nat) : nI n + 0 = nI n := Int32.add_zero _
theorem u_i1 (n : Nat) : nI n + 1 = nI (n + 1) := nI_1 n
theorem u_i2 (n : Nat) : nI n + 2 = nI (n + 2) := nI_add n 2
theorem u_i3 (n : Nat) : nI n + 3 = nI (n + 3) := nI_add n 3
theorem u_i4 (n : Nat) : nI n + 4 = nI (n + 4) := nI_add n 4
set_option maxHeartbeats 4000000 in
set_option maxRecDepth 100000 in
theorem c_X5_begin (l : Launch) (D : va_G) (G : w_G) (M : w_M) (k : Nat) (hk : L_sea G (k))  : u_Mv l D G yX5_begin cX5_begin 1 none 0 0 [.ref (gP G k)] M (fun M' => M' = wi (wi (wi M k 3 0) k 4 0) k 5 50) := by
  refine u_bodyv (by decide +kernel) (Nat.le_of_ble_eq_true rfl) rfl (fun p e s m args below meth c A H0 Q C ret => ?_)
  refine u_aload_n C dX5_begin_0 rfl ?_
  refine u_iconst (v := 0) C dX5_begin_1 (by decide) ?_
  refine u_putI C pX5_begin_2 rfl (sea_is hk) ?_
  refine u_aload_n C dX5_begin_5 rfl ?_
  refine u_iconst (v := 0) C dX5_begin_6 (by decide) ?_
  refine u_putI C pX5_begin_7 rfl (sea_is hk) ?_
  refine u_aload_n C dX5_begin_10 rfl ?_
  refine u_bipush (v := 50) C dX5_begin_11 (by decide) ?_
  refine u_putI C pX5_begin_13 rfl (sea_is hk) ?_
  exact ret _ _  _ dX5_begin_16  (rfl)
set_option maxHeartbeats 4000000 in
set_option maxRecDepth 100000 in
theorem c_X5_addTurn (l : Launch) (D : va_G) (G : w_G) (M : w_M) (k : Nat) (p : Int32) (r : Int32) (g : Int32) (f : Int32) (hk : L_sea G (k)) (hn : cB (iv M k 3) 6) : u_Mv l D G yX5_addTurn cX5_addTurn 6 none 0 0 [.ref (gP G k), .int p, .int r, .int g, .int f] M (fun M' => M' = m_addT M k p r g f) := by
  obtain ⟨n, hn6, hn⟩ := hn
  have en : cN (iv M k 3) = n := by rw [hn]; exact cN_nI (by omega)
  refine u_bodyv (by decide +kernel) (Nat.le_of_ble_eq_true rfl) rfl (fun p e s m args below meth c A H0 Q C ret => ?_)
  refine u_aload_n C dX5_addTurn_0 rfl ?_
  refine u_getI C gX5_addTurn_1 rfl (sea_is hk) ?_
  refine u_aload_n C dX5_addTurn_4 rfl ?_
  refine u_getR (k2 := (k + 5)) C gX5_addTurn_5 rfl (sea_is hk) (sea_f0 hk) ?_
  refine u_alenR C dX5_addTurn_8 (aTrn_is (sea_p0 hk)) (by decide) ?_
  rw [aTrn_n (sea_p0 hk)]
  rw [hn]
  refine u_icmp_lt (tgt := 13) C dX5_addTurn_9 (by decide) (fun c_9 => ?_) (fun c_9 => ?_)
  · have hi : n < 6 := by rw [Int32.lt_iff_toInt_lt, nI_toInt (by omega)] at c_9; exact Int.ofNat_lt.mp c_9
    refine u_aload_n C dX5_addTurn_13 rfl ?_
    refine u_getR (k2 := (k + 5)) C gX5_addTurn_14 rfl (sea_is hk) (sea_f0 hk) ?_
    refine u_aload_n C dX5_addTurn_17 rfl ?_
    refine u_getI C gX5_addTurn_18 rfl (sea_is hk) ?_
    rw [hn]
    refine u_aaldN (k2 := (k + 19 + n)) (i := n) C dX5_addTurn_21 (aTrn_is (sea_p0 hk)) (by decide) (aTrn_n (sea_p0 hk)) hi (by decide) (aTrn_f (i := n) (sea_p0 hk) hi) ?_
    refine u_astore C dX5_addTurn_22 (by decide) ?_
    refine u_aload C dX5_addTurn_24 rfl ?_
    refine u_iload_n C dX5_addTurn_26 rfl ?_
    refine u_putI C pX5_addTurn_27 rfl (trn_is (aTrn_p (i := n) (sea_p0 hk) hi)) ?_
    refine u_aload C dX5_addTurn_30 rfl ?_
    refine u_iload_n C dX5_addTurn_32 rfl ?_
    refine u_putI C pX5_addTurn_33 rfl (trn_is (aTrn_p (i := n) (sea_p0 hk) hi)) ?_
    refine u_aload C dX5_addTurn_36 rfl ?_
    refine u_iload_n C dX5_addTurn_38 rfl ?_
    refine u_putI C pX5_addTurn_39 rfl (trn_is (aTrn_p (i := n) (sea_p0 hk) hi)) ?_
    refine u_aload C dX5_addTurn_42 rfl ?_
    refine u_iload C dX5_addTurn_44 rfl ?_
    refine u_putI C pX5_addTurn_46 rfl (trn_is (aTrn_p (i := n) (sea_p0 hk) hi)) ?_
    refine u_aload_n C dX5_addTurn_49 rfl ?_
    refine u_dup C dX5_addTurn_50 rfl ?_
    refine u_getI C gX5_addTurn_51 rfl (sea_is hk) ?_
    refine u_iconst (v := 1) C dX5_addTurn_54 (by decide) ?_
    refine u_iadd C dX5_addTurn_55 ?_
    refine u_putI C pX5_addTurn_56 rfl (sea_is hk) ?_
    exact ret _ _  _ dX5_addTurn_59  (by have e9 : ¬ k = k + 19 + n := (by omega); simp [m_addT, en, hi, iv_wi, e9])
  · exact ret _ _  _ dX5_addTurn_12  (by have : ¬ n < 6 := fun q => c_9 (nI_lt q (by decide)); simp [m_addT, en, this])
set_option maxHeartbeats 4000000 in
set_option maxRecDepth 100000 in
theorem c_X5_addSurge (l : Launch) (D : va_G) (G : w_G) (M : w_M) (k : Nat) (a : Int32) (b : Int32) (x : Int32) (hk : L_sea G (k)) (hn : cB (iv M k 4) 20) : u_Mv l D G yX5_addSurge cX5_addSurge 5 none 0 0 [.ref (gP G k), .int a, .int b, .int x] M (fun M' => M' = m_addS M k a b x) := by
  obtain ⟨n, hn6, hn⟩ := hn
  have en : cN (iv M k 4) = n := by rw [hn]; exact cN_nI (by omega)
  refine u_bodyv (by decide +kernel) (Nat.le_of_ble_eq_true rfl) rfl (fun p e s m args below meth c A H0 Q C ret => ?_)
  refine u_aload_n C dX5_addSurge_0 rfl ?_
  refine u_getI C gX5_addSurge_1 rfl (sea_is hk) ?_
  refine u_aload_n C dX5_addSurge_4 rfl ?_
  refine u_getR (k2 := (k + 6)) C gX5_addSurge_5 rfl (sea_is hk) (sea_f1 hk) ?_
  refine u_alenR C dX5_addSurge_8 (aSrg_is (sea_p1 hk)) (by decide) ?_
  rw [aSrg_n (sea_p1 hk)]
  rw [hn]
  refine u_icmp_lt (tgt := 13) C dX5_addSurge_9 (by decide) (fun c_9 => ?_) (fun c_9 => ?_)
  · have hi : n < 20 := by rw [Int32.lt_iff_toInt_lt, nI_toInt (by omega)] at c_9; exact Int.ofNat_lt.mp c_9
    refine u_aload_n C dX5_addSurge_13 rfl ?_
    refine u_getR (k2 := (k + 6)) C gX5_addSurge_14 rfl (sea_is hk) (sea_f1 hk) ?_
    refine u_aload_n C dX5_addSurge_17 rfl ?_
    refine u_getI C gX5_addSurge_18 rfl (sea_is hk) ?_
    rw [hn]
    refine u_aaldN (k2 := (k + 29 + n)) (i := n) C dX5_addSurge_21 (aSrg_is (sea_p1 hk)) (by decide) (aSrg_n (sea_p1 hk)) hi (by decide) (aSrg_f (i := n) (sea_p1 hk) hi) ?_
    refine u_astore C dX5_addSurge_22 (by decide) ?_
    refine u_aload C dX5_addSurge_24 rfl ?_
    refine u_iload_n C dX5_addSurge_26 rfl ?_
    refine u_putI C pX5_addSurge_27 rfl (srg_is (aSrg_p (i := n) (sea_p1 hk) hi)) ?_
    refine u_aload C dX5_addSurge_30 rfl ?_
    refine u_iload_n C dX5_addSurge_32 rfl ?_
    refine u_putI C pX5_addSurge_33 rfl (srg_is (aSrg_p (i := n) (sea_p1 hk) hi)) ?_
    refine u_aload C dX5_addSurge_36 rfl ?_
    refine u_iload_n C dX5_addSurge_38 rfl ?_
    refine u_putI C pX5_addSurge_39 rfl (srg_is (aSrg_p (i := n) (sea_p1 hk) hi)) ?_
    refine u_aload_n C dX5_addSurge_42 rfl ?_
    refine u_dup C dX5_addSurge_43 rfl ?_
    refine u_getI C gX5_addSurge_44 rfl (sea_is hk) ?_
    refine u_iconst (v := 1) C dX5_addSurge_47 (by decide) ?_
    refine u_iadd C dX5_addSurge_48 ?_
    refine u_putI C pX5_addSurge_49 rfl (sea_is hk) ?_
    exact ret _ _  _ dX5_addSurge_52  (by have e9 : ¬ k = k + 29 + n := (by omega); simp [m_addS, en, hi, iv_wi, e9])
  · exact ret _ _  _ dX5_addSurge_12  (by have : ¬ n < 20 := fun q => c_9 (nI_lt q (by decide)); simp [m_addS, en, this])
set_option maxHeartbeats 4000000 in
set_option maxRecDepth 100000 in
theorem c_X5_foretold (l : Launch) (D : va_G) (G : w_G) (M : w_M) (k : Nat) (h : Int32) (hk : L_sea G (k)) (hn : cB (iv M k 3) 6) (hm : cB (iv M k 4) 20) : u_Mi l D G yX5_foretold cX5_foretold 4 (some .int) 1 22 [.ref (gP G k), .int h] M (fun r M' => r = s_for M k h ∧ M' = M) := by
  obtain ⟨n, hn6, hn⟩ := hn
  obtain ⟨m9, hm20, hm⟩ := hm
  have en : cN (iv M k 3) = n := by rw [hn]; exact cN_nI (by omega)
  have em : cN (iv M k 4) = m9 := by rw [hm]; exact cN_nI (by omega)
  refine u_bodyi (by decide +kernel) (Nat.le_of_ble_eq_true rfl) rfl (fun p e s m args below meth c A H0 Q C ret => ?_)
  have loop2 : ∀ (d j : Nat) (x2 x3 : Int32), j ≤ m9 → m9 - j < d → x3 = nI j → x2 = s_s M k h n j → u_S p l e (u_rm 1 22) s m args below meth c 4 D A H0 0 0 Q 36 [(0, .ref (gP G k)), (1, .int h), (2, .int x2), (3, .int x3)] [] G M := by
    intro d
    induction d with
    | zero => intro j x2 x3 hj hd; omega
    | succ d ih =>
      intro j x2 x3 hj hd h3 h2
      subst h3
      refine u_iload_n C dX5_foretold_36 rfl ?_
      refine u_aload_n C dX5_foretold_37 rfl ?_
      refine u_getI C gX5_foretold_38 rfl (sea_is hk) ?_
      rw [hm]
      refine u_icmp_ge (tgt := 88) C dX5_foretold_41 (by decide) (fun c_41 => ?_) (fun c_41 => ?_)
      · obtain rfl : j = m9 := by have := u_gei c_41 (by omega) (by omega); omega
        refine u_iload_n C dX5_foretold_88 rfl ?_
        exact ret _ _ _ _ dX5_foretold_89  (⟨by rw [h2, s_for, en, em], rfl⟩)
      · have hj2 : j < m9 := u_lt c_41 (by omega)
        refine u_aload_n C dX5_foretold_44 rfl ?_
        refine u_getR (k2 := (k + 6)) C gX5_foretold_45 rfl (sea_is hk) (sea_f1 hk) ?_
        refine u_iload_n C dX5_foretold_48 rfl ?_
        refine u_aaldN (k2 := (k + 29 + j)) (i := j) C dX5_foretold_49 (aSrg_is (sea_p1 hk)) (by decide) (aSrg_n (sea_p1 hk)) (by omega) (by decide) (aSrg_f (i := j) (sea_p1 hk) (by omega)) ?_
        refine u_getI C gX5_foretold_50 rfl (srg_is (aSrg_p (i := j) (sea_p1 hk) (by omega))) ?_
        refine u_iload_n C dX5_foretold_53 rfl ?_
        refine u_icmp_gt (tgt := 82) C dX5_foretold_54 (by decide) (fun c_54 => ?_) (fun c_54 => ?_)
        · refine u_iinc C dX5_foretold_82 (by decide) rfl ?_
          refine u_goto (tgt := 36) C dX5_foretold_85 (by decide) ?_
          exact u_loc [0, 1, 2, 3] rfl (ih (j + 1) _ _ (by omega) (by omega) (nI_1 j) (by rw [h2]; simp [s_s, c_41, c_54]))
        · refine u_iload_n C dX5_foretold_57 rfl ?_
          refine u_aload_n C dX5_foretold_58 rfl ?_
          refine u_getR (k2 := (k + 6)) C gX5_foretold_59 rfl (sea_is hk) (sea_f1 hk) ?_
          refine u_iload_n C dX5_foretold_62 rfl ?_
          refine u_aaldN (k2 := (k + 29 + j)) (i := j) C dX5_foretold_63 (aSrg_is (sea_p1 hk)) (by decide) (aSrg_n (sea_p1 hk)) (by omega) (by decide) (aSrg_f (i := j) (sea_p1 hk) (by omega)) ?_
          refine u_getI C gX5_foretold_64 rfl (srg_is (aSrg_p (i := j) (sea_p1 hk) (by omega))) ?_
          refine u_icmp_gt (tgt := 82) C dX5_foretold_67 (by decide) (fun c_67 => ?_) (fun c_67 => ?_)
          · refine u_iinc C dX5_foretold_82 (by decide) rfl ?_
            refine u_goto (tgt := 36) C dX5_foretold_85 (by decide) ?_
            exact u_loc [0, 1, 2, 3] rfl (ih (j + 1) _ _ (by omega) (by omega) (nI_1 j) (by rw [h2]; simp [s_s, c_41, c_54, c_67]))
          · refine u_iload_n C dX5_foretold_70 rfl ?_
            refine u_aload_n C dX5_foretold_71 rfl ?_
            refine u_getR (k2 := (k + 6)) C gX5_foretold_72 rfl (sea_is hk) (sea_f1 hk) ?_
            refine u_iload_n C dX5_foretold_75 rfl ?_
            refine u_aaldN (k2 := (k + 29 + j)) (i := j) C dX5_foretold_76 (aSrg_is (sea_p1 hk)) (by decide) (aSrg_n (sea_p1 hk)) (by omega) (by decide) (aSrg_f (i := j) (sea_p1 hk) (by omega)) ?_
            refine u_getI C gX5_foretold_77 rfl (srg_is (aSrg_p (i := j) (sea_p1 hk) (by omega))) ?_
            refine u_iadd C dX5_foretold_80 ?_
            refine u_istore_n C dX5_foretold_81 (by decide) ?_
            refine u_iinc C dX5_foretold_82 (by decide) rfl ?_
            refine u_goto (tgt := 36) C dX5_foretold_85 (by decide) ?_
            exact u_loc [0, 1, 2, 3] rfl (ih (j + 1) _ _ (by omega) (by omega) (nI_1 j) (by rw [h2]; simp [s_s, c_41, c_54, c_67]))
  have loop1 : ∀ (d i : Nat) (x2 x3 : Int32), i ≤ n → n - i < d → x3 = nI i → x2 = s_t M k h i → u_S p l e (u_rm 1 22) s m args below meth c 4 D A H0 0 0 Q 7 [(0, .ref (gP G k)), (1, .int h), (2, .int x2), (3, .int x3)] [] G M := by
    intro d
    induction d with
    | zero => intro i x2 x3 hj hd; omega
    | succ d ih =>
      intro i x2 x3 hj hd h3 h2
      subst h3
      refine u_iload_n C dX5_foretold_7 rfl ?_
      refine u_aload_n C dX5_foretold_8 rfl ?_
      refine u_getI C gX5_foretold_9 rfl (sea_is hk) ?_
      rw [hn]
      refine u_icmp_ge (tgt := 34) C dX5_foretold_12 (by decide) (fun c_12 => ?_) (fun c_12 => ?_)
      · obtain rfl : i = n := by have := u_gei c_12 (by omega) (by omega); omega
        refine u_iconst (v := 0) C dX5_foretold_34 (by decide) ?_
        refine u_istore_n C dX5_foretold_35 (by decide) ?_
        exact u_loc [0, 1, 2, 3] rfl (loop2 (m9 + 1) 0 _ _ (by omega) (by omega) nI_0.symm h2)
      · have hi : i < n := u_lt c_12 (by omega)
        refine u_iload_n C dX5_foretold_15 rfl ?_
        refine u_aload_n C dX5_foretold_16 rfl ?_
        refine u_getR (k2 := (k + 5)) C gX5_foretold_17 rfl (sea_is hk) (sea_f0 hk) ?_
        refine u_iload_n C dX5_foretold_20 rfl ?_
        refine u_aaldN (k2 := (k + 19 + i)) (i := i) C dX5_foretold_21 (aTrn_is (sea_p0 hk)) (by decide) (aTrn_n (sea_p0 hk)) (by omega) (by decide) (aTrn_f (i := i) (sea_p0 hk) (by omega)) ?_
        refine u_iload_n C dX5_foretold_22 rfl ?_
        refine u_calliV1 C ev_X9_height dX5_foretold_23 ml_RX5_60 (trn_is (aTrn_p (i := i) (sea_p0 hk) (by omega))) rfl (by decide) (c_X9_height l D G _ _ _ (aTrn_p (i := i) (sea_p0 hk) (by omega)) ) (by decide) (Nat.le_of_ble_eq_true rfl) (fun r_23 M_23 q_23 => ?_)
        obtain ⟨rfl, e_23⟩ := q_23
        subst M_23
        refine u_iadd C dX5_foretold_26 ?_
        refine u_istore_n C dX5_foretold_27 (by decide) ?_
        refine u_iinc C dX5_foretold_28 (by decide) rfl ?_
        refine u_goto (tgt := 7) C dX5_foretold_31 (by decide) ?_
        exact u_loc [0, 1, 2, 3] rfl (ih (i + 1) _ _ (by omega) (by omega) (nI_1 i) (by rw [h2]; rfl))
  refine u_aload_n C dX5_foretold_0 rfl ?_
  refine u_getI C gX5_foretold_1 rfl (sea_is hk) ?_
  refine u_istore_n C dX5_foretold_4 (by decide) ?_
  refine u_iconst (v := 0) C dX5_foretold_5 (by decide) ?_
  refine u_istore_n C dX5_foretold_6 (by decide) ?_
  exact u_loc [0, 1, 2, 3] rfl (loop1 (n + 1) 0 _ _ (by omega) (by omega) nI_0.symm rfl)
set_option maxHeartbeats 4000000 in
set_option maxRecDepth 100000 in
theorem c_X5_foretoldAbove (l : Launch) (D : va_G) (G : w_G) (M : w_M) (k : Nat) (mark : Int32) (t : Nat) (u : Nat) (hk : L_sea G (k)) (hn : cB (iv M k 3) 6) (hm : cB (iv M k 4) 20) (htu : t ≤ u + 1) (hu : u < 4000) : u_Mi l D G yX5_foretoldAbove cX5_foretoldAbove 5 (some .boolean) 2 45 [.ref (gP G k), .int mark, .int (nI t), .int (nI u)] M (fun r M' => r = (if s_abv M k mark (u + 1 - t) t = true then 1 else 0) ∧ M' = M) := by
  refine u_bodyz (by decide +kernel) (Nat.le_of_ble_eq_true rfl) rfl (fun p e s m args below meth c A H0 Q C ret => ?_)
  have loop1 : ∀ (d j : Nat) (x4 : Int32), j ≤ u + 1 → u + 1 - j < d → x4 = nI j → s_abv M k mark (u + 1 - t) t = s_abv M k mark (u + 1 - j) j → u_S p l e (u_rm 2 45) s m args below meth c 5 D A H0 0 0 Q 3 [(0, .ref (gP G k)), (1, .int mark), (2, .int (nI t)), (3, .int (nI u)), (4, .int x4)] [] G M := by
    intro d
    induction d with
    | zero => intro j x4 hj hd; omega
    | succ d ih =>
      intro j x4 hj hd h4 hres
      subst h4
      refine u_iload C dX5_foretoldAbove_3 rfl ?_
      refine u_iload_n C dX5_foretoldAbove_5 rfl ?_
      refine u_icmp_gt (tgt := 27) C dX5_foretoldAbove_6 (by decide) (fun c_6 => ?_) (fun c_6 => ?_)
      · have hj2 : u < j := (nI_ltI (by omega) (by omega)).mp c_6
        refine u_iconst (v := 0) C dX5_foretoldAbove_27 (by decide) ?_
        exact ret _ _ _ _ dX5_foretoldAbove_28 (by simp) (by rw [hres, show u + 1 - j = 0 by omega]; simp [s_abv])
      · have hj2 : ¬ u < j := fun q => c_6 ((nI_ltI (by omega) (by omega)).mpr q)
        obtain ⟨c9, hc⟩ : ∃ c9, u + 1 - j = c9 + 1 := ⟨u - j, by omega⟩
        refine u_aload_n C dX5_foretoldAbove_9 rfl ?_
        refine u_iload C dX5_foretoldAbove_10 rfl ?_
        refine u_calliV1 C ev_X5_foretold dX5_foretoldAbove_12 ml_RX5_63 (sea_is hk) rfl (by decide) (c_X5_foretold l D G _ _ _ hk hn hm) (by decide) (Nat.le_of_ble_eq_true rfl) (fun r_12 M_12 q_12 => ?_)
        obtain ⟨rfl, e_12⟩ := q_12
        subst M_12
        refine u_iload_n C dX5_foretoldAbove_15 rfl ?_
        refine u_icmp_le (tgt := 21) C dX5_foretoldAbove_16 (by decide) (fun c_16 => ?_) (fun c_16 => ?_)
        · refine u_iinc C dX5_foretoldAbove_21 (by decide) rfl ?_
          refine u_goto (tgt := 3) C dX5_foretoldAbove_24 (by decide) ?_
          exact u_loc [0, 1, 2, 3, 4] rfl (ih (j + 1) _ (by omega) (by omega) (nI_1 j) (by (try simp only [u_le, Decidable.not_not] at c_6 c_16); rw [hres, hc, show u + 1 - (j + 1) = c9 by omega]; simp [s_abv, c_6, c_16]))
        · refine u_iconst (v := 1) C dX5_foretoldAbove_19 (by decide) ?_
          exact ret _ _ _ _ dX5_foretoldAbove_20 (by simp) (by (try simp only [u_le, Decidable.not_not] at c_6 c_16); rw [hres, hc]; simp [s_abv, c_6, c_16])
  refine u_iload_n C dX5_foretoldAbove_0 rfl ?_
  refine u_istore C dX5_foretoldAbove_1 (by decide) ?_
  exact u_loc [0, 1, 2, 3, 4] rfl (loop1 (u + 2) t _ (by omega) (by omega) rfl rfl)
set_option maxHeartbeats 4000000 in
set_option maxRecDepth 100000 in
theorem c_X5_keep (l : Launch) (D : va_G) (G : w_G) (M : w_M) (k : Nat) (t : Nat) (h : Int32) (hk : L_sea G (k)) (ht : t < 1000) : u_Mv l D G yX5_keep cX5_keep 3 none 0 0 [.ref (gP G k), .int (nI t), .int h] M (fun M' => M' = wi M (k + 7) t h) := by
  refine u_bodyv (by decide +kernel) (Nat.le_of_ble_eq_true rfl) rfl (fun p e s m args below meth c A H0 Q C ret => ?_)
  refine u_iload_n C dX5_keep_0 rfl ?_
  refine u_if_lt (tgt := 20) C dX5_keep_1 (by decide) (fun c_1 => ?_) (fun c_1 => ?_)
  · exact absurd c_1 (nI_pos (by omega))
  · refine u_iload_n C dX5_keep_4 rfl ?_
    refine u_aload_n C dX5_keep_5 rfl ?_
    refine u_getR (k2 := (k + 7)) C gX5_keep_6 rfl (sea_is hk) (sea_f2 hk) ?_
    refine u_alenI C dX5_keep_9 (a1000_is (sea_p2 hk)) ?_
    rw [a1000_n (sea_p2 hk)]
    refine u_icmp_ge (tgt := 20) C dX5_keep_10 (by decide) (fun c_10 => ?_) (fun c_10 => ?_)
    · exact absurd c_10 (nI_ge (by omega) (by decide))
    · refine u_aload_n C dX5_keep_13 rfl ?_
      refine u_getR (k2 := (k + 7)) C gX5_keep_14 rfl (sea_is hk) (sea_f2 hk) ?_
      refine u_iload_n C dX5_keep_17 rfl ?_
      refine u_iload_n C dX5_keep_18 rfl ?_
      refine u_iastN (i := t) C dX5_keep_19 (a1000_is (sea_p2 hk)) (a1000_n (sea_p2 hk)) ht (by decide) ?_
      exact ret _ _  _ dX5_keep_20  (rfl)
set_option maxHeartbeats 4000000 in
set_option maxRecDepth 100000 in
theorem c_J9_floorMod_7cf53 (l : Launch) (D : va_G) (G : w_G) (M : w_M) (t : Nat)  (ht : t < 1000) : u_Mi l D G yJ9_floorMod_7cf53 cJ9_floorMod_7cf53 3 (some .int) 0 0 [.int (nI t), .int 24] M (fun r M' => r = nI (t % 24) ∧ M' = M) := by
  refine u_bodyi (by decide +kernel) (Nat.le_of_ble_eq_true rfl) rfl (fun p e s m args below meth c A H0 Q C ret => ?_)
  refine u_iload_n C dJ9_floorMod_7cf53_0 rfl ?_
  refine u_iload_n C dJ9_floorMod_7cf53_1 rfl ?_
  refine u_irem C dJ9_floorMod_7cf53_2 (by decide) ?_
  refine u_istore_n C dJ9_floorMod_7cf53_3 (by decide) ?_
  refine u_iload_n C dJ9_floorMod_7cf53_4 rfl ?_
  refine u_iload_n C dJ9_floorMod_7cf53_5 rfl ?_
  refine u_ixor C dJ9_floorMod_7cf53_6 ?_
  refine u_if_ge (tgt := 18) C dJ9_floorMod_7cf53_7 (by decide) (fun c_7 => ?_) (fun c_7 => ?_)
  · refine u_iload_n C dJ9_floorMod_7cf53_18 rfl ?_
    exact ret _ _ _ _ dJ9_floorMod_7cf53_19  (⟨pk_rem (d := 24) (by omega) (by decide) (by decide), rfl⟩)
  · exact absurd (u_xor24 t (by omega)) c_7
set_option maxHeartbeats 4000000 in
set_option maxRecDepth 100000 in
theorem c_X6_endHour (l : Launch) (D : va_G) (G : w_G) (M : w_M) (k : Nat) (t : Nat) (hk : L_sec G (k)) (ht : t < 1000) : u_Mv l D G yX6_endHour cX6_endHour 2 none 1 22 [.ref (gP G k), .int (nI t)] M (fun M' => M' = wi M (k + 40) (t % 24) (f_sal (iv M (k + 30) 0) (iv M (k + 30) 1))) := by
  refine u_bodyv (by decide +kernel) (Nat.le_of_ble_eq_true rfl) rfl (fun p e s m args below meth c A H0 Q C ret => ?_)
  refine u_aload_n C dX6_endHour_0 rfl ?_
  refine u_getR (k2 := (k + 40)) C gX6_endHour_1 rfl (sec_is hk) (sec_f2 hk) ?_
  refine u_iload_n C dX6_endHour_4 rfl ?_
  refine u_bipush (v := 24) C dX6_endHour_5 (by decide) ?_
  refine u_calliS2 C es_J9_floorMod_7cf53 dX6_endHour_7 ml_RX6_69 (c_J9_floorMod_7cf53 l D G _ _  ht) (by decide) (Nat.le_of_ble_eq_true rfl) (fun r_7 M_7 q_7 => ?_)
  obtain ⟨rfl, e_7⟩ := q_7
  subst M_7
  refine u_aload_n C dX6_endHour_10 rfl ?_
  refine u_getR (k2 := (k + 30)) C gX6_endHour_11 rfl (sec_is hk) (sec_f1 hk) ?_
  refine u_calliV0 C ev_X2_salinity dX6_endHour_14 ml_RX6_72 (lay_is (sec_p1 hk)) rfl (by decide) (c_X2_salinity l D G _ _ (sec_p1 hk) ) (by decide) (Nat.le_of_ble_eq_true rfl) (fun r_14 M_14 q_14 => ?_)
  obtain ⟨rfl, e_14⟩ := q_14
  subst M_14
  refine u_iastN (i := t % 24) C dX6_endHour_17 (a24_is (sec_p2 hk)) (a24_n (sec_p2 hk)) (by omega) (by decide) ?_
  exact ret _ _  _ dX6_endHour_18  (rfl)
set_option maxHeartbeats 4000000 in
set_option maxRecDepth 100000 in
theorem c_X6_wasFresher (l : Launch) (D : va_G) (G : w_G) (M : w_M) (k : Nat) (grain : Int32) (hs : Nat) (t : Nat) (hk : L_sec G (k)) (ht : t ≤ 1000) (hh : hs ≤ 24) : u_Mi l D G yX6_wasFresher cX6_wasFresher 5 (some .boolean) 1 22 [.ref (gP G k), .int grain, .int (nI hs), .int (nI t)] M (fun r M' => r = (if s_fr M k grain (t - (t - hs)) (t - hs) = true then 1 else 0) ∧ M' = M) := by
  refine u_bodyz (by decide +kernel) (Nat.le_of_ble_eq_true rfl) rfl (fun p e s m args below meth c A H0 Q C ret => ?_)
  have loop1 : ∀ (d j : Nat) (x4 : Int32), j ≤ t → t - j < d → x4 = nI j → s_fr M k grain (t - (t - hs)) (t - hs) = s_fr M k grain (t - j) j → u_S p l e (u_rm 1 22) s m args below meth c 5 D A H0 0 0 Q 9 [(0, .ref (gP G k)), (1, .int grain), (2, .int (nI hs)), (3, .int (nI t)), (4, .int x4)] [] G M := by
    intro d
    induction d with
    | zero => intro j x4 hj hd; omega
    | succ d ih =>
      intro j x4 hj hd h4 hres
      subst h4
      refine u_iload C dX6_wasFresher_9 rfl ?_
      refine u_iload_n C dX6_wasFresher_11 rfl ?_
      refine u_icmp_ge (tgt := 39) C dX6_wasFresher_12 (by decide) (fun c_12 => ?_) (fun c_12 => ?_)
      · have hj2 : t ≤ j := u_gei c_12 (by omega) (by omega)
        refine u_iconst (v := 0) C dX6_wasFresher_39 (by decide) ?_
        exact ret _ _ _ _ dX6_wasFresher_40 (by simp) (by rw [hres, show t - j = 0 by omega]; simp [s_fr])
      · have hj2 : j < t := u_lt c_12 (by omega)
        obtain ⟨c9, hc⟩ : ∃ c9, t - j = c9 + 1 := ⟨t - j - 1, by omega⟩
        refine u_aload_n C dX6_wasFresher_15 rfl ?_
        refine u_getR (k2 := (k + 40)) C gX6_wasFresher_16 rfl (sec_is hk) (sec_f2 hk) ?_
        refine u_iload C dX6_wasFresher_19 rfl ?_
        refine u_bipush (v := 24) C dX6_wasFresher_21 (by decide) ?_
        refine u_calliS2 C es_J9_floorMod_7cf53 dX6_wasFresher_23 ml_RX6_69 (c_J9_floorMod_7cf53 l D G _ _  (by omega)) (by decide) (Nat.le_of_ble_eq_true rfl) (fun r_23 M_23 q_23 => ?_)
        obtain ⟨rfl, e_23⟩ := q_23
        subst M_23
        refine u_ialdN (i := j % 24) C dX6_wasFresher_26 (a24_is (sec_p2 hk)) (a24_n (sec_p2 hk)) (by omega) (by decide) ?_
        refine u_iload_n C dX6_wasFresher_27 rfl ?_
        refine u_icmp_ge (tgt := 33) C dX6_wasFresher_28 (by decide) (fun c_28 => ?_) (fun c_28 => ?_)
        · refine u_iinc C dX6_wasFresher_33 (by decide) rfl ?_
          refine u_goto (tgt := 9) C dX6_wasFresher_36 (by decide) ?_
          exact u_loc [0, 1, 2, 3, 4] rfl (ih (j + 1) _ (by omega) (by omega) (nI_1 j) (by (try simp only [u_le, Decidable.not_not] at c_12 c_28); rw [hres, hc, show t - (j + 1) = c9 by omega]; simp [s_fr, c_12, c_28]))
        · refine u_iconst (v := 1) C dX6_wasFresher_31 (by decide) ?_
          exact ret _ _ _ _ dX6_wasFresher_32 (by simp) (by (try simp only [u_le, Decidable.not_not] at c_12 c_28); rw [hres, hc]; simp [s_fr, c_12, c_28])
  refine u_iconst (v := 0) C dX6_wasFresher_0 (by decide) ?_
  refine u_iload_n C dX6_wasFresher_1 rfl ?_
  refine u_iload_n C dX6_wasFresher_2 rfl ?_
  refine u_isub C dX6_wasFresher_3 ?_
  refine u_mmax C dX6_wasFresher_4 ml_RX6_75 wm_max (by decide) (Nat.le_of_ble_eq_true rfl) ?_
  refine u_istore C dX6_wasFresher_7 (by decide) ?_
  exact u_loc [0, 1, 2, 3, 4] rfl (loop1 (t + 1) (t - hs) _ (by omega) (by omega) (u_max0 (by omega) (by omega)) rfl)
set_option maxHeartbeats 4000000 in
set_option maxRecDepth 100000 in
theorem c_X6_answer (l : Launch) (D : va_G) (G : w_G) (M : w_M) (k : Nat) (w : Nat) (hk : L_sec G (k)) (hw : w < 10) : u_Mi l D G yX6_answer cX6_answer 2 (some .int) 2 40 [.ref (gP G k), .int (nI w)] M (fun r M' => r = s_ans M k w ∧ M' = M) := by
  refine u_bodyi (by decide +kernel) (Nat.le_of_ble_eq_true rfl) rfl (fun p e s m args below meth c A H0 Q C ret => ?_)
  refine u_iload_n C dX6_answer_0 rfl ?_
  rcases (show w = 0 ∨ w = 1 ∨ w = 2 ∨ w = 3 ∨ w = 4 ∨ w = 5 ∨ w = 6 ∨ w = 7 ∨ w = 8 ∨ w = 9 by omega) with rfl | rfl | rfl | rfl | rfl | rfl | rfl | rfl | rfl | rfl
  · refine u_tin (off := 51) (tgt := 52) C dX6_answer_1 (by decide) (by decide) (by decide) (by decide) ?_
    refine u_aload_n C dX6_answer_52 rfl ?_
    refine u_getR (k2 := (k + 20)) C gX6_answer_53 rfl (sec_is hk) (sec_f0 hk) ?_
    refine u_getI C gX6_answer_56 rfl (lay_is (sec_p0 hk)) ?_
    exact ret _ _ _ _ dX6_answer_59  (⟨rfl, rfl⟩)
  · refine u_tin (off := 59) (tgt := 60) C dX6_answer_1 (by decide) (by decide) (by decide) (by decide) ?_
    refine u_aload_n C dX6_answer_60 rfl ?_
    refine u_getR (k2 := (k + 20)) C gX6_answer_61 rfl (sec_is hk) (sec_f0 hk) ?_
    refine u_getI C gX6_answer_64 rfl (lay_is (sec_p0 hk)) ?_
    exact ret _ _ _ _ dX6_answer_67  (⟨rfl, rfl⟩)
  · refine u_tin (off := 67) (tgt := 68) C dX6_answer_1 (by decide) (by decide) (by decide) (by decide) ?_
    refine u_aload_n C dX6_answer_68 rfl ?_
    refine u_getR (k2 := (k + 30)) C gX6_answer_69 rfl (sec_is hk) (sec_f1 hk) ?_
    refine u_getI C gX6_answer_72 rfl (lay_is (sec_p1 hk)) ?_
    exact ret _ _ _ _ dX6_answer_75  (⟨rfl, rfl⟩)
  · refine u_tin (off := 75) (tgt := 76) C dX6_answer_1 (by decide) (by decide) (by decide) (by decide) ?_
    refine u_aload_n C dX6_answer_76 rfl ?_
    refine u_getR (k2 := (k + 30)) C gX6_answer_77 rfl (sec_is hk) (sec_f1 hk) ?_
    refine u_getI C gX6_answer_80 rfl (lay_is (sec_p1 hk)) ?_
    exact ret _ _ _ _ dX6_answer_83  (⟨rfl, rfl⟩)
  · refine u_tin (off := 83) (tgt := 84) C dX6_answer_1 (by decide) (by decide) (by decide) (by decide) ?_
    refine u_aload_n C dX6_answer_84 rfl ?_
    refine u_getI C gX6_answer_85 rfl (sec_is hk) ?_
    exact ret _ _ _ _ dX6_answer_88  (⟨rfl, rfl⟩)
  · refine u_tin (off := 88) (tgt := 89) C dX6_answer_1 (by decide) (by decide) (by decide) (by decide) ?_
    refine u_aload_n C dX6_answer_89 rfl ?_
    refine u_getI C gX6_answer_90 rfl (sec_is hk) ?_
    exact ret _ _ _ _ dX6_answer_93  (⟨rfl, rfl⟩)
  · refine u_tin (off := 93) (tgt := 94) C dX6_answer_1 (by decide) (by decide) (by decide) (by decide) ?_
    refine u_aload_n C dX6_answer_94 rfl ?_
    refine u_calliV0 C ev_X6_level dX6_answer_95 ml_RX6_78 (sec_is hk) rfl (by decide) (c_X6_level l D G _ _ hk ) (by decide) (Nat.le_of_ble_eq_true rfl) (fun r_95 M_95 q_95 => ?_)
    obtain ⟨rfl, e_95⟩ := q_95
    subst M_95
    exact ret _ _ _ _ dX6_answer_98  (⟨rfl, rfl⟩)
  · refine u_tin (off := 98) (tgt := 99) C dX6_answer_1 (by decide) (by decide) (by decide) (by decide) ?_
    refine u_aload_n C dX6_answer_99 rfl ?_
    refine u_getR (k2 := (k + 20)) C gX6_answer_100 rfl (sec_is hk) (sec_f0 hk) ?_
    refine u_calliV0 C ev_X2_salinity dX6_answer_103 ml_RX6_72 (lay_is (sec_p0 hk)) rfl (by decide) (c_X2_salinity l D G _ _ (sec_p0 hk) ) (by decide) (Nat.le_of_ble_eq_true rfl) (fun r_103 M_103 q_103 => ?_)
    obtain ⟨rfl, e_103⟩ := q_103
    subst M_103
    exact ret _ _ _ _ dX6_answer_106  (⟨rfl, rfl⟩)
  · refine u_tin (off := 106) (tgt := 107) C dX6_answer_1 (by decide) (by decide) (by decide) (by decide) ?_
    refine u_aload_n C dX6_answer_107 rfl ?_
    refine u_getR (k2 := (k + 30)) C gX6_answer_108 rfl (sec_is hk) (sec_f1 hk) ?_
    refine u_calliV0 C ev_X2_salinity dX6_answer_111 ml_RX6_72 (lay_is (sec_p1 hk)) rfl (by decide) (c_X2_salinity l D G _ _ (sec_p1 hk) ) (by decide) (Nat.le_of_ble_eq_true rfl) (fun r_111 M_111 q_111 => ?_)
    obtain ⟨rfl, e_111⟩ := q_111
    subst M_111
    exact ret _ _ _ _ dX6_answer_114  (⟨rfl, rfl⟩)
  · refine u_tout (tgt := 115) C dX6_answer_1 (by decide) (by decide) ?_
    refine u_aload_n C dX6_answer_115 rfl ?_
    refine u_getI C gX6_answer_116 rfl (sec_is hk) ?_
    exact ret _ _ _ _ dX6_answer_119  (⟨rfl, rfl⟩)
set_option maxHeartbeats 4000000 in
set_option maxRecDepth 100000 in
theorem c_X8_keep (l : Launch) (D : va_G) (G : w_G) (M : w_M) (k : Nat) (h : Int32) (kd : Int32) (a : Int32) (b : Int32) (c1 : Int32) (d1 : Int32) (e1 : Int32) (hk : L_tld G (k)) (hn : ∃ n : Nat, n < 512 ∧ iv M k 1 = nI n) : u_Mv l D G yX8_keep cX8_keep 9 none 0 0 [.ref (gP G k), .int h, .int kd, .int a, .int b, .int c1, .int d1, .int e1] M (fun M' => M' = m_keep M k h kd a b c1 d1 e1) := by
  obtain ⟨n, hn5, hn⟩ := hn
  have en : cN (iv M k 1) = n := by rw [hn]; exact cN_nI (by omega)
  refine u_bodyv (by decide +kernel) (Nat.le_of_ble_eq_true rfl) rfl (fun p e s m args below meth c A H0 Q C ret => ?_)
  refine u_aload_n C dX8_keep_0 rfl ?_
  refine u_getI C gX8_keep_1 rfl (tld_is hk) ?_
  refine u_sipush (v := 512) C dX8_keep_4 (by decide) ?_
  rw [hn]
  refine u_icmp_lt (tgt := 11) C dX8_keep_7 (by decide) (fun c_7 => ?_) (fun c_7 => ?_)
  · refine u_aload_n C dX8_keep_11 rfl ?_
    refine u_getI C gX8_keep_12 rfl (tld_is hk) ?_
    refine u_bipush (v := 7) C dX8_keep_15 (by decide) ?_
    refine u_imul C dX8_keep_17 ?_
    rw [hn, show nI n * 7 = nI (7 * n) from by rw [show (7 : Int32) = nI 7 from rfl, pk_mul, Nat.mul_comm]]
    refine u_istore C dX8_keep_18 (by decide) ?_
    refine u_aload_n C dX8_keep_20 rfl ?_
    refine u_getR (k2 := (k + 1)) C gX8_keep_21 rfl (tld_is hk) (tld_f0 hk) ?_
    refine u_iload C dX8_keep_24 rfl ?_
    refine u_iconst (v := 0) C dX8_keep_26 (by decide) ?_
    refine u_iadd C dX8_keep_27 ?_
    simp only [u_i0, u_i1, u_i2, u_i3, u_i4, nI_add, Nat.add_zero, Nat.add_assoc, Nat.reduceAdd]
    refine u_iload_n C dX8_keep_28 rfl ?_
    refine u_iastN (i := 7 * n) C dX8_keep_29 (a3584_is (tld_p0 hk)) (a3584_n (tld_p0 hk)) (by omega) (by decide) ?_
    refine u_aload_n C dX8_keep_30 rfl ?_
    refine u_getR (k2 := (k + 1)) C gX8_keep_31 rfl (tld_is hk) (tld_f0 hk) ?_
    refine u_iload C dX8_keep_34 rfl ?_
    refine u_iconst (v := 1) C dX8_keep_36 (by decide) ?_
    refine u_iadd C dX8_keep_37 ?_
    simp only [u_i0, u_i1, u_i2, u_i3, u_i4, nI_add, Nat.add_zero, Nat.add_assoc, Nat.reduceAdd]
    refine u_iload_n C dX8_keep_38 rfl ?_
    refine u_iastN (i := 7 * n + 1) C dX8_keep_39 (a3584_is (tld_p0 hk)) (a3584_n (tld_p0 hk)) (by omega) (by decide) ?_
    refine u_aload_n C dX8_keep_40 rfl ?_
    refine u_getR (k2 := (k + 1)) C gX8_keep_41 rfl (tld_is hk) (tld_f0 hk) ?_
    refine u_iload C dX8_keep_44 rfl ?_
    refine u_iconst (v := 2) C dX8_keep_46 (by decide) ?_
    refine u_iadd C dX8_keep_47 ?_
    simp only [u_i0, u_i1, u_i2, u_i3, u_i4, nI_add, Nat.add_zero, Nat.add_assoc, Nat.reduceAdd]
    refine u_iload_n C dX8_keep_48 rfl ?_
    refine u_iastN (i := 7 * n + 2) C dX8_keep_49 (a3584_is (tld_p0 hk)) (a3584_n (tld_p0 hk)) (by omega) (by decide) ?_
    refine u_aload_n C dX8_keep_50 rfl ?_
    refine u_getR (k2 := (k + 1)) C gX8_keep_51 rfl (tld_is hk) (tld_f0 hk) ?_
    refine u_iload C dX8_keep_54 rfl ?_
    refine u_iconst (v := 2) C dX8_keep_56 (by decide) ?_
    refine u_iadd C dX8_keep_57 ?_
    refine u_iconst (v := 1) C dX8_keep_58 (by decide) ?_
    refine u_iadd C dX8_keep_59 ?_
    simp only [u_i0, u_i1, u_i2, u_i3, u_i4, nI_add, Nat.add_zero, Nat.add_assoc, Nat.reduceAdd]
    refine u_iload C dX8_keep_60 rfl ?_
    refine u_iastN (i := 7 * n + 3) C dX8_keep_62 (a3584_is (tld_p0 hk)) (a3584_n (tld_p0 hk)) (by omega) (by decide) ?_
    refine u_aload_n C dX8_keep_63 rfl ?_
    refine u_getR (k2 := (k + 1)) C gX8_keep_64 rfl (tld_is hk) (tld_f0 hk) ?_
    refine u_iload C dX8_keep_67 rfl ?_
    refine u_iconst (v := 2) C dX8_keep_69 (by decide) ?_
    refine u_iadd C dX8_keep_70 ?_
    refine u_iconst (v := 2) C dX8_keep_71 (by decide) ?_
    refine u_iadd C dX8_keep_72 ?_
    simp only [u_i0, u_i1, u_i2, u_i3, u_i4, nI_add, Nat.add_zero, Nat.add_assoc, Nat.reduceAdd]
    refine u_iload C dX8_keep_73 rfl ?_
    refine u_iastN (i := 7 * n + 4) C dX8_keep_75 (a3584_is (tld_p0 hk)) (a3584_n (tld_p0 hk)) (by omega) (by decide) ?_
    refine u_aload_n C dX8_keep_76 rfl ?_
    refine u_getR (k2 := (k + 1)) C gX8_keep_77 rfl (tld_is hk) (tld_f0 hk) ?_
    refine u_iload C dX8_keep_80 rfl ?_
    refine u_iconst (v := 2) C dX8_keep_82 (by decide) ?_
    refine u_iadd C dX8_keep_83 ?_
    refine u_iconst (v := 3) C dX8_keep_84 (by decide) ?_
    refine u_iadd C dX8_keep_85 ?_
    simp only [u_i0, u_i1, u_i2, u_i3, u_i4, nI_add, Nat.add_zero, Nat.add_assoc, Nat.reduceAdd]
    refine u_iload C dX8_keep_86 rfl ?_
    refine u_iastN (i := 7 * n + 5) C dX8_keep_88 (a3584_is (tld_p0 hk)) (a3584_n (tld_p0 hk)) (by omega) (by decide) ?_
    refine u_aload_n C dX8_keep_89 rfl ?_
    refine u_getR (k2 := (k + 1)) C gX8_keep_90 rfl (tld_is hk) (tld_f0 hk) ?_
    refine u_iload C dX8_keep_93 rfl ?_
    refine u_iconst (v := 2) C dX8_keep_95 (by decide) ?_
    refine u_iadd C dX8_keep_96 ?_
    refine u_iconst (v := 4) C dX8_keep_97 (by decide) ?_
    refine u_iadd C dX8_keep_98 ?_
    simp only [u_i0, u_i1, u_i2, u_i3, u_i4, nI_add, Nat.add_zero, Nat.add_assoc, Nat.reduceAdd]
    refine u_iload C dX8_keep_99 rfl ?_
    refine u_iastN (i := 7 * n + 6) C dX8_keep_101 (a3584_is (tld_p0 hk)) (a3584_n (tld_p0 hk)) (by omega) (by decide) ?_
    refine u_aload_n C dX8_keep_102 rfl ?_
    refine u_dup C dX8_keep_103 rfl ?_
    refine u_getI C gX8_keep_104 rfl (tld_is hk) ?_
    refine u_iconst (v := 1) C dX8_keep_107 (by decide) ?_
    refine u_iadd C dX8_keep_108 ?_
    refine u_putI C pX8_keep_109 rfl (tld_is hk) ?_
    exact ret _ _  _ dX8_keep_112  (by simp [m_keep, en, iv_wi])
  · exact absurd (nI_lt hn5 (by decide)) c_7
set_option maxHeartbeats 4000000 in
set_option maxRecDepth 100000 in
theorem c_X8_part (l : Launch) (D : va_G) (G : w_G) (M : w_M) (k : Nat) (i : Nat) (j : Nat) (hk : L_tld G (k)) (hi : i < 512) (hj : j < 7) : u_Mi l D G yX8_part cX8_part 4 (some .int) 0 0 [.ref (gP G k), .int (nI i), .int (nI j)] M (fun r M' => r = iv M (k + 1) (7 * i + j) ∧ M' = M) := by
  refine u_bodyi (by decide +kernel) (Nat.le_of_ble_eq_true rfl) rfl (fun p e s m args below meth c A H0 Q C ret => ?_)
  refine u_iload_n C dX8_part_0 rfl ?_
  refine u_bipush (v := 7) C dX8_part_1 (by decide) ?_
  refine u_imul C dX8_part_3 ?_
  refine u_iload_n C dX8_part_4 rfl ?_
  refine u_iadd C dX8_part_5 ?_
  rw [show nI i * 7 + nI j = nI (7 * i + j) from by rw [show (7 : Int32) = nI 7 from rfl, pk_mul, nI_add, Nat.mul_comm]]
  refine u_istore_n C dX8_part_6 (by decide) ?_
  refine u_iload_n C dX8_part_7 rfl ?_
  refine u_if_lt (tgt := 29) C dX8_part_8 (by decide) (fun c_8 => ?_) (fun c_8 => ?_)
  · exact absurd c_8 (nI_pos (by omega))
  · refine u_iload_n C dX8_part_11 rfl ?_
    refine u_aload_n C dX8_part_12 rfl ?_
    refine u_getR (k2 := (k + 1)) C gX8_part_13 rfl (tld_is hk) (tld_f0 hk) ?_
    refine u_alenI C dX8_part_16 (a3584_is (tld_p0 hk)) ?_
    rw [a3584_n (tld_p0 hk)]
    refine u_icmp_ge (tgt := 29) C dX8_part_17 (by decide) (fun c_17 => ?_) (fun c_17 => ?_)
    · exact absurd c_17 (nI_ge (by omega) (by decide))
    · refine u_aload_n C dX8_part_20 rfl ?_
      refine u_getR (k2 := (k + 1)) C gX8_part_21 rfl (tld_is hk) (tld_f0 hk) ?_
      refine u_iload_n C dX8_part_24 rfl ?_
      refine u_ialdN (i := 7 * i + j) C dX8_part_25 (a3584_is (tld_p0 hk)) (a3584_n (tld_p0 hk)) (by omega) (by decide) ?_
      refine u_goto (tgt := 30) C dX8_part_26 (by decide) ?_
      exact ret _ _ _ _ dX8_part_30  (⟨rfl, rfl⟩)
set_option maxHeartbeats 4000000 in
set_option maxRecDepth 100000 in
theorem c_X1_begin (l : Launch) (D : va_G) (G : w_G) (M : w_M) (k : Nat) (a : Int32) (b : Int32) (c1 : Int32) (d1 : Int32) (e1 : Int32) (hk : L_int G (k))  : u_Mv l D G yX1_begin cX1_begin 6 none 0 0 [.ref (gP G k), .int a, .int b, .int c1, .int d1, .int e1] M (fun M' => M' = m_ibeg M k a b c1 d1 e1) := by
  refine u_bodyv (by decide +kernel) (Nat.le_of_ble_eq_true rfl) rfl (fun p e s m args below meth c A H0 Q C ret => ?_)
  refine u_aload_n C dX1_begin_0 rfl ?_
  refine u_iload_n C dX1_begin_1 rfl ?_
  refine u_putI C pX1_begin_2 rfl (int_is hk) ?_
  refine u_aload_n C dX1_begin_5 rfl ?_
  refine u_iload_n C dX1_begin_6 rfl ?_
  refine u_putI C pX1_begin_7 rfl (int_is hk) ?_
  refine u_aload_n C dX1_begin_10 rfl ?_
  refine u_iload_n C dX1_begin_11 rfl ?_
  refine u_putI C pX1_begin_12 rfl (int_is hk) ?_
  refine u_aload_n C dX1_begin_15 rfl ?_
  refine u_iload C dX1_begin_16 rfl ?_
  refine u_putI C pX1_begin_18 rfl (int_is hk) ?_
  refine u_aload_n C dX1_begin_21 rfl ?_
  refine u_iload C dX1_begin_22 rfl ?_
  refine u_putI C pX1_begin_24 rfl (int_is hk) ?_
  refine u_aload_n C dX1_begin_27 rfl ?_
  refine u_iconst (v := 0) C dX1_begin_28 (by decide) ?_
  refine u_putI C pX1_begin_29 rfl (int_is hk) ?_
  refine u_aload_n C dX1_begin_32 rfl ?_
  refine u_iconst (v := 0) C dX1_begin_33 (by decide) ?_
  refine u_putI C pX1_begin_34 rfl (int_is hk) ?_
  refine u_aload_n C dX1_begin_37 rfl ?_
  refine u_iconst (v := 0) C dX1_begin_38 (by decide) ?_
  refine u_putI C pX1_begin_39 rfl (int_is hk) ?_
  refine u_aload_n C dX1_begin_42 rfl ?_
  refine u_iconst (v := 0) C dX1_begin_43 (by decide) ?_
  refine u_putI C pX1_begin_44 rfl (int_is hk) ?_
  refine u_aload_n C dX1_begin_47 rfl ?_
  refine u_iconst (v := 0) C dX1_begin_48 (by decide) ?_
  refine u_putZ C pX1_begin_49 rfl (int_is hk) (by simp) ?_
  exact ret _ _  _ dX1_begin_52  (rfl)
set_option maxHeartbeats 4000000 in
set_option maxRecDepth 100000 in
theorem c_X1_take (l : Launch) (D : va_G) (G : w_G) (M : w_M) (k : Nat) (u : Nat) (j : Nat) (hk : L_int G (k)) (hu : L_lay G (u)) (hj : L_j10 G (j))  : u_Mv l D G yX1_take cX1_take 5 none 2 44 [.ref (gP G k), .ref (gP G u), .ref (gP G j)] M (fun M' => M' = m_take M k u j) := by
  have hku : k ≠ u := u_is_ne (int_is hk) (lay_is hu) (by decide)
  have huk : u ≠ k := fun z => hku z.symm
  refine u_bodyv (by decide +kernel) (Nat.le_of_ble_eq_true rfl) rfl (fun p e s m args below meth c A H0 Q C ret => ?_)
  refine u_aload_n C dX1_take_0 rfl ?_
  refine u_aload_n C dX1_take_1 rfl ?_
  refine u_getI C gX1_take_2 rfl (lay_is hu) ?_
  refine u_if_le (tgt := 19) C dX1_take_5 (by decide) (fun c_5 => ?_) (fun c_5 => ?_)
  · refine u_iconst (v := 1) C dX1_take_19 (by decide) ?_
    refine u_goto (tgt := 24) C dX1_take_20 (by decide) ?_
    refine u_putZ C pX1_take_24 rfl (int_is hk) (by simp) ?_
    refine u_aload_n C dX1_take_27 rfl ?_
    refine u_getI C gX1_take_28 rfl (int_is hk) ?_
    refine u_if_eq (tgt := 45) C dX1_take_31 (by decide) (fun c_31 => ?_) (fun c_31 => ?_)
    · refine u_aload_n C dX1_take_45 rfl ?_
      refine u_getI C gX1_take_46 rfl (int_is hk) ?_
      refine u_aload_n C dX1_take_49 rfl ?_
      refine u_getI C gX1_take_50 rfl (lay_is hu) ?_
      refine u_mmin C dX1_take_53 ml_RX1_52 wm_min (by decide) (Nat.le_of_ble_eq_true rfl) ?_
      refine u_aload_n C dX1_take_56 rfl ?_
      refine u_getI C gX1_take_57 rfl (int_is hk) ?_
      refine u_aload_n C dX1_take_60 rfl ?_
      refine u_getI C gX1_take_61 rfl (int_is hk) ?_
      refine u_isub C dX1_take_64 ?_
      refine u_mmin C dX1_take_65 ml_RX1_52 wm_min (by decide) (Nat.le_of_ble_eq_true rfl) ?_
      refine u_istore_n C dX1_take_68 (by decide) ?_
      refine u_aload_n C dX1_take_69 rfl ?_
      refine u_iload_n C dX1_take_70 rfl ?_
      refine u_calliV1 C ev_X2_giveOut dX1_take_71 ml_RX1_58 (lay_is hu) rfl (by decide) (c_X2_giveOut l D G _ _ _ hu ) (by decide) (Nat.le_of_ble_eq_true rfl) (fun r_71 M_71 q_71 => ?_)
      obtain ⟨rfl, e_71⟩ := q_71
      subst M_71
      refine u_istore C dX1_take_74 (by decide) ?_
      refine u_aload_n C dX1_take_76 rfl ?_
      refine u_dup C dX1_take_77 rfl ?_
      refine u_getI C gX1_take_78 rfl (int_is hk) ?_
      refine u_iload_n C dX1_take_81 rfl ?_
      refine u_iadd C dX1_take_82 ?_
      refine u_putI C pX1_take_83 rfl (int_is hk) ?_
      refine u_aload_n C dX1_take_86 rfl ?_
      refine u_dup C dX1_take_87 rfl ?_
      refine u_getI C gX1_take_88 rfl (int_is hk) ?_
      refine u_iload_n C dX1_take_91 rfl ?_
      refine u_iadd C dX1_take_92 ?_
      refine u_putI C pX1_take_93 rfl (int_is hk) ?_
      refine u_aload_n C dX1_take_96 rfl ?_
      refine u_iconst (v := 3) C dX1_take_97 (by decide) ?_
      refine u_dup2 C dX1_take_98 rfl rfl ?_
      refine u_laldN (i := 3) C dX1_take_99 (j10_is hj) (j10_n hj) (by decide) (by decide) ?_
      refine u_iload_n C dX1_take_100 rfl ?_
      refine u_i2l C dX1_take_101 ?_
      refine u_ladd C dX1_take_102 ?_
      refine u_lastN (i := 3) C dX1_take_103 (j10_is hj) (j10_n hj) (by decide) (by decide) ?_
      refine u_aload_n C dX1_take_104 rfl ?_
      refine u_bipush (v := 6) C dX1_take_105 (by decide) ?_
      refine u_dup2 C dX1_take_107 rfl rfl ?_
      refine u_laldN (i := 6) C dX1_take_108 (j10_is hj) (j10_n hj) (by decide) (by decide) ?_
      refine u_iload C dX1_take_109 rfl ?_
      refine u_i2l C dX1_take_111 ?_
      refine u_ladd C dX1_take_112 ?_
      refine u_lastN (i := 6) C dX1_take_113 (j10_is hj) (j10_n hj) (by decide) (by decide) ?_
      exact ret _ _  _ dX1_take_114  (by (try simp only [u_le, Decidable.not_not] at c_5 c_31); first | (exfalso; revert c_31; simp [iv_wi]; done) | (simp [-Int32.not_lt, -Int32.not_le, iv_wi, iv_wj, jv_wi, jv_wj, u_le, m_take, t_stop, t_flow, f_min, m_out, hku, huk, c_5, c_31]; done) | (simp [-Int32.not_lt, -Int32.not_le, iv_wi, iv_wj, jv_wi, jv_wj, u_le, m_take, t_stop, t_flow, f_min, m_out, hku, huk, c_5, c_31]; rfl))
    · refine u_aload_n C dX1_take_34 rfl ?_
      refine u_dup C dX1_take_35 rfl ?_
      refine u_getI C gX1_take_36 rfl (int_is hk) ?_
      refine u_iconst (v := 1) C dX1_take_39 (by decide) ?_
      refine u_iadd C dX1_take_40 ?_
      refine u_putI C pX1_take_41 rfl (int_is hk) ?_
      exact ret _ _  _ dX1_take_44  (by (try simp only [u_le, Decidable.not_not] at c_5 c_31); first | (exfalso; revert c_31; simp [iv_wi]; done) | (simp [-Int32.not_lt, -Int32.not_le, iv_wi, iv_wj, jv_wi, jv_wj, u_le, m_take, t_stop, t_flow, f_min, m_out, hku, huk, c_5, c_31]; done) | (simp [-Int32.not_lt, -Int32.not_le, iv_wi, iv_wj, jv_wi, jv_wj, u_le, m_take, t_stop, t_flow, f_min, m_out, hku, huk, c_5, c_31]; rfl))
  · refine u_aload_n C dX1_take_8 rfl ?_
    refine u_calliV0 C ev_X2_salinity dX1_take_9 ml_RX1_48 (lay_is hu) rfl (by decide) (c_X2_salinity l D G _ _ hu ) (by decide) (Nat.le_of_ble_eq_true rfl) (fun r_9 M_9 q_9 => ?_)
    obtain ⟨rfl, e_9⟩ := q_9
    subst M_9
    refine u_aload_n C dX1_take_12 rfl ?_
    refine u_getI C gX1_take_13 rfl (int_is hk) ?_
    refine u_icmp_le (tgt := 23) C dX1_take_16 (by decide) (fun c_16 => ?_) (fun c_16 => ?_)
    · refine u_iconst (v := 0) C dX1_take_23 (by decide) ?_
      refine u_putZ C pX1_take_24 rfl (int_is hk) (by simp) ?_
      refine u_aload_n C dX1_take_27 rfl ?_
      refine u_getI C gX1_take_28 rfl (int_is hk) ?_
      refine u_if_eq (tgt := 45) C dX1_take_31 (by decide) (fun c_31 => ?_) (fun c_31 => ?_)
      · refine u_aload_n C dX1_take_45 rfl ?_
        refine u_getI C gX1_take_46 rfl (int_is hk) ?_
        refine u_aload_n C dX1_take_49 rfl ?_
        refine u_getI C gX1_take_50 rfl (lay_is hu) ?_
        refine u_mmin C dX1_take_53 ml_RX1_52 wm_min (by decide) (Nat.le_of_ble_eq_true rfl) ?_
        refine u_aload_n C dX1_take_56 rfl ?_
        refine u_getI C gX1_take_57 rfl (int_is hk) ?_
        refine u_aload_n C dX1_take_60 rfl ?_
        refine u_getI C gX1_take_61 rfl (int_is hk) ?_
        refine u_isub C dX1_take_64 ?_
        refine u_mmin C dX1_take_65 ml_RX1_52 wm_min (by decide) (Nat.le_of_ble_eq_true rfl) ?_
        refine u_istore_n C dX1_take_68 (by decide) ?_
        refine u_aload_n C dX1_take_69 rfl ?_
        refine u_iload_n C dX1_take_70 rfl ?_
        refine u_calliV1 C ev_X2_giveOut dX1_take_71 ml_RX1_58 (lay_is hu) rfl (by decide) (c_X2_giveOut l D G _ _ _ hu ) (by decide) (Nat.le_of_ble_eq_true rfl) (fun r_71 M_71 q_71 => ?_)
        obtain ⟨rfl, e_71⟩ := q_71
        subst M_71
        refine u_istore C dX1_take_74 (by decide) ?_
        refine u_aload_n C dX1_take_76 rfl ?_
        refine u_dup C dX1_take_77 rfl ?_
        refine u_getI C gX1_take_78 rfl (int_is hk) ?_
        refine u_iload_n C dX1_take_81 rfl ?_
        refine u_iadd C dX1_take_82 ?_
        refine u_putI C pX1_take_83 rfl (int_is hk) ?_
        refine u_aload_n C dX1_take_86 rfl ?_
        refine u_dup C dX1_take_87 rfl ?_
        refine u_getI C gX1_take_88 rfl (int_is hk) ?_
        refine u_iload_n C dX1_take_91 rfl ?_
        refine u_iadd C dX1_take_92 ?_
        refine u_putI C pX1_take_93 rfl (int_is hk) ?_
        refine u_aload_n C dX1_take_96 rfl ?_
        refine u_iconst (v := 3) C dX1_take_97 (by decide) ?_
        refine u_dup2 C dX1_take_98 rfl rfl ?_
        refine u_laldN (i := 3) C dX1_take_99 (j10_is hj) (j10_n hj) (by decide) (by decide) ?_
        refine u_iload_n C dX1_take_100 rfl ?_
        refine u_i2l C dX1_take_101 ?_
        refine u_ladd C dX1_take_102 ?_
        refine u_lastN (i := 3) C dX1_take_103 (j10_is hj) (j10_n hj) (by decide) (by decide) ?_
        refine u_aload_n C dX1_take_104 rfl ?_
        refine u_bipush (v := 6) C dX1_take_105 (by decide) ?_
        refine u_dup2 C dX1_take_107 rfl rfl ?_
        refine u_laldN (i := 6) C dX1_take_108 (j10_is hj) (j10_n hj) (by decide) (by decide) ?_
        refine u_iload C dX1_take_109 rfl ?_
        refine u_i2l C dX1_take_111 ?_
        refine u_ladd C dX1_take_112 ?_
        refine u_lastN (i := 6) C dX1_take_113 (j10_is hj) (j10_n hj) (by decide) (by decide) ?_
        exact ret _ _  _ dX1_take_114  (by (try simp only [u_le, Decidable.not_not] at c_5 c_16 c_31); first | (exfalso; revert c_31; simp [iv_wi]; done) | (simp [-Int32.not_lt, -Int32.not_le, iv_wi, iv_wj, jv_wi, jv_wj, u_le, m_take, t_stop, t_flow, f_min, m_out, hku, huk, c_5, c_16, c_31]; done) | (simp [-Int32.not_lt, -Int32.not_le, iv_wi, iv_wj, jv_wi, jv_wj, u_le, m_take, t_stop, t_flow, f_min, m_out, hku, huk, c_5, c_16, c_31]; rfl))
      · refine u_aload_n C dX1_take_34 rfl ?_
        refine u_dup C dX1_take_35 rfl ?_
        refine u_getI C gX1_take_36 rfl (int_is hk) ?_
        refine u_iconst (v := 1) C dX1_take_39 (by decide) ?_
        refine u_iadd C dX1_take_40 ?_
        refine u_putI C pX1_take_41 rfl (int_is hk) ?_
        exact ret _ _  _ dX1_take_44  (by (try simp only [u_le, Decidable.not_not] at c_5 c_16 c_31); first | (exfalso; revert c_31; simp [iv_wi]; done) | (simp [-Int32.not_lt, -Int32.not_le, iv_wi, iv_wj, jv_wi, jv_wj, u_le, m_take, t_stop, t_flow, f_min, m_out, hku, huk, c_5, c_16, c_31]; done) | (simp [-Int32.not_lt, -Int32.not_le, iv_wi, iv_wj, jv_wi, jv_wj, u_le, m_take, t_stop, t_flow, f_min, m_out, hku, huk, c_5, c_16, c_31]; rfl))
    · refine u_iconst (v := 1) C dX1_take_19 (by decide) ?_
      refine u_goto (tgt := 24) C dX1_take_20 (by decide) ?_
      refine u_putZ C pX1_take_24 rfl (int_is hk) (by simp) ?_
      refine u_aload_n C dX1_take_27 rfl ?_
      refine u_getI C gX1_take_28 rfl (int_is hk) ?_
      refine u_if_eq (tgt := 45) C dX1_take_31 (by decide) (fun c_31 => ?_) (fun c_31 => ?_)
      · refine u_aload_n C dX1_take_45 rfl ?_
        refine u_getI C gX1_take_46 rfl (int_is hk) ?_
        refine u_aload_n C dX1_take_49 rfl ?_
        refine u_getI C gX1_take_50 rfl (lay_is hu) ?_
        refine u_mmin C dX1_take_53 ml_RX1_52 wm_min (by decide) (Nat.le_of_ble_eq_true rfl) ?_
        refine u_aload_n C dX1_take_56 rfl ?_
        refine u_getI C gX1_take_57 rfl (int_is hk) ?_
        refine u_aload_n C dX1_take_60 rfl ?_
        refine u_getI C gX1_take_61 rfl (int_is hk) ?_
        refine u_isub C dX1_take_64 ?_
        refine u_mmin C dX1_take_65 ml_RX1_52 wm_min (by decide) (Nat.le_of_ble_eq_true rfl) ?_
        refine u_istore_n C dX1_take_68 (by decide) ?_
        refine u_aload_n C dX1_take_69 rfl ?_
        refine u_iload_n C dX1_take_70 rfl ?_
        refine u_calliV1 C ev_X2_giveOut dX1_take_71 ml_RX1_58 (lay_is hu) rfl (by decide) (c_X2_giveOut l D G _ _ _ hu ) (by decide) (Nat.le_of_ble_eq_true rfl) (fun r_71 M_71 q_71 => ?_)
        obtain ⟨rfl, e_71⟩ := q_71
        subst M_71
        refine u_istore C dX1_take_74 (by decide) ?_
        refine u_aload_n C dX1_take_76 rfl ?_
        refine u_dup C dX1_take_77 rfl ?_
        refine u_getI C gX1_take_78 rfl (int_is hk) ?_
        refine u_iload_n C dX1_take_81 rfl ?_
        refine u_iadd C dX1_take_82 ?_
        refine u_putI C pX1_take_83 rfl (int_is hk) ?_
        refine u_aload_n C dX1_take_86 rfl ?_
        refine u_dup C dX1_take_87 rfl ?_
        refine u_getI C gX1_take_88 rfl (int_is hk) ?_
        refine u_iload_n C dX1_take_91 rfl ?_
        refine u_iadd C dX1_take_92 ?_
        refine u_putI C pX1_take_93 rfl (int_is hk) ?_
        refine u_aload_n C dX1_take_96 rfl ?_
        refine u_iconst (v := 3) C dX1_take_97 (by decide) ?_
        refine u_dup2 C dX1_take_98 rfl rfl ?_
        refine u_laldN (i := 3) C dX1_take_99 (j10_is hj) (j10_n hj) (by decide) (by decide) ?_
        refine u_iload_n C dX1_take_100 rfl ?_
        refine u_i2l C dX1_take_101 ?_
        refine u_ladd C dX1_take_102 ?_
        refine u_lastN (i := 3) C dX1_take_103 (j10_is hj) (j10_n hj) (by decide) (by decide) ?_
        refine u_aload_n C dX1_take_104 rfl ?_
        refine u_bipush (v := 6) C dX1_take_105 (by decide) ?_
        refine u_dup2 C dX1_take_107 rfl rfl ?_
        refine u_laldN (i := 6) C dX1_take_108 (j10_is hj) (j10_n hj) (by decide) (by decide) ?_
        refine u_iload C dX1_take_109 rfl ?_
        refine u_i2l C dX1_take_111 ?_
        refine u_ladd C dX1_take_112 ?_
        refine u_lastN (i := 6) C dX1_take_113 (j10_is hj) (j10_n hj) (by decide) (by decide) ?_
        exact ret _ _  _ dX1_take_114  (by (try simp only [u_le, Decidable.not_not] at c_5 c_16 c_31); first | (exfalso; revert c_31; simp [iv_wi]; done) | (simp [-Int32.not_lt, -Int32.not_le, iv_wi, iv_wj, jv_wi, jv_wj, u_le, m_take, t_stop, t_flow, f_min, m_out, hku, huk, c_5, c_16, c_31]; done) | (simp [-Int32.not_lt, -Int32.not_le, iv_wi, iv_wj, jv_wi, jv_wj, u_le, m_take, t_stop, t_flow, f_min, m_out, hku, huk, c_5, c_16, c_31]; rfl))
      · refine u_aload_n C dX1_take_34 rfl ?_
        refine u_dup C dX1_take_35 rfl ?_
        refine u_getI C gX1_take_36 rfl (int_is hk) ?_
        refine u_iconst (v := 1) C dX1_take_39 (by decide) ?_
        refine u_iadd C dX1_take_40 ?_
        refine u_putI C pX1_take_41 rfl (int_is hk) ?_
        exact ret _ _  _ dX1_take_44  (by (try simp only [u_le, Decidable.not_not] at c_5 c_16 c_31); first | (exfalso; revert c_31; simp [iv_wi]; done) | (simp [-Int32.not_lt, -Int32.not_le, iv_wi, iv_wj, jv_wi, jv_wj, u_le, m_take, t_stop, t_flow, f_min, m_out, hku, huk, c_5, c_16, c_31]; done) | (simp [-Int32.not_lt, -Int32.not_le, iv_wi, iv_wj, jv_wi, jv_wj, u_le, m_take, t_stop, t_flow, f_min, m_out, hku, huk, c_5, c_16, c_31]; rfl))
set_option maxHeartbeats 4000000 in
set_option maxRecDepth 100000 in
theorem c_X1_supply (l : Launch) (D : va_G) (G : w_G) (M : w_M) (k : Nat) (hk : L_int G (k))  : u_Mv l D G yX1_supply cX1_supply 2 none 1 21 [.ref (gP G k)] M (fun M' => M' = m_sup M k) := by
  refine u_bodyv (by decide +kernel) (Nat.le_of_ble_eq_true rfl) rfl (fun p e s m args below meth c A H0 Q C ret => ?_)
  refine u_aload_n C dX1_supply_0 rfl ?_
  refine u_getI C gX1_supply_1 rfl (int_is hk) ?_
  refine u_aload_n C dX1_supply_4 rfl ?_
  refine u_getI C gX1_supply_5 rfl (int_is hk) ?_
  refine u_mmin C dX1_supply_8 ml_RX1_52 wm_min (by decide) (Nat.le_of_ble_eq_true rfl) ?_
  refine u_istore_n C dX1_supply_11 (by decide) ?_
  refine u_aload_n C dX1_supply_12 rfl ?_
  refine u_dup C dX1_supply_13 rfl ?_
  refine u_getI C gX1_supply_14 rfl (int_is hk) ?_
  refine u_iload_n C dX1_supply_17 rfl ?_
  refine u_isub C dX1_supply_18 ?_
  refine u_putI C pX1_supply_19 rfl (int_is hk) ?_
  refine u_aload_n C dX1_supply_22 rfl ?_
  refine u_dup C dX1_supply_23 rfl ?_
  refine u_getI C gX1_supply_24 rfl (int_is hk) ?_
  refine u_aload_n C dX1_supply_27 rfl ?_
  refine u_getI C gX1_supply_28 rfl (int_is hk) ?_
  refine u_iload_n C dX1_supply_31 rfl ?_
  refine u_isub C dX1_supply_32 ?_
  refine u_iadd C dX1_supply_33 ?_
  refine u_putI C pX1_supply_34 rfl (int_is hk) ?_
  exact ret _ _  _ dX1_supply_37  (by skip; simp [-Int32.not_lt, -Int32.not_le, iv_wi, iv_wj, jv_wi, jv_wj, u_le, m_sup, f_min, u_le])
set_option maxHeartbeats 4000000 in
set_option maxRecDepth 100000 in
theorem c_X1_answer (l : Launch) (D : va_G) (G : w_G) (M : w_M) (k : Nat) (w : Nat) (hk : L_int G (k)) (hw : w < 5) : u_Mi l D G yX1_answer cX1_answer 2 (some .int) 0 0 [.ref (gP G k), .int (nI w)] M (fun r M' => r = i_ans M k w ∧ M' = M) := by
  refine u_bodyi (by decide +kernel) (Nat.le_of_ble_eq_true rfl) rfl (fun p e s m args below meth c A H0 Q C ret => ?_)
  refine u_iload_n C dX1_answer_0 rfl ?_
  rcases (show w = 0 ∨ w = 1 ∨ w = 2 ∨ w = 3 ∨ w = 4 by omega) with rfl | rfl | rfl | rfl | rfl
  · refine u_tin (off := 31) (tgt := 32) C dX1_answer_1 (by decide) (by decide) (by decide) (by decide) ?_
    refine u_aload_n C dX1_answer_32 rfl ?_
    refine u_getI C gX1_answer_33 rfl (int_is hk) ?_
    exact ret _ _ _ _ dX1_answer_36  (by simp [i_ans, u_le])
  · refine u_tin (off := 36) (tgt := 37) C dX1_answer_1 (by decide) (by decide) (by decide) (by decide) ?_
    refine u_aload_n C dX1_answer_37 rfl ?_
    refine u_getI C gX1_answer_38 rfl (int_is hk) ?_
    exact ret _ _ _ _ dX1_answer_41  (by simp [i_ans, u_le])
  · refine u_tin (off := 41) (tgt := 42) C dX1_answer_1 (by decide) (by decide) (by decide) (by decide) ?_
    refine u_aload_n C dX1_answer_42 rfl ?_
    refine u_getI C gX1_answer_43 rfl (int_is hk) ?_
    exact ret _ _ _ _ dX1_answer_46  (by simp [i_ans, u_le])
  · refine u_tin (off := 46) (tgt := 47) C dX1_answer_1 (by decide) (by decide) (by decide) (by decide) ?_
    refine u_aload_n C dX1_answer_47 rfl ?_
    refine u_getI C gX1_answer_48 rfl (int_is hk) ?_
    refine u_if_eq (tgt := 58) C dX1_answer_51 (by decide) (fun c_51 => ?_) (fun c_51 => ?_)
    · refine u_iconst (v := 0) C dX1_answer_58 (by decide) ?_
      exact ret _ _ _ _ dX1_answer_59  (by simp [i_ans, c_51])
    · refine u_iconst (v := 1) C dX1_answer_54 (by decide) ?_
      refine u_goto (tgt := 59) C dX1_answer_55 (by decide) ?_
      exact ret _ _ _ _ dX1_answer_59  (by simp [i_ans, c_51])
  · refine u_tout (tgt := 60) C dX1_answer_1 (by decide) (by decide) ?_
    refine u_aload_n C dX1_answer_60 rfl ?_
    refine u_getI C gX1_answer_61 rfl (int_is hk) ?_
    exact ret _ _ _ _ dX1_answer_64  (by simp [i_ans, u_le])
set_option maxHeartbeats 4000000 in
set_option maxRecDepth 100000 in
theorem c_X0_begin (l : Launch) (D : va_G) (G : w_G) (M : w_M) (k : Nat) (hk : L_bar G (k))  : u_Mv l D G yX0_begin cX0_begin 1 none 0 0 [.ref (gP G k)] M (fun M' => M' = wi (wi (wi (wi M k 3 0) k 4 (-1)) k 5 0) k 6 0) := by
  refine u_bodyv (by decide +kernel) (Nat.le_of_ble_eq_true rfl) rfl (fun p e s m args below meth c A H0 Q C ret => ?_)
  refine u_aload_n C dX0_begin_0 rfl ?_
  refine u_iconst (v := 0) C dX0_begin_1 (by decide) ?_
  refine u_putI C pX0_begin_2 rfl (bar_is hk) ?_
  refine u_aload_n C dX0_begin_5 rfl ?_
  refine u_iconst (v := (-1)) C dX0_begin_6 (by decide) ?_
  refine u_putI C pX0_begin_7 rfl (bar_is hk) ?_
  refine u_aload_n C dX0_begin_10 rfl ?_
  refine u_iconst (v := 0) C dX0_begin_11 (by decide) ?_
  refine u_putI C pX0_begin_12 rfl (bar_is hk) ?_
  refine u_aload_n C dX0_begin_15 rfl ?_
  refine u_iconst (v := 0) C dX0_begin_16 (by decide) ?_
  refine u_putZ C pX0_begin_17 rfl (bar_is hk) (by simp) ?_
  exact ret _ _  _ dX0_begin_20  (rfl)
set_option maxHeartbeats 4000000 in
set_option maxRecDepth 100000 in
theorem c_X0_answer (l : Launch) (D : va_G) (G : w_G) (M : w_M) (k : Nat) (i : Nat) (w : Nat) (hk : L_bar G (k)) (hi : i < 500) (hw : w < 3) : u_Mi l D G yX0_answer cX0_answer 3 (some .int) 0 0 [.ref (gP G k), .int (nI i), .int (nI w)] M (fun r M' => r = b_ans M k i w ∧ M' = M) := by
  refine u_bodyi (by decide +kernel) (Nat.le_of_ble_eq_true rfl) rfl (fun p e s m args below meth c A H0 Q C ret => ?_)
  refine u_iload_n C dX0_answer_0 rfl ?_
  rcases (show w = 0 ∨ w = 1 ∨ w = 2 by omega) with rfl | rfl | rfl
  · refine u_look (tgt := 28) C dX0_answer_1 (by decide) rfl (by decide) ?_
    refine u_aload_n C dX0_answer_28 rfl ?_
    refine u_getR (k2 := (k + 7)) C gX0_answer_29 rfl (bar_is hk) (bar_f0 hk) ?_
    refine u_iload_n C dX0_answer_32 rfl ?_
    refine u_ialdN (i := i) C dX0_answer_33 (a500_is (bar_p0 hk)) (a500_n (bar_p0 hk)) hi (by decide) ?_
    exact ret _ _ _ _ dX0_answer_34  (by simp [b_ans, u_le])
  · refine u_look (tgt := 35) C dX0_answer_1 (by decide) rfl (by decide) ?_
    refine u_aload_n C dX0_answer_35 rfl ?_
    refine u_getR (k2 := (k + 8)) C gX0_answer_36 rfl (bar_is hk) (bar_f1 hk) ?_
    refine u_iload_n C dX0_answer_39 rfl ?_
    refine u_ialdN (i := i) C dX0_answer_40 (a500_is (bar_p1 hk)) (a500_n (bar_p1 hk)) hi (by decide) ?_
    exact ret _ _ _ _ dX0_answer_41  (by simp [b_ans, u_le])
  · refine u_look (tgt := 42) C dX0_answer_1 (by decide) rfl (by decide) ?_
    refine u_aload_n C dX0_answer_42 rfl ?_
    refine u_getR (k2 := (k + 9)) C gX0_answer_43 rfl (bar_is hk) (bar_f2 hk) ?_
    refine u_iload_n C dX0_answer_46 rfl ?_
    refine u_zaldN (i := i) C dX0_answer_47 (z500_is (bar_p2 hk)) (z500_n (bar_p2 hk)) hi (by decide) ?_
    refine u_if_eq (tgt := 55) C dX0_answer_48 (by decide) (fun c_48 => ?_) (fun c_48 => ?_)
    · refine u_iconst (v := 0) C dX0_answer_55 (by decide) ?_
      exact ret _ _ _ _ dX0_answer_56  (by simp [b_ans, c_48])
    · refine u_iconst (v := 1) C dX0_answer_51 (by decide) ?_
      refine u_goto (tgt := 56) C dX0_answer_52 (by decide) ?_
      exact ret _ _ _ _ dX0_answer_56  (by simp [b_ans, c_48])
set_option maxHeartbeats 4000000 in
set_option maxRecDepth 100000 in
theorem c_X0_look (l : Launch) (D : va_G) (G : w_G) (M : w_M) (s0 : Nat) (t : Nat) (h_bar : L_bar G (s0 + 1)) (hs0 : L_sea G (s0)) (hn : cB (iv M s0 3) 6) (hm : cB (iv M s0 4) 20) (hl : cB (iv M (s0 + 1) 5) 12) (hc : cB (iv M (s0 + 1) 3) 500) (ht : t < 1000) : u_Mv l D G yX0_look cX0_look 5 none 3 69 [.ref (gP G (s0 + 1)), .ref (gP G s0), .int (nI t)] M (fun M' => M' = m_look M (s0 + 1) s0 t) := by
  obtain ⟨ld, hl12, hl⟩ := hl
  obtain ⟨n, hn5, hc⟩ := hc
  have en : cN (iv M (s0 + 1) 3) = n := by rw [hc]; exact cN_nI (by omega)
  have el : cN (iv M (s0 + 1) 5) = ld := by rw [hl]; exact cN_nI (by omega)
  refine u_bodyv (by decide +kernel) (Nat.le_of_ble_eq_true rfl) rfl (fun p e s m args below meth c A H0 Q C ret => ?_)
  have J2 : ∀ (M2 : w_M) (n2 : Nat), n2 ≤ 500 → iv M2 (s0 + 1) 3 = nI n2 → cB (iv M2 s0 3) 6 → cB (iv M2 s0 4) 20 → m_look M (s0 + 1) s0 t = m_lk3 M2 (s0 + 1) s0 t → u_S p l e (u_rm 3 69) s m args below meth c 5 D A H0 0 0 Q 94 [(0, .ref (gP G (s0 + 1))), (1, .ref (gP G s0)), (2, .int (nI t))] [] G M2 := by
    intro M2 n2 hn2 e2 hs3 hs4 hM
    have en2 : cN (iv M2 (s0 + 1) 3) = n2 := by rw [e2]; exact cN_nI (by omega)
    refine u_aload_n C dX0_look_94 rfl ?_
    refine u_getI C gX0_look_95 rfl (bar_is h_bar) ?_
    rw [e2]
    refine u_iconst (v := 1) C dX0_look_98 (by decide) ?_
    refine u_isub C dX0_look_99 ?_
    refine u_istore C dX0_look_100 (by decide) ?_
    refine u_iload C dX0_look_102 rfl ?_
    refine u_if_lt (tgt := 149) C dX0_look_104 (by decide) (fun c_104 => ?_) (fun c_104 => ?_)
    · exact ret _ _  _ dX0_look_149  (by (try simp only [u_le, Decidable.not_not] at c_104); (try simp [iv_wi, -Int32.not_lt, -Int32.not_le] at c_128); (try simp [iv_wi, -Int32.not_lt, -Int32.not_le] at c_140); rw [hM, m_lk3, en2]; first | (rw [if_pos (by rcases n2 with _ | i; rfl; exact absurd c_104 (by rw [nI_pred]; exact nI_pos (by omega)))]; done) | (simp [iv_wi, -Int32.not_lt, -Int32.not_le, Nat.add_assoc, c_104]; done) | (simp [iv_wi, -Int32.not_lt, -Int32.not_le, Nat.add_assoc, c_104]; rfl))
    · obtain ⟨i, rfl⟩ : ∃ i, n2 = i + 1 := by rcases n2 with _ | i; exact absurd (by decide) c_104; exact ⟨i, rfl⟩
      rw [nI_pred]
      refine u_aload_n C dX0_look_107 rfl ?_
      refine u_getR (k2 := (s0 + 9)) C gX0_look_108 rfl (bar_is h_bar) (bar_f1 h_bar) ?_
      refine u_iload C dX0_look_111 rfl ?_
      refine u_iload_n C dX0_look_113 rfl ?_
      refine u_iastN (i := i) C dX0_look_114 (a500_is (bar_p1 h_bar)) (a500_n (bar_p1 h_bar)) (by omega) (by decide) ?_
      refine u_aload_n C dX0_look_115 rfl ?_
      refine u_getR (k2 := (s0 + 10)) C gX0_look_116 rfl (bar_is h_bar) (bar_f2 h_bar) ?_
      refine u_iload C dX0_look_119 rfl ?_
      refine u_aload_n C dX0_look_121 rfl ?_
      refine u_getR (k2 := (s0 + 10)) C gX0_look_122 rfl (bar_is h_bar) (bar_f2 h_bar) ?_
      refine u_iload C dX0_look_125 rfl ?_
      refine u_zaldN (i := i) C dX0_look_127 (z500_is (bar_p2 h_bar)) (z500_n (bar_p2 h_bar)) (by omega) (by decide) ?_
      refine u_if_ne (tgt := 143) C dX0_look_128 (by decide) (fun c_128 => ?_) (fun c_128 => ?_)
      · refine u_iconst (v := 1) C dX0_look_143 (by decide) ?_
        refine u_goto (tgt := 148) C dX0_look_144 (by decide) ?_
        refine u_zastN (i := i) C dX0_look_148 (z500_is (bar_p2 h_bar)) (z500_n (bar_p2 h_bar)) (by omega) (by decide) (by simp) ?_
        exact ret _ _  _ dX0_look_149  (by (try simp only [u_le, Decidable.not_not] at c_104 c_128); (try simp [iv_wi, -Int32.not_lt, -Int32.not_le] at c_128); (try simp [iv_wi, -Int32.not_lt, -Int32.not_le] at c_140); rw [hM, m_lk3, en2]; first | (rw [if_pos (by rcases n2 with _ | i; rfl; exact absurd c_104 (by rw [nI_pred]; exact nI_pos (by omega)))]; done) | (simp [iv_wi, -Int32.not_lt, -Int32.not_le, Nat.add_assoc, c_104, c_128]; done) | (simp [iv_wi, -Int32.not_lt, -Int32.not_le, Nat.add_assoc, c_104, c_128]; rfl))
      · refine u_aload_n C dX0_look_131 rfl ?_
        refine u_iload_n C dX0_look_132 rfl ?_
        refine u_calliV1 C ev_X5_foretold dX0_look_133 ml_RX0_42 (sea_is hs0) rfl (by decide) (c_X5_foretold l D G _ _ _ hs0 (by simpa [iv_wi] using hs3) (by simpa [iv_wi] using hs4)) (by decide) (Nat.le_of_ble_eq_true rfl) (fun r_133 M_133 q_133 => ?_)
        obtain ⟨rfl, e_133⟩ := q_133
        subst M_133
        refine u_aload_n C dX0_look_136 rfl ?_
        refine u_getI C gX0_look_137 rfl (bar_is h_bar) ?_
        refine u_icmp_le (tgt := 147) C dX0_look_140 (by decide) (fun c_140 => ?_) (fun c_140 => ?_)
        · refine u_iconst (v := 0) C dX0_look_147 (by decide) ?_
          refine u_zastN (i := i) C dX0_look_148 (z500_is (bar_p2 h_bar)) (z500_n (bar_p2 h_bar)) (by omega) (by decide) (by simp) ?_
          exact ret _ _  _ dX0_look_149  (by (try simp only [u_le, Decidable.not_not] at c_104 c_128 c_140); (try simp [iv_wi, -Int32.not_lt, -Int32.not_le] at c_128); (try simp [iv_wi, -Int32.not_lt, -Int32.not_le] at c_140); rw [hM, m_lk3, en2]; first | (rw [if_pos (by rcases n2 with _ | i; rfl; exact absurd c_104 (by rw [nI_pred]; exact nI_pos (by omega)))]; done) | (simp [iv_wi, -Int32.not_lt, -Int32.not_le, Nat.add_assoc, c_104, c_128, c_140]; done) | (simp [iv_wi, -Int32.not_lt, -Int32.not_le, Nat.add_assoc, c_104, c_128, c_140]; rfl))
        · refine u_iconst (v := 1) C dX0_look_143 (by decide) ?_
          refine u_goto (tgt := 148) C dX0_look_144 (by decide) ?_
          refine u_zastN (i := i) C dX0_look_148 (z500_is (bar_p2 h_bar)) (z500_n (bar_p2 h_bar)) (by omega) (by decide) (by simp) ?_
          exact ret _ _  _ dX0_look_149  (by (try simp only [u_le, Decidable.not_not] at c_104 c_128 c_140); (try simp [iv_wi, -Int32.not_lt, -Int32.not_le] at c_128); (try simp [iv_wi, -Int32.not_lt, -Int32.not_le] at c_140); rw [hM, m_lk3, en2]; first | (rw [if_pos (by rcases n2 with _ | i; rfl; exact absurd c_104 (by rw [nI_pred]; exact nI_pos (by omega)))]; done) | (simp [iv_wi, -Int32.not_lt, -Int32.not_le, Nat.add_assoc, c_104, c_128, c_140]; done) | (simp [iv_wi, -Int32.not_lt, -Int32.not_le, Nat.add_assoc, c_104, c_128, c_140]; rfl))
  have J1 : ∀ (b : Int32), b = (if b_clo M (s0 + 1) s0 t = true then 1 else 0) → u_S p l e (u_rm 3 69) s m args below meth c 5 D A H0 0 0 Q 37 [(0, .ref (gP G (s0 + 1))), (1, .ref (gP G s0)), (2, .int (nI t)), (3, .int (iv M (s0 + 1) 6))] [.int b, .ref (gP G (s0 + 1))] G M := by
    intro b hb9
    refine u_putZ C pX0_look_37 rfl (bar_is h_bar) (by rw [hb9]; split <;> simp) ?_
    refine u_aload_n C dX0_look_40 rfl ?_
    refine u_getI C gX0_look_41 rfl (bar_is h_bar) ?_
    rw [show iv (wi M (s0 + 1) 6 b) (s0 + 1) 6 = b from by simp [iv_wi]]
    refine u_if_ne (tgt := 48) C dX0_look_44 (by decide) (fun c_44 => ?_) (fun c_44 => ?_)
    · have hcl : b_clo M (s0 + 1) s0 t = true := by cases hq : b_clo M (s0 + 1) s0 t <;> simp_all
      obtain rfl : b = 1 := by rw [hb9, if_pos hcl]
      refine u_iload_n C dX0_look_48 rfl ?_
      refine u_if_ne (tgt := 94) C dX0_look_49 (by decide) (fun c_49 => ?_) (fun c_49 => ?_)
      · exact u_loc [0, 1, 2] rfl (J2 _ n hn5 (by simp [iv_wi, hc]) (by simpa [iv_wi] using hn) (by simpa [iv_wi] using hm) (by simp [m_look, hcl, en, c_49]))
      · refine u_aload_n C dX0_look_52 rfl ?_
        refine u_getI C gX0_look_53 rfl (bar_is h_bar) ?_
        rw [show iv (wi M (s0 + 1) 6 1) (s0 + 1) 3 = nI n from by simp [iv_wi, hc]]
        refine u_aload_n C dX0_look_56 rfl ?_
        refine u_getR (k2 := (s0 + 8)) C gX0_look_57 rfl (bar_is h_bar) (bar_f0 h_bar) ?_
        refine u_alenI C dX0_look_60 (a500_is (bar_p0 h_bar)) ?_
        rw [a500_n (bar_p0 h_bar)]
        refine u_icmp_ge (tgt := 94) C dX0_look_61 (by decide) (fun c_61 => ?_) (fun c_61 => ?_)
        · have h9 : ¬ n < 500 := fun q => absurd c_61 (nI_ge q (by decide))
          exact u_loc [0, 1, 2] rfl (J2 _ n hn5 (by simp [iv_wi, hc]) (by simpa [iv_wi] using hn) (by simpa [iv_wi] using hm) (by simp [m_look, hcl, en, h9]))
        · have hn9 : n < 500 := u_lt c_61 (by omega)
          refine u_aload_n C dX0_look_64 rfl ?_
          refine u_getR (k2 := (s0 + 8)) C gX0_look_65 rfl (bar_is h_bar) (bar_f0 h_bar) ?_
          refine u_aload_n C dX0_look_68 rfl ?_
          refine u_getI C gX0_look_69 rfl (bar_is h_bar) ?_
          rw [show iv (wi M (s0 + 1) 6 1) (s0 + 1) 3 = nI n from by simp [iv_wi, hc]]
          refine u_iload_n C dX0_look_72 rfl ?_
          refine u_iastN (i := n) C dX0_look_73 (a500_is (bar_p0 h_bar)) (a500_n (bar_p0 h_bar)) (by omega) (by decide) ?_
          refine u_aload_n C dX0_look_74 rfl ?_
          refine u_getR (k2 := (s0 + 10)) C gX0_look_75 rfl (bar_is h_bar) (bar_f2 h_bar) ?_
          refine u_aload_n C dX0_look_78 rfl ?_
          refine u_getI C gX0_look_79 rfl (bar_is h_bar) ?_
          rw [show iv (wi (wi M (s0 + 1) 6 1) (s0 + 8) n (nI t)) (s0 + 1) 3 = nI n from by simp [iv_wi, hc]]
          refine u_iconst (v := 0) C dX0_look_82 (by decide) ?_
          refine u_zastN (i := n) C dX0_look_83 (z500_is (bar_p2 h_bar)) (z500_n (bar_p2 h_bar)) (by omega) (by decide) (by decide) ?_
          refine u_aload_n C dX0_look_84 rfl ?_
          refine u_dup C dX0_look_85 rfl ?_
          refine u_getI C gX0_look_86 rfl (bar_is h_bar) ?_
          refine u_iconst (v := 1) C dX0_look_89 (by decide) ?_
          refine u_iadd C dX0_look_90 ?_
          refine u_putI C pX0_look_91 rfl (bar_is h_bar) ?_
          exact u_loc [0, 1, 2] rfl (J2 _ (n + 1) (by omega) (by simp [iv_wi, hc, nI_1]) (by simpa [iv_wi] using hn) (by simpa [iv_wi] using hm) (by simp [m_look, hcl, show cN (nI n) = n from cN_nI (by omega), m_lk2, c_49, hn9, iv_wi, Nat.add_assoc, hc]))
    · exact ret _ _  _ dX0_look_47  (by have hq : b_clo M (s0 + 1) s0 t = false := (by cases hq : b_clo M (s0 + 1) s0 t <;> simp_all); simp [m_look, hq, c_44])
  refine u_aload_n C dX0_look_0 rfl ?_
  refine u_getI C gX0_look_1 rfl (bar_is h_bar) ?_
  refine u_istore_n C dX0_look_4 (by decide) ?_
  refine u_aload_n C dX0_look_5 rfl ?_
  refine u_aload_n C dX0_look_6 rfl ?_
  refine u_getI C gX0_look_7 rfl (bar_is h_bar) ?_
  refine u_iconst (v := (-1)) C dX0_look_10 (by decide) ?_
  refine u_icmp_eq (tgt := 36) C dX0_look_11 (by decide) (fun c_11 => ?_) (fun c_11 => ?_)
  · refine u_iconst (v := 0) C dX0_look_36 (by decide) ?_
    exact u_loc [0, 1, 2, 3] rfl (J1 _ (by first | (rw [show t + ld + 1 - t = ld + 1 by omega] at c_29; simp [b_clo, el, c_11] at c_29 ⊢; simp [c_29]; done) | (simp [b_clo, c_11]; done)))
  · refine u_aload_n C dX0_look_14 rfl ?_
    refine u_aload_n C dX0_look_15 rfl ?_
    refine u_getI C gX0_look_16 rfl (bar_is h_bar) ?_
    refine u_iload_n C dX0_look_19 rfl ?_
    refine u_iload_n C dX0_look_20 rfl ?_
    refine u_aload_n C dX0_look_21 rfl ?_
    refine u_getI C gX0_look_22 rfl (bar_is h_bar) ?_
    rw [hl]
    refine u_iadd C dX0_look_25 ?_
    rw [nI_add]
    refine u_calliV3 C ev_X5_foretoldAbove dX0_look_26 ml_RX0_36 (sea_is hs0) rfl (by decide) (c_X5_foretoldAbove l D G _ _ _ _ _ hs0 hn hm (by omega) (by omega)) (by decide) (Nat.le_of_ble_eq_true rfl) (fun r_26 M_26 q_26 => ?_)
    obtain ⟨rfl, e_26⟩ := q_26
    subst M_26
    refine u_if_eq (tgt := 36) C dX0_look_29 (by decide) (fun c_29 => ?_) (fun c_29 => ?_)
    · refine u_iconst (v := 0) C dX0_look_36 (by decide) ?_
      exact u_loc [0, 1, 2, 3] rfl (J1 _ (by first | (rw [show t + ld + 1 - t = ld + 1 by omega] at c_29; simp [b_clo, el, c_11] at c_29 ⊢; simp [c_29]; done) | (simp [b_clo, c_11]; done)))
    · refine u_iconst (v := 1) C dX0_look_32 (by decide) ?_
      refine u_goto (tgt := 37) C dX0_look_33 (by decide) ?_
      exact u_loc [0, 1, 2, 3] rfl (J1 _ (by first | (rw [show t + ld + 1 - t = ld + 1 by omega] at c_29; simp [b_clo, el, c_11] at c_29 ⊢; simp [c_29]; done) | (simp [b_clo, c_11]; done)))
