def okM (M : w_M) (Y : Nat) : Prop := okS M Y ∧ cB (iv M Y 16) 8 ∧ cB (iv M Y 25) 6 ∧ cB (iv M Y 36) 6 ∧ cB (iv M Y 12) 1000 ∧ cB (iv M Y 11) 12 ∧ (∀ s, s < cN (iv M Y 16) → ¬ iv M (Y + 17) s = 0) ∧ (∀ k, k < cN (iv M Y 25) → ∃ s, s < cN (iv M Y 16) ∧ iv M (Y + 26) k = nI s) ∧ ∀ k, k < cN (iv M Y 36) → (∃ s, s < cN (iv M Y 16) ∧ iv M (Y + 37) k = nI s) ∧ cB (iv M (Y + 39) k) 24
def g_go (M : w_M) (Y : Nat) : Bool := decide (¬ iv M Y 12 ≤ 0) && decide (iv M (Y + 14) (cN (iv M Y 12) - 1) = iv M Y 1 - 1)
def g_c1 (M : w_M) (Y : Nat) : w_M := if g_go M Y = true then M else wi (wi M (Y + 13) (cN (iv M Y 12)) (iv M Y 1)) Y 12 (iv M Y 12 + 1)
def g_c2 (M : w_M) (Y c : Nat) (h : Int32) : w_M := wi (wi M (Y + 14) (c - 1) (iv M Y 1)) (Y + 15) (c - 1) (if iv (wi M (Y + 14) (c - 1) (iv M Y 1)) (Y + 15) (c - 1) = 0 then (if iv (wi M (Y + 14) (c - 1) (iv M Y 1)) Y 10 < h then 1 else 0) else 1)
def g_cl (M : w_M) (Y : Nat) (h : Int32) : w_M := g_c2 (g_c1 M Y) Y (cN (iv (g_c1 M Y) Y 12)) h
def g_abv (M : w_M) (Y : Nat) (mark : Int32) : Nat → Nat → Bool
  | 0, _ => false
  | c + 1, j => if mark < g_sea M Y j then true else g_abv M Y mark c (j + 1)
def g_shut (M : w_M) (Y : Nat) : Bool := if iv M Y 10 = -1 then false else g_abv M Y (iv M Y 10) (cN (iv M Y 11) + 1) (cN (iv M Y 1))
theorem u_fWm {v : Int32} {n : Nat} (hn : n < 2 ^ 30) (h : ¬ fW v 0 (nI n - 1) = 0) : ∃ i, i < n ∧ v = nI i := by
  unfold fW at h
  by_cases q : 0 ≤ v ∧ v ≤ nI n - 1
  · rcases n with _ | n
    · obtain ⟨q1, q2⟩ := q
      rw [Int32.le_iff_toInt_le] at q1 q2
      have e1 : (nI 0 - 1 : Int32).toInt = -1 := rfl
      have e0 : (0 : Int32).toInt = 0 := rfl
      omega
    · rw [nI_pred] at q
      obtain ⟨j, hj, rfl⟩ := nI_of (fun z => absurd q.1 (Int32.not_le.mpr z))
      exact ⟨j, by have := (nI_leI hj (by omega)).mp q.2; omega, rfl⟩
  · rw [if_neg q] at h; exact absurd rfl h
set_option maxHeartbeats 1000000 in
set_option maxRecDepth 100000 in
theorem c_X11_closes (l : Launch) (D : va_G) (G : w_G) (M : w_M) (Y : Nat) (h : Int32) (hY : L_mdl G (Y)) (ok : okM M Y) : u_Mv l D G yX11_closes cX11_closes 3 none 0 0 [.ref (gP G Y), .int h] M (fun M' => M' = g_cl M Y h) := by
  obtain ⟨okS9, o16, o25, o36, o12, o11, oA, oI, oO⟩ := id ok
  obtain ⟨o1, o3, o5, oT⟩ := id okS9
  obtain ⟨o1a, o1b⟩ := cB_le o1 (by decide)
  obtain ⟨o3a, o3b⟩ := cB_le o3 (by decide)
  obtain ⟨o5a, o5b⟩ := cB_le o5 (by decide)
  obtain ⟨o11a, o11b⟩ := cB_le o11 (by decide)
  obtain ⟨o12a, o12b⟩ := cB_le o12 (by decide)
  obtain ⟨o16a, o16b⟩ := cB_le o16 (by decide)
  obtain ⟨o25a, o25b⟩ := cB_le o25 (by decide)
  obtain ⟨o36a, o36b⟩ := cB_le o36 (by decide)
  refine u_bodyv (by decide +kernel) (Nat.le_of_ble_eq_true rfl) rfl (fun p e s m args below meth c A H0 Q C ret => ?_)
  have J2 : ∀ (M1 : w_M) (n1 : Nat), 0 < n1 → n1 ≤ 1001 → iv M1 Y 12 = nI n1 → M1 = g_c1 M Y → u_S p l e (u_rm 0 0) s m args below meth c 3 D A H0 0 0 Q 60 [(0, .ref (gP G Y)), (1, .int h)] [] G M1 := by
    intro M1 n1 hn0 hn9 hn1 hM1
    have hn1a : ∀ (k i : Nat) (x : Int32), k ≠ Y → iv (wi M1 k i x) Y 12 = nI n1 := fun k i x hk => by rw [iv_wi, if_neg (fun z => hk z.1.symm)]; exact hn1
    have en : cN (iv (g_c1 M Y) Y 12) = n1 := by rw [← hM1, hn1]; exact cN_nI (by omega)
    refine u_aload_n C dX11_closes_60 rfl ?_
    refine u_getR (k2 := (Y + 14)) C gX11_closes_61 rfl (mdl_is hY) (mdl_f14 hY) ?_
    refine u_aload_n C dX11_closes_64 rfl ?_
    refine u_getIv (x := nI n1) C gX11_closes_65 rfl (mdl_is hY) (by first | exact hn1 | simp [iv_wi, hn1]) ?_
    refine u_iconst (v := (nI 1)) C dX11_closes_68 (by decide) ?_
    refine u_isub C dX11_closes_69 ?_
    rw [show nI n1 - nI 1 = nI (n1 - 1) from u_nsub1 hn0]
    refine u_aload_n C dX11_closes_70 rfl ?_
    refine u_getI C gX11_closes_71 rfl (mdl_is hY) ?_
    refine u_iastN (i := n1 - 1) C dX11_closes_74 (a1001_is (mdl_p14 hY)) (a1001_n (mdl_p14 hY)) (by omega) (by decide) ?_
    refine u_aload_n C dX11_closes_75 rfl ?_
    refine u_getR (k2 := (Y + 15)) C gX11_closes_76 rfl (mdl_is hY) (mdl_f15 hY) ?_
    refine u_aload_n C dX11_closes_79 rfl ?_
    refine u_getIv (x := nI n1) C gX11_closes_80 rfl (mdl_is hY) (by first | exact hn1 | simp [iv_wi, hn1]) ?_
    refine u_iconst (v := (nI 1)) C dX11_closes_83 (by decide) ?_
    refine u_isub C dX11_closes_84 ?_
    rw [show nI n1 - nI 1 = nI (n1 - 1) from u_nsub1 hn0]
    refine u_aload_n C dX11_closes_85 rfl ?_
    refine u_getR (k2 := (Y + 15)) C gX11_closes_86 rfl (mdl_is hY) (mdl_f15 hY) ?_
    refine u_aload_n C dX11_closes_89 rfl ?_
    refine u_getIv (x := nI n1) C gX11_closes_90 rfl (mdl_is hY) (by first | exact hn1 | simp [iv_wi, hn1]) ?_
    refine u_iconst (v := (nI 1)) C dX11_closes_93 (by decide) ?_
    refine u_isub C dX11_closes_94 ?_
    rw [show nI n1 - nI 1 = nI (n1 - 1) from u_nsub1 hn0]
    refine u_zaldN (i := n1 - 1) C dX11_closes_95 (z1001_is (mdl_p15 hY)) (z1001_n (mdl_p15 hY)) (by omega) (by decide) ?_
    refine u_if_ne (tgt := 107) C dX11_closes_96 (by decide) (fun c_96 => ?_) (fun c_96 => ?_)
    · refine u_iconst (v := 1) C dX11_closes_107 (by decide) ?_
      refine u_goto (tgt := 112) C dX11_closes_108 (by decide) ?_
      refine u_zastN (i := n1 - 1) C dX11_closes_112 (z1001_is (mdl_p15 hY)) (z1001_n (mdl_p15 hY)) (by omega) (by decide) (by simp) ?_
      exact ret _ _  _ dX11_closes_113  (by (try simp only [u_le, Decidable.not_not] at c_96); rw [g_cl, ← hM1] at *; rw [en]; simp only [g_c2]; first | (rw [if_neg c_96]; done) | (rw [if_pos c_96, if_pos c_104]; done) | (rw [if_pos c_96, if_neg c_104]; done) | (rw [if_neg c_96]; rfl) | (rw [if_pos c_96, if_pos c_104]; rfl) | (rw [if_pos c_96, if_neg c_104]; rfl))
    · refine u_iload_n C dX11_closes_99 rfl ?_
      refine u_aload_n C dX11_closes_100 rfl ?_
      refine u_getI C gX11_closes_101 rfl (mdl_is hY) ?_
      refine u_icmp_le (tgt := 111) C dX11_closes_104 (by decide) (fun c_104 => ?_) (fun c_104 => ?_)
      · refine u_iconst (v := 0) C dX11_closes_111 (by decide) ?_
        refine u_zastN (i := n1 - 1) C dX11_closes_112 (z1001_is (mdl_p15 hY)) (z1001_n (mdl_p15 hY)) (by omega) (by decide) (by simp) ?_
        exact ret _ _  _ dX11_closes_113  (by (try simp only [u_le, Decidable.not_not] at c_96 c_104); rw [g_cl, ← hM1] at *; rw [en]; simp only [g_c2]; first | (rw [if_neg c_96]; done) | (rw [if_pos c_96, if_pos c_104]; done) | (rw [if_pos c_96, if_neg c_104]; done) | (rw [if_neg c_96]; rfl) | (rw [if_pos c_96, if_pos c_104]; rfl) | (rw [if_pos c_96, if_neg c_104]; rfl))
      · refine u_iconst (v := 1) C dX11_closes_107 (by decide) ?_
        refine u_goto (tgt := 112) C dX11_closes_108 (by decide) ?_
        refine u_zastN (i := n1 - 1) C dX11_closes_112 (z1001_is (mdl_p15 hY)) (z1001_n (mdl_p15 hY)) (by omega) (by decide) (by simp) ?_
        exact ret _ _  _ dX11_closes_113  (by (try simp only [u_le, Decidable.not_not] at c_96 c_104); rw [g_cl, ← hM1] at *; rw [en]; simp only [g_c2]; first | (rw [if_neg c_96]; done) | (rw [if_pos c_96, if_pos c_104]; done) | (rw [if_pos c_96, if_neg c_104]; done) | (rw [if_neg c_96]; rfl) | (rw [if_pos c_96, if_pos c_104]; rfl) | (rw [if_pos c_96, if_neg c_104]; rfl))
  have J0 : ∀ n1 : Nat, iv M Y 12 = nI n1 → n1 ≤ 1000 → u_S p l e (u_rm 0 0) s m args below meth c 3 D A H0 0 0 Q 0 [(0, .ref (gP G Y)), (1, .int h)] [] G M := by
    intro n1 hn1 hn9
    have en : cN (iv M Y 12) = n1 := by rw [hn1]; exact cN_nI (by omega)
    refine u_aload_n C dX11_closes_0 rfl ?_
    refine u_getI C gX11_closes_1 rfl (mdl_is hY) ?_
    refine u_if_le (tgt := 31) C dX11_closes_4 (by decide) (fun c_4 => ?_) (fun c_4 => ?_)
    · refine u_iconst (v := 0) C dX11_closes_31 (by decide) ?_
      refine u_istore_n C dX11_closes_32 (by decide) ?_
      refine u_iload_n C dX11_closes_33 rfl ?_
      refine u_if_ne (tgt := 60) C dX11_closes_34 (by decide) (fun c_34 => ?_) (fun c_34 => ?_)
      · exact absurd c_34 (by decide)
      · refine u_aload_n C dX11_closes_37 rfl ?_
        refine u_getR (k2 := (Y + 13)) C gX11_closes_38 rfl (mdl_is hY) (mdl_f13 hY) ?_
        refine u_aload_n C dX11_closes_41 rfl ?_
        refine u_getIv (x := nI n1) C gX11_closes_42 rfl (mdl_is hY) (by first | exact hn1 | simp [iv_wi, hn1]) ?_
        refine u_aload_n C dX11_closes_45 rfl ?_
        refine u_getI C gX11_closes_46 rfl (mdl_is hY) ?_
        refine u_iastN (i := n1) C dX11_closes_49 (a1001_is (mdl_p13 hY)) (a1001_n (mdl_p13 hY)) (by omega) (by decide) ?_
        refine u_aload_n C dX11_closes_50 rfl ?_
        refine u_dup C dX11_closes_51 rfl ?_
        refine u_getI C gX11_closes_52 rfl (mdl_is hY) ?_
        refine u_iconst (v := 1) C dX11_closes_55 (by decide) ?_
        refine u_iadd C dX11_closes_56 ?_
        refine u_putI C pX11_closes_57 rfl (mdl_is hY) ?_
        exact u_loc [0, 1] rfl (J2 _ (n1 + 1) (by omega) (by omega) (by simp [iv_wi, hn1, nI_1]) (by (try simp only [u_le, Decidable.not_not] at c_4 c_34); rw [g_c1, if_neg (by simp [-Int32.not_lt, -Int32.not_le, g_go, en, u_le, c_4]), en]; simp [iv_wi]))
    · have hpos : 0 < n1 := by rcases n1 with _ | n1; exact absurd (by rw [hn1]; decide) c_4; omega
      refine u_aload_n C dX11_closes_7 rfl ?_
      refine u_getR (k2 := (Y + 14)) C gX11_closes_8 rfl (mdl_is hY) (mdl_f14 hY) ?_
      refine u_aload_n C dX11_closes_11 rfl ?_
      refine u_getIv (x := nI n1) C gX11_closes_12 rfl (mdl_is hY) (by first | exact hn1 | simp [iv_wi, hn1]) ?_
      refine u_iconst (v := (nI 1)) C dX11_closes_15 (by decide) ?_
      refine u_isub C dX11_closes_16 ?_
      rw [show nI n1 - nI 1 = nI (n1 - 1) from u_nsub1 hpos]
      refine u_ialdN (i := n1 - 1) C dX11_closes_17 (a1001_is (mdl_p14 hY)) (a1001_n (mdl_p14 hY)) (by omega) (by decide) ?_
      refine u_aload_n C dX11_closes_18 rfl ?_
      refine u_getI C gX11_closes_19 rfl (mdl_is hY) ?_
      refine u_iconst (v := 1) C dX11_closes_22 (by decide) ?_
      refine u_isub C dX11_closes_23 ?_
      refine u_icmp_ne (tgt := 31) C dX11_closes_24 (by decide) (fun c_24 => ?_) (fun c_24 => ?_)
      · refine u_iconst (v := 0) C dX11_closes_31 (by decide) ?_
        refine u_istore_n C dX11_closes_32 (by decide) ?_
        refine u_iload_n C dX11_closes_33 rfl ?_
        refine u_if_ne (tgt := 60) C dX11_closes_34 (by decide) (fun c_34 => ?_) (fun c_34 => ?_)
        · exact absurd c_34 (by decide)
        · refine u_aload_n C dX11_closes_37 rfl ?_
          refine u_getR (k2 := (Y + 13)) C gX11_closes_38 rfl (mdl_is hY) (mdl_f13 hY) ?_
          refine u_aload_n C dX11_closes_41 rfl ?_
          refine u_getIv (x := nI n1) C gX11_closes_42 rfl (mdl_is hY) (by first | exact hn1 | simp [iv_wi, hn1]) ?_
          refine u_aload_n C dX11_closes_45 rfl ?_
          refine u_getI C gX11_closes_46 rfl (mdl_is hY) ?_
          refine u_iastN (i := n1) C dX11_closes_49 (a1001_is (mdl_p13 hY)) (a1001_n (mdl_p13 hY)) (by omega) (by decide) ?_
          refine u_aload_n C dX11_closes_50 rfl ?_
          refine u_dup C dX11_closes_51 rfl ?_
          refine u_getI C gX11_closes_52 rfl (mdl_is hY) ?_
          refine u_iconst (v := 1) C dX11_closes_55 (by decide) ?_
          refine u_iadd C dX11_closes_56 ?_
          refine u_putI C pX11_closes_57 rfl (mdl_is hY) ?_
          exact u_loc [0, 1] rfl (J2 _ (n1 + 1) (by omega) (by omega) (by simp [iv_wi, hn1, nI_1]) (by (try simp only [u_le, Decidable.not_not] at c_4 c_24 c_34); rw [g_c1, if_neg (by simp [-Int32.not_lt, -Int32.not_le, g_go, en, u_le, c_4, c_24]), en]; simp [iv_wi]))
      · refine u_iconst (v := 1) C dX11_closes_27 (by decide) ?_
        refine u_goto (tgt := 32) C dX11_closes_28 (by decide) ?_
        refine u_istore_n C dX11_closes_32 (by decide) ?_
        refine u_iload_n C dX11_closes_33 rfl ?_
        refine u_if_ne (tgt := 60) C dX11_closes_34 (by decide) (fun c_34 => ?_) (fun c_34 => ?_)
        · exact u_loc [0, 1] rfl (J2 _ n1 hpos (by omega) hn1 (by (try simp only [u_le, Decidable.not_not] at c_4 c_24 c_34); rw [g_c1, if_pos (by simp [-Int32.not_lt, -Int32.not_le, g_go, en, u_le, c_4, c_24])]))
        · exact absurd c_34 (by decide)
  exact u_loc [0, 1] rfl (J0 _ o12a o12b)
set_option maxHeartbeats 1000000 in
set_option maxRecDepth 100000 in
theorem c_X11_isShutNow (l : Launch) (D : va_G) (G : w_G) (M : w_M) (Y : Nat) (hY : L_mdl G (Y)) (ok : okM M Y) : u_Mi l D G yX11_isShutNow cX11_isShutNow 3 (some .boolean) 2 49 [.ref (gP G Y)] M (fun r M' => r = (if g_shut M Y = true then 1 else 0) ∧ M' = M) := by
  obtain ⟨okS9, o16, o25, o36, o12, o11, oA, oI, oO⟩ := id ok
  obtain ⟨o1, o3, o5, oT⟩ := id okS9
  obtain ⟨o1a, o1b⟩ := cB_le o1 (by decide)
  obtain ⟨o3a, o3b⟩ := cB_le o3 (by decide)
  obtain ⟨o5a, o5b⟩ := cB_le o5 (by decide)
  obtain ⟨o11a, o11b⟩ := cB_le o11 (by decide)
  obtain ⟨o12a, o12b⟩ := cB_le o12 (by decide)
  obtain ⟨o16a, o16b⟩ := cB_le o16 (by decide)
  obtain ⟨o25a, o25b⟩ := cB_le o25 (by decide)
  obtain ⟨o36a, o36b⟩ := cB_le o36 (by decide)
  refine u_bodyz (by decide +kernel) (Nat.le_of_ble_eq_true rfl) rfl (fun p e s m args below meth c A H0 Q C ret => ?_)
  have loop1 : ∀ (d j : Nat) (b x2 : Int32), (b = 0 ∨ b = 1) → cN (iv M Y 1) ≤ j → j ≤ cN (iv M Y 1) + cN (iv M Y 11) + 1 → cN (iv M Y 1) + cN (iv M Y 11) + 1 - j < d → x2 = nI j → (iv M Y 10 = -1 → b = 0) → (¬ iv M Y 10 = -1 → g_shut M Y = (decide (b = 1) || g_abv M Y (iv M Y 10) (cN (iv M Y 1) + cN (iv M Y 11) + 1 - j) j)) → u_S p l e (u_rm 2 49) s m args below meth c 3 D A H0 0 0 Q 7 [(0, .ref (gP G Y)), (1, .int b), (2, .int x2)] [] G M := by
    intro d
    induction d with
    | zero => intro j b x2 hb h1 hj hd; omega
    | succ d ih =>
      intro j b x2 hb h1 hj hd h2 hm hres
      subst h2
      refine u_iload_n C dX11_isShutNow_7 rfl ?_
      refine u_aload_n C dX11_isShutNow_8 rfl ?_
      refine u_getIv (x := nI (cN (iv M Y 1))) C gX11_isShutNow_9 rfl (mdl_is hY) o1a ?_
      refine u_aload_n C dX11_isShutNow_12 rfl ?_
      refine u_getIv (x := nI (cN (iv M Y 11))) C gX11_isShutNow_13 rfl (mdl_is hY) o11a ?_
      refine u_iadd C dX11_isShutNow_16 ?_
      rw [nI_add]
      refine u_icmp_gt (tgt := 56) C dX11_isShutNow_17 (by decide) (fun c_17 => ?_) (fun c_17 => ?_)
      · refine u_iload_n C dX11_isShutNow_56 rfl ?_
        exact ret _ _ _ _ dX11_isShutNow_57 hb (by refine ⟨?_, rfl⟩; by_cases q : iv M Y 10 = -1; (rw [hm q, g_shut, if_pos q]; rfl); first | (exact absurd c_25 q) | (have hlt := u_ltI c_17 (by omega) (by omega); rw [hres q, show cN (iv M Y 1) + cN (iv M Y 11) + 1 - j = 0 by omega]; rcases hb with rfl | rfl <;> rfl))
      · have hle : ¬ cN (iv M Y 1) + cN (iv M Y 11) < j := fun q => c_17 (nI_lt q (by omega))
        obtain ⟨c9, hc⟩ : ∃ c9, cN (iv M Y 1) + cN (iv M Y 11) + 1 - j = c9 + 1 := ⟨cN (iv M Y 1) + cN (iv M Y 11) - j, by omega⟩
        refine u_aload_n C dX11_isShutNow_20 rfl ?_
        refine u_getI C gX11_isShutNow_21 rfl (mdl_is hY) ?_
        refine u_iconst (v := (-1)) C dX11_isShutNow_24 (by decide) ?_
        refine u_icmp_eq (tgt := 56) C dX11_isShutNow_25 (by decide) (fun c_25 => ?_) (fun c_25 => ?_)
        · refine u_iload_n C dX11_isShutNow_56 rfl ?_
          exact ret _ _ _ _ dX11_isShutNow_57 hb (by refine ⟨?_, rfl⟩; by_cases q : iv M Y 10 = -1; (rw [hm q, g_shut, if_pos q]; rfl); first | (exact absurd c_25 q) | (have hlt := u_ltI c_17 (by omega) (by omega); rw [hres q, show cN (iv M Y 1) + cN (iv M Y 11) + 1 - j = 0 by omega]; rcases hb with rfl | rfl <;> rfl))
        · refine u_iload_n C dX11_isShutNow_28 rfl ?_
          refine u_if_ne (tgt := 44) C dX11_isShutNow_29 (by decide) (fun c_29 => ?_) (fun c_29 => ?_)
          · refine u_iconst (v := 1) C dX11_isShutNow_44 (by decide) ?_
            refine u_goto (tgt := 49) C dX11_isShutNow_45 (by decide) ?_
            refine u_istore_n C dX11_isShutNow_49 (by decide) ?_
            refine u_iinc C dX11_isShutNow_50 (by decide) rfl ?_
            refine u_goto (tgt := 7) C dX11_isShutNow_53 (by decide) ?_
            exact u_loc [0, 1, 2] rfl (ih (j + 1) _ _ (by simp) (by omega) (by omega) (by omega) (nI_1 j) (fun q => absurd q c_25) (fun _ => by (try simp only [u_le, Decidable.not_not] at c_17 c_25 c_29); rw [hres c_25, hc, show cN (iv M Y 1) + cN (iv M Y 11) + 1 - (j + 1) = c9 by omega]; first | (have hb1 : b = 1 := (by rcases hb with q | q; exact absurd q c_29; exact q); simp [hb1]; done) | (simp [g_abv, c_17, c_25, c_29]; done)))
          · refine u_aload_n C dX11_isShutNow_32 rfl ?_
            refine u_iload_n C dX11_isShutNow_33 rfl ?_
            refine u_calliV1 C ev_X11_seaOf dX11_isShutNow_34 ml_RX11_169 (mdl_is hY) rfl (by decide) (c_X11_seaOf l D G _ _ _ hY okS9 (by omega)) (by decide) (Nat.le_of_ble_eq_true rfl) (fun r_34 M_34 q_34 => ?_)
            obtain ⟨rfl, e_34⟩ := q_34
            subst M_34
            refine u_aload_n C dX11_isShutNow_37 rfl ?_
            refine u_getI C gX11_isShutNow_38 rfl (mdl_is hY) ?_
            refine u_icmp_le (tgt := 48) C dX11_isShutNow_41 (by decide) (fun c_41 => ?_) (fun c_41 => ?_)
            · refine u_iconst (v := 0) C dX11_isShutNow_48 (by decide) ?_
              refine u_istore_n C dX11_isShutNow_49 (by decide) ?_
              refine u_iinc C dX11_isShutNow_50 (by decide) rfl ?_
              refine u_goto (tgt := 7) C dX11_isShutNow_53 (by decide) ?_
              exact u_loc [0, 1, 2] rfl (ih (j + 1) _ _ (by simp) (by omega) (by omega) (by omega) (nI_1 j) (fun q => absurd q c_25) (fun _ => by (try simp only [u_le, Decidable.not_not] at c_17 c_25 c_29 c_41); rw [hres c_25, hc, show cN (iv M Y 1) + cN (iv M Y 11) + 1 - (j + 1) = c9 by omega]; first | (have hb1 : b = 1 := (by rcases hb with q | q; exact absurd q c_29; exact q); simp [hb1]; done) | (simp [g_abv, c_17, c_25, c_29, c_41]; done)))
            · refine u_iconst (v := 1) C dX11_isShutNow_44 (by decide) ?_
              refine u_goto (tgt := 49) C dX11_isShutNow_45 (by decide) ?_
              refine u_istore_n C dX11_isShutNow_49 (by decide) ?_
              refine u_iinc C dX11_isShutNow_50 (by decide) rfl ?_
              refine u_goto (tgt := 7) C dX11_isShutNow_53 (by decide) ?_
              exact u_loc [0, 1, 2] rfl (ih (j + 1) _ _ (by simp) (by omega) (by omega) (by omega) (nI_1 j) (fun q => absurd q c_25) (fun _ => by (try simp only [u_le, Decidable.not_not] at c_17 c_25 c_29 c_41); rw [hres c_25, hc, show cN (iv M Y 1) + cN (iv M Y 11) + 1 - (j + 1) = c9 by omega]; first | (have hb1 : b = 1 := (by rcases hb with q | q; exact absurd q c_29; exact q); simp [hb1]; done) | (simp [g_abv, c_17, c_25, c_29, c_41]; done)))
  refine u_iconst (v := 0) C dX11_isShutNow_0 (by decide) ?_
  refine u_istore_n C dX11_isShutNow_1 (by decide) ?_
  refine u_aload_n C dX11_isShutNow_2 rfl ?_
  refine u_getIv (x := nI (cN (iv M Y 1))) C gX11_isShutNow_3 rfl (mdl_is hY) o1a ?_
  refine u_istore_n C dX11_isShutNow_6 (by decide) ?_
  exact u_loc [0, 1, 2] rfl (loop1 (cN (iv M Y 11) + 2) _ 0 _ (Or.inl rfl) (Nat.le_refl _) (by omega) (by omega) rfl (fun _ => rfl) (fun q => by rw [g_shut, if_neg q, show cN (iv M Y 1) + cN (iv M Y 11) + 1 - cN (iv M Y 1) = cN (iv M Y 11) + 1 by omega]; simp))
