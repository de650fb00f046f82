theorem u_ge2 {a b c : Nat} (ha : a < 2 ^ 30) (hb : b < 2 ^ 30) (hc : c < 2 ^ 30) : nI c ≤ nI a - nI b ↔ (c : Int) ≤ (a : Int) - b := by
  rw [Int32.le_iff_toInt_le, pk_sub_toInt ha hb, nI_toInt (by omega)]
theorem u_lt2 {a b : Nat} (ha : a < 2 ^ 30) (hb : b < 2 ^ 30) : nI a - nI b < 0 ↔ a < b := by
  rw [Int32.lt_iff_toInt_lt, pk_sub_toInt ha hb]
  show _ < (0 : Int) ↔ _
  omega
theorem u_cl (a b : Nat) : nI a - nI b + 1 = nI (a + 1) - nI b := by
  rw [← nI_1, Int32.sub_eq_add_neg, Int32.sub_eq_add_neg, Int32.add_assoc, Int32.add_comm (-nI b) 1, ← Int32.add_assoc]
set_option maxHeartbeats 1000000 in
set_option maxRecDepth 100000 in
theorem c_X11_isClosed (l : Launch) (D : va_G) (G : w_G) (M : w_M) (Y : Nat) (v : Int32) (hY : L_mdl G (Y)) (ok : okM M Y) : u_Mi l D G yX11_isClosed cX11_isClosed 4 (some .boolean) 1 22 [.ref (gP G Y), .int v] M (fun r M' => (¬ gk_cls v (iv M Y 36) = 0 → M' = wi M Y 0 (nI (gk_cls v (iv M Y 36)))) ∧ (gk_cls v (iv M Y 36) = 0 → r = (if g_fr (wi M Y 0 0) Y (cN (iv M (Y + 37) (cN v))) (iv M (Y + 38) (cN v)) (cN (iv M (Y + 39) (cN v))) (cN (iv M Y 1)) (cN (iv M (Y + 39) (cN v))) 0 = true then 1 else 0) ∧ M' = (wi M Y 0 0))) := by
  obtain ⟨okS9, o16, o25, o36, o12, o11, oA, oI, oO⟩ := id ok
  obtain ⟨o1, o3, o5, oT⟩ := id okS9
  obtain ⟨o1a, o1b⟩ := cB_le o1 (by decide)
  obtain ⟨o3a, o3b⟩ := cB_le o3 (by decide)
  obtain ⟨o5a, o5b⟩ := cB_le o5 (by decide)
  obtain ⟨o11a, o11b⟩ := cB_le o11 (by decide)
  obtain ⟨o12a, o12b⟩ := cB_le o12 (by decide)
  obtain ⟨o16a, o16b⟩ := cB_le o16 (by decide)
  obtain ⟨o25a, o25b⟩ := cB_le o25 (by decide)
  obtain ⟨o36a, o36b⟩ := cB_le o36 (by decide)
  refine u_bodyz (by decide +kernel) (Nat.le_of_ble_eq_true rfl) rfl (fun p e s m args below meth c A H0 Q C ret => ?_)
  have loop1 : ∀ (i s9 hs : Nat), v = nI i → 0 = gk_cls v (iv M Y 36) → i < 6 → s9 < 8 → hs ≤ 24 → iv M (Y + 37) i = nI s9 → iv M (Y + 39) i = nI hs → ∀ (d j : Nat) (b x3 : Int32), (b = 0 ∨ b = 1) → j ≤ hs → hs - j < d → x3 = nI (cN (iv M Y 1) + j) - nI hs → g_fr (wi M Y 0 0) Y s9 (iv M (Y + 38) i) hs (cN (iv M Y 1)) hs 0 = (decide (b = 1) || g_fr (wi M Y 0 0) Y s9 (iv M (Y + 38) i) hs (cN (iv M Y 1)) (hs - j) j) → u_S p l e (u_rm 1 22) s m args below meth c 4 D A H0 0 0 Q 42 [(0, .ref (gP G Y)), (1, .int (nI i)), (2, .int b), (3, .int x3)] [] G (wi M Y 0 0) := by
    intro i s9 hs hvi hgk hi6 hs8 hs24 hat hhs d
    induction d with
    | zero => intro j b x3 hb hj hd; omega
    | succ d ih =>
      intro j b x3 hb hj hd h3 hres
      subst h3
      refine u_iload_n C dX11_isClosed_42 rfl ?_
      refine u_aload_n C dX11_isClosed_43 rfl ?_
      refine u_getI C gX11_isClosed_44 rfl (mdl_is hY) ?_
      rw [show iv (wi M Y 0 0) Y 1 = nI (cN (iv M Y 1)) from by rw [kp_Z (Or.inr (by decide))]; exact o1a]
      refine u_icmp_ge (tgt := 96) C dX11_isClosed_47 (by decide) (fun c_47 => ?_) (fun c_47 => ?_)
      · have hge : hs ≤ j := by have z := (u_ge2 (by omega) (by omega) (by omega)).mp c_47; omega
        refine u_iload_n C dX11_isClosed_96 rfl ?_
        exact ret _ _ _ _ dX11_isClosed_97 hb (⟨fun q => absurd hgk.symm q, fun _ => ⟨by rw [hvi, cN_nI (n := i) (by omega), hat, hhs, cN_nI (n := s9) (by omega), cN_nI (n := hs) (by omega), hres, show hs - j = 0 by omega]; rcases hb with rfl | rfl <;> rfl, rfl⟩⟩)
      · have hlt : j < hs := by have z : ¬ ((cN (iv M Y 1) : Int) ≤ ((cN (iv M Y 1) + j : Nat) : Int) - hs) := fun q => c_47 ((u_ge2 (by omega) (by omega) (by omega)).mpr q); omega
        obtain ⟨c9, hc⟩ : ∃ c9, hs - j = c9 + 1 := ⟨hs - j - 1, by omega⟩
        refine u_iload_n C dX11_isClosed_50 rfl ?_
        refine u_if_ne (tgt := 84) C dX11_isClosed_51 (by decide) (fun c_51 => ?_) (fun c_51 => ?_)
        · refine u_iconst (v := 1) C dX11_isClosed_84 (by decide) ?_
          refine u_goto (tgt := 89) C dX11_isClosed_85 (by decide) ?_
          refine u_istore_n C dX11_isClosed_89 (by decide) ?_
          refine u_iinc C dX11_isClosed_90 (by decide) rfl ?_
          refine u_goto (tgt := 42) C dX11_isClosed_93 (by decide) ?_
          exact u_loc [0, 1, 2, 3] rfl (ih (j + 1) _ _ (by simp) (by omega) (by omega) (by first | exact u_cl _ _ | (rw [← pk_sub hle]; exact u_cl _ _)) (by (try simp only [kp_Z (M := M) (Y := Y) (x := 0) (a := Y + 38) (j := i) (Or.inl (by omega))] at c_81); (try simp only [u_le, Decidable.not_not] at c_47 c_51); rw [hres, hc, show hs - (j + 1) = c9 by omega]; first | (have hb1 : b = 1 := (by rcases hb with q | q; exact absurd q c_51; exact q); simp [hb1]; done) | (have hng : ¬ hs ≤ cN (iv M Y 1) + j := (by have z := (u_lt2 (by omega) (by omega)).mp c_55; omega); simp [g_fr, hng, c_51]; done) | (simp [g_fr, hle, c_51, c_81]; done)))
        · refine u_iload_n C dX11_isClosed_54 rfl ?_
          refine u_if_lt (tgt := 88) C dX11_isClosed_55 (by decide) (fun c_55 => ?_) (fun c_55 => ?_)
          · refine u_iconst (v := 0) C dX11_isClosed_88 (by decide) ?_
            refine u_istore_n C dX11_isClosed_89 (by decide) ?_
            refine u_iinc C dX11_isClosed_90 (by decide) rfl ?_
            refine u_goto (tgt := 42) C dX11_isClosed_93 (by decide) ?_
            exact u_loc [0, 1, 2, 3] rfl (ih (j + 1) _ _ (by simp) (by omega) (by omega) (by first | exact u_cl _ _ | (rw [← pk_sub hle]; exact u_cl _ _)) (by (try simp only [kp_Z (M := M) (Y := Y) (x := 0) (a := Y + 38) (j := i) (Or.inl (by omega))] at c_81); (try simp only [u_le, Decidable.not_not] at c_47 c_51 c_55); rw [hres, hc, show hs - (j + 1) = c9 by omega]; first | (have hb1 : b = 1 := (by rcases hb with q | q; exact absurd q c_51; exact q); simp [hb1]; done) | (have hng : ¬ hs ≤ cN (iv M Y 1) + j := (by have z := (u_lt2 (by omega) (by omega)).mp c_55; omega); simp [g_fr, hng, c_51]; done) | (simp [g_fr, hle, c_51, c_81]; done)))
          · have hle : hs ≤ cN (iv M Y 1) + j := by have z : ¬ cN (iv M Y 1) + j < hs := fun q => c_55 ((u_lt2 (by omega) (by omega)).mpr q); omega
            rw [pk_sub hle]
            refine u_aload_n C dX11_isClosed_58 rfl ?_
            refine u_getR (k2 := (Y + 24)) C gX11_isClosed_59 rfl (mdl_is hY) (mdl_f24 hY) ?_
            refine u_sipush (v := (nI 1001)) C dX11_isClosed_62 (by decide) ?_
            refine u_aload_n C dX11_isClosed_65 rfl ?_
            refine u_getR (k2 := (Y + 37)) C gX11_isClosed_66 rfl (mdl_is hY) (mdl_f37 hY) ?_
            refine u_iload_n C dX11_isClosed_69 rfl ?_
            refine u_ialdNv (x := nI s9) (i := i) C dX11_isClosed_70 (a6_is (mdl_p37 hY)) (a6_n (mdl_p37 hY)) (by omega) (by decide) (by rw [kp_Z (Or.inl (by omega))]; exact hat) ?_
            refine u_imul C dX11_isClosed_71 ?_
            rw [pk_mul (1001) (s9)]
            refine u_iload_n C dX11_isClosed_72 rfl ?_
            refine u_iadd C dX11_isClosed_73 ?_
            rw [nI_add (1001 * s9) (cN (iv M Y 1) + j - hs)]
            refine u_ialdN (i := (1001 * s9) + (cN (iv M Y 1) + j - hs)) C dX11_isClosed_74 (a8008_is (mdl_p24 hY)) (a8008_n (mdl_p24 hY)) (by omega) (by decide) ?_
            refine u_aload_n C dX11_isClosed_75 rfl ?_
            refine u_getR (k2 := (Y + 38)) C gX11_isClosed_76 rfl (mdl_is hY) (mdl_f38 hY) ?_
            refine u_iload_n C dX11_isClosed_79 rfl ?_
            refine u_ialdN (i := i) C dX11_isClosed_80 (a6_is (mdl_p38 hY)) (a6_n (mdl_p38 hY)) (by omega) (by decide) ?_
            refine u_icmp_ge (tgt := 88) C dX11_isClosed_81 (by decide) (fun c_81 => ?_) (fun c_81 => ?_)
            · refine u_iconst (v := 0) C dX11_isClosed_88 (by decide) ?_
              refine u_istore_n C dX11_isClosed_89 (by decide) ?_
              refine u_iinc C dX11_isClosed_90 (by decide) rfl ?_
              refine u_goto (tgt := 42) C dX11_isClosed_93 (by decide) ?_
              exact u_loc [0, 1, 2, 3] rfl (ih (j + 1) _ _ (by simp) (by omega) (by omega) (by first | exact u_cl _ _ | (rw [← pk_sub hle]; exact u_cl _ _)) (by (try simp only [kp_Z (M := M) (Y := Y) (x := 0) (a := Y + 38) (j := i) (Or.inl (by omega))] at c_81); (try simp only [u_le, Decidable.not_not] at c_47 c_51 c_55 c_81); rw [hres, hc, show hs - (j + 1) = c9 by omega]; first | (have hb1 : b = 1 := (by rcases hb with q | q; exact absurd q c_51; exact q); simp [hb1]; done) | (have hng : ¬ hs ≤ cN (iv M Y 1) + j := (by have z := (u_lt2 (by omega) (by omega)).mp c_55; omega); simp [g_fr, hng, c_51]; done) | (simp [g_fr, hle, c_51, c_81]; done)))
            · refine u_iconst (v := 1) C dX11_isClosed_84 (by decide) ?_
              refine u_goto (tgt := 89) C dX11_isClosed_85 (by decide) ?_
              refine u_istore_n C dX11_isClosed_89 (by decide) ?_
              refine u_iinc C dX11_isClosed_90 (by decide) rfl ?_
              refine u_goto (tgt := 42) C dX11_isClosed_93 (by decide) ?_
              exact u_loc [0, 1, 2, 3] rfl (ih (j + 1) _ _ (by simp) (by omega) (by omega) (by first | exact u_cl _ _ | (rw [← pk_sub hle]; exact u_cl _ _)) (by (try simp only [kp_Z (M := M) (Y := Y) (x := 0) (a := Y + 38) (j := i) (Or.inl (by omega))] at c_81); (try simp only [u_le, Decidable.not_not] at c_47 c_51 c_55 c_81); rw [hres, hc, show hs - (j + 1) = c9 by omega]; first | (have hb1 : b = 1 := (by rcases hb with q | q; exact absurd q c_51; exact q); simp [hb1]; done) | (have hng : ¬ hs ≤ cN (iv M Y 1) + j := (by have z := (u_lt2 (by omega) (by omega)).mp c_55; omega); simp [g_fr, hng, c_51]; done) | (simp [g_fr, hle, c_51, c_81]; done)))
  have J0 : ∀ kq : Nat, kq = gk_cls v (iv M Y 36) → kq < 4 → u_S p l e (u_rm 1 22) s m args below meth c 4 D A H0 0 0 Q 20 [(0, .ref (gP G Y)), (1, .int v)] [.int (nI kq), .ref (gP G Y)] G M := by
    intro kq hkq hk4
    refine u_calliV1 C ev_X11_holds dX11_isClosed_20 ml_RX11_116 (mdl_is hY) rfl (by decide) (c_X11_holds l D G _ _ _ hY ) (by decide) (Nat.le_of_ble_eq_true rfl) (fun r_20 M_20 q_20 => ?_)
    obtain ⟨rfl, e_20⟩ := q_20
    subst M_20
    refine u_if_ne (tgt := 28) C dX11_isClosed_23 (by decide) (fun c_23 => ?_) (fun c_23 => ?_)
    · obtain rfl : kq = 0 := by rcases Nat.eq_zero_or_pos kq with q | q; exact q; exact absurd (if_neg (nI_ne0 q (by omega))) c_23
      rw [show nI 0 = (0 : Int32) from rfl]
      have hs9 : ¬ fW v 0 (iv M Y 36 - 1) = 0 := fun q => absurd hkq.symm (by rw [gk_cls, if_pos q]; decide)
      obtain ⟨i, hin, rfl⟩ := u_fWm (n := cN (iv M Y 36)) (by omega) (by rw [← o36a]; exact hs9)
      have ei : cN (nI i) = i := cN_nI (by omega)
      obtain ⟨⟨s9, hs8, hat⟩, hs, hs24, hhs⟩ := oO i hin
      refine u_iconst (v := 0) C dX11_isClosed_28 (by decide) ?_
      refine u_istore_n C dX11_isClosed_29 (by decide) ?_
      refine u_aload_n C dX11_isClosed_30 rfl ?_
      refine u_getI C gX11_isClosed_31 rfl (mdl_is hY) ?_
      rw [show iv (wi M Y 0 0) Y 1 = nI (cN (iv M Y 1)) from by rw [kp_Z (Or.inr (by decide))]; exact o1a]
      refine u_aload_n C dX11_isClosed_34 rfl ?_
      refine u_getR (k2 := (Y + 39)) C gX11_isClosed_35 rfl (mdl_is hY) (mdl_f39 hY) ?_
      refine u_iload_n C dX11_isClosed_38 rfl ?_
      refine u_ialdNv (x := nI hs) (i := i) C dX11_isClosed_39 (a6_is (mdl_p39 hY)) (a6_n (mdl_p39 hY)) (by omega) (by decide) (by rw [kp_Z (Or.inl (by omega))]; exact hhs) ?_
      refine u_isub C dX11_isClosed_40 ?_
      refine u_istore_n C dX11_isClosed_41 (by decide) ?_
      exact u_loc [0, 1, 2, 3] rfl (loop1 i s9 hs rfl hkq (by omega) (by omega) hs24 hat hhs (hs + 1) 0 0 _ (Or.inl rfl) (by omega) (by omega) rfl (by simp))
    · have hk0 : ¬ kq = 0 := fun q => by rw [q, if_pos (show nI 0 = 0 from rfl)] at c_23; exact absurd c_23 (by decide)
      refine u_iconst (v := 0) C dX11_isClosed_26 (by decide) ?_
      exact ret _ _ _ _ dX11_isClosed_27 (by simp) (by first | exact ⟨fun _ => by rw [← hkq], fun q => absurd (hkq.trans q) hk0⟩ | exact ⟨fun q => absurd hkq.symm q, fun _ => ⟨rfl, rfl⟩⟩)
  refine u_aload_n C dX11_isClosed_0 rfl ?_
  refine u_iload_n C dX11_isClosed_1 rfl ?_
  refine u_iconst (v := 0) C dX11_isClosed_2 (by decide) ?_
  refine u_aload_n C dX11_isClosed_3 rfl ?_
  refine u_getI C gX11_isClosed_4 rfl (mdl_is hY) ?_
  refine u_iconst (v := 1) C dX11_isClosed_7 (by decide) ?_
  refine u_isub C dX11_isClosed_8 ?_
  refine u_calliS3 C es_X11_isIn dX11_isClosed_9 ml_RX11_109 (c_X11_isIn l D G _ _ _ _  ) (by decide) (Nat.le_of_ble_eq_true rfl) (fun r_9 M_9 q_9 => ?_)
  obtain ⟨rfl, e_9⟩ := q_9
  subst M_9
  refine u_if_eq (tgt := 19) C dX11_isClosed_12 (by decide) (fun c_12 => ?_) (fun c_12 => ?_)
  · refine u_iconst (v := 1) C dX11_isClosed_19 (by decide) ?_
    exact u_loc [0, 1] rfl (J0 1 (by (try simp only [u_le, Decidable.not_not] at c_12); simp [-Int32.not_lt, -Int32.not_le, gk_cls, u_le, c_12]) (by decide))
  · refine u_iconst (v := 0) C dX11_isClosed_15 (by decide) ?_
    refine u_goto (tgt := 20) C dX11_isClosed_16 (by decide) ?_
    exact u_loc [0, 1] rfl (J0 0 (by (try simp only [u_le, Decidable.not_not] at c_12); simp [-Int32.not_lt, -Int32.not_le, gk_cls, u_le, c_12]) (by decide))
set_option maxHeartbeats 1000000 in
set_option maxRecDepth 100000 in
theorem c_X11_intrusion (l : Launch) (D : va_G) (G : w_G) (M : w_M) (Y : Nat) (g9 : Int32) (hY : L_mdl G (Y)) (ok : okM M Y) : u_Mi l D G yX11_intrusion cX11_intrusion 3 (some .int) 1 23 [.ref (gP G Y), .int g9] M (fun r M' => (¬ kc_itr g9 = 0 → M' = wi M Y 0 (nI (kc_itr g9))) ∧ (kc_itr g9 = 0 → r = nI (g_itr (wi M Y 0 0) Y g9 (cN (iv M Y 16)) 0) ∧ M' = (wi M Y 0 0))) := by
  obtain ⟨okS9, o16, o25, o36, o12, o11, oA, oI, oO⟩ := id ok
  obtain ⟨o1, o3, o5, oT⟩ := id okS9
  obtain ⟨o1a, o1b⟩ := cB_le o1 (by decide)
  obtain ⟨o3a, o3b⟩ := cB_le o3 (by decide)
  obtain ⟨o5a, o5b⟩ := cB_le o5 (by decide)
  obtain ⟨o11a, o11b⟩ := cB_le o11 (by decide)
  obtain ⟨o12a, o12b⟩ := cB_le o12 (by decide)
  obtain ⟨o16a, o16b⟩ := cB_le o16 (by decide)
  obtain ⟨o25a, o25b⟩ := cB_le o25 (by decide)
  obtain ⟨o36a, o36b⟩ := cB_le o36 (by decide)
  refine u_bodyi (by decide +kernel) (Nat.le_of_ble_eq_true rfl) rfl (fun p e s m args below meth c A H0 Q C ret => ?_)
  have loop1 : ∀ (d j : Nat) (x2 : Int32), 0 = kc_itr g9 → j ≤ cN (iv M Y 16) → cN (iv M Y 16) - j < d → x2 = nI j → g_itr (wi M Y 0 0) Y g9 (cN (iv M Y 16)) 0 = g_itr (wi M Y 0 0) Y g9 (cN (iv M Y 16) - j) j → u_S p l e (u_rm 1 23) s m args below meth c 3 D A H0 0 0 Q 26 [(0, .ref (gP G Y)), (1, .int g9), (2, .int x2)] [] G (wi M Y 0 0) := by
    intro d
    induction d with
    | zero => intro j x2 hgk hj hd; omega
    | succ d ih =>
      intro j x2 hgk hj hd h2 hres
      subst h2
      refine u_iload_n C dX11_intrusion_26 rfl ?_
      refine u_aload_n C dX11_intrusion_27 rfl ?_
      refine u_getI C gX11_intrusion_28 rfl (mdl_is hY) ?_
      rw [show iv (wi M Y 0 0) Y 16 = nI (cN (iv M Y 16)) from by rw [kp_Z (Or.inr (by decide))]; exact o16a]
      refine u_icmp_ge (tgt := 50) C dX11_intrusion_31 (by decide) (fun c_31 => ?_) (fun c_31 => ?_)
      · refine u_iload_n C dX11_intrusion_50 rfl ?_
        exact ret _ _ _ _ dX11_intrusion_51  (⟨fun q => absurd hgk.symm q, fun _ => ⟨by first | (rw [hres, hc]; simp [g_itr, c_41]; done) | (have hge := u_gei c_31 (by omega) (by omega); rw [hres, show cN (iv M Y 16) - j = 0 by omega]; simp [g_itr]), rfl⟩⟩)
      · have hlt : j < cN (iv M Y 16) := u_lt c_31 (by omega)
        obtain ⟨c9, hc⟩ : ∃ c9, cN (iv M Y 16) - j = c9 + 1 := ⟨cN (iv M Y 16) - j - 1, by omega⟩
        refine u_aload_n C dX11_intrusion_34 rfl ?_
        refine u_iconst (v := (nI 1)) C dX11_intrusion_35 (by decide) ?_
        refine u_iload_n C dX11_intrusion_36 rfl ?_
        refine u_calliV2 C ev_X11_salinity dX11_intrusion_37 ml_RX11_182 (mdl_is hY) rfl (by decide) (c_X11_salinity l D G _ _ _ _ hY (by decide) (by omega)) (by decide) (Nat.le_of_ble_eq_true rfl) (fun r_37 M_37 q_37 => ?_)
        obtain ⟨rfl, e_37⟩ := q_37
        subst M_37
        refine u_iload_n C dX11_intrusion_40 rfl ?_
        refine u_icmp_lt (tgt := 50) C dX11_intrusion_41 (by decide) (fun c_41 => ?_) (fun c_41 => ?_)
        · refine u_iload_n C dX11_intrusion_50 rfl ?_
          exact ret _ _ _ _ dX11_intrusion_51  (⟨fun q => absurd hgk.symm q, fun _ => ⟨by first | (rw [hres, hc]; simp [g_itr, c_41]; done) | (have hge := u_gei c_31 (by omega) (by omega); rw [hres, show cN (iv M Y 16) - j = 0 by omega]; simp [g_itr]), rfl⟩⟩)
        · refine u_iinc C dX11_intrusion_44 (by decide) rfl ?_
          refine u_goto (tgt := 26) C dX11_intrusion_47 (by decide) ?_
          exact u_loc [0, 1, 2] rfl (ih (j + 1) _ hgk (by omega) (by omega) (nI_1 j) (by (try simp only [u_le, Decidable.not_not] at c_31 c_41); rw [hres, hc, show cN (iv M Y 16) - (j + 1) = c9 by omega]; simp [g_itr, c_31, c_41]))
  have J0 : ∀ kq : Nat, kq = kc_itr g9 → kq < 4 → u_S p l e (u_rm 1 23) s m args below meth c 3 D A H0 0 0 Q 16 [(0, .ref (gP G Y)), (1, .int g9)] [.int (nI kq), .ref (gP G Y)] G M := by
    intro kq hkq hk4
    refine u_calliV1 C ev_X11_holds dX11_intrusion_16 ml_RX11_116 (mdl_is hY) rfl (by decide) (c_X11_holds l D G _ _ _ hY ) (by decide) (Nat.le_of_ble_eq_true rfl) (fun r_16 M_16 q_16 => ?_)
    obtain ⟨rfl, e_16⟩ := q_16
    subst M_16
    refine u_if_ne (tgt := 24) C dX11_intrusion_19 (by decide) (fun c_19 => ?_) (fun c_19 => ?_)
    · obtain rfl : kq = 0 := by rcases Nat.eq_zero_or_pos kq with q | q; exact q; exact absurd (if_neg (nI_ne0 q (by omega))) c_19
      rw [show nI 0 = (0 : Int32) from rfl]
      refine u_iconst (v := 0) C dX11_intrusion_24 (by decide) ?_
      refine u_istore_n C dX11_intrusion_25 (by decide) ?_
      exact u_loc [0, 1, 2] rfl (loop1 (cN (iv M Y 16) + 1) 0 _ hkq (by omega) (by omega) nI_0.symm rfl)
    · have hk0 : ¬ kq = 0 := fun q => by rw [q, if_pos (show nI 0 = 0 from rfl)] at c_19; exact absurd c_19 (by decide)
      refine u_iconst (v := 0) C dX11_intrusion_22 (by decide) ?_
      exact ret _ _ _ _ dX11_intrusion_23  (by first | exact ⟨fun _ => by rw [← hkq], fun q => absurd (hkq.trans q) hk0⟩ | exact ⟨fun q => absurd hkq.symm q, fun _ => ⟨rfl, rfl⟩⟩)
  refine u_aload_n C dX11_intrusion_0 rfl ?_
  refine u_iload_n C dX11_intrusion_1 rfl ?_
  refine u_iconst (v := 1) C dX11_intrusion_2 (by decide) ?_
  refine u_bipush (v := 30) C dX11_intrusion_3 (by decide) ?_
  refine u_calliS3 C es_X11_isIn dX11_intrusion_5 ml_RX11_109 (c_X11_isIn l D G _ _ _ _  ) (by decide) (Nat.le_of_ble_eq_true rfl) (fun r_5 M_5 q_5 => ?_)
  obtain ⟨rfl, e_5⟩ := q_5
  subst M_5
  refine u_if_eq (tgt := 15) C dX11_intrusion_8 (by decide) (fun c_8 => ?_) (fun c_8 => ?_)
  · refine u_iconst (v := 1) C dX11_intrusion_15 (by decide) ?_
    exact u_loc [0, 1] rfl (J0 1 (by (try simp only [u_le, Decidable.not_not] at c_8); simp [-Int32.not_lt, -Int32.not_le, kc_itr, u_le, c_8]) (by decide))
  · refine u_iconst (v := 0) C dX11_intrusion_11 (by decide) ?_
    refine u_goto (tgt := 16) C dX11_intrusion_12 (by decide) ?_
    exact u_loc [0, 1] rfl (J0 0 (by (try simp only [u_le, Decidable.not_not] at c_8); simp [-Int32.not_lt, -Int32.not_le, kc_itr, u_le, c_8]) (by decide))
set_option maxHeartbeats 1000000 in
set_option maxRecDepth 100000 in
theorem c_X11_window (l : Launch) (D : va_G) (G : w_G) (M : w_M) (Y : Nat) (kl : Int32) (h : Int32) (hY : L_mdl G (Y)) (ok : okM M Y) : u_Mi l D G yX11_window cX11_window 6 (some .int) 2 49 [.ref (gP G Y), .int kl, .int h] M (fun r M' => (¬ kc_win kl h (iv M Y 16) = 0 → M' = wi M Y 0 (nI (kc_win kl h (iv M Y 16)))) ∧ (kc_win kl h (iv M Y 16) = 0 → r = g_win (wi M Y 0 0) Y (iv M (Y + 18) 0 / iv M (Y + 17) 0) kl (nI (cN h)) (100 + cN h) (cN (iv M Y 1)) 0 ∧ M' = (wi M Y 0 0))) := by
  obtain ⟨okS9, o16, o25, o36, o12, o11, oA, oI, oO⟩ := id ok
  obtain ⟨o1, o3, o5, oT⟩ := id okS9
  obtain ⟨o1a, o1b⟩ := cB_le o1 (by decide)
  obtain ⟨o3a, o3b⟩ := cB_le o3 (by decide)
  obtain ⟨o5a, o5b⟩ := cB_le o5 (by decide)
  obtain ⟨o11a, o11b⟩ := cB_le o11 (by decide)
  obtain ⟨o12a, o12b⟩ := cB_le o12 (by decide)
  obtain ⟨o16a, o16b⟩ := cB_le o16 (by decide)
  obtain ⟨o25a, o25b⟩ := cB_le o25 (by decide)
  obtain ⟨o36a, o36b⟩ := cB_le o36 (by decide)
  refine u_bodyi (by decide +kernel) (Nat.le_of_ble_eq_true rfl) rfl (fun p e s m args below meth c A H0 Q C ret => ?_)
  have loop1 : ∀ t : Nat, h = nI t → 0 = kc_win kl h (iv M Y 16) → t ≤ 24 → 0 < cN (iv M Y 16) → ∀ (d j : Nat) (x4 x5 : Int32), j ≤ cN (iv M Y 1) + 100 + t → cN (iv M Y 1) + 100 + t - j < d → x5 = nI j → g_win (wi M Y 0 0) Y (iv M (Y + 18) 0 / iv M (Y + 17) 0) kl (nI t) (100 + t) (cN (iv M Y 1)) 0 = g_win (wi M Y 0 0) Y (iv M (Y + 18) 0 / iv M (Y + 17) 0) kl (nI t) (cN (iv M Y 1) + 100 + t - j) j x4 → u_S p l e (u_rm 2 49) s m args below meth c 6 D A H0 0 0 Q 65 [(0, .ref (gP G Y)), (1, .int kl), (2, .int (nI t)), (4, .int x4), (5, .int x5)] [] G (wi M Y 0 0) := by
    intro t hh hgk ht24 hpos d
    induction d with
    | zero => intro j x4 x5 hj hd; omega
    | succ d ih =>
      intro j x4 x5 hj hd h5 hres
      subst h5
      refine u_iload C dX11_window_65 rfl ?_
      refine u_aload_n C dX11_window_67 rfl ?_
      refine u_getI C gX11_window_68 rfl (mdl_is hY) ?_
      rw [show iv (wi M Y 0 0) Y 1 = nI (cN (iv M Y 1)) from by rw [kp_Z (Or.inr (by decide))]; exact o1a]
      refine u_bipush (v := 100) C dX11_window_71 (by decide) ?_
      refine u_iadd C dX11_window_73 ?_
      refine u_iload_n C dX11_window_74 rfl ?_
      refine u_iadd C dX11_window_75 ?_
      rw [show nI (cN (iv M Y 1)) + 100 + nI t = nI (cN (iv M Y 1) + 100 + t) from by rw [show (100 : Int32) = nI 100 from rfl, nI_add, nI_add]]
      refine u_icmp_ge (tgt := 124) C dX11_window_76 (by decide) (fun c_76 => ?_) (fun c_76 => ?_)
      · have hge : cN (iv M Y 1) + 100 + t ≤ j := u_gei c_76 (by omega) (by omega)
        refine u_iconst (v := (-1)) C dX11_window_124 (by decide) ?_
        exact ret _ _ _ _ dX11_window_125  (⟨fun q => absurd hgk.symm q, fun _ => ⟨by rw [hh, cN_nI (n := t) (by omega), hres, show cN (iv M Y 1) + 100 + t - j = 0 by omega]; simp [g_win], rfl⟩⟩)
      · have hlt : j < cN (iv M Y 1) + 100 + t := u_lt c_76 (by omega)
        obtain ⟨c9, hc⟩ : ∃ c9, cN (iv M Y 1) + 100 + t - j = c9 + 1 := ⟨cN (iv M Y 1) + 100 + t - j - 1, by omega⟩
        refine u_aload_n C dX11_window_79 rfl ?_
        refine u_iload C dX11_window_80 rfl ?_
        refine u_calliV1 C ev_X11_seaOf dX11_window_82 ml_RX11_169 (mdl_is hY) rfl (by decide) (c_X11_seaOf l D G _ _ _ hY (okM_Z ok).1 (by omega)) (by decide) (Nat.le_of_ble_eq_true rfl) (fun r_82 M_82 q_82 => ?_)
        obtain ⟨rfl, e_82⟩ := q_82
        subst M_82
        refine u_aload_n C dX11_window_85 rfl ?_
        refine u_iconst (v := (nI 0)) C dX11_window_86 (by decide) ?_
        refine u_calliV1 C ev_X11_bed dX11_window_87 ml_RX11_151 (mdl_is hY) rfl (by decide) (c_X11_bed l D G _ _ _ hY (by decide) (by rw [kp_Z (Or.inl (by omega))]; exact oA 0 hpos)) (by decide) (Nat.le_of_ble_eq_true rfl) (fun r_87 M_87 q_87 => ?_)
        obtain ⟨rfl, e_87⟩ := q_87
        subst M_87
        refine u_isub C dX11_window_90 ?_
        refine u_iload_n C dX11_window_91 rfl ?_
        refine u_icmp_lt (tgt := 102) C dX11_window_92 (by decide) (fun c_92 => ?_) (fun c_92 => ?_)
        · refine u_iconst (v := 0) C dX11_window_102 (by decide) ?_
          refine u_istore C dX11_window_103 (by decide) ?_
          refine u_iload C dX11_window_105 rfl ?_
          refine u_iload_n C dX11_window_107 rfl ?_
          refine u_icmp_ne (tgt := 118) C dX11_window_108 (by decide) (fun c_108 => ?_) (fun c_108 => ?_)
          · refine u_iinc C dX11_window_118 (by decide) rfl ?_
            refine u_goto (tgt := 65) C dX11_window_121 (by decide) ?_
            exact u_loc [0, 1, 2, 4, 5] rfl (ih (j + 1) _ _ (by omega) (by omega) (nI_1 j) (by (try simp only [kp_Z (M := M) (Y := Y) (x := 0) (a := Y + 18) (j := 0) (Or.inl (by omega)), kp_Z (M := M) (Y := Y) (x := 0) (a := Y + 17) (j := 0) (Or.inl (by omega))] at c_92); (try simp only [u_le, Decidable.not_not] at c_76 c_92 c_108); rw [hres, hc, show cN (iv M Y 1) + 100 + t - (j + 1) = c9 by omega]; simp [-Int32.not_lt, -Int32.not_le, g_win, c_76, c_92, c_108]))
          · refine u_iload C dX11_window_111 rfl ?_
            refine u_iload_n C dX11_window_113 rfl ?_
            refine u_isub C dX11_window_114 ?_
            refine u_iconst (v := 1) C dX11_window_115 (by decide) ?_
            refine u_iadd C dX11_window_116 ?_
            exact ret _ _ _ _ dX11_window_117  (⟨fun q => absurd hgk.symm q, fun _ => ⟨by (try simp only [kp_Z (M := M) (Y := Y) (x := 0) (a := Y + 18) (j := 0) (Or.inl (by omega)), kp_Z (M := M) (Y := Y) (x := 0) (a := Y + 17) (j := 0) (Or.inl (by omega))] at c_92); (try simp only [u_le, Decidable.not_not] at c_76 c_92 c_108); rw [hh, cN_nI (n := t) (by omega), hres, hc]; first | rw [g_win, if_pos c_92, if_pos c_108] | rw [g_win, if_neg c_92, if_pos c_108], rfl⟩⟩)
        · refine u_iload C dX11_window_95 rfl ?_
          refine u_iconst (v := 1) C dX11_window_97 (by decide) ?_
          refine u_iadd C dX11_window_98 ?_
          refine u_goto (tgt := 103) C dX11_window_99 (by decide) ?_
          refine u_istore C dX11_window_103 (by decide) ?_
          refine u_iload C dX11_window_105 rfl ?_
          refine u_iload_n C dX11_window_107 rfl ?_
          refine u_icmp_ne (tgt := 118) C dX11_window_108 (by decide) (fun c_108 => ?_) (fun c_108 => ?_)
          · refine u_iinc C dX11_window_118 (by decide) rfl ?_
            refine u_goto (tgt := 65) C dX11_window_121 (by decide) ?_
            exact u_loc [0, 1, 2, 4, 5] rfl (ih (j + 1) _ _ (by omega) (by omega) (nI_1 j) (by (try simp only [kp_Z (M := M) (Y := Y) (x := 0) (a := Y + 18) (j := 0) (Or.inl (by omega)), kp_Z (M := M) (Y := Y) (x := 0) (a := Y + 17) (j := 0) (Or.inl (by omega))] at c_92); (try simp only [u_le, Decidable.not_not] at c_76 c_92 c_108); rw [hres, hc, show cN (iv M Y 1) + 100 + t - (j + 1) = c9 by omega]; simp [-Int32.not_lt, -Int32.not_le, g_win, c_76, c_92, c_108]))
          · refine u_iload C dX11_window_111 rfl ?_
            refine u_iload_n C dX11_window_113 rfl ?_
            refine u_isub C dX11_window_114 ?_
            refine u_iconst (v := 1) C dX11_window_115 (by decide) ?_
            refine u_iadd C dX11_window_116 ?_
            exact ret _ _ _ _ dX11_window_117  (⟨fun q => absurd hgk.symm q, fun _ => ⟨by (try simp only [kp_Z (M := M) (Y := Y) (x := 0) (a := Y + 18) (j := 0) (Or.inl (by omega)), kp_Z (M := M) (Y := Y) (x := 0) (a := Y + 17) (j := 0) (Or.inl (by omega))] at c_92); (try simp only [u_le, Decidable.not_not] at c_76 c_92 c_108); rw [hh, cN_nI (n := t) (by omega), hres, hc]; first | rw [g_win, if_pos c_92, if_pos c_108] | rw [g_win, if_neg c_92, if_pos c_108], rfl⟩⟩)
  have J0 : ∀ kq : Nat, kq = kc_win kl h (iv M Y 16) → kq < 4 → u_S p l e (u_rm 2 49) s m args below meth c 6 D A H0 0 0 Q 48 [(0, .ref (gP G Y)), (1, .int kl), (2, .int h)] [.int (nI kq), .ref (gP G Y)] G M := by
    intro kq hkq hk4
    refine u_calliV1 C ev_X11_holds dX11_window_48 ml_RX11_116 (mdl_is hY) rfl (by decide) (c_X11_holds l D G _ _ _ hY ) (by decide) (Nat.le_of_ble_eq_true rfl) (fun r_48 M_48 q_48 => ?_)
    obtain ⟨rfl, e_48⟩ := q_48
    subst M_48
    refine u_if_ne (tgt := 56) C dX11_window_51 (by decide) (fun c_51 => ?_) (fun c_51 => ?_)
    · obtain rfl : kq = 0 := by rcases Nat.eq_zero_or_pos kq with q | q; exact q; exact absurd (if_neg (nI_ne0 q (by omega))) c_51
      rw [show nI 0 = (0 : Int32) from rfl]
      have hw9 : ¬ (fW kl 1 200 = 0 ∨ fW h 1 24 = 0) := fun q => absurd hkq.symm (by rw [kc_win, if_pos q]; decide)
      obtain ⟨t, ht24, ht0, rfl⟩ := u_fW1n (n := 24) rfl (fun q => hw9 (Or.inr q))
      have hpos : 0 < cN (iv M Y 16) := by rcases Nat.eq_zero_or_pos (cN (iv M Y 16)) with q | q; exact absurd hkq.symm (by rw [kc_win, if_neg hw9, if_pos (by rw [o16a, q]; rfl)]; decide); exact q
      refine u_iconst (v := 0) C dX11_window_56 (by decide) ?_
      refine u_istore C dX11_window_57 (by decide) ?_
      refine u_aload_n C dX11_window_59 rfl ?_
      refine u_getI C gX11_window_60 rfl (mdl_is hY) ?_
      rw [show iv (wi M Y 0 0) Y 1 = nI (cN (iv M Y 1)) from by rw [kp_Z (Or.inr (by decide))]; exact o1a]
      refine u_istore C dX11_window_63 (by decide) ?_
      exact u_loc [0, 1, 2, 4, 5] rfl (loop1 t rfl hkq ht24 hpos (101 + t) _ _ _ (by omega) (by omega) rfl (by congr 1; omega))
    · have hk0 : ¬ kq = 0 := fun q => by rw [q, if_pos (show nI 0 = 0 from rfl)] at c_51; exact absurd c_51 (by decide)
      refine u_iconst (v := 0) C dX11_window_54 (by decide) ?_
      exact ret _ _ _ _ dX11_window_55  (by first | exact ⟨fun _ => by rw [← hkq], fun q => absurd (hkq.trans q) hk0⟩ | exact ⟨fun q => absurd hkq.symm q, fun _ => ⟨rfl, rfl⟩⟩)
  refine u_iload_n C dX11_window_0 rfl ?_
  refine u_iconst (v := 1) C dX11_window_1 (by decide) ?_
  refine u_sipush (v := 200) C dX11_window_2 (by decide) ?_
  refine u_calliS3 C es_X11_isIn dX11_window_5 ml_RX11_109 (c_X11_isIn l D G _ _ _ _  ) (by decide) (Nat.le_of_ble_eq_true rfl) (fun r_5 M_5 q_5 => ?_)
  obtain ⟨rfl, e_5⟩ := q_5
  subst M_5
  refine u_if_eq (tgt := 25) C dX11_window_8 (by decide) (fun c_8 => ?_) (fun c_8 => ?_)
  · refine u_iconst (v := 0) C dX11_window_25 (by decide) ?_
    refine u_istore_n C dX11_window_26 (by decide) ?_
    refine u_aload_n C dX11_window_27 rfl ?_
    refine u_iload_n C dX11_window_28 rfl ?_
    refine u_if_ne (tgt := 36) C dX11_window_29 (by decide) (fun c_29 => ?_) (fun c_29 => ?_)
    · exact absurd c_29 (by decide)
    · refine u_iconst (v := 1) C dX11_window_32 (by decide) ?_
      refine u_goto (tgt := 48) C dX11_window_33 (by decide) ?_
      exact u_loc [0, 1, 2] rfl (J0 1 (by (try simp only [u_le, Decidable.not_not] at c_8 c_29); simp [-Int32.not_lt, -Int32.not_le, kc_win, u_le, c_8, c_29]) (by decide))
  · refine u_iload_n C dX11_window_11 rfl ?_
    refine u_iconst (v := 1) C dX11_window_12 (by decide) ?_
    refine u_bipush (v := 24) C dX11_window_13 (by decide) ?_
    refine u_calliS3 C es_X11_isIn dX11_window_15 ml_RX11_109 (c_X11_isIn l D G _ _ _ _  ) (by decide) (Nat.le_of_ble_eq_true rfl) (fun r_15 M_15 q_15 => ?_)
    obtain ⟨rfl, e_15⟩ := q_15
    subst M_15
    refine u_if_eq (tgt := 25) C dX11_window_18 (by decide) (fun c_18 => ?_) (fun c_18 => ?_)
    · refine u_iconst (v := 0) C dX11_window_25 (by decide) ?_
      refine u_istore_n C dX11_window_26 (by decide) ?_
      refine u_aload_n C dX11_window_27 rfl ?_
      refine u_iload_n C dX11_window_28 rfl ?_
      refine u_if_ne (tgt := 36) C dX11_window_29 (by decide) (fun c_29 => ?_) (fun c_29 => ?_)
      · exact absurd c_29 (by decide)
      · refine u_iconst (v := 1) C dX11_window_32 (by decide) ?_
        refine u_goto (tgt := 48) C dX11_window_33 (by decide) ?_
        exact u_loc [0, 1, 2] rfl (J0 1 (by (try simp only [u_le, Decidable.not_not] at c_8 c_18 c_29); simp [-Int32.not_lt, -Int32.not_le, kc_win, u_le, c_8, c_18, c_29]) (by decide))
    · refine u_iconst (v := 1) C dX11_window_21 (by decide) ?_
      refine u_goto (tgt := 26) C dX11_window_22 (by decide) ?_
      refine u_istore_n C dX11_window_26 (by decide) ?_
      refine u_aload_n C dX11_window_27 rfl ?_
      refine u_iload_n C dX11_window_28 rfl ?_
      refine u_if_ne (tgt := 36) C dX11_window_29 (by decide) (fun c_29 => ?_) (fun c_29 => ?_)
      · refine u_aload_n C dX11_window_36 rfl ?_
        refine u_getI C gX11_window_37 rfl (mdl_is hY) ?_
        refine u_if_ne (tgt := 47) C dX11_window_40 (by decide) (fun c_40 => ?_) (fun c_40 => ?_)
        · refine u_iconst (v := 0) C dX11_window_47 (by decide) ?_
          exact u_loc [0, 1, 2] rfl (J0 0 (by (try simp only [u_le, Decidable.not_not] at c_8 c_18 c_29 c_40); simp [-Int32.not_lt, -Int32.not_le, kc_win, u_le, c_8, c_18, c_29, c_40]) (by decide))
        · refine u_iconst (v := 2) C dX11_window_43 (by decide) ?_
          refine u_goto (tgt := 48) C dX11_window_44 (by decide) ?_
          exact u_loc [0, 1, 2] rfl (J0 2 (by (try simp only [u_le, Decidable.not_not] at c_8 c_18 c_29 c_40); simp [-Int32.not_lt, -Int32.not_le, kc_win, u_le, c_8, c_18, c_29, c_40]) (by decide))
      · exact absurd c_29 (by decide)
set_option maxHeartbeats 1000000 in
set_option maxRecDepth 100000 in
theorem c_X11_ofSectionAnew (l : Launch) (D : va_G) (G : w_G) (M : w_M) (Y : Nat) (v : Int32) (w : Int32) (hY : L_mdl G (Y)) (ok : okM M Y) : u_Mi l D G yX11_ofSectionAnew cX11_ofSectionAnew 3 (some .int) 3 66 [.ref (gP G Y), .int v, .int w] M (fun r M' => (¬ kc_of (g_has M Y v) w = 0 → M' = wi M Y 0 (nI (kc_of (g_has M Y v) w))) ∧ (kc_of (g_has M Y v) w = 0 → r = gR_of (wi M Y 0 0) Y (cN v) w ∧ M' = (wi M Y 0 0))) := by
  refine u_bodyi (by decide +kernel) (Nat.le_of_ble_eq_true rfl) rfl (fun p e s m args below meth c A H0 Q C ret => ?_)
  refine u_aload_n C dX11_ofSectionAnew_0 rfl ?_
  refine u_iload_n C dX11_ofSectionAnew_1 rfl ?_
  refine u_iload_n C dX11_ofSectionAnew_2 rfl ?_
  refine u_calliV2 C ev_X11_ofSection dX11_ofSectionAnew_3 ml_RX11_211 (mdl_is hY) rfl (by decide) (c_X11_ofSection l D G _ _ _ _ hY ok) (by decide) (Nat.le_of_ble_eq_true rfl) (fun r_3 M_3 q_3 => ?_)
  skip
  exact ret _ _ _ _ dX11_ofSectionAnew_6  (q_3)
