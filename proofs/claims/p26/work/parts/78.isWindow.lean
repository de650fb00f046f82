/-! a window -/
theorem bed_e {M N : w_M} {X Y O n ic τ c oc tc sc w0 m0 q cc : Nat} (h : JJ X Y O M N n ic τ c oc tc sc w0 m0 q cc) (hn : 0 < n) : f_bed (iv M (X + 1100) 3) (iv M (X + 1100) 4) = iv N (Y + 18) 0 / iv N (Y + 17) 0 ∧ 0 ≤ (iv N (Y + 18) 0 / iv N (Y + 17) 0).toInt ∧ (iv N (Y + 18) 0 / iv N (Y + 17) 0).toInt ≤ 2 ^ 26 ∧ ¬ iv N (Y + 17) 0 = 0 := by
  obtain ⟨W, C, b, hW, hC⟩ := h.gb
  have ar := b.ar 0 hn
  have mu := b.mu 0 hn
  have cl := b.cl 0 hn
  have cc := b.c hn
  have e3 := h.v.rr.rc.ar 0 hn
  have e4 := h.v.rr.rc.mu 0 hn
  have d := i_div mu (show 0 < (iv N (Y + 17) 0).toInt by omega)
  have d1 : (iv N (Y + 18) 0).toInt / (iv N (Y + 17) 0).toInt ≤ (iv N (Y + 18) 0).toInt := Int.ediv_le_self _ mu
  have d0 : 0 ≤ (iv N (Y + 18) 0).toInt / (iv N (Y + 17) 0).toInt := Int.ediv_nonneg mu (by omega)
  refine ⟨?_, by rw [d]; exact d0, by rw [d]; omega, fun z => by rw [z, i_0] at ar; omega⟩
  unfold f_bed
  rw [show X + 1100 = X + 1000 + 100 + 0 by omega, e3, e4, if_neg (by rw [i_le, i_0]; omega)]
set_option maxHeartbeats 4000000 in
set_option maxRecDepth 100000 in
theorem c_isWindow (l : Launch) (D : va_G) (G : w_G) (M N : w_M) (X Y O kl hs : Nat) {n ic τ c oc tc sc w0 m0 q cc : Nat} (hX : L_sal G X) (hO : u_is G O 12 ∧ gN G O = 28) (hst : l.stackTraces = false) (h : JJ X Y O M N n ic τ c oc tc sc w0 m0 q cc) (hn : 0 < n) (k0 : 1 ≤ kl) (k1 : kl ≤ 200) (h0 : 1 ≤ hs) (h24 : hs ≤ 24) : u_Gm l D G yL_isWindow cL_isWindow 8 (some .boolean) 9 210 40 [.ref (gP G X), .ref (gP G O), .int (nI kl), .int (nI hs)] M (fun r M2 => r = 1 ∧ M2 = M) := by
  have t1 := h.v.rr.t1
  obtain ⟨be, b0, b1, arz⟩ := bed_e h hn
  generalize hB : iv N (Y + 18) 0 / iv N (Y + 17) 0 = B at *
  have fb : ∀ j, j ≤ 3000 → -1000 ≤ (g_for N Y (nI j)).toInt ∧ (g_for N Y (nI j)).toInt ≤ 2400 := fun j hj => for_b h.v.rr.gt (by rw [i_N (by omega)]; omega) (by rw [i_N (by omega)]; omega)
  have ek : (B + nI kl).toInt = B.toInt + kl := by rw [i_add (by rw [i_N (by omega)]; omega) (by rw [i_N (by omega)]; omega), i_N (by omega)]
  have ws := win_s (M := M) (k := X + 1001) (ht := B + nI kl) (τ := τ) (fun j => B.toInt + kl ≤ (g_for N Y (nI j)).toInt) (fun j a b => by rw [show X + 1001 = X + 1000 + 1 by omega, for_e _ h.v.rr.rt h.v.rr.gt, i_lt, ek]; omega) h24 (100 + hs) τ 0 (by omega) (by omega) (by omega) (fun i a b => absurd b (by omega)) (Or.inl rfl)
  rw [Nat.sub_zero] at ws
  have hx : ∀ j, j ≤ 3000 → (g_for N Y (nI j) - B).toInt = (g_for N Y (nI j)).toInt - B.toInt := fun j hj => by have := fb j hj; exact i_sub (by omega) (by omega)
  refine u_bodyGz (by decide +kernel) (Nat.le_of_ble_eq_true rfl) rfl (fun p e s m args below meth c8 A H0 Q CC hXT hXH ret => ?_)
  have E : u_E l (u_rk 9 210 40) s A H0 G X := ⟨hXT, hXH, ⟨by decide, by decide⟩, hst, hX⟩
  have C0 := CC 0 0 (by omega) (by omega)
  have none : u_S p l e (u_rk 9 210 40) s m args below meth c8 8 D A H0 (0 + 1) (0 + 6) Q 10 [(0, .ref (gP G X)), (1, .ref (gP G O)), (2, .int (nI kl)), (3, .int (nI hs)), (4, .int (-1))] [] G M := by
    have C0 := CC (0 + 1) (0 + 6) (by omega) (by omega)
    refine u_aload_n C0 dL_isWindow_10 rfl ?_
    refine u_iconst (v := nI 0) C0 dL_isWindow_11 (by decide) ?_
    refine u_iconst (v := nI 5) C0 dL_isWindow_12 (by decide) ?_
    have C1 := CC (0 + 1 + 1) (0 + 6 + 6) (by omega) (by omega)
    refine k_of C0 C1 E h.v hn (by decide) dL_isWindow_13 (Nat.le_of_ble_eq_true rfl) of_5 ?_
    refine u_aload_n C1 dL_isWindow_16 rfl ?_
    refine u_bipush (v := nI 27) C1 dL_isWindow_17 (by decide) ?_
    refine u_ialdNv (i := 27) (x := (iv N (Y + 17) 0)) C1 dL_isWindow_19 hO.1 hO.2 (by decide) (by decide) (h.d27 hn) ?_
    refine u_idiv C1 dL_isWindow_20 arz ?_
    refine u_istore C1 dL_isWindow_21 (by decide) ?_
    refine u_iload C1 dL_isWindow_23 rfl ?_
    refine u_iconst (v := (-1)) C1 dL_isWindow_25 (by decide) ?_
    refine u_icmp_eq (tgt := 48) C1 dL_isWindow_26 (by decide) (fun c_26 => ?_) (fun c_26 => ?_)
    · refine u_iconst (v := nI 1) C1 dL_isWindow_48 (by decide) ?_
      refine u_goto (tgt := 53) C1 dL_isWindow_49 (by decide) ?_
      refine u_istore C1 dL_isWindow_53 (by decide) ?_
      refine u_iload C1 dL_isWindow_55 rfl ?_
      refine u_istore C1 dL_isWindow_57 (by decide) ?_
      refine u_iload C1 dL_isWindow_59 rfl ?_
      refine u_iload C1 dL_isWindow_61 rfl ?_
      refine u_iload_n C1 dL_isWindow_63 rfl ?_
      refine u_iadd C1 dL_isWindow_64 ?_
      refine u_icmp_ge (tgt := 105) C1 dL_isWindow_65 (by decide) (fun c_65 => ?_) (fun c_65 => ?_)
      · refine u_iload C1 dL_isWindow_105 rfl ?_
        refine u_if_eqK (tgt := 143) C1 dL_isWindow_107 (by decide) (by omega) (fun c_107 => ?_) (fun c_107 => ?_)
        · exfalso; omega
        · refine u_iload C1 dL_isWindow_110 rfl ?_
          refine u_iconst (v := (-1)) C1 dL_isWindow_112 (by decide) ?_
          refine u_icmp_eq (tgt := 139) C1 dL_isWindow_113 (by decide) (fun c_113 => ?_) (fun c_113 => ?_)
          · refine u_iconst (v := nI 1) C1 dL_isWindow_139 (by decide) ?_
            refine u_goto (tgt := 144) C1 dL_isWindow_140 (by decide) ?_
            exact ret _ _ _ _ _ _ (by omega) (by omega) dL_isWindow_144 (Or.inr rfl) ⟨rfl, rfl⟩
          · exact absurd rfl c_113
      · refine u_iload C1 dL_isWindow_68 rfl ?_
        refine u_if_eqK (tgt := 105) C1 dL_isWindow_70 (by decide) (by omega) (fun c_70 => ?_) (fun c_70 => ?_)
        · exfalso; omega
        · refine u_iload C1 dL_isWindow_73 rfl ?_
          refine u_iconst (v := (-1)) C1 dL_isWindow_75 (by decide) ?_
          refine u_icmp_eq (tgt := 105) C1 dL_isWindow_76 (by decide) (fun c_76 => ?_) (fun c_76 => ?_)
          · refine u_iload C1 dL_isWindow_105 rfl ?_
            refine u_if_eqK (tgt := 143) C1 dL_isWindow_107 (by decide) (by omega) (fun c_107 => ?_) (fun c_107 => ?_)
            · exfalso; omega
            · refine u_iload C1 dL_isWindow_110 rfl ?_
              refine u_iconst (v := (-1)) C1 dL_isWindow_112 (by decide) ?_
              refine u_icmp_eq (tgt := 139) C1 dL_isWindow_113 (by decide) (fun c_113 => ?_) (fun c_113 => ?_)
              · refine u_iconst (v := nI 1) C1 dL_isWindow_139 (by decide) ?_
                refine u_goto (tgt := 144) C1 dL_isWindow_140 (by decide) ?_
                exact ret _ _ _ _ _ _ (by omega) (by omega) dL_isWindow_144 (Or.inr rfl) ⟨rfl, rfl⟩
              · exact absurd rfl c_113
          · exact absurd rfl c_76
    · exact absurd rfl c_26
  have some9 : ∀ f : Nat, τ ≤ f → f + hs ≤ τ + (100 + hs) → (∀ i, f ≤ i → i < f + hs → B.toInt + kl ≤ (g_for N Y (nI i)).toInt) → (f = τ ∨ ¬ B.toInt + kl ≤ (g_for N Y (nI (f - 1))).toInt) → u_S p l e (u_rk 9 210 40) s m args below meth c8 8 D A H0 (0 + 1) (0 + 6) Q 10 [(0, .ref (gP G X)), (1, .ref (gP G O)), (2, .int (nI kl)), (3, .int (nI hs)), (4, .int (nI f))] [] G M := by
    intro f f0 f1 fH fE
    have ff : ¬ nI f = -1 := fun z => absurd (show nI f < 0 by rw [z]; decide) (nI_pos (by omega))
    have loop : ∀ (v i : Nat), i + v = hs → u_S p l e (u_rk 9 210 40) s m args below meth c8 8 D A H0 (2 + i) (12 + 6 * i) Q 59 [(0, .ref (gP G X)), (1, .ref (gP G O)), (2, .int (nI kl)), (3, .int (nI hs)), (4, .int (nI f)), (5, .int B), (6, .int (nI 1)), (7, .int (nI (f + i)))] [] G M := by
      intro v
      induction v with
      | zero =>
        intro i hi
        obtain rfl : i = hs := by omega
        have C0 := CC (2 + i) (12 + 6 * i) (by omega) (by omega)
        refine u_iload C0 dL_isWindow_59 rfl ?_
        refine u_iload C0 dL_isWindow_61 rfl ?_
        refine u_iload_n C0 dL_isWindow_63 rfl ?_
        refine u_iaddK C0 dL_isWindow_64 ?_
        refine u_icmp_geK (tgt := 105) C0 dL_isWindow_65 (by decide) (by omega) (by omega) (fun c_65 => ?_) (fun c_65 => ?_)
        · refine u_iload C0 dL_isWindow_105 rfl ?_
          refine u_if_eqK (tgt := 143) C0 dL_isWindow_107 (by decide) (by omega) (fun c_107 => ?_) (fun c_107 => ?_)
          · exfalso; omega
          · refine u_iload C0 dL_isWindow_110 rfl ?_
            refine u_iconst (v := (-1)) C0 dL_isWindow_112 (by decide) ?_
            refine u_icmp_eq (tgt := 139) C0 dL_isWindow_113 (by decide) (fun c_113 => ?_) (fun c_113 => ?_)
            · exact absurd c_113 ff
            · refine u_iload C0 dL_isWindow_116 rfl ?_
              refine u_aload_n C0 dL_isWindow_118 rfl ?_
              refine u_iconst (v := nI 5) C0 dL_isWindow_119 (by decide) ?_
              refine u_ialdNv (i := 5) (x := nI τ) C0 dL_isWindow_120 hO.1 hO.2 (by decide) (by decide) h.d5 ?_
              refine u_icmp_eqK (tgt := 139) C0 dL_isWindow_121 (by decide) (by omega) (by omega) (fun c_121 => ?_) (fun c_121 => ?_)
              · refine u_iconst (v := nI 1) C0 dL_isWindow_139 (by decide) ?_
                refine u_goto (tgt := 144) C0 dL_isWindow_140 (by decide) ?_
                exact ret _ _ _ _ _ _ (by omega) (by omega) dL_isWindow_144 (Or.inr rfl) ⟨rfl, rfl⟩
              · refine u_aload_n C0 dL_isWindow_124 rfl ?_
                refine u_iload C0 dL_isWindow_125 rfl ?_
                refine u_iconst (v := nI 1) C0 dL_isWindow_127 (by decide) ?_
                refine u_isubK C0 dL_isWindow_128 (by omega) (by omega) ?_
                have C1 := CC (2 + i + 1) (12 + 6 * i + 6) (by omega) (by omega)
                refine k_sea C0 C1 E h.v (k := f - 1) (by omega) dL_isWindow_129 (Nat.le_of_ble_eq_true rfl) (sea_f h.v.rr (by omega)) ?_
                refine u_iload C1 dL_isWindow_132 rfl ?_
                refine u_isub C1 dL_isWindow_134 ?_
                refine u_iload_n C1 dL_isWindow_135 rfl ?_
                refine u_icmp_ge (tgt := 143) C1 dL_isWindow_136 (by decide) (fun c_136 => ?_) (fun c_136 => ?_)
                · exact absurd c_136 (fun z => by rw [i_le, i_N (by omega), hx _ (by omega)] at z; rcases fE with y | y <;> omega)
                · refine u_iconst (v := nI 1) C1 dL_isWindow_139 (by decide) ?_
                  refine u_goto (tgt := 144) C1 dL_isWindow_140 (by decide) ?_
                  exact ret _ _ _ _ _ _ (by omega) (by omega) dL_isWindow_144 (Or.inr rfl) ⟨rfl, rfl⟩
        · exfalso; omega
      | succ v ih =>
        intro i hi
        have C0 := CC (2 + i) (12 + 6 * i) (by omega) (by omega)
        have hH := fH (f + i) (by omega) (by omega)
        refine u_iload C0 dL_isWindow_59 rfl ?_
        refine u_iload C0 dL_isWindow_61 rfl ?_
        refine u_iload_n C0 dL_isWindow_63 rfl ?_
        refine u_iaddK C0 dL_isWindow_64 ?_
        refine u_icmp_geK (tgt := 105) C0 dL_isWindow_65 (by decide) (by omega) (by omega) (fun c_65 => ?_) (fun c_65 => ?_)
        · exfalso; omega
        · refine u_iload C0 dL_isWindow_68 rfl ?_
          refine u_if_eqK (tgt := 105) C0 dL_isWindow_70 (by decide) (by omega) (fun c_70 => ?_) (fun c_70 => ?_)
          · exfalso; omega
          · refine u_iload C0 dL_isWindow_73 rfl ?_
            refine u_iconst (v := (-1)) C0 dL_isWindow_75 (by decide) ?_
            refine u_icmp_eq (tgt := 105) C0 dL_isWindow_76 (by decide) (fun c_76 => ?_) (fun c_76 => ?_)
            · exact absurd c_76 ff
            · refine u_aload_n C0 dL_isWindow_79 rfl ?_
              refine u_iload C0 dL_isWindow_80 rfl ?_
              have C1 := CC (2 + i + 1) (12 + 6 * i + 6) (by omega) (by omega)
              refine k_sea C0 C1 E h.v (k := f + i) (by omega) dL_isWindow_82 (Nat.le_of_ble_eq_true rfl) (sea_f h.v.rr (by omega)) ?_
              refine u_iload C1 dL_isWindow_85 rfl ?_
              refine u_isub C1 dL_isWindow_87 ?_
              refine u_iload_n C1 dL_isWindow_88 rfl ?_
              refine u_icmp_lt (tgt := 96) C1 dL_isWindow_89 (by decide) (fun c_89 => ?_) (fun c_89 => ?_)
              · exact absurd c_89 (fun z => by rw [i_lt, i_N (by omega), hx _ (by omega)] at z; omega)
              · refine u_iconst (v := nI 1) C1 dL_isWindow_92 (by decide) ?_
                refine u_goto (tgt := 97) C1 dL_isWindow_93 (by decide) ?_
                refine u_istore C1 dL_isWindow_97 (by decide) ?_
                refine u_iincK (b := 1) C1 dL_isWindow_99 (by decide) rfl ?_
                refine u_goto (tgt := 59) C1 dL_isWindow_102 (by decide) ?_
                exact u_loc [0, 1, 2, 3, 4, 5, 6, 7] rfl (ih (i + 1) (by omega))
    have C0 := CC (0 + 1) (0 + 6) (by omega) (by omega)
    refine u_aload_n C0 dL_isWindow_10 rfl ?_
    refine u_iconst (v := nI 0) C0 dL_isWindow_11 (by decide) ?_
    refine u_iconst (v := nI 5) C0 dL_isWindow_12 (by decide) ?_
    have C1 := CC (0 + 1 + 1) (0 + 6 + 6) (by omega) (by omega)
    refine k_of C0 C1 E h.v hn (by decide) dL_isWindow_13 (Nat.le_of_ble_eq_true rfl) of_5 ?_
    refine u_aload_n C1 dL_isWindow_16 rfl ?_
    refine u_bipush (v := nI 27) C1 dL_isWindow_17 (by decide) ?_
    refine u_ialdNv (i := 27) (x := (iv N (Y + 17) 0)) C1 dL_isWindow_19 hO.1 hO.2 (by decide) (by decide) (h.d27 hn) ?_
    refine u_idiv C1 dL_isWindow_20 arz ?_
    refine u_istore C1 dL_isWindow_21 (by decide) ?_
    refine u_iload C1 dL_isWindow_23 rfl ?_
    refine u_iconst (v := (-1)) C1 dL_isWindow_25 (by decide) ?_
    refine u_icmp_eq (tgt := 48) C1 dL_isWindow_26 (by decide) (fun c_26 => ?_) (fun c_26 => ?_)
    · exact absurd c_26 ff
    · refine u_iload C1 dL_isWindow_29 rfl ?_
      refine u_aload_n C1 dL_isWindow_31 rfl ?_
      refine u_iconst (v := nI 5) C1 dL_isWindow_32 (by decide) ?_
      refine u_ialdNv (i := 5) (x := nI τ) C1 dL_isWindow_33 hO.1 hO.2 (by decide) (by decide) h.d5 ?_
      refine u_icmp_ltK (tgt := 52) C1 dL_isWindow_34 (by decide) (by omega) (by omega) (fun c_34 => ?_) (fun c_34 => ?_)
      · exfalso; omega
      · refine u_iload C1 dL_isWindow_37 rfl ?_
        refine u_aload_n C1 dL_isWindow_39 rfl ?_
        refine u_iconst (v := nI 5) C1 dL_isWindow_40 (by decide) ?_
        refine u_ialdNv (i := 5) (x := nI τ) C1 dL_isWindow_41 hO.1 hO.2 (by decide) (by decide) h.d5 ?_
        refine u_bipush (v := nI 100) C1 dL_isWindow_42 (by decide) ?_
        refine u_iaddK C1 dL_isWindow_44 ?_
        refine u_icmp_gtK (tgt := 52) C1 dL_isWindow_45 (by decide) (by omega) (by omega) (fun c_45 => ?_) (fun c_45 => ?_)
        · exfalso; omega
        · refine u_iconst (v := nI 1) C1 dL_isWindow_48 (by decide) ?_
          refine u_goto (tgt := 53) C1 dL_isWindow_49 (by decide) ?_
          refine u_istore C1 dL_isWindow_53 (by decide) ?_
          refine u_iload C1 dL_isWindow_55 rfl ?_
          refine u_istore C1 dL_isWindow_57 (by decide) ?_
          rw [hB]
          exact u_loc [0, 1, 2, 3, 4, 5, 6, 7] rfl (loop hs 0 (by omega))
  refine u_aload_n C0 dL_isWindow_0 rfl ?_
  refine u_iload_n C0 dL_isWindow_1 rfl ?_
  refine u_iload_n C0 dL_isWindow_2 rfl ?_
  refine u_iconst (v := nI 0) C0 dL_isWindow_3 (by decide) ?_
  refine u_iconst (v := nI 1) C0 dL_isWindow_4 (by decide) ?_
  have C1 := CC (0 + 1) (0 + 6) (by omega) (by omega)
  refine k_window C0 C1 E h.v hn k0 k1 h0 h24 dL_isWindow_5 (Nat.le_of_ble_eq_true rfl) ?_
  refine u_istore C1 dL_isWindow_8 (by decide) ?_
  rw [be]
  rcases ws with w9 | ⟨f, w9, f0, f1, fH, fE⟩
  · rw [show s_win M (X + 1001) (B + nI kl) (nI hs) (100 + hs) τ 0 = -1 from w9]; exact u_loc [0, 1, 2, 3, 4] rfl none
  · rw [show s_win M (X + 1001) (B + nI kl) (nI hs) (100 + hs) τ 0 = nI f from w9]; exact u_loc [0, 1, 2, 3, 4] rfl (some9 f f0 f1 fH fE)
