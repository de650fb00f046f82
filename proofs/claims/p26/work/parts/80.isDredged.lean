/-! dredging -/
theorem ref1 (P D : Int32) : f_ref (nI 1) P D = nI 1 ↔ P = 0 := by
  unfold f_ref
  by_cases z : P = 0
  · rw [if_pos z]; exact ⟨fun _ => z, fun _ => rfl⟩
  · rw [if_neg z]
    refine ⟨fun y => ?_, fun y => absurd y z⟩
    split at y
    · exact absurd y (by decide)
    · split at y
      · exact absurd y (by decide)
      · exact absurd y (by decide)
theorem jj_of {X Y O : Nat} {M N M2 N2 : w_M} {n ic τ c oc tc sc w0 m0 q cc c2 : Nat} (h : JJ X Y O M N n ic τ c oc tc sc w0 m0 q cc) (T : TT X Y M M2 N2 n ic τ c2 oc cc w0 m0) (hO : X + 1200 ≤ O) (e : ∀ a, a = 17 ∨ a = 29 ∨ a = 30 → ∀ k, iv N2 (Y + a) k = iv N (Y + a) k) (e3 : iv N2 Y 3 = iv N Y 3) (e5 : iv N2 Y 5 = iv N Y 5) (e10 : -1 ≤ (iv N2 Y 10).toInt) : JJ X Y O M2 N2 n ic τ c2 oc tc sc w0 m0 q cc := by
  obtain ⟨T1, T2, T3, T4⟩ := T
  refine ⟨T1, T2, T3, ⟨?_, ?_, ?_, ?_, ?_, ?_, ?_, ?_, ?_, fun k hk => ?_, fun hn => ?_⟩, e3.trans h.htc, e5.trans h.hsc, h.w, h.m, h.t6, h.s20, e10⟩
  · rw [T4 _ _ hO]; exact h.d0
  · rw [T4 _ _ hO]; exact h.d1
  · rw [T4 _ _ hO]; exact h.d2
  · rw [T4 _ _ hO]; exact h.d3
  · rw [T4 _ _ hO]; exact h.d4
  · rw [T4 _ _ hO]; exact h.d5
  · rw [T4 _ _ hO]; exact h.d6
  · rw [T4 _ _ hO]; exact h.d7
  · rw [T4 _ _ hO]; exact h.d8
  · rw [T4 _ _ hO, T4 _ _ hO, e 29 (by omega), e 30 (by omega)]; exact h.d9 k hk
  · rw [T4 _ _ hO, e 17 (by omega)]; exact h.d27 hn
set_option maxHeartbeats 4000000 in
set_option maxRecDepth 100000 in
theorem c_isDredgedS (l : Launch) (D : va_G) (G : w_G) (M N : w_M) (X Y O v a : Nat) {n ic τ c oc tc sc w0 m0 q cc : Nat} (hX : L_sal G X) (hO : u_is G O 12 ∧ gN G O = 28) (hst : l.stackTraces = false) (h : JJ X Y O M N n ic τ c oc tc sc w0 m0 q cc) (hO9 : X + 1200 ≤ O) (hc : c < 512) (hv : v < n) (a0 : 1 ≤ a) (a1 : a ≤ 300) : u_Gm l D G yL_isDredged cL_isDredged 10 (some .boolean) 9 215 12 [.ref (gP G X), .int (nI v), .int (nI a), .int (-1)] M (fun r M2 => r = 1 ∧ ∃ N2 c2, JJ X Y O M2 N2 n ic τ c2 oc tc sc w0 m0 q cc ∧ c2 ≤ c + 1) := by
  have n8 := h.v.rr.n8
  have t1 := h.v.rr.t1
  refine u_bodyGz (by decide +kernel) (Nat.le_of_ble_eq_true rfl) rfl (fun p e s m args below meth c8 A H0 Q CC hXT hXH ret => ?_)
  have E : u_E l (u_rk 9 215 12) s A H0 G X := ⟨hXT, hXH, ⟨by decide, by decide⟩, hst, hX⟩
  have C0 := CC 0 0 (by omega) (by omega)
  refine u_aload_n C0 dL_isDredged_0 rfl ?_
  refine u_iload_n C0 dL_isDredged_1 rfl ?_
  refine u_iload_n C0 dL_isDredged_2 rfl ?_
  have C1 := CC (0 + 1) (0 + 6) (by omega) (by omega)
  refine k_why C0 C1 E h.v hv a0 (by omega) dL_isDredged_3 (Nat.le_of_ble_eq_true rfl) rfl ?_
  refine u_istore C1 dL_isDredged_6 (by decide) ?_
  refine u_aload_n C1 dL_isDredged_8 rfl ?_
  refine u_iload_n C1 dL_isDredged_9 rfl ?_
  refine u_iconst (v := nI 5) C1 dL_isDredged_10 (by decide) ?_
  have C2 := CC (0 + 1 + 1) (0 + 6 + 6) (by omega) (by omega)
  refine k_of C1 C2 E h.v hv (by decide) dL_isDredged_11 (Nat.le_of_ble_eq_true rfl) of_5 ?_
  refine u_istore C2 dL_isDredged_14 (by decide) ?_
  refine u_iload_n C2 dL_isDredged_16 rfl ?_
  refine u_iconst (v := (-1)) C2 dL_isDredged_17 (by decide) ?_
  refine u_icmp_ne (tgt := 25) C2 dL_isDredged_18 (by decide) (fun c_18 => ?_) (fun c_18 => ?_)
  · exact absurd rfl c_18
  · refine u_iconst (v := nI 0) C2 dL_isDredged_21 (by decide) ?_
    refine u_goto (tgt := 31) C2 dL_isDredged_22 (by decide) ?_
    refine u_istore C2 dL_isDredged_31 (by decide) ?_
    refine u_aload_n C2 dL_isDredged_33 rfl ?_
    refine u_bipush (v := nI 9) C2 dL_isDredged_34 (by decide) ?_
    have C3 := CC (0 + 1 + 1 + 1) (0 + 6 + 6 + 6) (by omega) (by omega)
    refine k_sum C2 C3 E h.v (by decide) dL_isDredged_36 (Nat.le_of_ble_eq_true rfl) ?_
    refine u_lstore C3 dL_isDredged_39 (by decide) ?_
    refine u_aload_n C3 dL_isDredged_41 rfl ?_
    refine u_iload_n C3 dL_isDredged_42 rfl ?_
    refine u_iload_n C3 dL_isDredged_43 rfl ?_
    refine u_iload_n C3 dL_isDredged_44 rfl ?_
    refine u_iconst (v := nI 0) C3 dL_isDredged_45 (by decide) ?_
    have C4 := CC (0 + 1 + 1 + 1 + 1) (0 + 6 + 6 + 6 + 6) (by omega) (by omega)
    refine k_dredge C3 C4 E h.v hc hv a0 (by omega) (Or.inl rfl) dL_isDredged_46 (Nat.le_of_ble_eq_true rfl) (fun z => ?_) (fun z => ?_)
    · obtain ⟨T, e21, e18, oo, eS, eC⟩ := t_dre (to := (-1)) h hc hv a0 (by omega) (Or.inl rfl) z
      rw [show iv (m_tell M X 8 (nI v) (nI a) (-1) 0 0) (X + 1000 + 100 + v) 7 = iv N (Y + 21) v - nI a from (T.1.rr.rc.pe v hv).trans e21]
      have hJ := jj_of h T hO9 (fun x9 hx9 k => oo _ _ (by omega) (by omega) (by omega)) (oo _ _ (by omega) (by omega) (by omega)) (oo _ _ (by omega) (by omega) (by omega)) (by rw [oo _ _ (by omega) (by omega) (by omega)]; exact h.mk)
      generalize m_tell M X 8 (nI v) (nI a) (-1) 0 0 = M2 at *
      generalize gE_dre N Y v (nI a) (-1) = N2 at *
      obtain ⟨p0, p1, p2⟩ := ref_0 z
      rw [i_lt, i_N (by omega)] at p1 p2
      have pp := h.k.p v hv
      have hT : (iv N (Y + 21) v - nI a).toInt = (iv N (Y + 21) v).toInt - a := by rw [i_sub (by rw [i_N (by omega)]; omega) (by rw [i_N (by omega)]; omega), i_N (by omega)]
      refine u_istore C4 dL_isDredged_49 (by decide) ?_
      refine u_iload C4 dL_isDredged_51 rfl ?_
      refine u_if_ge (tgt := 98) C4 dL_isDredged_53 (by decide) (fun c_53 => ?_) (fun c_53 => ?_)
      · refine u_iload C4 dL_isDredged_98 rfl ?_
        refine u_if_ne (tgt := 196) C4 dL_isDredged_100 (by decide) (fun c_100 => ?_) (fun c_100 => ?_)
        · exact absurd z c_100
        · refine u_aload_n C4 dL_isDredged_103 rfl ?_
          refine u_iload_n C4 dL_isDredged_104 rfl ?_
          refine u_iconst (v := nI 5) C4 dL_isDredged_105 (by decide) ?_
          have C5 := CC (0 + 1 + 1 + 1 + 1 + 1) (0 + 6 + 6 + 6 + 6 + 6) (by omega) (by omega)
          refine k_of C4 C5 E T.1 hv (by decide) dL_isDredged_106 (Nat.le_of_ble_eq_true rfl) (of_5.trans e18) ?_
          refine u_iload C5 dL_isDredged_109 rfl ?_
          refine u_iload_n C5 dL_isDredged_111 rfl ?_
          refine u_isub C5 dL_isDredged_112 ?_
          refine u_icmp_ne (tgt := 196) C5 dL_isDredged_113 (by decide) (fun c_113 => ?_) (fun c_113 => ?_)
          · exact absurd rfl c_113
          · refine u_iload_n C5 dL_isDredged_116 rfl ?_
            refine u_iconst (v := (-1)) C5 dL_isDredged_117 (by decide) ?_
            refine u_icmp_ne (tgt := 139) C5 dL_isDredged_118 (by decide) (fun c_118 => ?_) (fun c_118 => ?_)
            · exact absurd rfl c_118
            · refine u_aload_n C5 dL_isDredged_121 rfl ?_
              refine u_bipush (v := nI 9) C5 dL_isDredged_122 (by decide) ?_
              have C6 := CC (0 + 1 + 1 + 1 + 1 + 1 + 1) (0 + 6 + 6 + 6 + 6 + 6 + 6) (by omega) (by omega)
              refine k_sum C5 C6 E T.1 (by decide) dL_isDredged_124 (Nat.le_of_ble_eq_true rfl) ?_
              rw [eS rfl]
              refine u_lload C6 dL_isDredged_127 rfl ?_
              refine u_iload_n C6 dL_isDredged_129 rfl ?_
              refine u_i2l C6 dL_isDredged_130 ?_
              refine u_ladd C6 dL_isDredged_131 ?_
              refine u_lcmp C6 dL_isDredged_132 ?_
              refine u_if_ne (tgt := 196) C6 dL_isDredged_133 (by decide) (fun c_133 => ?_) (fun c_133 => ?_)
              · exact absurd (lg_c8 _) c_133
              · refine u_goto (tgt := 164) C6 dL_isDredged_136 (by decide) ?_
                refine u_iload C6 dL_isDredged_164 rfl ?_
                refine u_if_ne (tgt := 173) C6 dL_isDredged_166 (by decide) (fun c_166 => ?_) (fun c_166 => ?_)
                · refine u_iconst (v := nI 0) C6 dL_isDredged_173 (by decide) ?_
                  refine u_aload_n C6 dL_isDredged_174 rfl ?_
                  refine u_iload_n C6 dL_isDredged_175 rfl ?_
                  refine u_iconst (v := nI 1) C6 dL_isDredged_176 (by decide) ?_
                  have C7 := CC (0 + 1 + 1 + 1 + 1 + 1 + 1 + 1) (0 + 6 + 6 + 6 + 6 + 6 + 6 + 6) (by omega) (by omega)
                  refine k_why C6 C7 E T.1 hv (by omega) (by omega) dL_isDredged_177 (Nat.le_of_ble_eq_true rfl) (by rw [e21]) ?_
                  refine u_iconst (v := nI 1) C7 dL_isDredged_180 (by decide) ?_
                  refine u_icmp_ne (tgt := 188) C7 dL_isDredged_181 (by decide) (fun c_181 => ?_) (fun c_181 => ?_)
                  · refine u_iconst (v := nI 0) C7 dL_isDredged_188 (by decide) ?_
                    refine u_icmp_neK (tgt := 196) C7 dL_isDredged_189 (by decide) (by omega) (by omega) (fun c_189 => ?_) (fun c_189 => ?_)
                    · exfalso; omega
                    · refine u_iconst (v := nI 1) C7 dL_isDredged_192 (by decide) ?_
                      refine u_goto (tgt := 197) C7 dL_isDredged_193 (by decide) ?_
                      exact ret _ _ _ _ _ _ (by omega) (by omega) dL_isDredged_197 (Or.inr rfl) ⟨rfl, N2, c + 1, hJ, by omega⟩
                  · exact absurd ((ref1 _ _).mp c_181) c_166
                · refine u_iconst (v := nI 1) C6 dL_isDredged_169 (by decide) ?_
                  refine u_goto (tgt := 174) C6 dL_isDredged_170 (by decide) ?_
                  refine u_aload_n C6 dL_isDredged_174 rfl ?_
                  refine u_iload_n C6 dL_isDredged_175 rfl ?_
                  refine u_iconst (v := nI 1) C6 dL_isDredged_176 (by decide) ?_
                  have C7 := CC (0 + 1 + 1 + 1 + 1 + 1 + 1 + 1) (0 + 6 + 6 + 6 + 6 + 6 + 6 + 6) (by omega) (by omega)
                  refine k_why C6 C7 E T.1 hv (by omega) (by omega) dL_isDredged_177 (Nat.le_of_ble_eq_true rfl) (by rw [e21]) ?_
                  refine u_iconst (v := nI 1) C7 dL_isDredged_180 (by decide) ?_
                  refine u_icmp_ne (tgt := 188) C7 dL_isDredged_181 (by decide) (fun c_181 => ?_) (fun c_181 => ?_)
                  · exact absurd ((ref1 _ _).mpr c_166) c_181
                  · refine u_iconst (v := nI 1) C7 dL_isDredged_184 (by decide) ?_
                    refine u_goto (tgt := 189) C7 dL_isDredged_185 (by decide) ?_
                    refine u_icmp_neK (tgt := 196) C7 dL_isDredged_189 (by decide) (by omega) (by omega) (fun c_189 => ?_) (fun c_189 => ?_)
                    · exfalso; omega
                    · refine u_iconst (v := nI 1) C7 dL_isDredged_192 (by decide) ?_
                      refine u_goto (tgt := 197) C7 dL_isDredged_193 (by decide) ?_
                      exact ret _ _ _ _ _ _ (by omega) (by omega) dL_isDredged_197 (Or.inr rfl) ⟨rfl, N2, c + 1, hJ, by omega⟩
      · exact absurd (show (0 : Int32) ≤ iv N (Y + 21) v - nI a by rw [i_le, i_0, hT]; omega) c_53
    · skip
      refine u_istore C4 dL_isDredged_49 (by decide) ?_
      refine u_iload C4 dL_isDredged_51 rfl ?_
      refine u_if_ge (tgt := 98) C4 dL_isDredged_53 (by decide) (fun c_53 => ?_) (fun c_53 => ?_)
      · exact absurd c_53 (by decide)
      · refine u_iload C4 dL_isDredged_56 rfl ?_
        refine u_sipush (v := (-200)) C4 dL_isDredged_58 (by decide) ?_
        refine u_icmp_ne (tgt := 96) C4 dL_isDredged_61 (by decide) (fun c_61 => ?_) (fun c_61 => ?_)
        · exact absurd rfl c_61
        · refine u_iload C4 dL_isDredged_64 rfl ?_
          refine u_if_le (tgt := 96) C4 dL_isDredged_66 (by decide) (fun c_66 => ?_) (fun c_66 => ?_)
          · exact absurd c_66 (fun y => by rw [i_le, i_0] at y; have := ref_n z; omega)
          · refine u_aload_n C4 dL_isDredged_69 rfl ?_
            refine u_iload_n C4 dL_isDredged_70 rfl ?_
            refine u_iconst (v := nI 5) C4 dL_isDredged_71 (by decide) ?_
            have C5 := CC (0 + 1 + 1 + 1 + 1 + 1) (0 + 6 + 6 + 6 + 6 + 6) (by omega) (by omega)
            refine k_of C4 C5 E h.v hv (by decide) dL_isDredged_72 (Nat.le_of_ble_eq_true rfl) of_5 ?_
            refine u_iload C5 dL_isDredged_75 rfl ?_
            refine u_icmp_ne (tgt := 96) C5 dL_isDredged_77 (by decide) (fun c_77 => ?_) (fun c_77 => ?_)
            · exact absurd rfl c_77
            · refine u_aload_n C5 dL_isDredged_80 rfl ?_
              refine u_bipush (v := nI 9) C5 dL_isDredged_81 (by decide) ?_
              have C6 := CC (0 + 1 + 1 + 1 + 1 + 1 + 1) (0 + 6 + 6 + 6 + 6 + 6 + 6) (by omega) (by omega)
              refine k_sum C5 C6 E h.v (by decide) dL_isDredged_83 (Nat.le_of_ble_eq_true rfl) ?_
              refine u_lload C6 dL_isDredged_86 rfl ?_
              refine u_lcmp C6 dL_isDredged_88 ?_
              refine u_if_ne (tgt := 96) C6 dL_isDredged_89 (by decide) (fun c_89 => ?_) (fun c_89 => ?_)
              · exact absurd (lg_c8 _) c_89
              · refine u_iconst (v := nI 1) C6 dL_isDredged_92 (by decide) ?_
                refine u_goto (tgt := 97) C6 dL_isDredged_93 (by decide) ?_
                exact ret _ _ _ _ _ _ (by omega) (by omega) dL_isDredged_97 (Or.inr rfl) ⟨rfl, N, c, h, by omega⟩
set_option maxHeartbeats 4000000 in
set_option maxRecDepth 100000 in
theorem c_isDredgedC (l : Launch) (D : va_G) (G : w_G) (M N : w_M) (X Y O v a j : Nat) {n ic τ c oc tc sc w0 m0 q cc : Nat} (hX : L_sal G X) (hO : u_is G O 12 ∧ gN G O = 28) (hst : l.stackTraces = false) (h : JJ X Y O M N n ic τ c oc tc sc w0 m0 q cc) (hO9 : X + 1200 ≤ O) (hc : c < 512) (hv : v < n) (a0 : 1 ≤ a) (a1 : a ≤ 300) (hj : j < n) (hjv : j ≠ v) : u_Gm l D G yL_isDredged cL_isDredged 10 (some .boolean) 9 215 12 [.ref (gP G X), .int (nI v), .int (nI a), .int (nI j)] M (fun r M2 => r = 1 ∧ ∃ N2 c2, JJ X Y O M2 N2 n ic τ c2 oc tc sc w0 m0 q cc ∧ c2 ≤ c + 1) := by
  have n8 := h.v.rr.n8
  have t1 := h.v.rr.t1
  have hj1 : ¬ nI j = -1 := fun z => absurd (show nI j < 0 by rw [z]; decide) (nI_pos (by omega))
  refine u_bodyGz (by decide +kernel) (Nat.le_of_ble_eq_true rfl) rfl (fun p e s m args below meth c8 A H0 Q CC hXT hXH ret => ?_)
  have E : u_E l (u_rk 9 215 12) s A H0 G X := ⟨hXT, hXH, ⟨by decide, by decide⟩, hst, hX⟩
  have C0 := CC 0 0 (by omega) (by omega)
  refine u_aload_n C0 dL_isDredged_0 rfl ?_
  refine u_iload_n C0 dL_isDredged_1 rfl ?_
  refine u_iload_n C0 dL_isDredged_2 rfl ?_
  have C1 := CC (0 + 1) (0 + 6) (by omega) (by omega)
  refine k_why C0 C1 E h.v hv a0 (by omega) dL_isDredged_3 (Nat.le_of_ble_eq_true rfl) rfl ?_
  refine u_istore C1 dL_isDredged_6 (by decide) ?_
  refine u_aload_n C1 dL_isDredged_8 rfl ?_
  refine u_iload_n C1 dL_isDredged_9 rfl ?_
  refine u_iconst (v := nI 5) C1 dL_isDredged_10 (by decide) ?_
  have C2 := CC (0 + 1 + 1) (0 + 6 + 6) (by omega) (by omega)
  refine k_of C1 C2 E h.v hv (by decide) dL_isDredged_11 (Nat.le_of_ble_eq_true rfl) of_5 ?_
  refine u_istore C2 dL_isDredged_14 (by decide) ?_
  refine u_iload_n C2 dL_isDredged_16 rfl ?_
  refine u_iconst (v := (-1)) C2 dL_isDredged_17 (by decide) ?_
  refine u_icmp_ne (tgt := 25) C2 dL_isDredged_18 (by decide) (fun c_18 => ?_) (fun c_18 => ?_)
  · refine u_aload_n C2 dL_isDredged_25 rfl ?_
    refine u_iload_n C2 dL_isDredged_26 rfl ?_
    refine u_iconst (v := nI 4) C2 dL_isDredged_27 (by decide) ?_
    have C3 := CC (0 + 1 + 1 + 1) (0 + 6 + 6 + 6) (by omega) (by omega)
    refine k_of C2 C3 E h.v hj (by decide) dL_isDredged_28 (Nat.le_of_ble_eq_true rfl) of_4 ?_
    refine u_istore C3 dL_isDredged_31 (by decide) ?_
    refine u_aload_n C3 dL_isDredged_33 rfl ?_
    refine u_bipush (v := nI 9) C3 dL_isDredged_34 (by decide) ?_
    have C4 := CC (0 + 1 + 1 + 1 + 1) (0 + 6 + 6 + 6 + 6) (by omega) (by omega)
    refine k_sum C3 C4 E h.v (by decide) dL_isDredged_36 (Nat.le_of_ble_eq_true rfl) ?_
    refine u_lstore C4 dL_isDredged_39 (by decide) ?_
    refine u_aload_n C4 dL_isDredged_41 rfl ?_
    refine u_iload_n C4 dL_isDredged_42 rfl ?_
    refine u_iload_n C4 dL_isDredged_43 rfl ?_
    refine u_iload_n C4 dL_isDredged_44 rfl ?_
    refine u_iconst (v := nI 0) C4 dL_isDredged_45 (by decide) ?_
    have C5 := CC (0 + 1 + 1 + 1 + 1 + 1) (0 + 6 + 6 + 6 + 6 + 6) (by omega) (by omega)
    refine k_dredge C4 C5 E h.v hc hv a0 (by omega) (Or.inr ⟨j, hj, hjv, rfl⟩) dL_isDredged_46 (Nat.le_of_ble_eq_true rfl) (fun z => ?_) (fun z => ?_)
    · obtain ⟨T, e21, e18, oo, eS, eC⟩ := t_dre (to := (nI j)) h hc hv a0 (by omega) (Or.inr ⟨j, hj, hjv, rfl⟩) z
      rw [show iv (m_tell M X 8 (nI v) (nI a) (nI j) 0 0) (X + 1000 + 100 + v) 7 = iv N (Y + 21) v - nI a from (T.1.rr.rc.pe v hv).trans e21]
      have hJ := jj_of h T hO9 (fun x9 hx9 k => oo _ _ (by omega) (by omega) (by omega)) (oo _ _ (by omega) (by omega) (by omega)) (oo _ _ (by omega) (by omega) (by omega)) (by rw [oo _ _ (by omega) (by omega) (by omega)]; exact h.mk)
      generalize m_tell M X 8 (nI v) (nI a) (nI j) 0 0 = M2 at *
      generalize gE_dre N Y v (nI a) (nI j) = N2 at *
      obtain ⟨p0, p1, p2⟩ := ref_0 z
      rw [i_lt, i_N (by omega)] at p1 p2
      have pp := h.k.p v hv
      have hT : (iv N (Y + 21) v - nI a).toInt = (iv N (Y + 21) v).toInt - a := by rw [i_sub (by rw [i_N (by omega)]; omega) (by rw [i_N (by omega)]; omega), i_N (by omega)]
      refine u_istore C5 dL_isDredged_49 (by decide) ?_
      refine u_iload C5 dL_isDredged_51 rfl ?_
      refine u_if_ge (tgt := 98) C5 dL_isDredged_53 (by decide) (fun c_53 => ?_) (fun c_53 => ?_)
      · refine u_iload C5 dL_isDredged_98 rfl ?_
        refine u_if_ne (tgt := 196) C5 dL_isDredged_100 (by decide) (fun c_100 => ?_) (fun c_100 => ?_)
        · exact absurd z c_100
        · refine u_aload_n C5 dL_isDredged_103 rfl ?_
          refine u_iload_n C5 dL_isDredged_104 rfl ?_
          refine u_iconst (v := nI 5) C5 dL_isDredged_105 (by decide) ?_
          have C6 := CC (0 + 1 + 1 + 1 + 1 + 1 + 1) (0 + 6 + 6 + 6 + 6 + 6 + 6) (by omega) (by omega)
          refine k_of C5 C6 E T.1 hv (by decide) dL_isDredged_106 (Nat.le_of_ble_eq_true rfl) (of_5.trans e18) ?_
          refine u_iload C6 dL_isDredged_109 rfl ?_
          refine u_iload_n C6 dL_isDredged_111 rfl ?_
          refine u_isub C6 dL_isDredged_112 ?_
          refine u_icmp_ne (tgt := 196) C6 dL_isDredged_113 (by decide) (fun c_113 => ?_) (fun c_113 => ?_)
          · exact absurd rfl c_113
          · refine u_iload_n C6 dL_isDredged_116 rfl ?_
            refine u_iconst (v := (-1)) C6 dL_isDredged_117 (by decide) ?_
            refine u_icmp_ne (tgt := 139) C6 dL_isDredged_118 (by decide) (fun c_118 => ?_) (fun c_118 => ?_)
            · refine u_aload_n C6 dL_isDredged_139 rfl ?_
              refine u_iload_n C6 dL_isDredged_140 rfl ?_
              refine u_iconst (v := nI 4) C6 dL_isDredged_141 (by decide) ?_
              have C7 := CC (0 + 1 + 1 + 1 + 1 + 1 + 1 + 1) (0 + 6 + 6 + 6 + 6 + 6 + 6 + 6) (by omega) (by omega)
              refine k_of C6 C7 E T.1 hj (by decide) dL_isDredged_142 (Nat.le_of_ble_eq_true rfl) (of_4.trans (eC j rfl hj).1) ?_
              refine u_iload C7 dL_isDredged_145 rfl ?_
              refine u_iload_n C7 dL_isDredged_147 rfl ?_
              refine u_iadd C7 dL_isDredged_148 ?_
              refine u_icmp_ne (tgt := 196) C7 dL_isDredged_149 (by decide) (fun c_149 => ?_) (fun c_149 => ?_)
              · exact absurd rfl c_149
              · refine u_aload_n C7 dL_isDredged_152 rfl ?_
                refine u_bipush (v := nI 9) C7 dL_isDredged_153 (by decide) ?_
                have C8 := CC (0 + 1 + 1 + 1 + 1 + 1 + 1 + 1 + 1) (0 + 6 + 6 + 6 + 6 + 6 + 6 + 6 + 6) (by omega) (by omega)
                refine k_sum C7 C8 E T.1 (by decide) dL_isDredged_155 (Nat.le_of_ble_eq_true rfl) ?_
                rw [(eC j rfl hj).2]
                refine u_lload C8 dL_isDredged_158 rfl ?_
                refine u_lcmp C8 dL_isDredged_160 ?_
                refine u_if_ne (tgt := 196) C8 dL_isDredged_161 (by decide) (fun c_161 => ?_) (fun c_161 => ?_)
                · exact absurd (lg_c8 _) c_161
                · refine u_iload C8 dL_isDredged_164 rfl ?_
                  refine u_if_ne (tgt := 173) C8 dL_isDredged_166 (by decide) (fun c_166 => ?_) (fun c_166 => ?_)
                  · refine u_iconst (v := nI 0) C8 dL_isDredged_173 (by decide) ?_
                    refine u_aload_n C8 dL_isDredged_174 rfl ?_
                    refine u_iload_n C8 dL_isDredged_175 rfl ?_
                    refine u_iconst (v := nI 1) C8 dL_isDredged_176 (by decide) ?_
                    have C9 := CC (0 + 1 + 1 + 1 + 1 + 1 + 1 + 1 + 1 + 1) (0 + 6 + 6 + 6 + 6 + 6 + 6 + 6 + 6 + 6) (by omega) (by omega)
                    refine k_why C8 C9 E T.1 hv (by omega) (by omega) dL_isDredged_177 (Nat.le_of_ble_eq_true rfl) (by rw [e21]) ?_
                    refine u_iconst (v := nI 1) C9 dL_isDredged_180 (by decide) ?_
                    refine u_icmp_ne (tgt := 188) C9 dL_isDredged_181 (by decide) (fun c_181 => ?_) (fun c_181 => ?_)
                    · refine u_iconst (v := nI 0) C9 dL_isDredged_188 (by decide) ?_
                      refine u_icmp_neK (tgt := 196) C9 dL_isDredged_189 (by decide) (by omega) (by omega) (fun c_189 => ?_) (fun c_189 => ?_)
                      · exfalso; omega
                      · refine u_iconst (v := nI 1) C9 dL_isDredged_192 (by decide) ?_
                        refine u_goto (tgt := 197) C9 dL_isDredged_193 (by decide) ?_
                        exact ret _ _ _ _ _ _ (by omega) (by omega) dL_isDredged_197 (Or.inr rfl) ⟨rfl, N2, c + 1, hJ, by omega⟩
                    · exact absurd ((ref1 _ _).mp c_181) c_166
                  · refine u_iconst (v := nI 1) C8 dL_isDredged_169 (by decide) ?_
                    refine u_goto (tgt := 174) C8 dL_isDredged_170 (by decide) ?_
                    refine u_aload_n C8 dL_isDredged_174 rfl ?_
                    refine u_iload_n C8 dL_isDredged_175 rfl ?_
                    refine u_iconst (v := nI 1) C8 dL_isDredged_176 (by decide) ?_
                    have C9 := CC (0 + 1 + 1 + 1 + 1 + 1 + 1 + 1 + 1 + 1) (0 + 6 + 6 + 6 + 6 + 6 + 6 + 6 + 6 + 6) (by omega) (by omega)
                    refine k_why C8 C9 E T.1 hv (by omega) (by omega) dL_isDredged_177 (Nat.le_of_ble_eq_true rfl) (by rw [e21]) ?_
                    refine u_iconst (v := nI 1) C9 dL_isDredged_180 (by decide) ?_
                    refine u_icmp_ne (tgt := 188) C9 dL_isDredged_181 (by decide) (fun c_181 => ?_) (fun c_181 => ?_)
                    · exact absurd ((ref1 _ _).mpr c_166) c_181
                    · refine u_iconst (v := nI 1) C9 dL_isDredged_184 (by decide) ?_
                      refine u_goto (tgt := 189) C9 dL_isDredged_185 (by decide) ?_
                      refine u_icmp_neK (tgt := 196) C9 dL_isDredged_189 (by decide) (by omega) (by omega) (fun c_189 => ?_) (fun c_189 => ?_)
                      · exfalso; omega
                      · refine u_iconst (v := nI 1) C9 dL_isDredged_192 (by decide) ?_
                        refine u_goto (tgt := 197) C9 dL_isDredged_193 (by decide) ?_
                        exact ret _ _ _ _ _ _ (by omega) (by omega) dL_isDredged_197 (Or.inr rfl) ⟨rfl, N2, c + 1, hJ, by omega⟩
            · exact absurd c_118 hj1
      · exact absurd (show (0 : Int32) ≤ iv N (Y + 21) v - nI a by rw [i_le, i_0, hT]; omega) c_53
    · skip
      refine u_istore C5 dL_isDredged_49 (by decide) ?_
      refine u_iload C5 dL_isDredged_51 rfl ?_
      refine u_if_ge (tgt := 98) C5 dL_isDredged_53 (by decide) (fun c_53 => ?_) (fun c_53 => ?_)
      · exact absurd c_53 (by decide)
      · refine u_iload C5 dL_isDredged_56 rfl ?_
        refine u_sipush (v := (-200)) C5 dL_isDredged_58 (by decide) ?_
        refine u_icmp_ne (tgt := 96) C5 dL_isDredged_61 (by decide) (fun c_61 => ?_) (fun c_61 => ?_)
        · exact absurd rfl c_61
        · refine u_iload C5 dL_isDredged_64 rfl ?_
          refine u_if_le (tgt := 96) C5 dL_isDredged_66 (by decide) (fun c_66 => ?_) (fun c_66 => ?_)
          · exact absurd c_66 (fun y => by rw [i_le, i_0] at y; have := ref_n z; omega)
          · refine u_aload_n C5 dL_isDredged_69 rfl ?_
            refine u_iload_n C5 dL_isDredged_70 rfl ?_
            refine u_iconst (v := nI 5) C5 dL_isDredged_71 (by decide) ?_
            have C6 := CC (0 + 1 + 1 + 1 + 1 + 1 + 1) (0 + 6 + 6 + 6 + 6 + 6 + 6) (by omega) (by omega)
            refine k_of C5 C6 E h.v hv (by decide) dL_isDredged_72 (Nat.le_of_ble_eq_true rfl) of_5 ?_
            refine u_iload C6 dL_isDredged_75 rfl ?_
            refine u_icmp_ne (tgt := 96) C6 dL_isDredged_77 (by decide) (fun c_77 => ?_) (fun c_77 => ?_)
            · exact absurd rfl c_77
            · refine u_aload_n C6 dL_isDredged_80 rfl ?_
              refine u_bipush (v := nI 9) C6 dL_isDredged_81 (by decide) ?_
              have C7 := CC (0 + 1 + 1 + 1 + 1 + 1 + 1 + 1) (0 + 6 + 6 + 6 + 6 + 6 + 6 + 6) (by omega) (by omega)
              refine k_sum C6 C7 E h.v (by decide) dL_isDredged_83 (Nat.le_of_ble_eq_true rfl) ?_
              refine u_lload C7 dL_isDredged_86 rfl ?_
              refine u_lcmp C7 dL_isDredged_88 ?_
              refine u_if_ne (tgt := 96) C7 dL_isDredged_89 (by decide) (fun c_89 => ?_) (fun c_89 => ?_)
              · exact absurd (lg_c8 _) c_89
              · refine u_iconst (v := nI 1) C7 dL_isDredged_92 (by decide) ?_
                refine u_goto (tgt := 97) C7 dL_isDredged_93 (by decide) ?_
                exact ret _ _ _ _ _ _ (by omega) (by omega) dL_isDredged_97 (Or.inr rfl) ⟨rfl, N, c, h, by omega⟩
  · exact absurd c_18 hj1
