/-! a turn comes again -/
set_option maxHeartbeats 4000000 in
set_option maxRecDepth 100000 in
theorem c_isTide (l : Launch) (D : va_G) (G : w_G) (M N : w_M) (X Y O pd : Nat) {n ic τ c oc tc sc w0 m0 q cc : Nat} (hX : L_sal G X) (hO : u_is G O 12 ∧ gN G O = 28) (hst : l.stackTraces = false) (h : JJ X Y O M N n ic τ c oc tc sc w0 m0 q cc) (t6 : tc ≤ 6) (s20 : sc ≤ 20) (p0 : 2 ≤ pd) (p1 : pd ≤ 60) (t0 : 1 ≤ tc) (hp : tc = 1 → iv N (Y + 4) 0 = nI pd) : u_Gm l D G yL_isTide cL_isTide 3 (some .boolean) 9 210 4 [.ref (gP G X), .ref (gP G O), .int (nI pd)] M (fun r M2 => r = 1 ∧ M2 = M) := by
  have t1 := h.v.rr.t1
  refine u_bodyGz (by decide +kernel) (Nat.le_of_ble_eq_true rfl) rfl (fun p e s m args below meth c8 A H0 Q CC hXT hXH ret => ?_)
  have E : u_E l (u_rk 9 210 4) s A H0 G X := ⟨hXT, hXH, ⟨by decide, by decide⟩, hst, hX⟩
  have C0 := CC 0 0 (by omega) (by omega)
  refine u_aload_n C0 dL_isTide_0 rfl ?_
  refine u_iconst (v := nI 3) C0 dL_isTide_1 (by decide) ?_
  refine u_ialdNv (i := 3) (x := nI tc) C0 dL_isTide_2 hO.1 hO.2 (by decide) (by decide) h.d3 ?_
  refine u_iconst (v := nI 1) C0 dL_isTide_3 (by decide) ?_
  refine u_icmp_gtK (tgt := 57) C0 dL_isTide_4 (by decide) (by omega) (by omega) (fun c_4 => ?_) (fun c_4 => ?_)
  · refine u_iconst (v := nI 1) C0 dL_isTide_57 (by decide) ?_
    refine u_goto (tgt := 62) C0 dL_isTide_58 (by decide) ?_
    exact ret _ _ _ _ _ _ (by omega) (by omega) dL_isTide_62 (Or.inr rfl) ⟨rfl, rfl⟩
  · refine u_aload_n C0 dL_isTide_7 rfl ?_
    refine u_iconst (v := nI 4) C0 dL_isTide_8 (by decide) ?_
    refine u_ialdNv (i := 4) (x := nI sc) C0 dL_isTide_9 hO.1 hO.2 (by decide) (by decide) h.d4 ?_
    refine u_if_gtK (tgt := 57) C0 dL_isTide_10 (by decide) (by omega) (fun c_10 => ?_) (fun c_10 => ?_)
    · refine u_iconst (v := nI 1) C0 dL_isTide_57 (by decide) ?_
      refine u_goto (tgt := 62) C0 dL_isTide_58 (by decide) ?_
      exact ret _ _ _ _ _ _ (by omega) (by omega) dL_isTide_62 (Or.inr rfl) ⟨rfl, rfl⟩
    · refine u_aload_n C0 dL_isTide_13 rfl ?_
      refine u_aload_n C0 dL_isTide_14 rfl ?_
      refine u_iconst (v := nI 5) C0 dL_isTide_15 (by decide) ?_
      refine u_ialdNv (i := 5) (x := nI τ) C0 dL_isTide_16 hO.1 hO.2 (by decide) (by decide) h.d5 ?_
      refine u_bipush (v := nI 100) C0 dL_isTide_17 (by decide) ?_
      refine u_iaddK C0 dL_isTide_19 ?_
      have C1 := CC (0 + 1) (0 + 6) (by omega) (by omega)
      refine k_sea C0 C1 E h.v (k := τ + 100) (by omega) dL_isTide_20 (Nat.le_of_ble_eq_true rfl) (sea_f h.v.rr (by omega)) ?_
      refine u_aload_n C1 dL_isTide_23 rfl ?_
      refine u_aload_n C1 dL_isTide_24 rfl ?_
      refine u_iconst (v := nI 5) C1 dL_isTide_25 (by decide) ?_
      refine u_ialdNv (i := 5) (x := nI τ) C1 dL_isTide_26 hO.1 hO.2 (by decide) (by decide) h.d5 ?_
      refine u_bipush (v := nI 100) C1 dL_isTide_27 (by decide) ?_
      refine u_iaddK C1 dL_isTide_29 ?_
      refine u_iload_n C1 dL_isTide_30 rfl ?_
      refine u_iaddK C1 dL_isTide_31 ?_
      have C2 := CC (0 + 1 + 1) (0 + 6 + 6) (by omega) (by omega)
      refine k_sea C1 C2 E h.v (k := τ + 100 + pd) (by omega) dL_isTide_32 (Nat.le_of_ble_eq_true rfl) (sea_f h.v.rr (by omega)) ?_
      refine u_icmp_ne (tgt := 61) C2 dL_isTide_35 (by decide) (fun c_35 => ?_) (fun c_35 => ?_)
      · exact absurd (tide_e h.v.rr.gt (by rw [h.htc]; congr 1; omega) (by rw [h.hsc]; congr 1; omega) (hp (by omega)) (by omega) p1 (by omega)).symm c_35
      · refine u_aload_n C2 dL_isTide_38 rfl ?_
        refine u_aload_n C2 dL_isTide_39 rfl ?_
        refine u_iconst (v := nI 5) C2 dL_isTide_40 (by decide) ?_
        refine u_ialdNv (i := 5) (x := nI τ) C2 dL_isTide_41 hO.1 hO.2 (by decide) (by decide) h.d5 ?_
        have C3 := CC (0 + 1 + 1 + 1) (0 + 6 + 6 + 6) (by omega) (by omega)
        refine k_sea C2 C3 E h.v (k := τ) (by omega) dL_isTide_42 (Nat.le_of_ble_eq_true rfl) (sea_f h.v.rr (by omega)) ?_
        refine u_aload_n C3 dL_isTide_45 rfl ?_
        refine u_aload_n C3 dL_isTide_46 rfl ?_
        refine u_iconst (v := nI 5) C3 dL_isTide_47 (by decide) ?_
        refine u_ialdNv (i := 5) (x := nI τ) C3 dL_isTide_48 hO.1 hO.2 (by decide) (by decide) h.d5 ?_
        refine u_iload_n C3 dL_isTide_49 rfl ?_
        refine u_iaddK C3 dL_isTide_50 ?_
        have C4 := CC (0 + 1 + 1 + 1 + 1) (0 + 6 + 6 + 6 + 6) (by omega) (by omega)
        refine k_sea C3 C4 E h.v (k := τ + pd) (by omega) dL_isTide_51 (Nat.le_of_ble_eq_true rfl) (sea_f h.v.rr (by omega)) ?_
        refine u_icmp_ne (tgt := 61) C4 dL_isTide_54 (by decide) (fun c_54 => ?_) (fun c_54 => ?_)
        · exact absurd (tide_e h.v.rr.gt (by rw [h.htc]; congr 1; omega) (by rw [h.hsc]; congr 1; omega) (hp (by omega)) (by omega) p1 (by omega)).symm c_54
        · refine u_iconst (v := nI 1) C4 dL_isTide_57 (by decide) ?_
          refine u_goto (tgt := 62) C4 dL_isTide_58 (by decide) ?_
          exact ret _ _ _ _ _ _ (by omega) (by omega) dL_isTide_62 (Or.inr rfl) ⟨rfl, rfl⟩
