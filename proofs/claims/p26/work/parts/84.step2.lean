/-! one step of the law -/
set_option maxHeartbeats 4000000 in
set_option maxRecDepth 100000 in
theorem c_step (l : Launch) (D : va_G) (G : w_G) (M N : w_M) (X Y O wh a b k9 : Nat) {n ic τ c oc tc sc w0 m0 q cc : Nat} (hX : L_sal G X) (hO : u_is G O 12 ∧ gN G O = 28) (hst : l.stackTraces = false) (h : JJ X Y O M N n ic τ c oc tc sc w0 m0 q cc) (hO9 : X + 3000 ≤ O) (hk9 : k9 < 200) (hc2 : c ≤ 2 * k9) (hq : q ≤ k9) (hw : wh < 2 ^ 31) (ha : a < 2 ^ 31) (hb : b < 2 ^ 31) : u_Gm l D G yL_step cL_step 19 (some .boolean) 10 260 60 [.ref (gP G X), .ref (gP G O), .int (nI wh), .int (nI a), .int (nI b)] M (fun r M2 => r = 1 ∧ JE X Y O (k9 + 1) M2) := by
  have n8 := h.v.rr.n8
  refine u_bodyGz (by decide +kernel) (Nat.le_of_ble_eq_true rfl) rfl (fun p e s m args below meth c8 A H0 Q CC hXT hXH ret => ?_)
  have E : u_E l (u_rk 10 260 60) s A H0 G X := ⟨hXT, hXH, ⟨by decide, by decide⟩, hst, hX⟩
  have C0 := CC 0 0 (by omega) (by omega)
  have k31 : ∀ at9 v : Nat, (n = 0 ∨ at9 < n) → (n = 0 → v = 0) → v < 24 → u_S p l e (u_rk 10 260 60) s m args below meth c8 19 D A H0 0 0 Q 31 [(0, .ref (gP G X)), (1, .ref (gP G O)), (2, .int (nI wh)), (3, .int (nI a)), (4, .int (nI b)), (5, .int (nI at9))] [.int (nI v)] G M := by
    intro at9 v h1 h2 h3
    rcases (show v = 0 ∨ v = 1 ∨ v = 2 ∨ v = 3 ∨ v = 4 ∨ v = 5 ∨ v = 6 ∨ v = 7 ∨ v = 8 ∨ v = 9 ∨ v = 10 ∨ v = 11 ∨ v = 12 ∨ v = 13 ∨ v = 14 ∨ v = 15 ∨ 16 ≤ v by omega) with rfl | rfl | rfl | rfl | rfl | rfl | rfl | rfl | rfl | rfl | rfl | rfl | rfl | rfl | rfl | rfl | h16
    · refine u_tin (off := 77) (tgt := 108) C0 dL_step_31 (by decide) (by decide) (by decide) (by decide) ?_
      exact u_loc [0, 1, 2, 3, 4, 5] rfl (st_sec CC E hO h hO9 hk9 hc2 hq ha hb ret)
    · refine u_tin (off := 77) (tgt := 108) C0 dL_step_31 (by decide) (by decide) (by decide) (by decide) ?_
      exact u_loc [0, 1, 2, 3, 4, 5] rfl (st_sec CC E hO h hO9 hk9 hc2 hq ha hb ret)
    · refine u_tin (off := 322) (tgt := 353) C0 dL_step_31 (by decide) (by decide) (by decide) (by decide) ?_
      exact u_loc [0, 1, 2, 3, 4, 5] rfl (st_turn CC E hO h hO9 hk9 hc2 hq ha hb ret)
    · refine u_tin (off := 434) (tgt := 465) C0 dL_step_31 (by decide) (by decide) (by decide) (by decide) ?_
      exact u_loc [0, 1, 2, 3, 4, 5] rfl (st_mean CC E hO h hO9 hk9 hc2 hq ha hb ret)
    · refine u_tin (off := 469) (tgt := 500) C0 dL_step_31 (by decide) (by decide) (by decide) (by decide) ?_
      exact u_loc [0, 1, 2, 3, 4, 5] rfl (st_surge CC E hO h hO9 hk9 hc2 hq ha hb ret)
    · refine u_tin (off := 608) (tgt := 639) C0 dL_step_31 (by decide) (by decide) (by decide) (by decide) ?_
      exact u_loc [0, 1, 2, 3, 4, 5] rfl (st_river CC E hO h hO9 hk9 hc2 hq ha hb ret)
    · refine u_tin (off := 608) (tgt := 639) C0 dL_step_31 (by decide) (by decide) (by decide) (by decide) ?_
      exact u_loc [0, 1, 2, 3, 4, 5] rfl (st_river CC E hO h hO9 hk9 hc2 hq ha hb ret)
    · refine u_tin (off := 668) (tgt := 699) C0 dL_step_31 (by decide) (by decide) (by decide) (by decide) ?_
      exact u_loc [0, 1, 2, 3, 4, 5] rfl (st_bar CC E hO h hO9 hk9 hc2 hq ha hb ret)
    · refine u_tin (off := 704) (tgt := 735) C0 dL_step_31 (by decide) (by decide) (by decide) (by decide) ?_
      exact u_loc [0, 1, 2, 3, 4, 5] rfl (st_int CC E hO h hO9 hk9 hc2 hq ha hb ret (by omega))
    · refine u_tin (off := 704) (tgt := 735) C0 dL_step_31 (by decide) (by decide) (by decide) (by decide) ?_
      exact u_loc [0, 1, 2, 3, 4, 5] rfl (st_int CC E hO h hO9 hk9 hc2 hq ha hb ret (by omega))
    · refine u_tin (off := 870) (tgt := 901) C0 dL_step_31 (by decide) (by decide) (by decide) (by decide) ?_
      exact u_loc [0, 1, 2, 3, 4, 5] rfl (st_oys CC E hO h hO9 hk9 hc2 hq ha hb ret (by omega))
    · refine u_tin (off := 981) (tgt := 1012) C0 dL_step_31 (by decide) (by decide) (by decide) (by decide) ?_
      exact u_loc [0, 1, 2, 3, 4, 5] rfl (st_per CC E hO h hO9 hk9 hc2 hq ha hb ret (by omega))
    · refine u_tin (off := 1046) (tgt := 1077) C0 dL_step_31 (by decide) (by decide) (by decide) (by decide) ?_
      exact u_loc [0, 1, 2, 3, 4, 5] rfl (st_dre CC E hO h hO9 hk9 hc2 hq ha hb ret (by omega))
    · refine u_tin (off := 1046) (tgt := 1077) C0 dL_step_31 (by decide) (by decide) (by decide) (by decide) ?_
      exact u_loc [0, 1, 2, 3, 4, 5] rfl (st_dre CC E hO h hO9 hk9 hc2 hq ha hb ret (by omega))
    · refine u_tin (off := 1089) (tgt := 1120) C0 dL_step_31 (by decide) (by decide) (by decide) (by decide) ?_
      exact u_loc [0, 1, 2, 3, 4, 5] rfl (st_win CC E hO h hO9 hk9 hc2 hq ha hb ret (by omega))
    · refine u_tin (off := 1109) (tgt := 1140) C0 dL_step_31 (by decide) (by decide) (by decide) (by decide) ?_
      exact u_loc [0, 1, 2, 3, 4, 5] rfl (st_anew CC E hO h hO9 hk9 hc2 hq ha hb ret (by omega))
    · refine u_tout (tgt := 1187) C0 dL_step_31 (Or.inr (by rw [i_N (by omega)]; omega)) (by decide) ?_
      exact u_loc [0, 1, 2, 3, 4, 5] rfl (st_pass CC E hO h hO9 hk9 hc2 hq ha hb ret (by omega))
  have k15 : ∀ at9 : Nat, (n = 0 ∨ at9 < n) → u_S p l e (u_rk 10 260 60) s m args below meth c8 19 D A H0 0 0 Q 15 [(0, .ref (gP G X)), (1, .ref (gP G O)), (2, .int (nI wh)), (3, .int (nI a)), (4, .int (nI b))] [.int (nI at9)] G M := by
    intro at9 h1
    refine u_istore C0 dL_step_15 (by decide) ?_
    refine u_aload_n C0 dL_step_17 rfl ?_
    refine u_iconst (v := nI 0) C0 dL_step_18 (by decide) ?_
    refine u_ialdNv (i := 0) (x := nI n) C0 dL_step_19 hO.1 hO.2 (by decide) (by decide) h.d0 ?_
    refine u_if_neK (tgt := 27) C0 dL_step_20 (by decide) (by omega) (fun c_20 => ?_) (fun c_20 => ?_)
    · refine u_iload_n C0 dL_step_27 rfl ?_
      refine u_bipush (v := nI 24) C0 dL_step_28 (by decide) ?_
      refine u_iremK C0 dL_step_30 (by omega) (by omega) (by omega) ?_
      exact u_loc [0, 1, 2, 3, 4, 5] rfl (k31 at9 (wh % 24) h1 (by omega) (by omega))
    · refine u_iconst (v := nI 0) C0 dL_step_23 (by decide) ?_
      refine u_goto (tgt := 31) C0 dL_step_24 (by decide) ?_
      exact u_loc [0, 1, 2, 3, 4, 5] rfl (k31 at9 (0) h1 (by omega) (by omega))
  refine u_aload_n C0 dL_step_0 rfl ?_
  refine u_iconst (v := nI 0) C0 dL_step_1 (by decide) ?_
  refine u_ialdNv (i := 0) (x := nI n) C0 dL_step_2 hO.1 hO.2 (by decide) (by decide) h.d0 ?_
  refine u_if_neK (tgt := 10) C0 dL_step_3 (by decide) (by omega) (fun c_3 => ?_) (fun c_3 => ?_)
  · refine u_iload_n C0 dL_step_10 rfl ?_
    refine u_aload_n C0 dL_step_11 rfl ?_
    refine u_iconst (v := nI 0) C0 dL_step_12 (by decide) ?_
    refine u_ialdNv (i := 0) (x := nI n) C0 dL_step_13 hO.1 hO.2 (by decide) (by decide) h.d0 ?_
    have hz := Nat.mod_lt a (show 0 < n by omega)
    refine u_iremK C0 dL_step_14 (by omega) (by omega) (by omega) ?_
    exact u_loc [0, 1, 2, 3, 4] rfl (k15 (a % n) (by omega))
  · refine u_iconst (v := nI 0) C0 dL_step_6 (by decide) ?_
    refine u_goto (tgt := 15) C0 dL_step_7 (by decide) ?_
    exact u_loc [0, 1, 2, 3, 4] rfl (k15 (0) (by omega))
