/-! the law's clauses: what tells -/
theorem lit100 : (100 : Int32).toInt = 100 := by decide
theorem lit500 : (500 : Int32).toInt = 500 := by decide
theorem lit10000 : (10000 : Int32).toInt = 10000 := by decide
theorem lit12 : (12 : Int32).toInt = 12 := by decide
theorem lit30 : (30 : Int32).toInt = 30 := by decide
theorem litm50 : (-50 : Int32).toInt = -50 := by decide
theorem cB_of {x : Int32} {b : Nat} (hb : b < 1000) (h0 : 0 ≤ x.toInt) (h1 : x.toInt ≤ b) : cB x b := by
  refine ⟨x.toInt.toNat, by omega, ?_⟩
  refine i_ext ?_
  rw [i_N (by omega)]; omega
theorem has_N {M : w_M} {Y n : Nat} {v : Int32} (hn : n ≤ 8) (h2 : iv M Y 16 = nI n) (h : ¬ g_has M Y v = 0) : ∃ s, s < n ∧ v = nI s := by
  unfold g_has at h; rw [h2] at h; exact u_fWm (by omega) h
section CL2
variable {l : Launch} {D : va_G} {G : w_G} {X Y O : Nat}
theorem cl_mean (hX : L_sal G X) (hY : L_mdl G Y) (hO : L_j1 G O) (hst : l.stackTraces = false) (hXY : X + 4000 ≤ Y) (hYO : Y + 200 ≤ O) : H_mean l D G X Y O (IV X Y) := by
  intro t M a1 ht hI
  obtain ⟨n, ic, τ, c, h⟩ := id hI
  have hn := h.rr.n8; have hi6 := h.rr.i6; have hτ := h.rr.t1
  have hkc : kc_mean a1 = kc_mean a1 := rfl
  have em : iv M (X + 1001) 5 = iv M Y 2 := h.rr.rt.me
  refine ⟨_, h_L_mean l D G M X O a1 _ _ (sal_is hX) hO (c_X10_mean l D G M X a1 hX hst h.okx (h.hk ht)) (by rintro E M2 ⟨_, _, rfl⟩; simp), ?_⟩
  rintro r5 M2 (⟨e5, v, Mv, ⟨k0, ev, eMv⟩, eM2⟩ | ⟨E, i, ⟨eM, hE⟩, hi9, e5⟩)
  · have hv : v_hk M Y 1 a1 0 0 0 0 := by
      unfold kc_mean at k0
      split at k0
      · exact absurd k0 (by decide)
      · rename_i q; rw [fW_1, i_0, lit100] at q
        exact Or.inr (Or.inl ⟨rfl, q.1, q.2⟩)
    have eM' : Mv = m_hk (m_keep M (X + 1) (iv M (X + 1000) 9) 1 a1 0 0 0 0) (X + 1000) 1 a1 0 0 0 0 := eMv
    have tY := tell_Y h hXY hv
    rw [← eM'] at tY
    subst eM2
    have wY : ∀ q j, Y ≤ q → iv (wj Mv O 0 v.toInt64) q j = iv M q j := fun q j hq => tY q hq j
    have wZ : ∀ q j, (q ≠ Y ∨ j ≠ 0) → iv (wi (wj Mv O 0 v.toInt64) Y 0 0) q j = iv (wj Mv O 0 v.toInt64) q j := fun q j hq => iv_n (by omega)
    refine ⟨_, c_X11_mean l D G _ Y a1 hY (h.okm.1.c (fun q q1 q2 j q3 => tY q q1 j)), ?_⟩
    rintro r6 M3 ⟨q0, q1⟩
    obtain ⟨er6, eM3⟩ := q1 (by skip; rw [← hkc]; exact k0)
    refine ⟨_, c_X11_thrown l D G M3 Y hY, ?_⟩
    rintro r7 M4 ⟨e7, e4⟩
    have e3 : M3 = g_hk (wi (wj Mv O 0 v.toInt64) Y 0 0) Y 1 a1 0 0 0 0 := by
      rw [eM3]
      rfl
    have exy : v.toInt64 = r6.toInt64 := by
      rw [er6, wZ _ _ (by omega), wY _ _ (by omega), ev, em]
    exact fin_tell h hXY hYO ht hv e5 exy eM' e3 e7 e4
  · subst eM
    obtain ⟨kk, i1⟩ := bad_a hi9 hE
    rw [hkc] at kk
    refine ⟨_, c_X11_mean l D G _ Y a1 hY h.okm.1, ?_⟩
    rintro r6 M3 ⟨q0, q1⟩
    have eM3 := q0 (by rw [kk]; omega)
    rw [kk] at eM3
    refine ⟨_, c_X11_thrown l D G M3 Y hY, ?_⟩
    rintro r7 M4 ⟨e7, e4⟩
    exact fin_bad hI hXY i1 e5 eM3 e7 e4

theorem cl_surge (hX : L_sal G X) (hY : L_mdl G Y) (hO : L_j1 G O) (hst : l.stackTraces = false) (hXY : X + 4000 ≤ Y) (hYO : Y + 200 ≤ O) : H_surge l D G X Y O (IV X Y) := by
  intro t M a1 a2 a3 ht hI
  obtain ⟨n, ic, τ, c, h⟩ := id hI
  have hn := h.rr.n8; have hi6 := h.rr.i6; have hτ := h.rr.t1
  have esc : iv M (X + 1001) 4 = iv M Y 5 := h.rr.rt.sc
  have eno : iv M (X + 1000) 9 = iv M Y 1 := h.rr.Mt.trans h.rr.Nt.symm
  have hkc : kc_surge a1 a2 a3 (iv M (X + 1000) 9) (iv M (X + 1001) 4) = gk_surge a1 a2 a3 (iv M Y 1) (iv M Y 5) := by rw [esc, eno]; exact k_surge h.rr.gt.sc
  refine ⟨_, h_L_surge l D G M X O a1 a2 a3 _ _ (sal_is hX) hO (c_X10_surge l D G M X a1 a2 a3 hX hst h.okx (h.hk ht)) (by rintro E M2 ⟨_, (⟨_, rfl⟩ | ⟨_, rfl⟩)⟩ <;> simp), ?_⟩
  rintro r5 M2 (⟨e5, v, Mv, ⟨k0, ev, eMv⟩, eM2⟩ | ⟨E, i, ⟨eM, hE⟩, hi9, e5⟩)
  · have hv : v_hk M Y 2 a1 a2 a3 0 0 := by
      unfold kc_surge at k0
      split at k0
      · exact absurd k0 (by decide)
      · rename_i q
        split at k0
        · rename_i q2
          rw [not_or, not_or, fW_1, fW_1, fW_1] at q
          rw [litm50, lit100] at q
          rw [esc] at q2
          exact Or.inr (Or.inr (Or.inl ⟨rfl, c_ltN h.rr.gt.sc (by decide) 20 (by decide) q2, q.2.2.1, q.2.2.2⟩))
        · exact absurd k0 (by decide)
    have eM' : Mv = m_hk (m_keep M (X + 1) (iv M (X + 1000) 9) 2 a1 a2 a3 0 0) (X + 1000) 2 a1 a2 a3 0 0 := eMv
    have tY := tell_Y h hXY hv
    rw [← eM'] at tY
    subst eM2
    have wY : ∀ q j, Y ≤ q → iv (wj Mv O 0 v.toInt64) q j = iv M q j := fun q j hq => tY q hq j
    have wZ : ∀ q j, (q ≠ Y ∨ j ≠ 0) → iv (wi (wj Mv O 0 v.toInt64) Y 0 0) q j = iv (wj Mv O 0 v.toInt64) q j := fun q j hq => iv_n (by omega)
    refine ⟨_, c_X11_surge l D G _ Y a1 a2 a3 hY (h.okm.1.c (fun q q1 q2 j q3 => tY q q1 j)), ?_⟩
    rintro r6 M3 ⟨q0, q1⟩
    obtain ⟨er6, eM3⟩ := q1 (by rw [wY _ _ (by omega), wY _ _ (by omega)]; rw [← hkc]; exact k0)
    refine ⟨_, c_X11_thrown l D G M3 Y hY, ?_⟩
    rintro r7 M4 ⟨e7, e4⟩
    have e3 : M3 = g_hk (wi (wj Mv O 0 v.toInt64) Y 0 0) Y 2 a1 a2 a3 0 0 := by
      rw [eM3]
      show _ = gE_surge (wi (wj Mv O 0 v.toInt64) Y 0 0) Y (cN (iv (wi (wj Mv O 0 v.toInt64) Y 0 0) Y 5)) a1 a2 a3
      rw [wZ _ _ (by omega)]
    have exy : v.toInt64 = r6.toInt64 := by
      have k5 : iv (m_keep M (X + 1) (iv M (X + 1000) 9) 2 a1 a2 a3 0 0) (X + 1001) 4 = iv M Y 5 := by rw [keep_o (by omega) (by omega)]; exact esc
      have hl : cN (iv M Y 5) < 20 := by
        rcases hv with v | v | v | v | v | v | v | v | v
        · exact absurd v.1 (by decide)
        · exact absurd v.1 (by decide)
        · exact v.2.1
        · exact absurd v.1 (by decide)
        · exact absurd v.1 (by decide)
        · exact absurd v.1 (by decide)
        · exact absurd v.1 (by decide)
        · exact absurd v.1 (by decide)
        · exact absurd v.1 (by decide)
      rw [er6]; unfold gE_surge g_a; simp (disch := omega) only [iv_s, iv_n]; rw [wY _ _ (by omega), ev]; unfold m_addS
      rw [k5, if_pos hl]; simp (disch := omega) only [iv_s, iv_n]
    exact fin_tell h hXY hYO ht hv e5 exy eM' e3 e7 e4
  · subst eM
    obtain ⟨kk, i1⟩ := bad_as hi9 hE
    rw [hkc] at kk
    refine ⟨_, c_X11_surge l D G _ Y a1 a2 a3 hY h.okm.1, ?_⟩
    rintro r6 M3 ⟨q0, q1⟩
    have eM3 := q0 (by rw [kk]; omega)
    rw [kk] at eM3
    refine ⟨_, c_X11_thrown l D G M3 Y hY, ?_⟩
    rintro r7 M4 ⟨e7, e4⟩
    exact fin_bad hI hXY i1 e5 eM3 e7 e4

theorem cl_river (hX : L_sal G X) (hY : L_mdl G Y) (hO : L_j1 G O) (hst : l.stackTraces = false) (hXY : X + 4000 ≤ Y) (hYO : Y + 200 ≤ O) : H_river l D G X Y O (IV X Y) := by
  intro t M a1 a2 ht hI
  obtain ⟨n, ic, τ, c, h⟩ := id hI
  have hn := h.rr.n8; have hi6 := h.rr.i6; have hτ := h.rr.t1
  have hkc : kc_river a1 a2 = kc_river a1 a2 := rfl
  have em : iv M (X + 1000) 7 = iv M Y 8 := h.rr.rc.rw
  refine ⟨_, h_L_river l D G M X O a1 a2 _ _ (sal_is hX) hO (c_X10_river l D G M X a1 a2 hX hst h.okx (h.hk ht)) (by rintro E M2 ⟨_, _, rfl⟩; simp), ?_⟩
  rintro r5 M2 (⟨e5, v, Mv, ⟨k0, ev, eMv⟩, eM2⟩ | ⟨E, i, ⟨eM, hE⟩, hi9, e5⟩)
  · have hv : v_hk M Y 3 a1 a2 0 0 0 := by
      unfold kc_river at k0
      split at k0
      · exact absurd k0 (by decide)
      · rename_i q; rw [not_or, fW_1, fW_1, i_0, lit500] at q
        exact Or.inr (Or.inr (Or.inr (Or.inl ⟨rfl, q.1.1, q.1.2, q.2.1, q.2.2⟩)))
    have eM' : Mv = m_hk (m_keep M (X + 1) (iv M (X + 1000) 9) 3 a1 a2 0 0 0) (X + 1000) 3 a1 a2 0 0 0 := eMv
    have tY := tell_Y h hXY hv
    rw [← eM'] at tY
    subst eM2
    have wY : ∀ q j, Y ≤ q → iv (wj Mv O 0 v.toInt64) q j = iv M q j := fun q j hq => tY q hq j
    have wZ : ∀ q j, (q ≠ Y ∨ j ≠ 0) → iv (wi (wj Mv O 0 v.toInt64) Y 0 0) q j = iv (wj Mv O 0 v.toInt64) q j := fun q j hq => iv_n (by omega)
    refine ⟨_, c_X11_river l D G _ Y a1 a2 hY (h.okm.1.c (fun q q1 q2 j q3 => tY q q1 j)), ?_⟩
    rintro r6 M3 ⟨q0, q1⟩
    obtain ⟨er6, eM3⟩ := q1 (by skip; rw [← hkc]; exact k0)
    refine ⟨_, c_X11_thrown l D G M3 Y hY, ?_⟩
    rintro r7 M4 ⟨e7, e4⟩
    have e3 : M3 = g_hk (wi (wj Mv O 0 v.toInt64) Y 0 0) Y 3 a1 a2 0 0 0 := by
      rw [eM3]
      rfl
    have exy : v.toInt64 = r6.toInt64 := by
      rw [er6, wZ _ _ (by omega), wY _ _ (by omega), ev, em]
    exact fin_tell h hXY hYO ht hv e5 exy eM' e3 e7 e4
  · subst eM
    obtain ⟨kk, i1⟩ := bad_a hi9 hE
    rw [hkc] at kk
    refine ⟨_, c_X11_river l D G _ Y a1 a2 hY h.okm.1, ?_⟩
    rintro r6 M3 ⟨q0, q1⟩
    have eM3 := q0 (by rw [kk]; omega)
    rw [kk] at eM3
    refine ⟨_, c_X11_thrown l D G M3 Y hY, ?_⟩
    rintro r7 M4 ⟨e7, e4⟩
    exact fin_bad hI hXY i1 e5 eM3 e7 e4

theorem cl_barrier (hX : L_sal G X) (hY : L_mdl G Y) (hO : L_j1 G O) (hst : l.stackTraces = false) (hXY : X + 4000 ≤ Y) (hYO : Y + 200 ≤ O) : H_barrier l D G X Y O (IV X Y) := by
  intro t M a1 a2 ht hI
  obtain ⟨n, ic, τ, c, h⟩ := id hI
  have hn := h.rr.n8; have hi6 := h.rr.i6; have hτ := h.rr.t1
  have hkc : kc_bar a1 a2 = gk_bar a1 a2 := k_bar
  have em : iv M (X + 1002) 4 = iv M Y 10 := h.rr.rb.mk9
  refine ⟨_, h_L_barrier l D G M X O a1 a2 _ _ (sal_is hX) hO (c_X10_barrier l D G M X a1 a2 hX hst h.okx (h.hk ht)) (by rintro E M2 ⟨_, _, rfl⟩; simp), ?_⟩
  rintro r5 M2 (⟨e5, v, Mv, ⟨k0, ev, eMv⟩, eM2⟩ | ⟨E, i, ⟨eM, hE⟩, hi9, e5⟩)
  · have hv : v_hk M Y 4 a1 a2 0 0 0 := by
      unfold kc_bar at k0
      split at k0
      · exact absurd k0 (by decide)
      · rename_i q; rw [not_or, fW_1, i_0, lit12] at q
        exact Or.inr (Or.inr (Or.inr (Or.inr (Or.inl ⟨rfl, cB_of (by decide) q.2.1 q.2.2⟩))))
    have eM' : Mv = m_hk (m_keep M (X + 1) (iv M (X + 1000) 9) 4 a1 a2 0 0 0) (X + 1000) 4 a1 a2 0 0 0 := eMv
    have tY := tell_Y h hXY hv
    rw [← eM'] at tY
    subst eM2
    have wY : ∀ q j, Y ≤ q → iv (wj Mv O 0 v.toInt64) q j = iv M q j := fun q j hq => tY q hq j
    have wZ : ∀ q j, (q ≠ Y ∨ j ≠ 0) → iv (wi (wj Mv O 0 v.toInt64) Y 0 0) q j = iv (wj Mv O 0 v.toInt64) q j := fun q j hq => iv_n (by omega)
    refine ⟨_, c_X11_barrier l D G _ Y a1 a2 hY (h.okm.1.c (fun q q1 q2 j q3 => tY q q1 j)), ?_⟩
    rintro r6 M3 ⟨q0, q1⟩
    obtain ⟨er6, eM3⟩ := q1 (by skip; rw [← hkc]; exact k0)
    refine ⟨_, c_X11_thrown l D G M3 Y hY, ?_⟩
    rintro r7 M4 ⟨e7, e4⟩
    have e3 : M3 = g_hk (wi (wj Mv O 0 v.toInt64) Y 0 0) Y 4 a1 a2 0 0 0 := by
      rw [eM3]
      rfl
    have exy : v.toInt64 = r6.toInt64 := by
      rw [er6, wZ _ _ (by omega), wY _ _ (by omega), ev, em]
    exact fin_tell h hXY hYO ht hv e5 exy eM' e3 e7 e4
  · subst eM
    obtain ⟨kk, i1⟩ := bad_a hi9 hE
    rw [hkc] at kk
    refine ⟨_, c_X11_barrier l D G _ Y a1 a2 hY h.okm.1, ?_⟩
    rintro r6 M3 ⟨q0, q1⟩
    have eM3 := q0 (by rw [kk]; omega)
    rw [kk] at eM3
    refine ⟨_, c_X11_thrown l D G M3 Y hY, ?_⟩
    rintro r7 M4 ⟨e7, e4⟩
    exact fin_bad hI hXY i1 e5 eM3 e7 e4

theorem cl_section (hX : L_sal G X) (hY : L_mdl G Y) (hO : L_j1 G O) (hst : l.stackTraces = false) (hXY : X + 4000 ≤ Y) (hYO : Y + 200 ≤ O) : H_section l D G X Y O (IV X Y) := by
  intro t M a1 a2 a3 a4 ht hI
  obtain ⟨n, ic, τ, c, h⟩ := id hI
  have hn := h.rr.n8; have hi6 := h.rr.i6; have hτ := h.rr.t1
  have en : iv M (X + 1000) 5 = iv M Y 16 := h.rr.Mn.trans h.rr.Nn.symm
  have eno : iv M (X + 1000) 9 = iv M Y 1 := h.rr.Mt.trans h.rr.Nt.symm
  have hkc : kc_sec a1 a2 a3 a4 (iv M (X + 1000) 5) (iv M (X + 1000) 9) = gk_sec a1 a2 a3 a4 (iv M Y 16) (iv M Y 1) := by rw [en, eno]; exact k_sec ⟨n, hn, h.rr.Nn⟩
  refine ⟨_, h_L_section l D G M X O a1 a2 a3 a4 _ _ (sal_is hX) hO (c_X10_section l D G M X a1 a2 a3 a4 hX hst h.okx (h.hk ht)) (by rintro E M2 ⟨_, (⟨_, rfl⟩ | ⟨_, rfl⟩)⟩ <;> simp), ?_⟩
  rintro r5 M2 (⟨e5, v, Mv, ⟨k0, ev, eMv⟩, eM2⟩ | ⟨E, i, ⟨eM, hE⟩, hi9, e5⟩)
  · have hv : v_hk M Y 5 a1 a2 a3 a4 0 := by
      unfold kc_sec at k0
      split at k0
      · exact absurd k0 (by decide)
      · rename_i q
        split at k0
        · rename_i q2
          rw [not_or, not_or, not_or, fW_1, fW_1, fW_1, fW_1] at q
          rw [i_0, i_1, lit100, lit10000] at q
          obtain ⟨p1, p2, p3, p4⟩ := q
          rw [h.rr.Mn, h.rr.Mt, i_le, i_le, i_N (by omega), i_N (by omega), i_0, i_8] at q2
          have t0 : τ = 0 := by omega
          refine Or.inr (Or.inr (Or.inr (Or.inr (Or.inr (Or.inl ⟨rfl, ?_, ?_, p1.1, p1.2, p3.1, p3.2, p4.1, p4.2, p2.1, p2.2⟩)))))
          · rw [h.rr.Nn, cN_nI (by omega)]; omega
          · rw [h.rr.Nt, t0]; decide
        · exact absurd k0 (by decide)
    have eM' : Mv = m_hk (m_keep M (X + 1) (iv M (X + 1000) 9) 5 a1 a2 a3 a4 0) (X + 1000) 5 a1 a2 a3 a4 0 := eMv
    have tY := tell_Y h hXY hv
    rw [← eM'] at tY
    subst eM2
    have wY : ∀ q j, Y ≤ q → iv (wj Mv O 0 v.toInt64) q j = iv M q j := fun q j hq => tY q hq j
    have wZ : ∀ q j, (q ≠ Y ∨ j ≠ 0) → iv (wi (wj Mv O 0 v.toInt64) Y 0 0) q j = iv (wj Mv O 0 v.toInt64) q j := fun q j hq => iv_n (by omega)
    refine ⟨_, c_X11_section l D G _ Y a1 a2 a3 a4 hY (h.okm.1.c (fun q q1 q2 j q3 => tY q q1 j)), ?_⟩
    rintro r6 M3 ⟨q0, q1⟩
    obtain ⟨er6, eM3⟩ := q1 (by rw [wY _ _ (by omega), wY _ _ (by omega)]; rw [← hkc]; exact k0)
    refine ⟨_, c_X11_thrown l D G M3 Y hY, ?_⟩
    rintro r7 M4 ⟨e7, e4⟩
    have e3 : M3 = g_hk (wi (wj Mv O 0 v.toInt64) Y 0 0) Y 5 a1 a2 a3 a4 0 := by
      rw [eM3]
      show _ = gE_sec (wi (wj Mv O 0 v.toInt64) Y 0 0) Y (cN (iv (wi (wj Mv O 0 v.toInt64) Y 0 0) Y 16)) a1 a2 a3 a4
      rw [wZ _ _ (by omega)]
    have exy : v.toInt64 = r6.toInt64 := by
      rw [er6]; unfold gE_sec g_a; simp (disch := omega) only [iv_s, iv_n]; rw [x_p1, wY _ _ (by omega), ev, en]
    exact fin_tell h hXY hYO ht hv e5 exy eM' e3 e7 e4
  · subst eM
    obtain ⟨kk, i1⟩ := bad_as hi9 hE
    rw [hkc] at kk
    refine ⟨_, c_X11_section l D G _ Y a1 a2 a3 a4 hY h.okm.1, ?_⟩
    rintro r6 M3 ⟨q0, q1⟩
    have eM3 := q0 (by rw [kk]; omega)
    rw [kk] at eM3
    refine ⟨_, c_X11_thrown l D G M3 Y hY, ?_⟩
    rintro r7 M4 ⟨e7, e4⟩
    exact fin_bad hI hXY i1 e5 eM3 e7 e4

theorem cl_intake (hX : L_sal G X) (hY : L_mdl G Y) (hO : L_j1 G O) (hst : l.stackTraces = false) (hXY : X + 4000 ≤ Y) (hYO : Y + 200 ≤ O) : H_intake l D G X Y O (IV X Y) := by
  intro t M a1 a2 a3 a4 a5 ht hI
  obtain ⟨n, ic, τ, c, h⟩ := id hI
  have hn := h.rr.n8; have hi6 := h.rr.i6; have hτ := h.rr.t1
  have en : iv M (X + 1000) 6 = iv M Y 25 := h.rr.Mi.trans h.rr.Ni.symm
  have eh : s_has M (X + 1000) a1 = g_has M Y a1 := k_has h.rr.Mn h.rr.Nn hn
  have hkc : kc_int (s_has M (X + 1000) a1) a2 a3 a4 a5 (iv M (X + 1000) 6) = gk_int (g_has M Y a1) a2 a3 a4 a5 (iv M Y 25) := by rw [en, eh]; exact k_int ⟨ic, hi6, h.rr.Ni⟩
  refine ⟨_, h_L_intake l D G M X O a1 a2 a3 a4 a5 _ _ (sal_is hX) hO (c_X10_intake l D G M X a1 a2 a3 a4 a5 hX hst h.okx (h.hk ht)) (by rintro E M2 ⟨_, (⟨_, rfl⟩ | ⟨_, rfl⟩ | ⟨_, rfl⟩)⟩ <;> simp), ?_⟩
  rintro r5 M2 (⟨e5, v, Mv, ⟨k0, ev, eMv⟩, eM2⟩ | ⟨E, i, ⟨eM, hE⟩, hi9, e5⟩)
  · have hv : v_hk M Y 6 a1 a2 a3 a4 a5 := by
      unfold kc_int at k0
      split at k0
      · exact absurd k0 (by decide)
      · rename_i qh
        split at k0
        · exact absurd k0 (by decide)
        · rename_i q
          split at k0
          · rename_i q2
            rw [not_or, not_or, not_or, fW_1, fW_1, fW_1, fW_1] at q
            rw [i_0, i_1, lit500, lit10000] at q
            obtain ⟨p1, p2, p3, p4⟩ := q
            rw [eh] at qh
            obtain ⟨s, hs, es⟩ := has_N hn h.rr.Nn qh
            rw [en] at q2
            have cn : cN (iv M Y 16) = n := by rw [h.rr.Nn]; exact cN_nI (by omega)
            exact Or.inr (Or.inr (Or.inr (Or.inr (Or.inr (Or.inr (Or.inl ⟨rfl, c_ltN ⟨ic, hi6, h.rr.Ni⟩ (by decide) 6 (by decide) q2, ⟨s, by rw [cn]; exact hs, es⟩, by omega, by omega, p4.1⟩))))))
          · exact absurd k0 (by decide)
    have eM' : Mv = m_hk (m_keep M (X + 1) (iv M (X + 1000) 9) 6 a1 a2 a3 a4 a5) (X + 1000) 6 a1 a2 a3 a4 a5 := eMv
    have tY := tell_Y h hXY hv
    rw [← eM'] at tY
    subst eM2
    have wY : ∀ q j, Y ≤ q → iv (wj Mv O 0 v.toInt64) q j = iv M q j := fun q j hq => tY q hq j
    have wZ : ∀ q j, (q ≠ Y ∨ j ≠ 0) → iv (wi (wj Mv O 0 v.toInt64) Y 0 0) q j = iv (wj Mv O 0 v.toInt64) q j := fun q j hq => iv_n (by omega)
    refine ⟨_, c_X11_intake l D G _ Y a1 a2 a3 a4 a5 hY (h.okm.1.c (fun q q1 q2 j q3 => tY q q1 j)), ?_⟩
    rintro r6 M3 ⟨q0, q1⟩
    obtain ⟨er6, eM3⟩ := q1 (by unfold g_has; rw [wY _ _ (by omega), wY _ _ (by omega)]; change gk_int (g_has M Y a1) a2 a3 a4 a5 (iv M Y 25) = 0; rw [← hkc]; exact k0)
    refine ⟨_, c_X11_thrown l D G M3 Y hY, ?_⟩
    rintro r7 M4 ⟨e7, e4⟩
    have e3 : M3 = g_hk (wi (wj Mv O 0 v.toInt64) Y 0 0) Y 6 a1 a2 a3 a4 a5 := by
      rw [eM3]
      show _ = gE_int (wi (wj Mv O 0 v.toInt64) Y 0 0) Y (cN (iv (wi (wj Mv O 0 v.toInt64) Y 0 0) Y 25)) a1 a2 a3 a4 a5
      rw [wZ _ _ (by omega)]
    have exy : v.toInt64 = r6.toInt64 := by
      rw [er6]; unfold gE_int g_a; simp (disch := omega) only [iv_s, iv_n]; rw [x_p1, wY _ _ (by omega), ev, en]
    exact fin_tell h hXY hYO ht hv e5 exy eM' e3 e7 e4
  · subst eM
    obtain ⟨kk, i1⟩ := bad_xas hi9 hE
    rw [hkc] at kk
    refine ⟨_, c_X11_intake l D G _ Y a1 a2 a3 a4 a5 hY h.okm.1, ?_⟩
    rintro r6 M3 ⟨q0, q1⟩
    have eM3 := q0 (by rw [kk]; omega)
    rw [kk] at eM3
    refine ⟨_, c_X11_thrown l D G M3 Y hY, ?_⟩
    rintro r7 M4 ⟨e7, e4⟩
    exact fin_bad hI hXY i1 e5 eM3 e7 e4

theorem cl_permit (hX : L_sal G X) (hY : L_mdl G Y) (hO : L_j1 G O) (hst : l.stackTraces = false) (hXY : X + 4000 ≤ Y) (hYO : Y + 200 ≤ O) : H_permit l D G X Y O (IV X Y) := by
  intro t M a1 a2 ht hI
  obtain ⟨n, ic, τ, c, h⟩ := id hI
  have hn := h.rr.n8; have hi6 := h.rr.i6; have hτ := h.rr.t1
  have eh : s_has M (X + 1000) a1 = g_has M Y a1 := k_has h.rr.Mn h.rr.Nn hn
  have hkc : kc_per (s_has M (X + 1000) a1) a2 = kc_per (g_has M Y a1) a2 := by rw [eh]
  have cn : cN (iv M Y 16) = n := by rw [h.rr.Nn]; exact cN_nI (by omega)
  refine ⟨_, h_L_permit l D G M X O a1 a2 _ _ (sal_is hX) hO (c_X10_permit l D G M X a1 a2 hX hst h.okx (h.hk ht)) (by rintro E M2 ⟨_, (⟨_, rfl⟩ | ⟨_, rfl⟩)⟩ <;> simp), ?_⟩
  rintro r5 M2 (⟨e5, v, Mv, ⟨k0, ev, eMv⟩, eM2⟩ | ⟨E, i, ⟨eM, hE⟩, hi9, e5⟩)
  · have hv : v_hk M Y 7 a1 a2 0 0 0 := by
      unfold kc_per at k0
      split at k0
      · exact absurd k0 (by decide)
      · rename_i qh
        rw [eh] at qh
        obtain ⟨s, hs, es⟩ := has_N hn h.rr.Nn qh
        exact Or.inr (Or.inr (Or.inr (Or.inr (Or.inr (Or.inr (Or.inr (Or.inl ⟨rfl, s, by rw [cn]; exact hs, es⟩)))))))
    have eM' : Mv = m_hk (m_keep M (X + 1) (iv M (X + 1000) 9) 7 a1 a2 0 0 0) (X + 1000) 7 a1 a2 0 0 0 := eMv
    have tY := tell_Y h hXY hv
    rw [← eM'] at tY
    subst eM2
    have wY : ∀ q j, Y ≤ q → iv (wj Mv O 0 v.toInt64) q j = iv M q j := fun q j hq => tY q hq j
    have wZ : ∀ q j, (q ≠ Y ∨ j ≠ 0) → iv (wi (wj Mv O 0 v.toInt64) Y 0 0) q j = iv (wj Mv O 0 v.toInt64) q j := fun q j hq => iv_n (by omega)
    refine ⟨_, c_X11_permit l D G _ Y a1 a2 hY (h.okm.1.c (fun q q1 q2 j q3 => tY q q1 j)), ?_⟩
    rintro r6 M3 ⟨q0, q1⟩
    obtain ⟨er6, eM3⟩ := q1 (by unfold g_has; rw [wY _ _ (by omega)]; change kc_per (g_has M Y a1) a2 = 0; rw [← hkc]; exact k0)
    refine ⟨_, c_X11_thrown l D G M3 Y hY, ?_⟩
    rintro r7 M4 ⟨e7, e4⟩
    have e3 : M3 = g_hk (wi (wj Mv O 0 v.toInt64) Y 0 0) Y 7 a1 a2 0 0 0 := by
      rw [eM3]
      rfl
    have exy : v.toInt64 = r6.toInt64 := by
      have hs9 : ∃ s, s < n ∧ a1 = nI s := by
        rcases hv with v | v | v | v | v | v | v | v | v
        · exact absurd v.1 (by decide)
        · exact absurd v.1 (by decide)
        · exact absurd v.1 (by decide)
        · exact absurd v.1 (by decide)
        · exact absurd v.1 (by decide)
        · exact absurd v.1 (by decide)
        · exact absurd v.1 (by decide)
        · rw [cn] at v; exact v.2
        · exact absurd v.1 (by decide)
      obtain ⟨s, hs, es⟩ := hs9
      have cs : cN a1 = s := by rw [es]; exact cN_nI (by omega)
      rw [er6, wZ _ _ (by omega), wY _ _ (by omega), ev, cs, h.rr.rc.pe s hs]
    exact fin_tell h hXY hYO ht hv e5 exy eM' e3 e7 e4
  · subst eM
    obtain ⟨kk, i1⟩ := bad_xa hi9 hE
    rw [hkc] at kk
    refine ⟨_, c_X11_permit l D G _ Y a1 a2 hY h.okm.1, ?_⟩
    rintro r6 M3 ⟨q0, q1⟩
    have eM3 := q0 (by rw [kk]; omega)
    rw [kk] at eM3
    refine ⟨_, c_X11_thrown l D G M3 Y hY, ?_⟩
    rintro r7 M4 ⟨e7, e4⟩
    exact fin_bad hI hXY i1 e5 eM3 e7 e4

end CL2
