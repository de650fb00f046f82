/-! the law's clauses: dredge, pass, oysters -/
section CL3
variable {l : Launch} {D : va_G} {G : w_G} {X Y O : Nat}
theorem v8_of {M : w_M} {Y n : Nat} {a1 a2 a3 : Int32} (hn : n ≤ 8) (cn : cN (iv M Y 16) = n) (hv : v_hk M Y 8 a1 a2 a3 0 0) : ∃ s, s < n ∧ a1 = nI s ∧ 0 ≤ a2.toInt ∧ a2.toInt ≤ (iv M (Y + 18) s).toInt ∧ (a3 = -1 ∨ ∃ j, j < n ∧ a3 = nI j ∧ s ≠ j) := by
  unfold v_hk at hv; rw [cn] at hv
  rcases hv with v | v | v | v | v | v | v | v | v
  · exact absurd v.1 (by decide)
  · exact absurd v.1 (by decide)
  · exact absurd v.1 (by decide)
  · exact absurd v.1 (by decide)
  · exact absurd v.1 (by decide)
  · exact absurd v.1 (by decide)
  · exact absurd v.1 (by decide)
  · exact absurd v.1 (by decide)
  · exact v.2
theorem cl_dredge (hX : L_sal G X) (hY : L_mdl G Y) (hO : L_j1 G O) (hst : l.stackTraces = false) (hXY : X + 4000 ≤ Y) (hYO : Y + 200 ≤ O) : H_dredge l D G X Y O (IV X Y) := by
  intro t M a1 a2 a3 ht hI
  obtain ⟨n, ic, τ, c, h⟩ := id hI
  have hn := h.rr.n8; have hi6 := h.rr.i6; have hτ := h.rr.t1
  have eh : s_has M (X + 1000) a1 = g_has M Y a1 := k_has h.rr.Mn h.rr.Nn hn
  have eh3 : s_has M (X + 1000) a3 = g_has M Y a3 := k_has h.rr.Mn h.rr.Nn hn
  have cn : cN (iv M Y 16) = n := by rw [h.rr.Nn]; exact cN_nI (by omega)
  have hkc : kc_dre (s_has M (X + 1000) a1) (s_has M (X + 1000) a3) a1 a2 a3 (f_ref a2 (iv M (X + 1000 + 100 + cN a1) 7) (iv M (X + 1000 + 100 + cN a1) 4)) = gk_dre (g_has M Y a1) (g_has M Y a3) a1 a2 a3 (g_why M Y (cN a1) a2) := by
    rw [eh, eh3]
    by_cases q : g_has M Y a1 = 0
    · unfold kc_dre gk_dre; rw [if_pos (Or.inl q), if_pos (Or.inl q)]
    · obtain ⟨s, hs, es⟩ := has_N hn h.rr.Nn q
      have cs : cN a1 = s := by rw [es]; exact cN_nI (by omega)
      rw [cs, ← k_why h.rr.rc hs]; exact k_dre
  refine ⟨_, h_L_dredge l D G M X O a1 a2 a3 _ _ (sal_is hX) hO (c_X10_dredge l D G M X a1 a2 a3 hX hst h.okx (h.hk ht)) (by rintro E M2 ⟨_, (⟨_, rfl⟩ | ⟨_, rfl⟩ | ⟨_, rfl⟩)⟩ <;> simp), ?_⟩
  rintro r5 M2 (⟨e5, v, Mv, ⟨k0, ev, eMv⟩, eM2⟩ | ⟨E, i, ⟨eM, hE⟩, hi9, e5⟩)
  · have hv : v_hk M Y 8 a1 a2 a3 0 0 := by
      unfold kc_dre at k0
      split at k0
      · exact absurd k0 (by decide)
      · rename_i q1
        split at k0
        · exact absurd k0 (by decide)
        · rename_i q2
          split at k0
          · rename_i q3
            rw [not_or] at q1 q2
            obtain ⟨q1a, q1b⟩ := q1
            obtain ⟨q2a, q2b⟩ := q2
            rw [eh] at q1a; rw [eh3] at q1b
            obtain ⟨s, hs, es⟩ := has_N hn h.rr.Nn q1a
            have cs : cN a1 = s := by rw [es]; exact cN_nI (by omega)
            rw [fW_1, i_1, lit10000] at q2a
            rw [cs, h.rr.rc.mu s hs] at q3
            refine Or.inr (Or.inr (Or.inr (Or.inr (Or.inr (Or.inr (Or.inr (Or.inr ⟨rfl, s, by rw [cn]; exact hs, es, by omega, ?_, ?_⟩)))))))
            · unfold f_ref at q3
              split at q3
              · exact absurd q3 (by decide)
              · split at q3
                · exact absurd q3 (by decide)
                · split at q3
                  · exact absurd q3 (by decide)
                  · rename_i q4; rw [i_lt] at q4; omega
            · by_cases q5 : a3 = -1
              · exact Or.inl q5
              · have q6 : ¬ g_has M Y a3 = 0 := fun z => q1b ⟨q5, z⟩
                obtain ⟨j, hj, ej⟩ := has_N hn h.rr.Nn q6
                exact Or.inr ⟨j, by rw [cn]; exact hj, ej, fun z => q2b (by rw [es, ej, z])⟩
          · exact absurd k0 (by decide)
    have eM' : Mv = m_hk (m_keep M (X + 1) (iv M (X + 1000) 9) 8 a1 a2 a3 0 0) (X + 1000) 8 a1 a2 a3 0 0 := eMv
    have tY := tell_Y h hXY hv
    rw [← eM'] at tY
    subst eM2
    have wY : ∀ q j, Y ≤ q → iv (wj Mv O 0 v.toInt64) q j = iv M q j := fun q j hq => tY q hq j
    have wZ : ∀ q j, (q ≠ Y ∨ j ≠ 0) → iv (wi (wj Mv O 0 v.toInt64) Y 0 0) q j = iv (wj Mv O 0 v.toInt64) q j := fun q j hq => iv_n (by omega)
    refine ⟨_, c_X11_dredge l D G _ Y a1 a2 a3 hY (h.okm.1.c (fun q q1 q2 j q3 => tY q q1 j)), ?_⟩
    rintro r6 M3 ⟨q0, q1⟩
    obtain ⟨er6, eM3⟩ := q1 (by
      unfold g_has g_why; rw [wY _ _ (by omega), wY _ _ (by omega), wY _ _ (by omega)]; change gk_dre (g_has M Y a1) (g_has M Y a3) a1 a2 a3 (g_why M Y (cN a1) a2) = 0
      rw [← hkc]; exact k0)
    refine ⟨_, c_X11_thrown l D G M3 Y hY, ?_⟩
    rintro r7 M4 ⟨e7, e4⟩
    have e3 : M3 = g_hk (wi (wj Mv O 0 v.toInt64) Y 0 0) Y 8 a1 a2 a3 0 0 := by
      rw [eM3]; rfl
    have exy : v.toInt64 = r6.toInt64 := by
      obtain ⟨s, hs, es, _⟩ := v8_of hn cn hv
      have cs : cN a1 = s := by rw [es]; exact cN_nI (by omega)
      have L1 : ∀ (N1 : w_M), iv (gE_dre N1 Y s a2 a3) (Y + 21) s = iv N1 (Y + 21) s - a2 := fun N1 => by
        unfold gE_dre g_a g_b; split <;> simp (disch := omega) only [iv_gsadd, iv_n, iv_s]
      have L2 : ∀ (M1 : w_M), iv (if a3 = -1 then m_mudS M1 (X + 1000) s a2 else m_mudC M1 (X + 1000) s (cN a3) a2) (X + 1000 + 100 + s) 7 = iv M1 (X + 1000 + 100 + s) 7 - a2 := fun M1 => by
        unfold m_mudS m_mudC m_mud1; split <;> simp (disch := omega) only [iv_sadd, iv_n, iv_s]
      rw [er6, cs, L1, wZ _ _ (by omega), wY _ _ (by omega), ev, cs, L2, keep_o (by omega) (by omega), h.rr.rc.pe s hs]
    exact fin_tell h hXY hYO ht hv e5 exy eM' e3 e7 e4
  · subst eM
    obtain ⟨kk, i1⟩ := bad_xas hi9 hE
    rw [hkc] at kk
    refine ⟨_, c_X11_dredge l D G _ Y a1 a2 a3 hY h.okm.1, ?_⟩
    rintro r6 M3 ⟨q0, q1⟩
    have eM3 := q0 (by rw [kk]; omega)
    rw [kk] at eM3
    refine ⟨_, c_X11_thrown l D G M3 Y hY, ?_⟩
    rintro r7 M4 ⟨e7, e4⟩
    exact fin_bad hI hXY i1 e5 eM3 e7 e4
theorem cl_pass (hX : L_sal G X) (hY : L_mdl G Y) (hO : L_j1 G O) (hst : l.stackTraces = false) (hXY : X + 4000 ≤ Y) (hYO : Y + 200 ≤ O) : H_pass l D G X Y O (IV X Y) := by
  intro t M a1 ht hI
  obtain ⟨n, ic, τ, c, h⟩ := id hI
  have hn := h.rr.n8; have hi6 := h.rr.i6; have hτ := h.rr.t1
  have eno : iv M (X + 1000) 9 = iv M Y 1 := h.rr.Mt.trans h.rr.Nt.symm
  have hkc : kc_pass a1 (iv M (X + 1000) 9) = kc_pass a1 (iv M Y 1) := by rw [eno]
  refine ⟨_, h_L_pass l D G M X O a1 _ _ (sal_is hX) hO (c_X10_pass l D G M X a1 hX hst h.okx) (by rintro E M2 ⟨_, (⟨_, rfl⟩ | ⟨_, rfl⟩)⟩ <;> simp), ?_⟩
  rintro r5 M2 (⟨e5, v, Mv, ⟨k0, ev, eMv⟩, eM2⟩ | ⟨E, i, ⟨eM, hE⟩, hi9, e5⟩)
  · obtain ⟨p, p1, p2, cp⟩ : ∃ p : Nat, p ≤ 48 ∧ τ + p ≤ 1000 ∧ cN a1 = p := by
      unfold kc_pass at k0
      split at k0
      · exact absurd k0 (by decide)
      · rename_i q
        split at k0
        · rename_i q2
          rw [fW_1, i_1, show (48 : Int32).toInt = 48 by decide] at q
          have e9 : (iv M (X + 1000) 9).toInt = τ := by rw [h.rr.Mt]; exact i_N (by omega)
          rw [i_le, i_add (by rw [e9]; omega) (by rw [e9]; omega), e9, show (1000 : Int32).toInt = 1000 by decide] at q2
          have := i_cN (a := a1) (by omega)
          exact ⟨cN a1, by omega, by omega, rfl⟩
        · exact absurd k0 (by decide)
    rw [cp] at ev eMv
    have f1 := fr_go hn hi6 p h.rr.Mn h.rr.Mi
    rw [← eMv] at f1
    have tY : ∀ q, Y ≤ q → ∀ j, iv Mv q j = iv M q j := fun q hq j => (f1 q (by omega) j).1
    subst eM2
    have wY : ∀ q j, Y ≤ q → iv (wj Mv O 0 v.toInt64) q j = iv M q j := fun q j hq => tY q hq j
    have hp := h.pass (O := O) (v := v.toInt64) hXY hYO p2
    rw [← eMv] at hp
    refine ⟨_, c_X11_pass l D G _ Y a1 hY ⟨h.okm.1.c (fun q q1 q2 j q3 => tY q q1 j), by rw [wY _ _ (by omega), wY _ _ (by omega)]; exact h.okm.2⟩, ?_⟩
    rintro r6 M3 ⟨q0, q1⟩
    obtain ⟨er6, eM3⟩ := q1 (by rw [wY _ _ (by omega), ← hkc]; exact k0)
    rw [cp] at er6 eM3
    refine ⟨_, c_X11_thrown l D G M3 Y hY, ?_⟩
    rintro r7 M4 ⟨e7, e4⟩
    subst e4
    rw [← eM3] at hp er6
    have rg := RR_go p h.rr p2
    rw [← eMv] at rg
    refine ⟨?_, fun _ => ?_, ⟨n, ic, τ + p, c, hp⟩⟩
    · rw [e7, eM3, gos_o (Or.inl ⟨rfl, Or.inl rfl⟩), iv_s, e5]; decide
    · have j1 : jv M4 O 0 = v.toInt64 := by rw [eM3, (fg_gos p O (by omega) 0).2, jv_wi', jv_s]
      rw [j1, er6, hp.rr.Nt, ev, ← eMv, rg.Mt]
  · subst eM
    obtain ⟨kk, i1⟩ := bad_as hi9 hE
    rw [hkc] at kk
    refine ⟨_, c_X11_pass l D G _ Y a1 hY h.okm, ?_⟩
    rintro r6 M3 ⟨q0, q1⟩
    have eM3 := q0 (by rw [kk]; omega)
    rw [kk] at eM3
    refine ⟨_, c_X11_thrown l D G M3 Y hY, ?_⟩
    rintro r7 M4 ⟨e7, e4⟩
    exact fin_bad hI hXY i1 e5 eM3 e7 e4
theorem cl_oysters (hX : L_sal G X) (hY : L_mdl G Y) (hO : L_j1 G O) (hst : l.stackTraces = false) (hXY : X + 4000 ≤ Y) (hYO : Y + 200 ≤ O) : H_oysters l D G X Y O (IV X Y) := by
  intro t M a1 a2 a3 ht hI
  obtain ⟨n, ic, τ, c, h⟩ := id hI
  have hn := h.rr.n8; have hi6 := h.rr.i6; have hτ := h.rr.t1
  have hoc := h.oc
  have c6 := (cB_le hoc (by decide)).2
  have eh : s_has M (X + 1000) a1 = g_has M Y a1 := k_has h.rr.Mn h.rr.Nn hn
  have hkc : kc_oys (s_has M (X + 1000) a1) a2 a3 (iv M X 4) = gk_oys (g_has M Y a1) a2 a3 (iv M Y 36) := by rw [eh, h.oM]; exact k_oys hoc
  refine ⟨_, h_L_oysters l D G M X O a1 a2 a3 _ _ (sal_is hX) hO (c_X10_oysters l D G M X a1 a2 a3 hX hst h.okx) (by rintro E M2 ⟨_, (⟨_, rfl⟩ | ⟨_, rfl⟩ | ⟨_, rfl⟩)⟩ <;> simp), ?_⟩
  rintro r5 M2 (⟨e5, v, Mv, ⟨k0, ev, eMv⟩, eM2⟩ | ⟨E, i, ⟨eM, hE⟩, hi9, e5⟩)
  · obtain ⟨⟨s, hs, es⟩, hl, h24⟩ : (∃ s, s < n ∧ a1 = nI s) ∧ cN (iv M Y 36) < 6 ∧ cB a3 24 := by
      unfold kc_oys at k0
      split at k0
      · exact absurd k0 (by decide)
      · rename_i qh
        split at k0
        · exact absurd k0 (by decide)
        · rename_i q
          split at k0
          · rename_i q2
            rw [not_or, fW_1, fW_1, i_0, i_1, lit30, show (24 : Int32).toInt = 24 by decide] at q
            rw [eh] at qh
            rw [h.oM] at q2
            exact ⟨has_N hn h.rr.Nn qh, c_ltN hoc (by decide) 6 (by decide) q2, cB_of (by decide) (by omega) (by omega)⟩
          · exact absurd k0 (by decide)
    obtain ⟨cs1, cs2⟩ := cB_s hoc (by decide) hl
    rw [h.oM] at eMv ev
    have oM : ∀ q j, (q ≠ X + 10 + cN (iv M Y 36)) → (q ≠ X ∨ j ≠ 4) → iv Mv q j = iv M q j := fun q j q1 q2 => by rw [eMv]; simp (disch := omega) only [iv_n]
    have oj : ∀ q j, jv Mv q j = jv M q j := fun q j => by rw [eMv]; rfl
    subst eM2
    have wY : ∀ q j, Y ≤ q → iv (wj Mv O 0 v.toInt64) q j = iv M q j := fun q j hq => oM _ _ (by omega) (by omega)
    refine ⟨_, c_X11_oysters l D G _ Y a1 a2 a3 hY (h.okm.1.c (fun q q1 q2 j q3 => wY q j q1)), ?_⟩
    rintro r6 M3 ⟨q0, q1⟩
    obtain ⟨er6, eM3⟩ := q1 (by unfold g_has; rw [wY _ _ (by omega), wY _ _ (by omega)]; change gk_oys (g_has M Y a1) a2 a3 (iv M Y 36) = 0; rw [← hkc]; exact k0)
    rw [wY _ _ (by omega)] at er6 eM3
    refine ⟨_, c_X11_thrown l D G M3 Y hY, ?_⟩
    rintro r7 M4 ⟨e7, e4⟩
    subst e4
    have eG : gE_oys (wi (wj Mv O 0 v.toInt64) Y 0 0) Y (cN (iv M Y 36)) a1 a2 a3 = wi (wi (wi (wi (wi (wj Mv O 0 v.toInt64) Y 0 0) (Y + 37) (cN (iv M Y 36)) a1) (Y + 38) (cN (iv M Y 36)) a2) (Y + 39) (cN (iv M Y 36)) a3) Y 36 (iv M Y 36 + 1) := by
      unfold gE_oys g_a; simp (disch := omega) only [iv_n, wY]
    rw [eG] at eM3 er6
    have o4 : ∀ q j, (q ≠ Y ∨ (j ≠ 0 ∧ j ≠ 36)) → (q < Y + 37 ∨ Y + 39 < q ∨ j ≠ cN (iv M Y 36)) → iv M4 q j = iv Mv q j := fun q j q1 q2 => by
      rw [eM3]; simp (disch := omega) only [iv_n, iv_wj]
    have j4 : ∀ q j, q ≠ O → jv M4 q j = jv Mv q j := fun q j q1 => by rw [eM3]; simp (disch := omega) only [jv_wi', jv_n]
    have o36 : iv M4 Y 36 = iv M Y 36 + 1 := by rw [eM3, iv_s]
    refine ⟨?_, fun _ => ?_, ⟨n, ic, τ, c, ⟨?_, ?_, ?_, ?_, ?_, ?_, ?_, ?_, ?_⟩⟩⟩
    · rw [e7, eM3]; simp (disch := omega) only [iv_n, iv_s]; rw [e5]; decide
    · have j1 : jv M4 O 0 = v.toInt64 := by rw [eM3]; simp only [jv_wi', jv_s]
      rw [j1, er6, iv_s, x_p1, ev]
    · exact (h.rr.cM (fun a a1 a2 j => by rw [o4 _ _ (by omega) (by omega), oM _ _ (by omega) (by omega)]) (fun j => by rw [j4 _ _ (by omega), oj])).cN36 (fun a a1 a2 j q => by rw [o4 _ _ (by omega) (by omega), oM _ _ (by omega) (by omega)]) (fun j => by rw [j4 _ _ (by omega), oj])
    · rw [o4 _ _ (by omega) (by omega), oM _ _ (by omega) (by omega)]; exact h.cn
    · have := h.ck; omega
    · have er : (fun j => iv M4 (X + 2) j) = fun j => iv M (X + 2) j := funext fun j => by rw [o4 _ _ (by omega) (by omega), oM _ _ (by omega) (by omega)]
      rw [er]; exact h.gk
    · have er : (fun j => iv M4 (X + 2) j) = fun j => iv M (X + 2) j := funext fun j => by rw [o4 _ _ (by omega) (by omega), oM _ _ (by omega) (by omega)]
      rw [er]; exact h.gt
    · have er : (fun j => iv M4 (X + 2) j) = fun j => iv M (X + 2) j := funext fun j => by rw [o4 _ _ (by omega) (by omega), oM _ _ (by omega) (by omega)]
      rw [er]; exact h.gr.cM (fun a a1 a2 j => by rw [o4 _ _ (by omega) (by omega), oM _ _ (by omega) (by omega)]) (fun j => by rw [j4 _ _ (by omega), oj])
    · rw [o36, o4 _ _ (by omega) (by omega), eMv, iv_s]
    · rw [o36]; exact cs1
    · rw [o36, cs2]; intro i hi
      by_cases q : i = cN (iv M Y 36)
      · subst q
        have x0 : iv M4 (X + 10 + cN (iv M Y 36)) 0 = a1 := by rw [o4 _ _ (by omega) (by omega), eMv]; simp (disch := omega) only [iv_n, iv_s]
        have x1 : iv M4 (X + 10 + cN (iv M Y 36)) 1 = a2 := by rw [o4 _ _ (by omega) (by omega), eMv]; simp (disch := omega) only [iv_n, iv_s]
        have x2 : iv M4 (X + 10 + cN (iv M Y 36)) 2 = a3 := by rw [o4 _ _ (by omega) (by omega), eMv]; simp (disch := omega) only [iv_n, iv_s]
        have y0 : iv M4 (Y + 37) (cN (iv M Y 36)) = a1 := by rw [eM3]; simp (disch := omega) only [iv_n, iv_s]
        have y1 : iv M4 (Y + 38) (cN (iv M Y 36)) = a2 := by rw [eM3]; simp (disch := omega) only [iv_n, iv_s]
        have y2 : iv M4 (Y + 39) (cN (iv M Y 36)) = a3 := by rw [eM3]; simp (disch := omega) only [iv_n, iv_s]
        rw [x0, x1, x2, y0, y1, y2]
        exact ⟨rfl, rfl, rfl, ⟨s, hs, es⟩, h24⟩
      · have ox : ∀ j, iv M4 (X + 10 + i) j = iv M (X + 10 + i) j := fun j => by rw [o4 _ _ (by omega) (by omega), oM _ _ (by omega) (by omega)]
        have oo : ∀ x, Y + 37 ≤ x → iv M4 x i = iv M x i := fun x q1 => by rw [o4 _ _ (by omega) (by omega), oM _ _ (by omega) (by omega)]
        rw [ox, ox, ox, oo _ (by omega), oo _ (by omega), oo _ (by omega)]
        exact h.oy i (by omega)
  · subst eM
    obtain ⟨kk, i1⟩ := bad_xas hi9 hE
    rw [hkc] at kk
    refine ⟨_, c_X11_oysters l D G _ Y a1 a2 a3 hY h.okm.1, ?_⟩
    rintro r6 M3 ⟨q0, q1⟩
    have eM3 := q0 (by rw [kk]; omega)
    rw [kk] at eM3
    refine ⟨_, c_X11_thrown l D G M3 Y hY, ?_⟩
    rintro r7 M4 ⟨e7, e4⟩
    exact fin_bad hI hXY i1 e5 eM3 e7 e4
end CL3
