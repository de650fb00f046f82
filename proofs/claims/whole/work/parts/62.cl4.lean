/-! the law's clauses: what asks -/
section CL4
variable {l : Launch} {D : va_G} {G : w_G} {X Y O : Nat}
theorem cl_whyNot (hX : L_sal G X) (hY : L_mdl G Y) (hO : L_j1 G O) (hst : l.stackTraces = false) (hXY : X + 4000 ≤ Y) (hYO : Y + 200 ≤ O) : H_whyNot l D G X Y O (IV X Y) := by
  intro t M a1 a2 ht hI
  obtain ⟨n, ic, τ, c, h⟩ := id hI
  have hn := h.rr.n8; have hi6 := h.rr.i6; have hτ := h.rr.t1
  have eh : s_has M (X + 1000) a1 = g_has M Y a1 := k_has h.rr.Mn h.rr.Nn hn
  have hkc : kc_why (s_has M (X + 1000) a1) a2 = kc_why (g_has M Y a1) a2 := by rw [eh]
  refine ⟨_, h_L_whyNot l D G M X O a1 a2 _ _ (sal_is hX) hO (c_X10_whyNot l D G M X a1 a2 hX hst h.okx) (by rintro E M2 ⟨_, (⟨_, rfl⟩ | ⟨_, rfl⟩)⟩ <;> simp), ?_⟩
  rintro r5 M2 (⟨e5, v, Mv, ⟨k0, ev, eMv⟩, eM2⟩ | ⟨E, i, ⟨eM, hE⟩, hi9, e5⟩)
  · rw [eMv] at eM2
    subst eM2
    refine ⟨_, c_X11_whyNot l D G _ Y a1 a2 hY (h.okm.1.c (fun q q1 q2 j q3 => rfl)), ?_⟩
    rintro r6 M3 ⟨q0, q1⟩
    obtain ⟨er6, eM3⟩ := q1 (show kc_why (g_has M Y a1) a2 = 0 from hkc ▸ k0)
    refine ⟨_, c_X11_thrown l D G M3 Y hY, ?_⟩
    rintro r7 M4 ⟨e7, e4⟩
    have rN := RR_Z (x := v.toInt64) h.rr hYO
    have exy : v.toInt64 = r6.toInt64 := by
      rw [hkc] at k0
      unfold kc_why at k0
      split at k0
      · exact absurd k0 (by decide)
      · rename_i qh
        obtain ⟨s, hs, es⟩ := has_N hn h.rr.Nn qh
        have cs : cN a1 = s := by rw [es]; exact cN_nI (by omega)
        rw [ev, er6, cs, ← k_why rN.rc hs]
    exact fin_ask hI hXY hYO e5 exy eM3 e7 e4
  · rw [hkc] at hE
    obtain ⟨kk, i1⟩ := bad_xa hi9 hE
    subst eM
    refine ⟨_, c_X11_whyNot l D G _ Y a1 a2 hY h.okm.1, ?_⟩
    rintro r6 M3 ⟨q0, q1⟩
    have eM3 := q0 (by rw [kk]; omega)
    rw [kk] at eM3
    refine ⟨_, c_X11_thrown l D G M3 Y hY, ?_⟩
    rintro r7 M4 ⟨e7, e4⟩
    exact fin_bad hI hXY i1 e5 eM3 e7 e4

theorem cl_sea (hX : L_sal G X) (hY : L_mdl G Y) (hO : L_j1 G O) (hst : l.stackTraces = false) (hXY : X + 4000 ≤ Y) (hYO : Y + 200 ≤ O) : H_sea l D G X Y O (IV X Y) := by
  intro t M a1 ht hI
  obtain ⟨n, ic, τ, c, h⟩ := id hI
  have hn := h.rr.n8; have hi6 := h.rr.i6; have hτ := h.rr.t1
  have hkc : kc_sea a1 = kc_sea a1 := rfl
  refine ⟨_, h_L_sea l D G M X O a1 _ _ (sal_is hX) hO (c_X10_sea l D G M X a1 hX hst h.okx) (by rintro E M2 ⟨_, _, rfl⟩; simp), ?_⟩
  rintro r5 M2 (⟨e5, v, Mv, ⟨k0, ev, eMv⟩, eM2⟩ | ⟨E, i, ⟨eM, hE⟩, hi9, e5⟩)
  · rw [eMv] at eM2
    subst eM2
    refine ⟨_, c_X11_sea l D G _ Y a1 hY (h.okm.1.c (fun q q1 q2 j q3 => rfl)), ?_⟩
    rintro r6 M3 ⟨q0, q1⟩
    obtain ⟨er6, eM3⟩ := q1 (show kc_sea a1 = 0 from hkc ▸ k0)
    refine ⟨_, c_X11_thrown l D G M3 Y hY, ?_⟩
    rintro r7 M4 ⟨e7, e4⟩
    have rN := RR_Z (x := v.toInt64) h.rr hYO
    have exy : v.toInt64 = r6.toInt64 := by
      have c1 : cN (iv M (X + 1000) 9) = τ := by rw [h.rr.Mt]; exact cN_nI (by omega)
      have c2 : cN (iv (wi (wj M O 0 v.toInt64) Y 0 0) Y 1) = τ := by rw [rN.Nt]; exact cN_nI (by omega)
      have e : v = r6 := by
        rw [ev, er6]; unfold s_sea g_sea; rw [c1, c2]
        by_cases q : cN a1 < τ
        · rw [if_pos q, if_pos q]; exact rN.pa _ q
        · rw [if_neg q, if_neg q]; exact for_e _ rN.rt rN.gt
      rw [e]
    exact fin_ask hI hXY hYO e5 exy eM3 e7 e4
  · rw [hkc] at hE
    obtain ⟨kk, i1⟩ := bad_a hi9 hE
    subst eM
    refine ⟨_, c_X11_sea l D G _ Y a1 hY h.okm.1, ?_⟩
    rintro r6 M3 ⟨q0, q1⟩
    have eM3 := q0 (by rw [kk]; omega)
    rw [kk] at eM3
    refine ⟨_, c_X11_thrown l D G M3 Y hY, ?_⟩
    rintro r7 M4 ⟨e7, e4⟩
    exact fin_bad hI hXY i1 e5 eM3 e7 e4

theorem cl_ofSection (hX : L_sal G X) (hY : L_mdl G Y) (hO : L_j1 G O) (hst : l.stackTraces = false) (hXY : X + 4000 ≤ Y) (hYO : Y + 200 ≤ O) : H_ofSection l D G X Y O (IV X Y) := by
  intro t M a1 a2 ht hI
  obtain ⟨n, ic, τ, c, h⟩ := id hI
  have hn := h.rr.n8; have hi6 := h.rr.i6; have hτ := h.rr.t1
  have eh : s_has M (X + 1000) a1 = g_has M Y a1 := k_has h.rr.Mn h.rr.Nn hn
  have hkc : kc_of (s_has M (X + 1000) a1) a2 = kc_of (g_has M Y a1) a2 := by rw [eh]
  refine ⟨_, h_L_ofSection l D G M X O a1 a2 _ _ (sal_is hX) hO (c_X10_ofSection l D G M X a1 a2 hX hst h.okx) (by rintro E M2 ⟨_, (⟨_, rfl⟩ | ⟨_, rfl⟩)⟩ <;> simp), ?_⟩
  rintro r5 M2 (⟨e5, v, Mv, ⟨k0, ev, eMv⟩, eM2⟩ | ⟨E, i, ⟨eM, hE⟩, hi9, e5⟩)
  · rw [eMv] at eM2
    subst eM2
    refine ⟨_, c_X11_ofSection l D G _ Y a1 a2 hY (h.okm.1.c (fun q q1 q2 j q3 => rfl)), ?_⟩
    rintro r6 M3 ⟨q0, q1⟩
    obtain ⟨er6, eM3⟩ := q1 (show kc_of (g_has M Y a1) a2 = 0 from hkc ▸ k0)
    refine ⟨_, c_X11_thrown l D G M3 Y hY, ?_⟩
    rintro r7 M4 ⟨e7, e4⟩
    have rN := RR_Z (x := v.toInt64) h.rr hYO
    have exy : v.toInt64 = r6.toInt64 := by
      rw [hkc] at k0
      unfold kc_of at k0
      split at k0
      · exact absurd k0 (by decide)
      · rename_i qh
        split at k0
        · exact absurd k0 (by decide)
        · rename_i qw
          obtain ⟨s, hs, es⟩ := has_N hn h.rr.Nn qh
          obtain ⟨j, hj, ej⟩ := u_fWn (n := 9) (by decide) qw
          have cs : cN a1 = s := by rw [es]; exact cN_nI (by omega)
          have cj : cN a2 = j := by rw [ej]; exact cN_nI (by omega)
          rw [ev, er6, cs, cj, ej, ans_e rN.rc rN.b hs hj]
    exact fin_ask hI hXY hYO e5 exy eM3 e7 e4
  · rw [hkc] at hE
    obtain ⟨kk, i1⟩ := bad_xa hi9 hE
    subst eM
    refine ⟨_, c_X11_ofSection l D G _ Y a1 a2 hY h.okm.1, ?_⟩
    rintro r6 M3 ⟨q0, q1⟩
    have eM3 := q0 (by rw [kk]; omega)
    rw [kk] at eM3
    refine ⟨_, c_X11_thrown l D G M3 Y hY, ?_⟩
    rintro r7 M4 ⟨e7, e4⟩
    exact fin_bad hI hXY i1 e5 eM3 e7 e4

theorem cl_ofIntake (hX : L_sal G X) (hY : L_mdl G Y) (hO : L_j1 G O) (hst : l.stackTraces = false) (hXY : X + 4000 ≤ Y) (hYO : Y + 200 ≤ O) : H_ofIntake l D G X Y O (IV X Y) := by
  intro t M a1 a2 ht hI
  obtain ⟨n, ic, τ, c, h⟩ := id hI
  have hn := h.rr.n8; have hi6 := h.rr.i6; have hτ := h.rr.t1
  have hkc : kc_oin a1 (iv M (X + 1000) 6) a2 = gk_oin a1 (iv M Y 25) a2 := by rw [h.rr.Mi, h.rr.Ni]; exact k_oin (by omega)
  refine ⟨_, h_L_ofIntake l D G M X O a1 a2 _ _ (sal_is hX) hO (c_X10_ofIntake l D G M X a1 a2 hX hst h.okx) (by rintro E M2 ⟨_, (⟨_, rfl⟩ | ⟨_, rfl⟩)⟩ <;> simp), ?_⟩
  rintro r5 M2 (⟨e5, v, Mv, ⟨k0, ev, eMv⟩, eM2⟩ | ⟨E, i, ⟨eM, hE⟩, hi9, e5⟩)
  · rw [eMv] at eM2
    subst eM2
    refine ⟨_, c_X11_ofIntake l D G _ Y a1 a2 hY (h.okm.1.c (fun q q1 q2 j q3 => rfl)), ?_⟩
    rintro r6 M3 ⟨q0, q1⟩
    obtain ⟨er6, eM3⟩ := q1 (show gk_oin a1 (iv M Y 25) a2 = 0 from hkc ▸ k0)
    refine ⟨_, c_X11_thrown l D G M3 Y hY, ?_⟩
    rintro r7 M4 ⟨e7, e4⟩
    have rN := RR_Z (x := v.toInt64) h.rr hYO
    have exy : v.toInt64 = r6.toInt64 := by
      unfold kc_oin at k0
      split at k0
      · exact absurd k0 (by decide)
      · rename_i qh
        split at k0
        · exact absurd k0 (by decide)
        · rename_i qw
          rw [not_or, Decidable.not_not, h.rr.Mi] at qh
          obtain ⟨s, hs, es⟩ := u_ltN qh.1 qh.2 (by omega)
          obtain ⟨j, hj, ej⟩ := u_fWn (n := 4) (by decide) qw
          have cs : cN a1 = s := by rw [es]; exact cN_nI (by omega)
          have cj : cN a2 = j := by rw [ej]; exact cN_nI (by omega)
          rw [ev, er6, cs, cj, ej, ians_e rN.rc hs hj]
    exact fin_ask hI hXY hYO e5 exy eM3 e7 e4
  · rw [hkc] at hE
    obtain ⟨kk, i1⟩ := bad_xa hi9 hE
    subst eM
    refine ⟨_, c_X11_ofIntake l D G _ Y a1 a2 hY h.okm.1, ?_⟩
    rintro r6 M3 ⟨q0, q1⟩
    have eM3 := q0 (by rw [kk]; omega)
    rw [kk] at eM3
    refine ⟨_, c_X11_thrown l D G M3 Y hY, ?_⟩
    rintro r7 M4 ⟨e7, e4⟩
    exact fin_bad hI hXY i1 e5 eM3 e7 e4

theorem cl_closure (hX : L_sal G X) (hY : L_mdl G Y) (hO : L_j1 G O) (hst : l.stackTraces = false) (hXY : X + 4000 ≤ Y) (hYO : Y + 200 ≤ O) : H_closure l D G X Y O (IV X Y) := by
  intro t M a1 a2 ht hI
  obtain ⟨n, ic, τ, c, h⟩ := id hI
  have hn := h.rr.n8; have hi6 := h.rr.i6; have hτ := h.rr.t1
  obtain ⟨m, hm, em⟩ := h.rr.rb.c5
  have em2 : iv M (X + 1002) 3 = nI m := h.rr.rb.cc.trans em
  have hkc : kc_clo a1 (iv M (X + 1002) 3) a2 = gk_clo a1 (iv M Y 12) a2 := by rw [em2, em]; exact k_clo (by omega)
  refine ⟨_, h_L_closure l D G M X O a1 a2 _ _ (sal_is hX) hO (c_X10_closure l D G M X a1 a2 hX hst h.okx) (by rintro E M2 ⟨_, (⟨_, rfl⟩ | ⟨_, rfl⟩)⟩ <;> simp), ?_⟩
  rintro r5 M2 (⟨e5, v, Mv, ⟨k0, ev, eMv⟩, eM2⟩ | ⟨E, i, ⟨eM, hE⟩, hi9, e5⟩)
  · rw [eMv] at eM2
    subst eM2
    refine ⟨_, c_X11_closure l D G _ Y a1 a2 hY (h.okm.1.c (fun q q1 q2 j q3 => rfl)), ?_⟩
    rintro r6 M3 ⟨q0, q1⟩
    obtain ⟨er6, eM3⟩ := q1 (show gk_clo a1 (iv M Y 12) a2 = 0 from hkc ▸ k0)
    refine ⟨_, c_X11_thrown l D G M3 Y hY, ?_⟩
    rintro r7 M4 ⟨e7, e4⟩
    have rN := RR_Z (x := v.toInt64) h.rr hYO
    have exy : v.toInt64 = r6.toInt64 := by
      unfold kc_clo at k0
      split at k0
      · exact absurd k0 (by decide)
      · rename_i qh
        split at k0
        · exact absurd k0 (by decide)
        · rename_i qw
          rw [not_or, Decidable.not_not, em2] at qh
          obtain ⟨s, hs, es⟩ := u_ltN qh.1 qh.2 (by omega)
          obtain ⟨j, hj, ej⟩ := u_fWn (n := 2) (by decide) qw
          have cs : cN a1 = s := by rw [es]; exact cN_nI (by omega)
          have cj : cN a2 = j := by rw [ej]; exact cN_nI (by omega)
          have hc : s < cN (iv (wi (wj M O 0 v.toInt64) Y 0 0) Y 12) := by
            rw [iv_n (by omega), iv_wj, em, cN_nI (by omega)]; exact hs
          have z := bans_e rN.rb hc hj
          rw [ev, er6, cs, cj, ej]; exact congrArg _ z
    exact fin_ask hI hXY hYO e5 exy eM3 e7 e4
  · rw [hkc] at hE
    obtain ⟨kk, i1⟩ := bad_xa hi9 hE
    subst eM
    refine ⟨_, c_X11_closure l D G _ Y a1 a2 hY h.okm.1, ?_⟩
    rintro r6 M3 ⟨q0, q1⟩
    have eM3 := q0 (by rw [kk]; omega)
    rw [kk] at eM3
    refine ⟨_, c_X11_thrown l D G M3 Y hY, ?_⟩
    rintro r7 M4 ⟨e7, e4⟩
    exact fin_bad hI hXY i1 e5 eM3 e7 e4

theorem cl_isClosed (hX : L_sal G X) (hY : L_mdl G Y) (hO : L_j1 G O) (hst : l.stackTraces = false) (hXY : X + 4000 ≤ Y) (hYO : Y + 200 ≤ O) : H_isClosed l D G X Y O (IV X Y) := by
  intro t M a1 ht hI
  obtain ⟨n, ic, τ, c, h⟩ := id hI
  have hn := h.rr.n8; have hi6 := h.rr.i6; have hτ := h.rr.t1
  obtain ⟨m, hm, em⟩ := h.oc
  have em2 : iv M X 4 = nI m := h.oM.trans em
  have hkc : kc_cls a1 (iv M X 4) = gk_cls a1 (iv M Y 36) := by rw [em2, em]; exact k_cls (by omega)
  refine ⟨_, h_L_isClosed l D G M X O a1 _ _ (sal_is hX) hO (c_X10_isClosed l D G M X a1 hX hst h.okx) (by rintro E M2 ⟨_, _, rfl⟩; simp), ?_⟩
  rintro r5 M2 (⟨e5, v, Mv, ⟨k0, ev, eMv⟩, eM2⟩ | ⟨E, i, ⟨eM, hE⟩, hi9, e5⟩)
  · rw [eMv] at eM2
    subst eM2
    refine ⟨_, c_X11_isClosed l D G _ Y a1 hY (h.okm.1.c (fun q q1 q2 j q3 => rfl)), ?_⟩
    rintro r6 M3 ⟨q0, q1⟩
    obtain ⟨er6, eM3⟩ := q1 (show gk_cls a1 (iv M Y 36) = 0 from hkc ▸ k0)
    refine ⟨_, c_X11_thrown l D G M3 Y hY, ?_⟩
    rintro r7 M4 ⟨e7, e4⟩
    have rN := RR_Z (x := (if v = 0 then (0 : Int64) else 1)) h.rr hYO
    have exy : (if v = 0 then (0 : Int64) else 1) = (if r6 = 0 then (0 : Int64) else 1) := by
      unfold kc_cls at k0
      split at k0
      · exact absurd k0 (by decide)
      · rename_i qh
        rw [not_or, Decidable.not_not, em2] at qh
        obtain ⟨s, hs, es⟩ := u_ltN qh.1 qh.2 (by omega)
        have cs : cN a1 = s := by rw [es]; exact cN_nI (by omega)
        obtain ⟨e0, e1, e2, ⟨s9, hs9, es9⟩, ⟨h9, hh9, eh9⟩⟩ := h.oy s (by rw [em, cN_nI (by omega)]; exact hs)
        have c1 : cN (iv M (X + 1000) 9) = τ := by rw [h.rr.Mt]; exact cN_nI (by omega)
        have c2 : cN (iv M Y 1) = τ := by rw [h.rr.Nt]; exact cN_nI (by omega)
        have c3 : cN (nI s9) = s9 := cN_nI (by omega)
        have c4 : cN (nI h9) = h9 := cN_nI (by omega)
        have f1 := fr_e (M := M) (B := X + 1000) (N := wi (wj M O 0 (if v = 0 then 0 else 1)) Y 0 0) (Y := Y) (s := s9) (t := τ) (hs := h9) (gr := iv M (Y + 38) s) hh9 (rN.ta s9 hs9)
        have e : v = r6 := by
          refine ev.trans (Eq.trans ?_ er6.symm)
          refine congrArg (fun b : Bool => if b = true then (1 : Int32) else 0) ?_
          show _ = g_fr _ Y (cN (iv M (Y + 37) (cN a1))) (iv M (Y + 38) (cN a1)) (cN (iv M (Y + 39) (cN a1))) (cN (iv M Y 1)) (cN (iv M (Y + 39) (cN a1))) 0
          rw [cs, e0, e1, e2, c1, c2, es9, eh9, c3, c4]
          exact f1
        rw [e]
    exact fin_ask hI hXY hYO e5 exy eM3 e7 e4
  · rw [hkc] at hE
    obtain ⟨kk, i1⟩ := bad_x hi9 hE
    subst eM
    refine ⟨_, c_X11_isClosed l D G _ Y a1 hY h.okm.1, ?_⟩
    rintro r6 M3 ⟨q0, q1⟩
    have eM3 := q0 (by rw [kk]; omega)
    rw [kk] at eM3
    refine ⟨_, c_X11_thrown l D G M3 Y hY, ?_⟩
    rintro r7 M4 ⟨e7, e4⟩
    exact fin_bad hI hXY i1 e5 eM3 e7 e4

theorem cl_intrusion (hX : L_sal G X) (hY : L_mdl G Y) (hO : L_j1 G O) (hst : l.stackTraces = false) (hXY : X + 4000 ≤ Y) (hYO : Y + 200 ≤ O) : H_intrusion l D G X Y O (IV X Y) := by
  intro t M a1 ht hI
  obtain ⟨n, ic, τ, c, h⟩ := id hI
  have hn := h.rr.n8; have hi6 := h.rr.i6; have hτ := h.rr.t1
  have hkc : kc_itr a1 = kc_itr a1 := rfl
  refine ⟨_, h_L_intrusion l D G M X O a1 _ _ (sal_is hX) hO (c_X10_intrusion l D G M X a1 hX hst h.okx) (by rintro E M2 ⟨_, _, rfl⟩; simp), ?_⟩
  rintro r5 M2 (⟨e5, v, Mv, ⟨k0, ev, eMv⟩, eM2⟩ | ⟨E, i, ⟨eM, hE⟩, hi9, e5⟩)
  · rw [eMv] at eM2
    subst eM2
    refine ⟨_, c_X11_intrusion l D G _ Y a1 hY (h.okm.1.c (fun q q1 q2 j q3 => rfl)), ?_⟩
    rintro r6 M3 ⟨q0, q1⟩
    obtain ⟨er6, eM3⟩ := q1 (show kc_itr a1 = 0 from hkc ▸ k0)
    refine ⟨_, c_X11_thrown l D G M3 Y hY, ?_⟩
    rintro r7 M4 ⟨e7, e4⟩
    have rN := RR_Z (x := v.toInt64) h.rr hYO
    have exy : v.toInt64 = r6.toInt64 := by
      have c1 : cN (iv M (X + 1000) 5) = n := by rw [h.rr.Mn]; exact cN_nI (by omega)
      have c2 : cN (iv M Y 16) = n := by rw [h.rr.Nn]; exact cN_nI (by omega)
      rw [ev, er6, c1]; simp only [iv_wj]; rw [c2, itr_e rN.rc rN.b n 0 (by omega)]
    exact fin_ask hI hXY hYO e5 exy eM3 e7 e4
  · rw [hkc] at hE
    obtain ⟨kk, i1⟩ := bad_a hi9 hE
    subst eM
    refine ⟨_, c_X11_intrusion l D G _ Y a1 hY h.okm.1, ?_⟩
    rintro r6 M3 ⟨q0, q1⟩
    have eM3 := q0 (by rw [kk]; omega)
    rw [kk] at eM3
    refine ⟨_, c_X11_thrown l D G M3 Y hY, ?_⟩
    rintro r7 M4 ⟨e7, e4⟩
    exact fin_bad hI hXY i1 e5 eM3 e7 e4

theorem cl_window (hX : L_sal G X) (hY : L_mdl G Y) (hO : L_j1 G O) (hst : l.stackTraces = false) (hXY : X + 4000 ≤ Y) (hYO : Y + 200 ≤ O) : H_window l D G X Y O (IV X Y) := by
  intro t M a1 a2 ht hI
  obtain ⟨n, ic, τ, c, h⟩ := id hI
  have hn := h.rr.n8; have hi6 := h.rr.i6; have hτ := h.rr.t1
  have en : iv M (X + 1000) 5 = iv M Y 16 := h.rr.Mn.trans h.rr.Nn.symm
  have hkc : kc_win a1 a2 (iv M (X + 1000) 5) = kc_win a1 a2 (iv M Y 16) := by rw [en]
  refine ⟨_, h_L_window l D G M X O a1 a2 _ _ (sal_is hX) hO (c_X10_window l D G M X a1 a2 hX hst h.okx) (by rintro E M2 ⟨_, (⟨_, rfl⟩ | ⟨_, rfl⟩)⟩ <;> simp), ?_⟩
  rintro r5 M2 (⟨e5, v, Mv, ⟨k0, ev, eMv⟩, eM2⟩ | ⟨E, i, ⟨eM, hE⟩, hi9, e5⟩)
  · rw [eMv] at eM2
    subst eM2
    refine ⟨_, c_X11_window l D G _ Y a1 a2 hY (h.okm.1.c (fun q q1 q2 j q3 => rfl)), ?_⟩
    rintro r6 M3 ⟨q0, q1⟩
    obtain ⟨er6, eM3⟩ := q1 (show kc_win a1 a2 (iv M Y 16) = 0 from hkc ▸ k0)
    refine ⟨_, c_X11_thrown l D G M3 Y hY, ?_⟩
    rintro r7 M4 ⟨e7, e4⟩
    have rN := RR_Z (x := v.toInt64) h.rr hYO
    have exy : v.toInt64 = r6.toInt64 := by
      unfold kc_win at k0
      split at k0
      · exact absurd k0 (by decide)
      · rename_i q
        split at k0
        · exact absurd k0 (by decide)
        · rename_i qn
          rw [not_or, fW_1, fW_1, i_1, show (200 : Int32).toInt = 200 by decide, show (24 : Int32).toInt = 24 by decide] at q
          have n0 : 0 < n := by
            rcases Nat.eq_zero_or_pos n with z | z
            · rw [h.rr.Mn, z] at qn; exact absurd rfl qn
            · exact z
          have c1 : cN (iv M (X + 1000) 9) = τ := by rw [h.rr.Mt]; exact cN_nI (by omega)
          have c2 : cN (iv M Y 1) = τ := by rw [h.rr.Nt]; exact cN_nI (by omega)
          have ch : (cN a2 : Int) = a2.toInt := i_cN (by omega)
          have b := h.rr.b
          have ar := b.ar 0 n0; have mu := b.mu 0 n0; have cl := b.cl 0 n0; have cc := b.c n0
          have a3 : iv M (X + 1100) 3 = iv M (Y + 17) 0 := h.rr.rc.ar 0 n0
          have a4 : iv M (X + 1100) 4 = iv M (Y + 18) 0 := h.rr.rc.mu 0 n0
          have ed : (iv M (Y + 18) 0 / iv M (Y + 17) 0).toInt = (iv M (Y + 18) 0).toInt / (iv M (Y + 17) 0).toInt := i_div mu (by omega)
          have d0 : 0 ≤ (iv M (Y + 18) 0).toInt / (iv M (Y + 17) 0).toInt := Int.ediv_nonneg mu (by omega)
          have d1 : (iv M (Y + 18) 0).toInt / (iv M (Y + 17) 0).toInt ≤ (iv M (Y + 18) 0).toInt := Int.ediv_le_self _ mu
          have eb : f_bed (iv M (X + 1100) 3) (iv M (X + 1100) 4) = iv M (Y + 18) 0 / iv M (Y + 17) 0 := by
            unfold f_bed; rw [a3, a4, if_neg (by rw [i_le, i_0]; omega)]
          have ct : cN (iv (wi (wj M O 0 v.toInt64) Y 0 0) Y 1) = τ := by rw [rN.Nt]; exact cN_nI (by omega)
          have z := win_e (M := M) (B := X + 1000) (bd := iv M (Y + 18) 0 / iv M (Y + 17) 0) (kl := a1) (hs := nI (cN a2)) rN.rt rN.gt ct (by omega) (by omega) (by omega) (by omega) (100 + cN a2) τ 0 (Nat.le_refl _) (by omega)
          have e : v = r6 := by
            refine ev.trans (Eq.trans ?_ er6.symm)
            rw [eb, c1]; simp only [iv_wj]; rw [c2]; exact z
          rw [e]
    exact fin_ask hI hXY hYO e5 exy eM3 e7 e4
  · rw [hkc] at hE
    obtain ⟨kk, i1⟩ := bad_as hi9 hE
    subst eM
    refine ⟨_, c_X11_window l D G _ Y a1 a2 hY h.okm.1, ?_⟩
    rintro r6 M3 ⟨q0, q1⟩
    have eM3 := q0 (by rw [kk]; omega)
    rw [kk] at eM3
    refine ⟨_, c_X11_thrown l D G M3 Y hY, ?_⟩
    rintro r7 M4 ⟨e7, e4⟩
    exact fin_bad hI hXY i1 e5 eM3 e7 e4

theorem cl_sum (hX : L_sal G X) (hY : L_mdl G Y) (hO : L_j1 G O) (hst : l.stackTraces = false) (hXY : X + 4000 ≤ Y) (hYO : Y + 200 ≤ O) : H_sum l D G X Y O (IV X Y) := by
  intro t M a1 ht hI
  obtain ⟨n, ic, τ, c, h⟩ := id hI
  have hn := h.rr.n8; have hi6 := h.rr.i6; have hτ := h.rr.t1
  have hkc : kc_sum a1 = kc_sum a1 := rfl
  refine ⟨_, h_L_sum l D G M X O a1 _ _ (sal_is hX) hO (c_X10_sum l D G M X a1 hX hst h.okx) (by rintro E M2 ⟨_, _, rfl⟩; simp), ?_⟩
  rintro r5 M2 (⟨e5, v, Mv, ⟨k0, ev, eMv⟩, eM2⟩ | ⟨E, i, ⟨eM, hE⟩, hi9, e5⟩)
  · rw [eMv] at eM2
    subst eM2
    refine ⟨_, c_X11_sum l D G _ Y a1 hY (h.okm.1.c (fun q q1 q2 j q3 => rfl)), ?_⟩
    rintro r6 M3 ⟨q0, q1⟩
    obtain ⟨er6, eM3⟩ := q1 (show kc_sum a1 = 0 from hkc ▸ k0)
    refine ⟨_, c_X11_thrown l D G M3 Y hY, ?_⟩
    rintro r7 M4 ⟨e7, e4⟩
    have rN := RR_Z (x := v) h.rr hYO
    have exy : v = r6 := by
      unfold kc_sum at k0
      split at k0
      · exact absurd k0 (by decide)
      · rename_i qw
        obtain ⟨j, hj, ej⟩ := u_fWn (n := 9) (by decide) qw
        have cj : cN a1 = j := by rw [ej]; exact cN_nI (by omega)
        rw [ev, er6, cj]; exact rN.rc.sm j (by omega)
    exact fin_ask hI hXY hYO e5 exy eM3 e7 e4
  · rw [hkc] at hE
    obtain ⟨kk, i1⟩ := bad_a hi9 hE
    subst eM
    refine ⟨_, c_X11_sum l D G _ Y a1 hY h.okm.1, ?_⟩
    rintro r6 M3 ⟨q0, q1⟩
    have eM3 := q0 (by rw [kk]; omega)
    rw [kk] at eM3
    refine ⟨_, c_X11_thrown l D G M3 Y hY, ?_⟩
    rintro r7 M4 ⟨e7, e4⟩
    exact fin_bad hI hXY i1 e5 eM3 e7 e4

theorem cl_now (hX : L_sal G X) (hY : L_mdl G Y) (hO : L_j1 G O) (hst : l.stackTraces = false) (hXY : X + 4000 ≤ Y) (hYO : Y + 200 ≤ O) : H_now l D G X Y O (IV X Y) := by
  intro t M ht hI
  obtain ⟨n, ic, τ, c, h⟩ := id hI
  refine ⟨_, c_X10_now l D G M X hX, ?_⟩
  rintro r M2 ⟨er, eM⟩
  subst eM
  refine ⟨_, c_X11_now l D G _ Y hY, ?_⟩
  rintro r2 M3 ⟨er2, eM3⟩
  subst eM3
  refine ⟨?_, ⟨n, ic, τ, c, h.same hXY (by omega) (fun a j _ q => iv_n (by omega)) (fun j => rfl) (fun j => rfl)⟩⟩
  rw [er, er2, iv_n (by omega), h.rr.Mt, h.rr.Nt]
theorem cl_closures (hX : L_sal G X) (hY : L_mdl G Y) (hO : L_j1 G O) (hst : l.stackTraces = false) (hXY : X + 4000 ≤ Y) (hYO : Y + 200 ≤ O) : H_closures l D G X Y O (IV X Y) := by
  intro t M ht hI
  obtain ⟨n, ic, τ, c, h⟩ := id hI
  refine ⟨_, c_X10_closures l D G M X hX, ?_⟩
  rintro r M2 ⟨er, eM⟩
  subst eM
  refine ⟨_, c_X11_closures l D G _ Y hY, ?_⟩
  rintro r2 M3 ⟨er2, eM3⟩
  subst eM3
  refine ⟨?_, ⟨n, ic, τ, c, h.same hXY (by omega) (fun a j _ q => iv_n (by omega)) (fun j => rfl) (fun j => rfl)⟩⟩
  rw [er, er2, iv_n (by omega)]; exact h.rr.rb.cc
theorem cl_ofSectionAnew (hX : L_sal G X) (hY : L_mdl G Y) (hO : L_j1 G O) (hst : l.stackTraces = false) (hXY : X + 4000 ≤ Y) (hYO : Y + 200 ≤ O) : H_ofSectionAnew l D G X Y O (IV X Y) := by
  intro t M a1 a2 ht hI
  obtain ⟨n, ic, τ, c, h⟩ := id hI
  have hn := h.rr.n8; have hi6 := h.rr.i6; have hτ := h.rr.t1; have hck := h.ck
  have eh : s_has M (X + 1000) a1 = g_has M Y a1 := k_has h.rr.Mn h.rr.Nn hn
  have hkc : kc_of (s_has M (X + 1000) a1) a2 = kc_of (g_has M Y a1) a2 := by rw [eh]
  obtain ⟨ra, fa, fp⟩ := anew_e h
  refine ⟨_, h_L_ofSectionAnew l D G M X O a1 a2 _ _ (sal_is hX) hO (c_X10_ofSectionAnew l D G M X a1 a2 hX hst h.okx c (by omega) (vA_of h) (fp (X + 1000) (by omega) 9).1) (by rintro E M2 ⟨_, (⟨_, rfl⟩ | ⟨_, rfl⟩)⟩ <;> simp), ?_⟩
  rintro r5 M2 (⟨e5, v, Mv, ⟨k0, ev, eMv⟩, eM2⟩ | ⟨E, i, ⟨eM, hE⟩, hi9, e5⟩)
  · rw [eMv] at eM2
    subst eM2
    generalize m_anew M X c = M1 at *
    have hA : IVs X Y t M1 n ic τ c := h.same hXY (Nat.le_refl _) (fun a j q q2 => (fa a (by omega) j).1) (fun j => (fa _ (by omega) j).2) (fun j => (fa _ (by omega) j).2)
    refine ⟨_, c_X11_ofSectionAnew l D G _ Y a1 a2 hY (hA.okm.1.c (fun q q1 q2 j q3 => rfl)), ?_⟩
    rintro r6 M3 ⟨q0, q1⟩
    have eg : g_has (wj M1 O 0 v.toInt64) Y a1 = g_has M Y a1 := by unfold g_has; rw [iv_wj, (fa Y (by omega) 16).1]
    obtain ⟨er6, eM3⟩ := q1 (by rw [eg, ← hkc]; exact k0)
    refine ⟨_, c_X11_thrown l D G M3 Y hY, ?_⟩
    rintro r7 M4 ⟨e7, e4⟩
    have rN := RR_Z (x := v.toInt64) hA.rr hYO
    have exy : v.toInt64 = r6.toInt64 := by
      rw [hkc] at k0
      unfold kc_of at k0
      split at k0
      · exact absurd k0 (by decide)
      · rename_i qh
        split at k0
        · exact absurd k0 (by decide)
        · rename_i qw
          obtain ⟨s, hs, es⟩ := has_N hn h.rr.Nn qh
          obtain ⟨j, hj, ej⟩ := u_fWn (n := 9) (by decide) qw
          have cs : cN a1 = s := by rw [es]; exact cN_nI (by omega)
          have cj : cN a2 = j := by rw [ej]; exact cN_nI (by omega)
          rw [ev, er6, cs, cj, ej, ans_e ra.rc ra.b hs hj, ← ans_e h.gr.rc h.gr.b hs hj, ← ans_e rN.rc rN.b hs hj]
          have zz : s_ans M (X + 1000 + 100 + s) j = s_ans M1 (X + 1000 + 100 + s) j := by
            rw [ans_e h.rr.rc h.rr.b hs hj, ans_e hA.rr.rc hA.rr.b hs hj]
            have o : ∀ q k, Y ≤ q → iv M1 q k = iv M q k := fun q k hq => (fa q (by omega) k).1
            unfold gR_of g_lev g_sal
            rw [o _ _ (by omega), o _ _ (by omega), o _ _ (by omega), o _ _ (by omega), o _ _ (by omega), o _ _ (by omega), o _ _ (by omega), o _ _ (by omega), o _ _ (by omega), o _ _ (by omega)]
          rw [zz]
    exact fin_ask ⟨n, ic, τ, c, hA⟩ hXY hYO e5 exy eM3 e7 e4
  · rw [hkc] at hE
    obtain ⟨kk, i1⟩ := bad_xa hi9 hE
    subst eM
    refine ⟨_, c_X11_ofSectionAnew l D G _ Y a1 a2 hY h.okm.1, ?_⟩
    rintro r6 M3 ⟨q0, q1⟩
    have eM3 := q0 (by rw [kk]; omega)
    rw [kk] at eM3
    refine ⟨_, c_X11_thrown l D G M3 Y hY, ?_⟩
    rintro r7 M4 ⟨e7, e4⟩
    exact fin_bad hI hXY i1 e5 eM3 e7 e4
theorem cl_all (hX : L_sal G X) (hY : L_mdl G Y) (hO : L_j1 G O) (hst : l.stackTraces = false) (hXY : X + 4000 ≤ Y) (hYO : Y + 200 ≤ O) : H_all l D G X Y O (IV X Y) :=
  ⟨cl_turn hX hY hO hst hXY hYO, cl_mean hX hY hO hst hXY hYO, cl_surge hX hY hO hst hXY hYO, cl_river hX hY hO hst hXY hYO, cl_barrier hX hY hO hst hXY hYO, cl_section hX hY hO hst hXY hYO, cl_intake hX hY hO hst hXY hYO, cl_oysters hX hY hO hst hXY hYO, cl_permit hX hY hO hst hXY hYO, cl_whyNot hX hY hO hst hXY hYO, cl_dredge hX hY hO hst hXY hYO, cl_pass hX hY hO hst hXY hYO, cl_now hX hY hO hst hXY hYO, cl_sea hX hY hO hst hXY hYO, cl_ofSection hX hY hO hst hXY hYO, cl_ofSectionAnew hX hY hO hst hXY hYO, cl_ofIntake hX hY hO hst hXY hYO, cl_isClosed hX hY hO hst hXY hYO, cl_closures hX hY hO hst hXY hYO, cl_closure hX hY hO hst hXY hYO, cl_intrusion hX hY hO hst hXY hYO, cl_window hX hY hO hst hXY hYO, cl_sum hX hY hO hst hXY hYO, fun t M ⟨n, ic, τ, c, h⟩ => ⟨n, ic, τ, c, h.same hXY (by omega) (fun _ _ _ _ => rfl) (fun _ => rfl) (fun _ => rfl)⟩⟩

end CL4
