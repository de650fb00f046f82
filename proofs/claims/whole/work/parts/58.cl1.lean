/-! the law's clauses -/
theorem bad_a {k i : Nat} {E : String} (h : [x_IA][i]? = some E) (q : k = 1 ∧ E = x_IA) : k = i + 1 ∧ i < 100 := by
  match i, h with
  | 0, _ => exact ⟨q.1, by omega⟩
  | i + 1, h => simp at h
theorem bad_x {k i : Nat} {E : String} (h : [x_IX][i]? = some E) (q : k = 1 ∧ E = x_IX) : k = i + 1 ∧ i < 100 := by
  match i, h with
  | 0, _ => exact ⟨q.1, by omega⟩
  | i + 1, h => simp at h
theorem bad_as {k i : Nat} {E : String} (h : [x_IA, x_IS][i]? = some E) (q : (k = 1 ∧ E = x_IA) ∨ (k = 2 ∧ E = x_IS)) : k = i + 1 ∧ i < 100 := by
  match i, h with
  | 0, h =>
    have e : x_IA = E := by simpa using h
    rcases q with q | q
    · exact ⟨q.1, by omega⟩
    · rw [← e] at q; exact absurd q.2 (by decide)
  | 1, h =>
    have e : x_IS = E := by simpa using h
    rcases q with q | q
    · rw [← e] at q; exact absurd q.2 (by decide)
    · exact ⟨q.1, by omega⟩
  | i + 2, h => simp at h
theorem bad_xa {k i : Nat} {E : String} (h : [x_IX, x_IA][i]? = some E) (q : (k = 1 ∧ E = x_IX) ∨ (k = 2 ∧ E = x_IA)) : k = i + 1 ∧ i < 100 := by
  match i, h with
  | 0, h =>
    have e : x_IX = E := by simpa using h
    rcases q with q | q
    · exact ⟨q.1, by omega⟩
    · rw [← e] at q; exact absurd q.2 (by decide)
  | 1, h =>
    have e : x_IA = E := by simpa using h
    rcases q with q | q
    · rw [← e] at q; exact absurd q.2 (by decide)
    · exact ⟨q.1, by omega⟩
  | i + 2, h => simp at h
theorem bad_xas {k i : Nat} {E : String} (h : [x_IX, x_IA, x_IS][i]? = some E) (q : (k = 1 ∧ E = x_IX) ∨ (k = 2 ∧ E = x_IA) ∨ (k = 3 ∧ E = x_IS)) : k = i + 1 ∧ i < 100 := by
  match i, h with
  | 0, h =>
    have e : x_IX = E := by simpa using h
    rcases q with q | q | q
    · exact ⟨q.1, by omega⟩
    · rw [← e] at q; exact absurd q.2 (by decide)
    · rw [← e] at q; exact absurd q.2 (by decide)
  | 1, h =>
    have e : x_IA = E := by simpa using h
    rcases q with q | q | q
    · rw [← e] at q; exact absurd q.2 (by decide)
    · exact ⟨q.1, by omega⟩
    · rw [← e] at q; exact absurd q.2 (by decide)
  | 2, h =>
    have e : x_IS = E := by simpa using h
    rcases q with q | q | q
    · rw [← e] at q; exact absurd q.2 (by decide)
    · rw [← e] at q; exact absurd q.2 (by decide)
    · exact ⟨q.1, by omega⟩
  | i + 3, h => simp at h
theorem tell_Y {X Y t : Nat} {M : w_M} {n ic τ c : Nat} {kd a b c9 d e : Int32} (h : IVs X Y t M n ic τ c) (hXY : X + 4000 ≤ Y) (hv : v_hk M Y kd a b c9 d e) : ∀ q, Y ≤ q → ∀ j, iv (m_hk (m_keep M (X + 1) (iv M (X + 1000) 9) kd a b c9 d e) (X + 1000) kd a b c9 d e) q j = iv M q j := by
  intro q hq j
  have r1 : RR (m_keep M (X + 1) (iv M (X + 1000) 9) kd a b c9 d e) (X + 1000) M Y n ic τ := h.rr.cM (fun x x1 x2 j => keep_o (by omega) (by omega)) (fun j => rfl)
  rw [(fr_hk r1 hv q (by omega) j).1, keep_o (by omega) (by omega)]
theorem x_p1 (x : Int32) : x + 1 - 1 = x := Int32.add_sub_cancel x 1
theorem c_ltN {x : Int32} {b c : Nat} (h : cB x c) (hc : c < 1000) (y : Int32) (hy : y.toInt = b) (hl : x < y) : cN x < b := by
  have := i_cNlt h (by omega)
  rw [i_lt, this, hy] at hl; omega
section CL
variable {l : Launch} {D : va_G} {G : w_G} {X Y O : Nat}
theorem cl_turn (hX : L_sal G X) (hY : L_mdl G Y) (hO : L_j1 G O) (hst : l.stackTraces = false) (hXY : X + 4000 ≤ Y) (hYO : Y + 200 ≤ O) : H_turn l D G X Y O (IV X Y) := by
  intro t M a1 a2 a3 a4 ht hI
  obtain ⟨n, ic, τ, c, h⟩ := id hI
  have etc : iv M (X + 1001) 3 = iv M Y 3 := h.rr.rt.tc
  have hkc : kc_turn a1 a2 a3 a4 (iv M (X + 1001) 3) = gk_turn a1 a2 a3 a4 (iv M Y 3) := by rw [etc]; exact k_turn h.rr.gt.tc
  refine ⟨_, h_L_turn l D G M X O a1 a2 a3 a4 _ _ (sal_is hX) hO (c_X10_turn l D G M X a1 a2 a3 a4 hX hst h.okx (h.hk ht)) (by rintro E M2 ⟨_, (⟨_, rfl⟩ | ⟨_, rfl⟩)⟩ <;> simp), ?_⟩
  rintro r5 M2 (⟨e5, v, Mv, ⟨k0, ev, eMv⟩, eM2⟩ | ⟨E, i, ⟨eM, hE⟩, hi9, e5⟩)
  · have hv : v_hk M Y 0 a1 a2 a3 a4 0 := by
      unfold kc_turn at k0
      split at k0
      · exact absurd k0 (by decide)
      · rename_i q
        split at k0
        · rename_i q2
          rw [not_or, not_or, not_or, fW_1, fW_1, fW_1, fW_1] at q
          obtain ⟨p1, p2, p3, p4⟩ := q
          rw [etc] at q2
          have e2 : (2 : Int32).toInt = 2 := i_2
          rw [show (2 : Int32).toInt = 2 by decide, show (60 : Int32).toInt = 60 by decide] at p1
          rw [i_1, i_sub (by rw [i_1]; omega) (by rw [i_1]; omega), i_1] at p2
          rw [i_0, show (50 : Int32).toInt = 50 by decide] at p3
          rw [i_0, show (59 : Int32).toInt = 59 by decide] at p4
          exact Or.inl ⟨rfl, c_ltN h.rr.gt.tc (by decide) 6 (by decide) q2, p1.1, p1.2, p2.1, by omega, p3.1, p3.2, p4.1, p4.2⟩
        · exact absurd k0 (by decide)
    have eM' : Mv = m_hk (m_keep M (X + 1) (iv M (X + 1000) 9) 0 a1 a2 a3 a4 0) (X + 1000) 0 a1 a2 a3 a4 0 := eMv
    have tY := tell_Y h hXY hv
    rw [← eM'] at tY
    subst eM2
    refine ⟨_, c_X11_turn l D G _ Y a1 a2 a3 a4 hY (h.okm.1.c (fun q q1 q2 j q3 => tY q q1 j)), ?_⟩
    rintro r6 M3 ⟨q0, q1⟩
    have w3 : iv (wj Mv O 0 v.toInt64) Y 3 = iv M Y 3 := tY Y (Nat.le_refl _) 3
    obtain ⟨er6, eM3⟩ := q1 (by rw [w3, ← hkc]; exact k0)
    refine ⟨_, c_X11_thrown l D G M3 Y hY, ?_⟩
    rintro r7 M4 ⟨e7, e4⟩
    have w3' : iv (wi (wj Mv O 0 v.toInt64) Y 0 0) Y 3 = iv (wj Mv O 0 v.toInt64) Y 3 := iv_n (by omega)
    have e3 : M3 = g_hk (wi (wj Mv O 0 v.toInt64) Y 0 0) Y 0 a1 a2 a3 a4 0 := by
      rw [eM3]; show _ = gE_turn (wi (wj Mv O 0 v.toInt64) Y 0 0) Y (cN (iv (wi (wj Mv O 0 v.toInt64) Y 0 0) Y 3)) a1 a2 a3 a4
      rw [w3']
    have exy : v.toInt64 = r6.toInt64 := by
      rw [er6]; unfold gE_turn g_a; simp (disch := omega) only [iv_s, iv_n]; rw [x_p1, w3, ev, etc]
    exact fin_tell h hXY hYO ht hv e5 exy eM' e3 e7 e4
  · subst eM
    obtain ⟨kk, i1⟩ := bad_as hi9 hE
    rw [hkc] at kk
    refine ⟨_, c_X11_turn l D G _ Y a1 a2 a3 a4 hY h.okm.1, ?_⟩
    rintro r6 M3 ⟨q0, q1⟩
    have eM3 := q0 (by rw [kk]; omega)
    rw [kk] at eM3
    refine ⟨_, c_X11_thrown l D G M3 Y hY, ?_⟩
    rintro r7 M4 ⟨e7, e4⟩
    exact fin_bad hI hXY i1 e5 eM3 e7 e4
end CL
