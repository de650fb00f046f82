/-! the river, the barrier -/
theorem RR.low {M M' : w_M} {B : Nat} {N N' : w_M} {Y n ic t : Nat} (h : RR M B N Y n ic t) (eM : ∀ a j, B ≤ a → a < B + 200 → (a ≠ B ∨ (j ≠ 7 ∧ j ≠ 8)) → (a ≠ B + 2 ∨ (j ≠ 4 ∧ j ≠ 5)) → iv M' a j = iv M a j) (ej : ∀ j, jv M' (B + 5) j = jv M (B + 5) j)
    (eN : ∀ a j, Y ≤ a → a < Y + 36 → (a ≠ Y ∨ (j ≠ 0 ∧ j ≠ 8 ∧ j ≠ 9 ∧ j ≠ 10 ∧ j ≠ 11)) → iv N' a j = iv N a j) (ek : ∀ j, jv N' (Y + 40) j = jv N (Y + 40) j)
    (r7 : iv M' B 7 = iv N' Y 8) (r8 : iv M' B 8 = iv N' Y 9) (b4 : iv M' (B + 2) 4 = iv N' Y 10) (b5 : iv M' (B + 2) 5 = iv N' Y 11) (w0 : 0 ≤ (iv N' Y 8).toInt) (w1 : (iv N' Y 8).toInt ≤ 500) (s0 : 0 ≤ (iv N' Y 9).toInt) (s1 : (iv N' Y 9).toInt ≤ 500) (ld : cB (iv N' Y 11) 12) : RR M' B N' Y n ic t := by
  have hn := h.n8; have hi := h.i6
  refine ⟨h.n8, h.i6, h.t1, ?_, ?_, ?_, ?_, ?_, ?_, ?_, ?_, ?_, ?_, ?_, ?_, w0, w1, s0, s1, ?_, ?_, ld, ?_, ?_⟩
  · rw [eM _ _ (by omega) (by omega) (by omega) (by omega)]; exact h.Mn
  · rw [eM _ _ (by omega) (by omega) (by omega) (by omega)]; exact h.Mi
  · rw [eM _ _ (by omega) (by omega) (by omega) (by omega)]; exact h.Mt
  · rw [eN _ _ (by omega) (by omega) (by omega)]; exact h.Nn
  · rw [eN _ _ (by omega) (by omega) (by omega)]; exact h.Ni
  · rw [eN _ _ (by omega) (by omega) (by omega)]; exact h.Nt
  · have c := h.rc
    exact ⟨fun i hi => by rw [eM _ _ (by omega) (by omega) (by omega) (by omega), eN _ _ (by omega) (by omega) (by omega)]; exact c.ar i hi, fun i hi => by rw [eM _ _ (by omega) (by omega) (by omega) (by omega), eN _ _ (by omega) (by omega) (by omega)]; exact c.mu i hi, fun i hi => by rw [eM _ _ (by omega) (by omega) (by omega) (by omega), eN _ _ (by omega) (by omega) (by omega)]; exact c.cl i hi, fun i hi => by rw [eM _ _ (by omega) (by omega) (by omega) (by omega), eN _ _ (by omega) (by omega) (by omega)]; exact c.ru i hi, fun i hi => by rw [eM _ _ (by omega) (by omega) (by omega) (by omega), eN _ _ (by omega) (by omega) (by omega)]; exact c.pe i hi, fun i hi => by rw [eM _ _ (by omega) (by omega) (by omega) (by omega), eN _ _ (by omega) (by omega) (by omega)]; exact c.wu i hi, fun i hi => by rw [eM _ _ (by omega) (by omega) (by omega) (by omega), eN _ _ (by omega) (by omega) (by omega)]; exact c.su i hi, fun i hi => by rw [eM _ _ (by omega) (by omega) (by omega) (by omega), eN _ _ (by omega) (by omega) (by omega)]; exact c.wl i hi, fun i hi => by rw [eM _ _ (by omega) (by omega) (by omega) (by omega), eN _ _ (by omega) (by omega) (by omega)]; exact c.sl i hi, fun i hi => by rw [ej, ek]; exact c.sm i hi, fun k hk j hj => by rw [eM _ _ (by omega) (by omega) (by omega) (by omega), eN _ _ (by omega) (by omega) (by omega)]; exact c.it k hk j hj, r7, r8, fun i hi j => rfl⟩
  · intro s hs τ hτ h24; rw [eM _ _ (by omega) (by omega) (by omega) (by omega), eN _ _ (by omega) (by omega) (by omega)]; exact h.ta s hs τ hτ h24
  · exact h.b.same (fun i => eN _ _ (by omega) (by omega) (by omega)) (fun i => eN _ _ (by omega) (by omega) (by omega)) (fun i => eN _ _ (by omega) (by omega) (by omega)) (fun i => eN _ _ (by omega) (by omega) (by omega))
  · exact h.gi.same (fun a a1 a2 k => eN _ _ (by omega) (by omega) (by omega))
  · exact (h.rt.M h.gt (fun a ha j => eM _ _ (by omega) (by omega) (by omega) (by omega))).N (eN _ _ (by omega) (by omega) (by omega)) (eN _ _ (by omega) (by omega) (by omega)) (eN _ _ (by omega) (by omega) (by omega)) (fun j => eN _ _ (by omega) (by omega) (by omega)) (fun j => eN _ _ (by omega) (by omega) (by omega))
  · exact h.gt.e (eN _ _ (by omega) (by omega) (by omega)) (eN _ _ (by omega) (by omega) (by omega)) (eN _ _ (by omega) (by omega) (by omega)) (fun j => eN _ _ (by omega) (by omega) (by omega)) (fun j => eN _ _ (by omega) (by omega) (by omega))
  · intro τ hτ; rw [eM _ _ (by omega) (by omega) (by omega) (by omega), eN _ _ (by omega) (by omega) (by omega)]; exact h.pa τ hτ
  · have r := h.rb
    have e12 : iv N' Y 12 = iv N Y 12 := eN _ _ (by omega) (by omega) (by omega)
    have ego : g_go N' Y = g_go N Y := by unfold g_go; rw [e12, eN _ _ (by omega) (by omega) (by omega), eN _ _ (by omega) (by omega) (by omega)]
    refine ⟨b4, b5, ?_, ?_, ?_, ?_, ?_, ?_, ?_, ?_⟩
    · rw [eM _ _ (by omega) (by omega) (by omega) (by omega), e12]; exact r.cc
    · rw [e12]; exact r.c5
    · rw [e12]; intro i hi; rw [eM _ _ (by omega) (by omega) (by omega) (by omega), eN _ _ (by omega) (by omega) (by omega)]; exact r.fi i hi
    · rw [e12]; intro i hi; rw [eM _ _ (by omega) (by omega) (by omega) (by omega), eN _ _ (by omega) (by omega) (by omega)]; exact r.la i hi
    · rw [e12]; intro i hi; rw [eM _ _ (by omega) (by omega) (by omega) (by omega), eN _ _ (by omega) (by omega) (by omega)]; exact r.ri i hi
    · rw [e12]; intro i hi; rw [eN _ _ (by omega) (by omega) (by omega)]; exact r.z i hi
    · rw [eM _ _ (by omega) (by omega) (by omega) (by omega), ego]; exact r.go
    · rw [e12, eN _ _ (by omega) (by omega) (by omega)]; exact r.v
  · intro q s hs hs8
    rw [eN _ _ (by omega) (by omega) (by omega), eN _ _ (by omega) (by omega) (by omega), eN _ _ (by omega) (by omega) (by omega), eN _ _ (by omega) (by omega) (by omega), eN _ _ (by omega) (by omega) (by omega)]
    exact h.zs q s hs hs8
  · intro k hk a a1 a2; rw [eN _ _ (by omega) (by omega) (by omega)]; exact h.zi k hk a a1 a2
theorem RR_river {M : w_M} {B : Nat} {N : w_M} {Y n ic t : Nat} {w s : Int32} (h : RR M B N Y n ic t) (w0 : 0 ≤ w.toInt) (w1 : w.toInt ≤ 500) (s0 : 0 ≤ s.toInt) (s1 : s.toInt ≤ 500) : RR (wi (wi M B 7 w) B 8 s) B (wi (wi N Y 8 w) Y 9 s) Y n ic t := by
  refine h.low (fun a j a1 a2 a3 a4 => ?_) (fun j => rfl) (fun a j a1 a2 a3 => ?_) (fun j => rfl) ?_ ?_ ?_ ?_ ?_ ?_ ?_ ?_ ?_
  · simp (disch := omega) only [iv_n]
  · simp (disch := omega) only [iv_n]
  · simp (disch := omega) only [iv_s, iv_n]
  · simp (disch := omega) only [iv_s, iv_n]
  · simp (disch := omega) only [iv_n]; exact h.rb.mk9
  · simp (disch := omega) only [iv_n]; exact h.rb.ld
  · simp (disch := omega) only [iv_s, iv_n]; exact w0
  · simp (disch := omega) only [iv_s, iv_n]; exact w1
  · simp (disch := omega) only [iv_s, iv_n]; exact s0
  · simp (disch := omega) only [iv_s, iv_n]; exact s1
  · simp (disch := omega) only [iv_n]; exact h.ld
theorem RR_barrier {M : w_M} {B : Nat} {N : w_M} {Y n ic t : Nat} {m l : Int32} (h : RR M B N Y n ic t) (hl : cB l 12) : RR (wi (wi M (B + 2) 4 m) (B + 2) 5 l) B (wi (wi N Y 10 m) Y 11 l) Y n ic t := by
  refine h.low (fun a j a1 a2 a3 a4 => ?_) (fun j => rfl) (fun a j a1 a2 a3 => ?_) (fun j => rfl) ?_ ?_ ?_ ?_ ?_ ?_ ?_ ?_ ?_
  · simp (disch := omega) only [iv_n]
  · simp (disch := omega) only [iv_n]
  · simp (disch := omega) only [iv_n]; exact h.rc.rw
  · simp (disch := omega) only [iv_n]; exact h.rc.rs
  · simp (disch := omega) only [iv_s, iv_n]
  · simp (disch := omega) only [iv_s, iv_n]
  · simp (disch := omega) only [iv_n]; exact h.w0
  · simp (disch := omega) only [iv_n]; exact h.w1
  · simp (disch := omega) only [iv_n]; exact h.s0
  · simp (disch := omega) only [iv_n]; exact h.s1
  · rw [iv_s]; exact hl
/-! sections, intakes, mud -/
theorem RR.re {M M' : w_M} {B : Nat} {N N' : w_M} {Y n ic t n' ic' : Nat} (h : RR M B N Y n ic t) (hn : n' ≤ 8) (hi : ic' ≤ 6)
    (eM : ∀ a j, B ≤ a → a < B + 50 → (a ≠ B ∨ (j ≠ 5 ∧ j ≠ 6)) → iv M' a j = iv M a j) (eN : ∀ a j, Y ≤ a → a < Y + 17 → (a ≠ Y ∨ (j ≠ 0 ∧ j ≠ 16 ∧ j ≠ 25)) → iv N' a j = iv N a j)
    (Mn : iv M' B 5 = nI n') (Mi : iv M' B 6 = nI ic') (Nn : iv N' Y 16 = nI n') (Ni : iv N' Y 25 = nI ic')
    (rc : Rc M' B N' Y n' ic' (fun s j => iv M' (B + 100 + s + 40) j)) (ta : ∀ s, s < n' → ∀ τ, τ < t → t ≤ τ + 24 → iv M' (B + 100 + s + 40) (τ % 24) = iv N' (Y + 24) (1001 * s + τ))
    (b : gB N' Y n' (20000 * n' + 120500 * t) (10000 * n' + 500 * t)) (gi : gI N' Y n' ic') (zs : t = 0 → ∀ s, n' ≤ s → s < 8 → iv N' (Y + 19) s = 0 ∧ iv N' (Y + 20) s = 0 ∧ iv N' (Y + 21) s = 0 ∧ iv N' (Y + 23) s = 0 ∧ iv N' (Y + 23) (8 + s) = 0) (zi : ∀ k, ic' ≤ k → ∀ a, 31 ≤ a → a ≤ 35 → iv N' (Y + a) k = 0) : RR M' B N' Y n' ic' t := by
  refine ⟨hn, hi, h.t1, Mn, Mi, ?_, Nn, Ni, ?_, rc, ta, b, gi, ?_, ?_, ?_, ?_, ?_, ?_, ?_, ?_, ?_, zs, zi⟩
  · rw [eM _ _ (by omega) (by omega) (by omega)]; exact h.Mt
  · rw [eN _ _ (by omega) (by omega) (by omega)]; exact h.Nt
  · exact (h.rt.M h.gt (fun a ha j => eM _ _ (by omega) (by omega) (by omega))).N (eN _ _ (by omega) (by omega) (by omega)) (eN _ _ (by omega) (by omega) (by omega)) (eN _ _ (by omega) (by omega) (by omega)) (fun j => eN _ _ (by omega) (by omega) (by omega)) (fun j => eN _ _ (by omega) (by omega) (by omega))
  · exact h.gt.e (eN _ _ (by omega) (by omega) (by omega)) (eN _ _ (by omega) (by omega) (by omega)) (eN _ _ (by omega) (by omega) (by omega)) (fun j => eN _ _ (by omega) (by omega) (by omega)) (fun j => eN _ _ (by omega) (by omega) (by omega))
  · rw [eN _ _ (by omega) (by omega) (by omega)]; exact h.w0
  · rw [eN _ _ (by omega) (by omega) (by omega)]; exact h.w1
  · rw [eN _ _ (by omega) (by omega) (by omega)]; exact h.s0
  · rw [eN _ _ (by omega) (by omega) (by omega)]; exact h.s1
  · intro τ hτ; rw [eM _ _ (by omega) (by omega) (by omega), eN _ _ (by omega) (by omega) (by omega)]; exact h.pa τ hτ
  · have r := h.rb
    have e12 : iv N' Y 12 = iv N Y 12 := eN _ _ (by omega) (by omega) (by omega)
    have ego : g_go N' Y = g_go N Y := by unfold g_go; rw [e12, eN _ _ (by omega) (by omega) (by omega), eN _ _ (by omega) (by omega) (by omega)]
    refine ⟨?_, ?_, ?_, ?_, ?_, ?_, ?_, ?_, ?_, ?_⟩
    · rw [eM _ _ (by omega) (by omega) (by omega), eN _ _ (by omega) (by omega) (by omega)]; exact r.mk9
    · rw [eM _ _ (by omega) (by omega) (by omega), eN _ _ (by omega) (by omega) (by omega)]; exact r.ld
    · rw [eM _ _ (by omega) (by omega) (by omega), e12]; exact r.cc
    · rw [e12]; exact r.c5
    · rw [e12]; intro i hi; rw [eM _ _ (by omega) (by omega) (by omega), eN _ _ (by omega) (by omega) (by omega)]; exact r.fi i hi
    · rw [e12]; intro i hi; rw [eM _ _ (by omega) (by omega) (by omega), eN _ _ (by omega) (by omega) (by omega)]; exact r.la i hi
    · rw [e12]; intro i hi; rw [eM _ _ (by omega) (by omega) (by omega), eN _ _ (by omega) (by omega) (by omega)]; exact r.ri i hi
    · rw [e12]; intro i hi; rw [eN _ _ (by omega) (by omega) (by omega)]; exact r.z i hi
    · rw [eM _ _ (by omega) (by omega) (by omega), ego]; exact r.go
    · rw [e12, eN _ _ (by omega) (by omega) (by omega)]; exact r.v
  · rw [eN _ _ (by omega) (by omega) (by omega)]; exact h.ld
theorem RR_section {M : w_M} {B : Nat} {N : w_M} {Y n ic : Nat} {ar up low mud : Int32} (h : RR M B N Y n ic 0) (hn : n < 8) (a0 : 1 ≤ ar.toInt) (a1 : ar.toInt ≤ 100) (u0 : 0 ≤ up.toInt) (u1 : up.toInt ≤ 10000) (l0 : 0 ≤ low.toInt) (l1 : low.toInt ≤ 10000) (m0 : 0 ≤ mud.toInt) (m1 : mud.toInt ≤ 10000) : RR (m_asec M B ar up low mud) B (gE_sec N Y n ar up low mud) Y (n + 1) ic 0 := by
  have hi := h.i6
  have cM : cN (iv M B 5) = n := by rw [h.Mn]; exact cN_nI (by omega)
  have eM : m_asec M B ar up low mud = wi (wi (wi (wi (wi (wi (wi (wi (wi (wi M (B + 100 + n) 3 ar) (B + 100 + n) 4 mud) (B + 100 + n + 20) 0 up) (B + 100 + n + 20) 1 0) (B + 100 + n + 30) 0 low) (B + 100 + n + 30) 1 0) (B + 100 + n) 5 0) (B + 100 + n) 6 0) (B + 100 + n) 7 0) B 5 (nI (n + 1)) := by
    unfold m_asec m_sbeg; rw [cM, h.Mn]; rw [show nI n + 1 = nI (n + 1) from nI_ad n 1]
  have eN : gE_sec N Y n ar up low mud = wi (wi (wi (wi (wi N (Y + 17) n ar) (Y + 22) n up) (Y + 22) (8 + n) low) (Y + 18) n mud) Y 16 (nI (n + 1)) := by
    unfold gE_sec g_a; simp (disch := omega) only [iv_n]; rw [h.Nn, show nI n + 1 = nI (n + 1) from nI_ad n 1]
  obtain ⟨z1, z2, z3, z4, z5⟩ := h.zs rfl n (Nat.le_refl _) hn
  rw [eM, eN]
  have c := h.rc
  have hb := h.b; have hg := h.gi
  refine h.re (by omega) hi (fun a j b1 b2 b3 => ?_) (fun a j b1 b2 b3 => ?_) ?_ ?_ ?_ ?_ ⟨?_, ?_, ?_, ?_, ?_, ?_, ?_, ?_, ?_, ?_, ?_, ?_, ?_, ?_⟩ ?_ ⟨?_, ?_, ?_, ?_, ?_, ?_, ?_⟩ ⟨?_, ?_, ?_, ?_, ?_⟩ ?_ ?_
  · simp (disch := omega) only [iv_n]
  · simp (disch := omega) only [iv_n]
  · rw [iv_s]
  · simp (disch := omega) only [iv_n]; exact h.Mi
  · rw [iv_s]
  · simp (disch := omega) only [iv_n]; exact h.Ni
  · intro i hi
    by_cases q : i = n
    · subst q; simp (disch := omega) only [iv_s, iv_n]
    · simp (disch := omega) only [iv_n]; exact c.ar i (by omega)
  · intro i hi
    by_cases q : i = n
    · subst q; simp (disch := omega) only [iv_s, iv_n]
    · simp (disch := omega) only [iv_n]; exact c.mu i (by omega)
  · intro i hi
    by_cases q : i = n
    · subst q; simp (disch := omega) only [iv_s, iv_n, z1]
    · simp (disch := omega) only [iv_n]; exact c.cl i (by omega)
  · intro i hi
    by_cases q : i = n
    · subst q; simp (disch := omega) only [iv_s, iv_n, z2]
    · simp (disch := omega) only [iv_n]; exact c.ru i (by omega)
  · intro i hi
    by_cases q : i = n
    · subst q; simp (disch := omega) only [iv_s, iv_n, z3]
    · simp (disch := omega) only [iv_n]; exact c.pe i (by omega)
  · intro i hi
    by_cases q : i = n
    · subst q; simp (disch := omega) only [iv_s, iv_n]
    · simp (disch := omega) only [iv_n]; exact c.wu i (by omega)
  · intro i hi
    by_cases q : i = n
    · subst q; simp (disch := omega) only [iv_s, iv_n, z4]
    · simp (disch := omega) only [iv_n]; exact c.su i (by omega)
  · intro i hi
    by_cases q : i = n
    · subst q; simp (disch := omega) only [iv_s, iv_n]
    · simp (disch := omega) only [iv_n]; exact c.wl i (by omega)
  · intro i hi
    by_cases q : i = n
    · subst q; simp (disch := omega) only [iv_s, iv_n, z5]
    · simp (disch := omega) only [iv_n]; exact c.sl i (by omega)
  · exact c.sm
  · intro k hk j hj; simp (disch := omega) only [iv_n]; exact c.it k hk j hj
  · simp (disch := omega) only [iv_n]; exact c.rw
  · simp (disch := omega) only [iv_n]; exact c.rs
  · intro s hs j; rfl
  · intro s hs τ hτ; omega
  · intro i hi
    by_cases q : i = n
    · subst q; simp (disch := omega) only [iv_s, iv_n]; exact ⟨a0, a1⟩
    · simp (disch := omega) only [iv_n]; exact hb.ar i (by omega)
  · intro i hi
    by_cases q : i = n
    · subst q; simp (disch := omega) only [iv_s, iv_n]; exact u0
    · simp (disch := omega) only [iv_n]; exact hb.wu i (by omega)
  · intro i hi
    by_cases q : i = n
    · subst q; simp (disch := omega) only [iv_s, iv_n]; exact l0
    · simp (disch := omega) only [iv_n]; exact hb.wl i (by omega)
  · intro i hi
    by_cases q : i = n
    · subst q; simp (disch := omega) only [iv_s, iv_n]; exact m0
    · simp (disch := omega) only [iv_n]; exact hb.mu i (by omega)
  · intro i hi
    by_cases q : i = n
    · subst q; simp (disch := omega) only [iv_s, iv_n, z1]; rw [i_0]; omega
    · simp (disch := omega) only [iv_n]; exact hb.cl i (by omega)
  · rw [sm, sm_eq (f := fun s => (iv N (Y + 22) s).toInt + (iv N (Y + 22) (8 + s)).toInt) (fun i hi => by simp (disch := omega) only [iv_n])]
    have := hb.W
    simp (disch := omega) only [iv_s, iv_n]; omega
  · rw [sm, sm_eq (f := fun s => (iv N (Y + 18) s).toInt + (iv N (Y + 19) s).toInt) (fun i hi => by simp (disch := omega) only [iv_n])]
    have := hb.C
    simp (disch := omega) only [iv_s, iv_n, z1, i_0]; omega
  · intro k hk; obtain ⟨s, hs, e⟩ := hg.at9 k hk
    exact ⟨s, by omega, by simp (disch := omega) only [iv_n]; exact e⟩
  · intro k hk; simp (disch := omega) only [iv_n]; exact hg.ra k hk
  · intro k hk; simp (disch := omega) only [iv_n]; exact hg.us k hk
  · intro k hk; simp (disch := omega) only [iv_n]; exact hg.ke k hk
  · intro k hk; simp (disch := omega) only [iv_n]; exact hg.ro k hk
  · intro q s hs hs8; simp (disch := omega) only [iv_n]; exact h.zs rfl s (by omega) hs8
  · intro k hk a a1 a2; simp (disch := omega) only [iv_n]; exact h.zi k hk a a1 a2
theorem RR_intake {M : w_M} {B : Nat} {N : w_M} {Y n ic t s : Nat} {v ra gr ro us : Int32} (h : RR M B N Y n ic t) (hi : ic < 6) (hs : s < n) (hv : v = nI s) (r0 : 0 ≤ ra.toInt) (o0 : 0 ≤ ro.toInt) (u0 : 0 ≤ us.toInt) : RR (m_aint M B v ra gr ro us) B (gE_int N Y ic v ra gr ro us) Y n (ic + 1) t := by
  have hn := h.n8
  have cM : cN (iv M B 6) = ic := by rw [h.Mi]; exact cN_nI (by omega)
  have eM : m_aint M B v ra gr ro us = wi (wi (wi (wi (wi (wi (wi (wi (wi (wi (wi M (B + 150 + ic) 0 v) (B + 150 + ic) 1 ra) (B + 150 + ic) 2 gr) (B + 150 + ic) 3 ro) (B + 150 + ic) 4 us) (B + 150 + ic) 5 0) (B + 150 + ic) 6 0) (B + 150 + ic) 7 0) (B + 150 + ic) 8 0) (B + 150 + ic) 9 0) B 6 (nI (ic + 1)) := by
    unfold m_aint m_ibeg; rw [cM, h.Mi]; rw [show nI ic + 1 = nI (ic + 1) from nI_ad ic 1]
  have eN : gE_int N Y ic v ra gr ro us = wi (wi (wi (wi (wi (wi N (Y + 26) ic v) (Y + 27) ic ra) (Y + 28) ic gr) (Y + 29) ic ro) (Y + 30) ic us) Y 25 (nI (ic + 1)) := by
    unfold gE_int g_a; simp (disch := omega) only [iv_n]; rw [h.Ni, show nI ic + 1 = nI (ic + 1) from nI_ad ic 1]
  have z := h.zi ic (Nat.le_refl _)
  have z1 := z 31 (by omega) (by omega); have z2 := z 32 (by omega) (by omega); have z3 := z 33 (by omega) (by omega); have z4 := z 34 (by omega) (by omega); have z5 := z 35 (by omega) (by omega)
  rw [eM, eN]
  have c := h.rc
  have hb := h.b; have hg := h.gi
  refine h.re hn (by omega) (fun a j b1 b2 b3 => ?_) (fun a j b1 b2 b3 => ?_) ?_ ?_ ?_ ?_ ⟨?_, ?_, ?_, ?_, ?_, ?_, ?_, ?_, ?_, ?_, ?_, ?_, ?_, ?_⟩ ?_ ?_ ⟨?_, ?_, ?_, ?_, ?_⟩ ?_ ?_
  · simp (disch := omega) only [iv_n]
  · simp (disch := omega) only [iv_n]
  · simp (disch := omega) only [iv_n]; exact h.Mn
  · rw [iv_s]
  · simp (disch := omega) only [iv_n]; exact h.Nn
  · rw [iv_s]
  · intro i hi; simp (disch := omega) only [iv_n]; exact c.ar i hi
  · intro i hi; simp (disch := omega) only [iv_n]; exact c.mu i hi
  · intro i hi; simp (disch := omega) only [iv_n]; exact c.cl i hi
  · intro i hi; simp (disch := omega) only [iv_n]; exact c.ru i hi
  · intro i hi; simp (disch := omega) only [iv_n]; exact c.pe i hi
  · intro i hi; simp (disch := omega) only [iv_n]; exact c.wu i hi
  · intro i hi; simp (disch := omega) only [iv_n]; exact c.su i hi
  · intro i hi; simp (disch := omega) only [iv_n]; exact c.wl i hi
  · intro i hi; simp (disch := omega) only [iv_n]; exact c.sl i hi
  · exact c.sm
  · intro k hk
    by_cases q : k = ic
    · subst q
      refine it10 ?_ ?_ ?_ ?_ ?_ ?_ ?_ ?_ ?_ ?_
      · simp (disch := omega) only [iv_n, iv_s, Nat.add_zero]
      · simp (disch := omega) only [iv_n, iv_s, iv_e]
      · simp (disch := omega) only [iv_n, iv_s, iv_e]
      · simp (disch := omega) only [iv_n, iv_s, iv_e]
      · simp (disch := omega) only [iv_n, iv_s, iv_e]
      · simp (disch := omega) only [iv_n, iv_s]; exact z1.symm
      · simp (disch := omega) only [iv_n, iv_s]; exact z2.symm
      · simp (disch := omega) only [iv_n, iv_s]; exact z3.symm
      · simp (disch := omega) only [iv_n, iv_s]; exact z4.symm
      · simp (disch := omega) only [iv_n, iv_s]; exact z5.symm
    · intro j hj; simp (disch := omega) only [iv_n]; exact c.it k (by omega) j hj
  · simp (disch := omega) only [iv_n]; exact c.rw
  · simp (disch := omega) only [iv_n]; exact c.rs
  · intro s hs j; rfl
  · intro s hs τ hτ h24; simp (disch := omega) only [iv_n]; exact h.ta s hs τ hτ h24
  · exact hb.same (fun i => by simp (disch := omega) only [iv_n]) (fun i => by simp (disch := omega) only [iv_n]) (fun i => by simp (disch := omega) only [iv_n]) (fun i => by simp (disch := omega) only [iv_n])
  · intro k hk
    by_cases q : k = ic
    · subst q; refine ⟨s, hs, ?_⟩; simp (disch := omega) only [iv_n, iv_s]; exact hv
    · simp (disch := omega) only [iv_n]; exact hg.at9 k (by omega)
  · intro k hk
    by_cases q : k = ic
    · subst q; simp (disch := omega) only [iv_n, iv_s]; exact r0
    · simp (disch := omega) only [iv_n]; exact hg.ra k (by omega)
  · intro k hk
    by_cases q : k = ic
    · subst q; simp (disch := omega) only [iv_n, iv_s]; exact u0
    · simp (disch := omega) only [iv_n]; exact hg.us k (by omega)
  · intro k hk
    by_cases q : k = ic
    · subst q; simp (disch := omega) only [iv_n, z1, i_0]; omega
    · simp (disch := omega) only [iv_n]; exact hg.ke k (by omega)
  · intro k hk
    by_cases q : k = ic
    · subst q; simp (disch := omega) only [iv_n, iv_s, z1, i_0]; exact o0
    · simp (disch := omega) only [iv_n]; exact hg.ro k (by omega)
  · intro q s hs hs8; simp (disch := omega) only [iv_n]; exact h.zs q s hs hs8
  · intro k hk a a1 a2; simp (disch := omega) only [iv_n]; exact h.zi k (by omega) a a1 a2
theorem RR_permit {M : w_M} {B : Nat} {N : w_M} {Y n ic t i : Nat} {a9 : Int32} (h : RR M B N Y n ic t) (hi : i < n) : RR (wi M (B + 100 + i) 7 a9) B (wi N (Y + 21) i a9) Y n ic t := by
  have hn := h.n8; have hi6 := h.i6
  have c := h.rc
  have hb := h.b; have hg := h.gi
  refine h.re hn hi6 (fun a j b1 b2 b3 => ?_) (fun a j b1 b2 b3 => ?_) ?_ ?_ ?_ ?_ ⟨?_, ?_, ?_, ?_, ?_, ?_, ?_, ?_, ?_, ?_, ?_, ?_, ?_, ?_⟩ ?_ ?_ ?_ ?_ ?_
  · simp (disch := omega) only [iv_n]
  · simp (disch := omega) only [iv_n]
  · simp (disch := omega) only [iv_n]; exact h.Mn
  · simp (disch := omega) only [iv_n]; exact h.Mi
  · simp (disch := omega) only [iv_n]; exact h.Nn
  · simp (disch := omega) only [iv_n]; exact h.Ni
  · intro i hi; simp (disch := omega) only [iv_n]; exact c.ar i hi
  · intro i hi; simp (disch := omega) only [iv_n]; exact c.mu i hi
  · intro i hi; simp (disch := omega) only [iv_n]; exact c.cl i hi
  · intro i hi; simp (disch := omega) only [iv_n]; exact c.ru i hi
  · intro r hr
    by_cases q : r = i
    · subst q; rw [iv_s, iv_s]
    · simp (disch := omega) only [iv_n]; exact c.pe r hr
  · intro i hi; simp (disch := omega) only [iv_n]; exact c.wu i hi
  · intro i hi; simp (disch := omega) only [iv_n]; exact c.su i hi
  · intro i hi; simp (disch := omega) only [iv_n]; exact c.wl i hi
  · intro i hi; simp (disch := omega) only [iv_n]; exact c.sl i hi
  · exact c.sm
  · intro k hk j hj; simp (disch := omega) only [iv_n]; exact c.it k hk j hj
  · simp (disch := omega) only [iv_n]; exact c.rw
  · simp (disch := omega) only [iv_n]; exact c.rs
  · intro s hs j; rfl
  · intro s hs τ hτ h24; simp (disch := omega) only [iv_n]; exact h.ta s hs τ hτ h24
  · exact hb.same (fun i => by simp (disch := omega) only [iv_n]) (fun i => by simp (disch := omega) only [iv_n]) (fun i => by simp (disch := omega) only [iv_n]) (fun i => by simp (disch := omega) only [iv_n])
  · exact hg.same (fun a a1 a2 k => by simp (disch := omega) only [iv_n])
  · intro q s hs hs8; simp (disch := omega) only [iv_n]; exact h.zs q s hs hs8
  · intro k hk a a1 a2; simp (disch := omega) only [iv_n]; exact h.zi k (by omega) a a1 a2
