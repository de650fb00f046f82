/-! what is told: the class hears it as the reference does -/
theorem RR.sea {M M' : w_M} {B : Nat} {N N' : w_M} {Y n ic t : Nat} (h : RR M B N Y n ic t) (eM : ∀ a, B ≤ a → a < B + 200 → a ≠ B + 1 → (a < B + 20 ∨ B + 50 ≤ a) → ∀ j, iv M' a j = iv M a j) (ej : ∀ j, jv M' (B + 5) j = jv M (B + 5) j)
    (eN : ∀ a j, Y ≤ a → a < Y + 36 → a ≠ Y + 4 → a ≠ Y + 6 → (a ≠ Y ∨ (j ≠ 0 ∧ j ≠ 2 ∧ j ≠ 3 ∧ j ≠ 5)) → iv N' a j = iv N a j) (ek : ∀ j, jv N' (Y + 40) j = jv N (Y + 40) j) (rt : Rt M' B N' Y) (gt : gT N' Y) : RR M' B N' Y n ic t := by
  have hn := h.n8; have hi := h.i6
  refine ⟨h.n8, h.i6, h.t1, ?_, ?_, ?_, ?_, ?_, ?_, ?_, ?_, ?_, ?_, rt, gt, ?_, ?_, ?_, ?_, ?_, ?_, ?_, ?_, ?_⟩
  · rw [eM _ (by omega) (by omega) (by omega) (by omega)]; exact h.Mn
  · rw [eM _ (by omega) (by omega) (by omega) (by omega)]; exact h.Mi
  · rw [eM _ (by omega) (by omega) (by omega) (by omega)]; exact h.Mt
  · rw [eN _ _ (by omega) (by omega) (by omega) (by omega) (by omega)]; exact h.Nn
  · rw [eN _ _ (by omega) (by omega) (by omega) (by omega) (by omega)]; exact h.Ni
  · rw [eN _ _ (by omega) (by omega) (by omega) (by omega) (by omega)]; exact h.Nt
  · have c := h.rc.N2 (N' := N') (fun a j q => eN _ _ (by omega) (by omega) (by omega) (by omega) (by omega)) ek
    exact ⟨fun i hi => by rw [eM _ (by omega) (by omega) (by omega) (by omega)]; exact c.ar i hi, fun i hi => by rw [eM _ (by omega) (by omega) (by omega) (by omega)]; exact c.mu i hi, fun i hi => by rw [eM _ (by omega) (by omega) (by omega) (by omega)]; exact c.cl i hi, fun i hi => by rw [eM _ (by omega) (by omega) (by omega) (by omega)]; exact c.ru i hi, fun i hi => by rw [eM _ (by omega) (by omega) (by omega) (by omega)]; exact c.pe i hi, fun i hi => by rw [eM _ (by omega) (by omega) (by omega) (by omega)]; exact c.wu i hi, fun i hi => by rw [eM _ (by omega) (by omega) (by omega) (by omega)]; exact c.su i hi, fun i hi => by rw [eM _ (by omega) (by omega) (by omega) (by omega)]; exact c.wl i hi, fun i hi => by rw [eM _ (by omega) (by omega) (by omega) (by omega)]; exact c.sl i hi, fun i hi => by rw [ej]; exact c.sm i hi, fun k hk j hj => by rw [eM _ (by omega) (by omega) (by omega) (by omega)]; exact c.it k hk j hj, by rw [eM _ (by omega) (by omega) (by omega) (by omega)]; exact c.rw, by rw [eM _ (by omega) (by omega) (by omega) (by omega)]; exact c.rs, fun i hi j => rfl⟩
  · intro s hs τ hτ h24; rw [eM _ (by omega) (by omega) (by omega) (by omega), eN _ _ (by omega) (by omega) (by omega) (by omega) (by omega)]; exact h.ta s hs τ hτ h24
  · exact h.b.same (fun i => eN _ _ (by omega) (by omega) (by omega) (by omega) (by omega)) (fun i => eN _ _ (by omega) (by omega) (by omega) (by omega) (by omega)) (fun i => eN _ _ (by omega) (by omega) (by omega) (by omega) (by omega)) (fun i => eN _ _ (by omega) (by omega) (by omega) (by omega) (by omega))
  · exact h.gi.same (fun a a1 a2 k => eN _ _ (by omega) (by omega) (by omega) (by omega) (by omega))
  · rw [eN _ _ (by omega) (by omega) (by omega) (by omega) (by omega)]; exact h.w0
  · rw [eN _ _ (by omega) (by omega) (by omega) (by omega) (by omega)]; exact h.w1
  · rw [eN _ _ (by omega) (by omega) (by omega) (by omega) (by omega)]; exact h.s0
  · rw [eN _ _ (by omega) (by omega) (by omega) (by omega) (by omega)]; exact h.s1
  · intro τ hτ; rw [eM _ (by omega) (by omega) (by omega) (by omega), eN _ _ (by omega) (by omega) (by omega) (by omega) (by omega)]; exact h.pa τ hτ
  · have r := h.rb
    have e12 : iv N' Y 12 = iv N Y 12 := eN _ _ (by omega) (by omega) (by omega) (by omega) (by omega)
    have ego : g_go N' Y = g_go N Y := by unfold g_go; rw [e12, eN _ _ (by omega) (by omega) (by omega) (by omega) (by omega), eN _ _ (by omega) (by omega) (by omega) (by omega) (by omega)]
    refine ⟨?_, ?_, ?_, ?_, ?_, ?_, ?_, ?_, ?_, ?_⟩
    · rw [eM _ (by omega) (by omega) (by omega) (by omega), eN _ _ (by omega) (by omega) (by omega) (by omega) (by omega)]; exact r.mk9
    · rw [eM _ (by omega) (by omega) (by omega) (by omega), eN _ _ (by omega) (by omega) (by omega) (by omega) (by omega)]; exact r.ld
    · rw [eM _ (by omega) (by omega) (by omega) (by omega), e12]; exact r.cc
    · rw [e12]; exact r.c5
    · rw [e12]; intro i hi; rw [eM _ (by omega) (by omega) (by omega) (by omega), eN _ _ (by omega) (by omega) (by omega) (by omega) (by omega)]; exact r.fi i hi
    · rw [e12]; intro i hi; rw [eM _ (by omega) (by omega) (by omega) (by omega), eN _ _ (by omega) (by omega) (by omega) (by omega) (by omega)]; exact r.la i hi
    · rw [e12]; intro i hi; rw [eM _ (by omega) (by omega) (by omega) (by omega), eN _ _ (by omega) (by omega) (by omega) (by omega) (by omega)]; exact r.ri i hi
    · rw [e12]; intro i hi; rw [eN _ _ (by omega) (by omega) (by omega) (by omega) (by omega)]; exact r.z i hi
    · rw [eM _ (by omega) (by omega) (by omega) (by omega), ego]; exact r.go
    · rw [e12, eN _ _ (by omega) (by omega) (by omega) (by omega) (by omega)]; exact r.v
  · rw [eN _ _ (by omega) (by omega) (by omega) (by omega) (by omega)]; exact h.ld
  · intro q s hs hs8
    rw [eN _ _ (by omega) (by omega) (by omega) (by omega) (by omega), eN _ _ (by omega) (by omega) (by omega) (by omega) (by omega), eN _ _ (by omega) (by omega) (by omega) (by omega) (by omega), eN _ _ (by omega) (by omega) (by omega) (by omega) (by omega), eN _ _ (by omega) (by omega) (by omega) (by omega) (by omega)]
    exact h.zs q s hs hs8
  · intro k hk a a1 a2; rw [eN _ _ (by omega) (by omega) (by omega) (by omega) (by omega)]; exact h.zi k hk a a1 a2
theorem i_cNlt {x : Int32} {c : Nat} (h : cB x c) (hc : c < 2 ^ 31) : x.toInt = cN x := by
  obtain ⟨a, b⟩ := cB_le h hc
  have e : x.toInt = (nI (cN x)).toInt := congrArg Int32.toInt a
  rw [e]; exact i_N (by omega)
theorem cB_s {x : Int32} {c : Nat} (h : cB x c) (hc : c < 2 ^ 30) (hl : cN x < c) : cB (x + 1) c ∧ cN (x + 1) = cN x + 1 := by
  obtain ⟨a, b⟩ := cB_le h (by omega)
  have e : x + 1 = nI (cN x + 1) := by
    have := nI_ad (cN x) 1
    rw [← a] at this; exact this
  rw [e]; exact ⟨⟨_, hl, rfl⟩, cN_nI (by omega)⟩
theorem RR_turn {M : w_M} {B : Nat} {N : w_M} {Y n ic t : Nat} {p r g f : Int32} (h : RR M B N Y n ic t) (hc : cN (iv N Y 3) < 6) (p0 : 2 ≤ p.toInt) (p1 : p.toInt ≤ 60) (r0 : 1 ≤ r.toInt) (r1 : r.toInt < p.toInt) (g0 : 0 ≤ g.toInt) (g1 : g.toInt ≤ 50) (f0 : 0 ≤ f.toInt) (f1 : f.toInt ≤ 59) : RR (m_addT M (B + 1) p r g f) B (gE_turn N Y (cN (iv N Y 3)) p r g f) Y n ic t := by
  have ht := h.rt; have hg := h.gt
  obtain ⟨cs1, cs2⟩ := cB_s hg.tc (by decide) hc
  have eT : m_addT M (B + 1) p r g f = wi (wi (wi (wi (wi M (B + 20 + cN (iv N Y 3)) 0 p) (B + 20 + cN (iv N Y 3)) 1 r) (B + 20 + cN (iv N Y 3)) 2 g) (B + 20 + cN (iv N Y 3)) 3 f) (B + 1) 3 (iv N Y 3 + 1) := by
    unfold m_addT; rw [ht.tc, if_pos hc, show B + 1 + 19 + cN (iv N Y 3) = B + 20 + cN (iv N Y 3) by omega]
  have eG : gE_turn N Y (cN (iv N Y 3)) p r g f = wi (wi (wi (wi (wi N (Y + 4) (4 * cN (iv N Y 3)) p) (Y + 4) (4 * cN (iv N Y 3) + 1) r) (Y + 4) (4 * cN (iv N Y 3) + 2) g) (Y + 4) (4 * cN (iv N Y 3) + 3) f) Y 3 (iv N Y 3 + 1) := by
    unfold gE_turn g_a; simp (disch := omega) only [iv_n]
  rw [eT, eG]
  generalize hcc : cN (iv N Y 3) = c at *
  have s3 : ∀ (N1 : w_M), cN (iv (wi N1 Y 3 (iv N Y 3 + 1)) Y 3) = c + 1 := fun N1 => by rw [iv_s]; exact cs2
  refine h.sea (fun a a1 a2 a3 a4 j => ?_) (fun j => rfl) (fun a j a1 a2 a3 a4 a5 => ?_) (fun j => rfl) ⟨?_, ?_, ?_, ?_, ?_⟩ ⟨?_, ?_, ?_, ?_, ?_, ?_, ?_, ?_, ?_⟩
  · simp (disch := omega) only [iv_n]
  · simp (disch := omega) only [iv_n]
  · simp (disch := omega) only [iv_n]; exact ht.me
  · rw [iv_s, iv_s]
  · simp (disch := omega) only [iv_n]; exact ht.sc
  · rw [s3]; intro i hi j hj
    by_cases q : i = c
    · subst q
      rcases (by omega : j = 0 ∨ j = 1 ∨ j = 2 ∨ j = 3) with rfl | rfl | rfl | rfl <;> simp (disch := omega) only [iv_s, iv_n, Nat.add_zero]
    · simp (disch := omega) only [iv_n]; exact ht.tu i (by omega) j hj
  · simp (disch := omega) only [iv_n]; exact ht.su
  · rw [iv_s]; exact cs1
  · simp (disch := omega) only [iv_n]; exact hg.sc
  · simp (disch := omega) only [iv_n]; exact hg.m0
  · simp (disch := omega) only [iv_n]; exact hg.m1
  · rw [s3]; intro i hi
    by_cases q : i = c
    · subst q; simp (disch := omega) only [iv_s, iv_n]; exact ⟨p0, p1⟩
    · simp (disch := omega) only [iv_n]; exact hg.p i (by omega)
  · rw [s3]; intro i hi
    by_cases q : i = c
    · subst q; simp (disch := omega) only [iv_s, iv_n]; exact ⟨r0, r1⟩
    · simp (disch := omega) only [iv_n]; exact hg.r i (by omega)
  · rw [s3]; intro i hi
    by_cases q : i = c
    · subst q; simp (disch := omega) only [iv_s, iv_n]; exact ⟨g0, g1⟩
    · simp (disch := omega) only [iv_n]; exact hg.g i (by omega)
  · rw [s3]; intro i hi
    by_cases q : i = c
    · subst q; simp (disch := omega) only [iv_s, iv_n]; exact ⟨f0, f1⟩
    · simp (disch := omega) only [iv_n]; exact hg.f i (by omega)
  · simp (disch := omega) only [iv_n]; exact hg.h
theorem RR_mean {M : w_M} {B : Nat} {N : w_M} {Y n ic t : Nat} {v : Int32} (h : RR M B N Y n ic t) (v0 : 0 ≤ v.toInt) (v1 : v.toInt ≤ 100) : RR (wi M (B + 1) 5 v) B (wi N Y 2 v) Y n ic t := by
  have ht := h.rt; have hg := h.gt
  refine h.sea (fun a a1 a2 a3 a4 j => ?_) (fun j => rfl) (fun a j a1 a2 a3 a4 a5 => ?_) (fun j => rfl) ⟨?_, ?_, ?_, ?_, ?_⟩ ⟨?_, ?_, ?_, ?_, ?_, ?_, ?_, ?_, ?_⟩
  · simp (disch := omega) only [iv_n]
  · simp (disch := omega) only [iv_n]
  · rw [iv_s, iv_s]
  · simp (disch := omega) only [iv_n]; exact ht.tc
  · simp (disch := omega) only [iv_n]; exact ht.sc
  · simp (disch := omega) only [iv_n]; exact ht.tu
  · simp (disch := omega) only [iv_n]; exact ht.su
  · simp (disch := omega) only [iv_n]; exact hg.tc
  · simp (disch := omega) only [iv_n]; exact hg.sc
  · rw [iv_s]; exact v0
  · rw [iv_s]; exact v1
  · simp (disch := omega) only [iv_n]; exact hg.p
  · simp (disch := omega) only [iv_n]; exact hg.r
  · simp (disch := omega) only [iv_n]; exact hg.g
  · simp (disch := omega) only [iv_n]; exact hg.f
  · simp (disch := omega) only [iv_n]; exact hg.h
theorem RR_surge {M : w_M} {B : Nat} {N : w_M} {Y n ic t : Nat} {p r x : Int32} (h : RR M B N Y n ic t) (hc : cN (iv N Y 5) < 20) (x0 : -50 ≤ x.toInt) (x1 : x.toInt ≤ 100) : RR (m_addS M (B + 1) p r x) B (gE_surge N Y (cN (iv N Y 5)) p r x) Y n ic t := by
  have ht := h.rt; have hg := h.gt
  have t6 := (cB_le hg.tc (by decide)).2
  obtain ⟨cs1, cs2⟩ := cB_s hg.sc (by decide) hc
  have eT : m_addS M (B + 1) p r x = wi (wi (wi (wi M (B + 30 + cN (iv N Y 5)) 0 p) (B + 30 + cN (iv N Y 5)) 1 r) (B + 30 + cN (iv N Y 5)) 2 x) (B + 1) 4 (iv N Y 5 + 1) := by
    unfold m_addS; rw [ht.sc, if_pos hc, show B + 1 + 29 + cN (iv N Y 5) = B + 30 + cN (iv N Y 5) by omega]
  have eG : gE_surge N Y (cN (iv N Y 5)) p r x = wi (wi (wi (wi N (Y + 6) (3 * cN (iv N Y 5)) p) (Y + 6) (3 * cN (iv N Y 5) + 1) r) (Y + 6) (3 * cN (iv N Y 5) + 2) x) Y 5 (iv N Y 5 + 1) := by
    unfold gE_surge g_a; simp (disch := omega) only [iv_n]
  rw [eT, eG]
  generalize hcc : cN (iv N Y 5) = c at *
  have s3 : ∀ (N1 : w_M), cN (iv (wi N1 Y 5 (iv N Y 5 + 1)) Y 5) = c + 1 := fun N1 => by rw [iv_s]; exact cs2
  refine h.sea (fun a a1 a2 a3 a4 j => ?_) (fun j => rfl) (fun a j a1 a2 a3 a4 a5 => ?_) (fun j => rfl) ⟨?_, ?_, ?_, ?_, ?_⟩ ⟨?_, ?_, ?_, ?_, ?_, ?_, ?_, ?_, ?_⟩
  · simp (disch := omega) only [iv_n]
  · simp (disch := omega) only [iv_n]
  · simp (disch := omega) only [iv_n]; exact ht.me
  · simp (disch := omega) only [iv_n]; exact ht.tc
  · rw [iv_s, iv_s]
  · rw [iv_n (b := Y) (by omega), iv_n (b := Y) (by omega), iv_n (b := Y) (by omega), iv_n (b := Y) (by omega)]; intro i hi j hj
    simp (disch := omega) only [iv_n]; exact ht.tu i hi j hj
  · rw [s3]; intro i hi j hj
    by_cases q : i = c
    · subst q
      rcases (by omega : j = 0 ∨ j = 1 ∨ j = 2) with rfl | rfl | rfl <;> simp (disch := omega) only [iv_s, iv_n, Nat.add_zero]
    · simp (disch := omega) only [iv_n]; exact ht.su i (by omega) j hj
  · simp (disch := omega) only [iv_n]; exact hg.tc
  · rw [iv_s]; exact cs1
  · simp (disch := omega) only [iv_n]; exact hg.m0
  · simp (disch := omega) only [iv_n]; exact hg.m1
  · simp (disch := omega) only [iv_n]; exact hg.p
  · simp (disch := omega) only [iv_n]; exact hg.r
  · simp (disch := omega) only [iv_n]; exact hg.g
  · simp (disch := omega) only [iv_n]; exact hg.f
  · rw [s3]; intro i hi
    by_cases q : i = c
    · subst q; simp (disch := omega) only [iv_s, iv_n]; exact ⟨x0, x1⟩
    · simp (disch := omega) only [iv_n]; exact hg.h i (by omega)
