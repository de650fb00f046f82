/-! what is kept when something is told -/
theorem Z_up {t c : Nat} : (2 : Int) ^ 34 * ((t : Int) + c) ≤ 2 ^ 34 * ((t : Int) + (c + 1 : Nat)) := by push_cast; omega
theorem KN.same {N N' : w_M} {Y n ic t c : Nat} {W0 M0 : Int} (h : KN N Y n ic t c W0 M0) (e : ∀ a j, 17 ≤ a → a ≤ 35 → iv N' (Y + a) j = iv N (Y + a) j) (e6 : ∀ j, iv N' (Y + 6) j = iv N (Y + 6) j) (e5 : iv N' Y 5 = iv N Y 5) (ej : ∀ j, jv N' (Y + 40) j = jv N (Y + 40) j) : KN N' Y n ic t (c + 1) W0 M0 := by
  have us' : ∀ j, us N' Y t j = us N Y t j := fun j => by unfold us; rw [e6, e6]
  refine ⟨(h.a.same (fun i => e 22 i (by omega) (by omega)) (fun i => e 23 i (by omega) (by omega)) (fun i => e 18 i (by omega) (by omega)) (fun i => e 19 i (by omega) (by omega)) (fun i => e 32 i (by omega) (by omega)) ej).up Z_up, ?_, fun k hk => (h.i k hk).same (fun a a1 a2 => e a k (by omega) a2), fun j hj => ?_, fun s hs τ hτ => ?_, fun s hs => ?_⟩
  · have := h.w
    rw [e5, sm_eq (fun j _ => us' j)]
    unfold qW at *
    rw [sm_eq (fun i _ => by show (iv N' (Y + 22) i).toInt + (iv N' (Y + 22) (8 + i)).toInt = _; rw [e 22 i (by omega) (by omega), e 22 (8 + i) (by omega) (by omega)])]
    exact this
  · rw [e5] at hj; rw [e6, e6]; exact h.u j hj
  · rw [e 24 _ (by omega) (by omega)]; exact h.ta s hs τ hτ
  · rw [e 21 _ (by omega) (by omega)]; exact h.p s hs
theorem KN_turn {N : w_M} {Y n ic t c i : Nat} {W0 M0 : Int} {p r g f : Int32} (h : KN N Y n ic t c W0 M0) : KN (gE_turn N Y i p r g f) Y n ic t (c + 1) W0 M0 := by
  unfold gE_turn g_a
  exact h.same (fun a j a1 a2 => by simp (disch := omega) only [iv_n]) (fun j => by simp (disch := omega) only [iv_n]) (by simp (disch := omega) only [iv_n]) (fun j => rfl)
theorem KN_mean {N : w_M} {Y n ic t c : Nat} {W0 M0 : Int} {v : Int32} (h : KN N Y n ic t c W0 M0) : KN (wi N Y 2 v) Y n ic t (c + 1) W0 M0 :=
  h.same (fun a j a1 a2 => by simp (disch := omega) only [iv_n]) (fun j => by simp (disch := omega) only [iv_n]) (by simp (disch := omega) only [iv_n]) (fun j => rfl)
theorem KN_two {N : w_M} {Y n ic t c i j9 : Nat} {W0 M0 : Int} {v w : Int32} (h : KN N Y n ic t c W0 M0) (hi : i ≠ 5) (hj : j9 ≠ 5) : KN (wi (wi N Y i v) Y j9 w) Y n ic t (c + 1) W0 M0 :=
  h.same (fun a j a1 a2 => by simp (disch := omega) only [iv_n]) (fun j => by simp (disch := omega) only [iv_n]) (by simp (disch := omega) only [iv_n]) (fun j => rfl)
theorem KN_surge {N : w_M} {Y n ic t c : Nat} {W0 M0 : Int} {p r x : Int32} (h : KN N Y n ic t c W0 M0) (hs : cB (iv N Y 5) 20) (hl : cN (iv N Y 5) < 20) (h0 : (t : Int) ≤ p.toInt) (h1 : p.toInt ≤ r.toInt) (h2 : r.toInt ≤ p.toInt + 19) : KN (gE_surge N Y (cN (iv N Y 5)) p r x) Y n ic t (c + 1) W0 M0 := by
  obtain ⟨cb1, cb2⟩ := cB_s hs (by decide) hl
  have e : ∀ a j, 17 ≤ a → a ≤ 35 → iv (gE_surge N Y (cN (iv N Y 5)) p r x) (Y + a) j = iv N (Y + a) j := fun a j a1 a2 => by unfold gE_surge g_a; simp (disch := omega) only [iv_n]
  have ej : ∀ j, jv (gE_surge N Y (cN (iv N Y 5)) p r x) (Y + 40) j = jv N (Y + 40) j := fun j => rfl
  have e5 : iv (gE_surge N Y (cN (iv N Y 5)) p r x) Y 5 = iv N Y 5 + 1 := by unfold gE_surge g_a; simp (disch := omega) only [iv_s, iv_n]
  generalize hcs : cN (iv N Y 5) = sc at *
  have w0 : iv (gE_surge N Y sc p r x) (Y + 6) (3 * sc) = p := by unfold gE_surge g_a; simp (disch := omega) only [iv_s, iv_n]
  have w1 : iv (gE_surge N Y sc p r x) (Y + 6) (3 * sc + 1) = r := by unfold gE_surge g_a; simp (disch := omega) only [iv_s, iv_n]
  have o : ∀ j, j < 3 * sc → iv (gE_surge N Y sc p r x) (Y + 6) j = iv N (Y + 6) j := fun j hj => by unfold gE_surge g_a; simp (disch := omega) only [iv_n]
  generalize gE_surge N Y sc p r x = N' at *
  have c1 : cN (iv N' Y 5) = sc + 1 := by rw [e5]; exact cb2
  refine ⟨(h.a.same (fun i => e 22 i (by omega) (by omega)) (fun i => e 23 i (by omega) (by omega)) (fun i => e 18 i (by omega) (by omega)) (fun i => e 19 i (by omega) (by omega)) (fun i => e 32 i (by omega) (by omega)) ej).up Z_up, ?_, fun k hk => (h.i k hk).same (fun a a1 a2 => e a k (by omega) a2), fun j hj => ?_, fun s hs τ hτ => ?_, fun s hs => ?_⟩
  · have := h.w
    rw [hcs] at this
    rw [c1, sm, sm_eq (f := us N Y t) (fun j hj => by unfold us; rw [o _ (by omega), o _ (by omega)])]
    have u0 : us N' Y t sc = 0 := by unfold us; rw [w0, w1]; omega
    rw [u0]
    unfold qW at *
    rw [sm_eq (fun i _ => by show (iv N' (Y + 22) i).toInt + (iv N' (Y + 22) (8 + i)).toInt = _; rw [e 22 i (by omega) (by omega), e 22 (8 + i) (by omega) (by omega)])]
    omega
  · rw [c1] at hj
    by_cases q : j = sc
    · subst q; rw [w0, w1]; omega
    · rw [o _ (by omega), o _ (by omega)]; exact h.u j (by rw [hcs]; omega)
  · rw [e 24 _ (by omega) (by omega)]; exact h.ta s hs τ hτ
  · rw [e 21 _ (by omega) (by omega)]; exact h.p s hs
theorem KN_sec {N : w_M} {Y n ic c : Nat} {W0 M0 : Int} {ar up low mud : Int32} (h : KN N Y n ic 0 c W0 M0) (z : ∀ s, n ≤ s → s < 8 → iv N (Y + 19) s = 0 ∧ iv N (Y + 20) s = 0 ∧ iv N (Y + 21) s = 0 ∧ iv N (Y + 23) s = 0 ∧ iv N (Y + 23) (8 + s) = 0) (hn : n < 8) (u0 : 0 ≤ up.toInt) (l0 : 0 ≤ low.toInt) (m0 : 0 ≤ mud.toInt) (ul : up.toInt + low.toInt ≤ 6000) : KN (gE_sec N Y n ar up low mud) Y (n + 1) ic 0 (c + 1) (W0 + (up.toInt + low.toInt)) (M0 + mud.toInt) := by
  obtain ⟨z19, z20, z21, z23, z23l⟩ := z n (Nat.le_refl _) hn
  have o : ∀ a j, (a ≠ Y + 17 ∨ j ≠ n) → (a ≠ Y + 22 ∨ (j ≠ n ∧ j ≠ 8 + n)) → (a ≠ Y + 18 ∨ j ≠ n) → (a ≠ Y ∨ j ≠ 16) → iv (gE_sec N Y n ar up low mud) a j = iv N a j := fun a j q1 q2 q3 q4 => by unfold gE_sec g_a; simp (disch := omega) only [iv_n]
  have w0 : iv (gE_sec N Y n ar up low mud) (Y + 22) n = up := by unfold gE_sec g_a; simp (disch := omega) only [iv_s, iv_n]
  have w1 : iv (gE_sec N Y n ar up low mud) (Y + 22) (8 + n) = low := by unfold gE_sec g_a; simp (disch := omega) only [iv_s, iv_n]
  have w2 : iv (gE_sec N Y n ar up low mud) (Y + 18) n = mud := by unfold gE_sec g_a; simp (disch := omega) only [iv_s, iv_n]
  have ej : ∀ i, qj (gE_sec N Y n ar up low mud) Y i = qj N Y i := fun i => rfl
  obtain ⟨hS, h1, h2, h3, h4, h5, h6⟩ := h.a
  have hw := h.w
  generalize gE_sec N Y n ar up low mud = N' at *
  have jW : qW N' Y (n + 1) = qW N Y n + (up.toInt + low.toInt) := by
    unfold qW; rw [sm, w0, w1, sm_eq (f := fun s => (iv N (Y + 22) s).toInt + (iv N (Y + 22) (8 + s)).toInt) (fun i hi => by rw [o _ _ (by omega) (by omega) (by omega) (by omega), o _ _ (by omega) (by omega) (by omega) (by omega)])]
  have jS : qS N' Y (n + 1) = qS N Y n := by
    unfold qS; rw [sm, o _ _ (by omega) (by omega) (by omega) (by omega), o (Y + 23) (8 + n) (by omega) (by omega) (by omega) (by omega), z23, z23l, i_0, sm_eq (f := fun s => (iv N (Y + 23) s).toInt + (iv N (Y + 23) (8 + s)).toInt) (fun i hi => by rw [o _ _ (by omega) (by omega) (by omega) (by omega), o _ _ (by omega) (by omega) (by omega) (by omega)])]
    omega
  have jM : qM N' Y (n + 1) = qM N Y n + mud.toInt := by
    unfold qM; rw [sm, w2, o (Y + 19) _ (by omega) (by omega) (by omega) (by omega), z19, i_0, sm_eq (f := fun s => (iv N (Y + 18) s).toInt + (iv N (Y + 19) s).toInt) (fun i hi => by rw [o _ _ (by omega) (by omega) (by omega) (by omega), o _ _ (by omega) (by omega) (by omega) (by omega)])]
    omega
  have jT : qT N' Y ic = qT N Y ic := by unfold qT; exact sm_eq (fun i hi => by rw [o _ _ (by omega) (by omega) (by omega) (by omega)])
  have e6 : ∀ j, iv N' (Y + 6) j = iv N (Y + 6) j := fun j => o _ _ (by omega) (by omega) (by omega) (by omega)
  have e5 : iv N' Y 5 = iv N Y 5 := o _ _ (by omega) (by omega) (by omega) (by omega)
  refine ⟨kA.up (Z := 2 ^ 34 * (((0 : Nat) : Int) + c)) ⟨fun i hi => ?_, by rw [jW, ej, ej, ej, ej]; omega, by rw [jS, ej, ej, ej]; exact h2, by rw [jM, ej, ej, ej]; omega, by rw [ej, ej]; exact h4, by rw [jT, ej]; exact h5, fun i hi => by rw [ej]; exact h6 i hi⟩ Z_up, ?_, fun k hk => (h.i k hk).same (fun a a1 a2 => o _ _ (by omega) (by omega) (by omega) (by omega)), fun j hj => ?_, fun s hs τ hτ => absurd hτ (by omega), fun s hs => ?_⟩
  · by_cases q : i = n
    · subst q; rw [o (Y + 23) _ (by omega) (by omega) (by omega) (by omega), w0, z23, i_0]; omega
    · by_cases q2 : i = 8 + n
      · subst q2; rw [o (Y + 23) _ (by omega) (by omega) (by omega) (by omega), w1, z23l, i_0]; omega
      · rw [o _ _ (by omega) (by omega) (by omega) (by omega), o _ _ (by omega) (by omega) (by omega) (by omega)]
        exact hS i (by unfold ly at *; omega)
  · rw [e5, sm_eq (f := us N Y 0) (fun j _ => by unfold us; rw [e6, e6]), jW]; push_cast; omega
  · rw [e5] at hj; rw [e6, e6]; exact h.u j hj
  · rw [o _ _ (by omega) (by omega) (by omega) (by omega)]
    by_cases q : s = n
    · subst q; rw [z21, i_0]; omega
    · exact h.p s (by omega)
theorem KN_int {N : w_M} {Y n ic t c : Nat} {W0 M0 : Int} {v ra gr ro use : Int32} (h : KN N Y n ic t c W0 M0) (z : ∀ k, ic ≤ k → ∀ a, 31 ≤ a → a ≤ 35 → iv N (Y + a) k = 0) (r1 : ra.toInt ≤ 500) (u1 : use.toInt ≤ 500) : KN (gE_int N Y ic v ra gr ro use) Y n (ic + 1) t (c + 1) W0 M0 := by
  have o : ∀ a j, (a < Y + 26 ∨ Y + 30 < a ∨ j ≠ ic) → (a ≠ Y ∨ j ≠ 25) → iv (gE_int N Y ic v ra gr ro use) a j = iv N a j := fun a j q1 q2 => by unfold gE_int g_a; simp (disch := omega) only [iv_n]
  have w27 : iv (gE_int N Y ic v ra gr ro use) (Y + 27) ic = ra := by unfold gE_int g_a; simp (disch := omega) only [iv_s, iv_n]
  have w30 : iv (gE_int N Y ic v ra gr ro use) (Y + 30) ic = use := by unfold gE_int g_a; simp (disch := omega) only [iv_s, iv_n]
  have ej : ∀ i, qj (gE_int N Y ic v ra gr ro use) Y i = qj N Y i := fun i => rfl
  obtain ⟨hS, h1, h2, h3, h4, h5, h6⟩ := h.a
  have hw := h.w
  generalize gE_int N Y ic v ra gr ro use = N' at *
  have jW : qW N' Y n = qW N Y n := by unfold qW; exact sm_eq (fun i hi => by rw [o _ _ (by omega) (by omega), o _ _ (by omega) (by omega)])
  have jS : qS N' Y n = qS N Y n := by unfold qS; exact sm_eq (fun i hi => by rw [o _ _ (by omega) (by omega), o _ _ (by omega) (by omega)])
  have jM : qM N' Y n = qM N Y n := by unfold qM; exact sm_eq (fun i hi => by rw [o _ _ (by omega) (by omega), o _ _ (by omega) (by omega)])
  have jT : qT N' Y (ic + 1) = qT N Y ic := by
    unfold qT; rw [sm, o _ _ (by omega) (by omega), z ic (Nat.le_refl _) 32 (by omega) (by omega), i_0, sm_eq (f := fun k => (iv N (Y + 32) k).toInt) (fun i hi => by rw [o _ _ (by omega) (by omega)])]
    omega
  have e6 : ∀ j, iv N' (Y + 6) j = iv N (Y + 6) j := fun j => o _ _ (by omega) (by omega)
  have e5 : iv N' Y 5 = iv N Y 5 := o _ _ (by omega) (by omega)
  refine ⟨kA.up (Z := 2 ^ 34 * ((t : Int) + c)) ⟨fun i hi => ?_, by rw [jW, ej, ej, ej, ej]; exact h1, by rw [jS, ej, ej, ej]; exact h2, by rw [jM, ej, ej, ej]; exact h3, by rw [ej, ej]; exact h4, by rw [jT, ej]; exact h5, fun i hi => by rw [ej]; exact h6 i hi⟩ Z_up, ?_, fun k hk => ?_, fun j hj => ?_, fun s hs τ hτ => ?_, fun s hs => ?_⟩
  · rw [o _ _ (by omega) (by omega), o _ _ (by omega) (by omega)]; exact hS i hi
  · rw [e5, sm_eq (f := us N Y t) (fun j _ => by unfold us; rw [e6, e6]), jW]; exact hw
  · by_cases q : k = ic
    · subst q
      unfold kI
      rw [w27, w30, o (Y + 32) _ (by omega) (by omega), o (Y + 33) _ (by omega) (by omega), o (Y + 34) _ (by omega) (by omega), o (Y + 35) _ (by omega) (by omega), z k (Nat.le_refl _) 32 (by omega) (by omega), z k (Nat.le_refl _) 33 (by omega) (by omega), z k (Nat.le_refl _) 34 (by omega) (by omega), z k (Nat.le_refl _) 35 (by omega) (by omega), i_0]
      exact ⟨r1, u1, by omega, by omega, by omega, by omega, Or.inl rfl, by omega, by omega⟩
    · exact (h.i k (by omega)).same (fun a a1 a2 => o _ _ (by omega) (by omega))
  · rw [e5] at hj; rw [e6, e6]; exact h.u j hj
  · rw [o _ _ (by omega) (by omega)]; exact h.ta s hs τ hτ
  · rw [o _ _ (by omega) (by omega)]; exact h.p s hs
theorem KN_per {N : w_M} {Y n ic t c s : Nat} {W0 M0 : Int} {a : Int32} (h : KN N Y n ic t c W0 M0) (a0 : 0 ≤ a.toInt) (a1 : a.toInt ≤ 10000) : KN (wi N (Y + 21) s a) Y n ic t (c + 1) W0 M0 := by
  have o : ∀ q j, q ≠ Y + 21 → iv (wi N (Y + 21) s a) q j = iv N q j := fun q j z => iv_n (by omega)
  refine ⟨(h.a.same (fun i => o _ _ (by omega)) (fun i => o _ _ (by omega)) (fun i => o _ _ (by omega)) (fun i => o _ _ (by omega)) (fun i => o _ _ (by omega)) (fun i => rfl)).up Z_up, ?_, fun k hk => (h.i k hk).same (fun a a1 a2 => o _ _ (by omega)), fun j hj => ?_, fun s hs τ hτ => ?_, fun s9 hs => ?_⟩
  · have := h.w
    rw [o _ _ (by omega), sm_eq (f := us N Y t) (fun j _ => by unfold us; rw [o _ _ (by omega), o _ _ (by omega)]), show qW (wi N (Y + 21) s a) Y n = qW N Y n from sm_eq (fun i hi => by rw [o _ _ (by omega), o _ _ (by omega)])]
    exact this
  · rw [o _ _ (by omega)] at hj; rw [o _ _ (by omega), o _ _ (by omega)]; exact h.u j hj
  · rw [o _ _ (by omega)]; exact h.ta s hs τ hτ
  · by_cases q : s9 = s
    · subst q; rw [iv_s]; exact ⟨a0, a1⟩
    · rw [iv_n (by omega)]; exact h.p s9 hs
/-- dredged: less mud, a smaller permit; to the sea, or into a cloud -/
theorem KN_dre {N N' : w_M} {Y n ic t c s : Nat} {W0 M0 C W : Int} {a : Int32} (h : KN N Y n ic t c W0 M0) (b : gB N Y n W C) (hC : C < 2 ^ 28) (hs : s < n) (a0 : 0 ≤ a.toInt) (a1 : a.toInt ≤ (iv N (Y + 18) s).toInt) (a2 : a.toInt ≤ (iv N (Y + 21) s).toInt) (hZ : t ≤ 1000 ∧ c ≤ 512)
    (w21 : iv N' (Y + 21) s = iv N (Y + 21) s - a) (w18 : iv N' (Y + 18) s = iv N (Y + 18) s - a) (o : ∀ q j, (q ≠ Y + 21 ∨ j ≠ s) → (q ≠ Y + 18 ∨ j ≠ s) → q ≠ Y + 19 → iv N' q j = iv N q j)
    (to : (∀ j, iv N' (Y + 19) j = iv N (Y + 19) j) ∧ (∀ i, qj N' Y i = qj N Y i + (if i = 9 then a.toInt else 0)) ∨ (∃ k, k < n ∧ k ≠ s ∧ iv N' (Y + 19) k = iv N (Y + 19) k + a ∧ ∀ j, j ≠ k → iv N' (Y + 19) j = iv N (Y + 19) j) ∧ ∀ i, qj N' Y i = qj N Y i) : KN N' Y n ic t (c + 1) W0 M0 := by
  obtain ⟨hS, h1, h2, h3, h4, h5, h6⟩ := h.a
  have hw := h.w
  have hp := h.p s hs
  have m0 := b.mu s hs
  have mr := i_rg (iv N (Y + 18) s)
  have e1 : (iv N (Y + 21) s - a).toInt = (iv N (Y + 21) s).toInt - a.toInt := i_sub (by omega) (by omega)
  have e2 : (iv N (Y + 18) s - a).toInt = (iv N (Y + 18) s).toInt - a.toInt := i_sub (by omega) (by omega)
  have jW : qW N' Y n = qW N Y n := by unfold qW; exact sm_eq (fun i hi => by rw [o _ _ (by omega) (by omega) (by omega), o _ _ (by omega) (by omega) (by omega)])
  have jS : qS N' Y n = qS N Y n := by unfold qS; exact sm_eq (fun i hi => by rw [o _ _ (by omega) (by omega) (by omega), o _ _ (by omega) (by omega) (by omega)])
  have jT : qT N' Y ic = qT N Y ic := by unfold qT; exact sm_eq (fun i hi => by rw [o _ _ (by omega) (by omega) (by omega)])
  have ht := hZ.1
  have hc := hZ.2
  have kA' : kA N' Y n ic W0 M0 (2 ^ 34 * ((t : Int) + c) + 10000) := by
    rcases to with ⟨ec, ej⟩ | ⟨⟨k, hk, hks, ek, ec⟩, ej⟩
    · have jM : qM N' Y n = qM N Y n - a.toInt := by
        have e := sm_1 (f := fun s => (iv N (Y + 18) s).toInt + (iv N (Y + 19) s).toInt) (g := fun s => (iv N' (Y + 18) s).toInt + (iv N' (Y + 19) s).toInt) hs (fun i hi q => by
          show (iv N' (Y + 18) i).toInt + (iv N' (Y + 19) i).toInt = _
          rw [o _ _ (by omega) (by omega) (by omega), ec])
        rw [w18, e2, ec] at e
        unfold qM; omega
      have r : ∀ i, i ≠ 9 → qj N' Y i = qj N Y i := fun i q => by rw [ej, if_neg q]; omega
      have r9 : qj N' Y 9 = qj N Y 9 + a.toInt := by rw [ej, if_pos rfl]
      refine ⟨fun i hi => by rw [o _ _ (by omega) (by omega) (by omega), o _ _ (by omega) (by omega) (by omega)]; exact hS i hi, by rw [jW, r 0 (by omega), r 1 (by omega), r 2 (by omega), r 3 (by omega)]; exact h1, by rw [jS, r 4 (by omega), r 5 (by omega), r 6 (by omega)]; exact h2, by rw [jM, r9, r 7 (by omega), r 8 (by omega)]; omega, by rw [r 0 (by omega), r 4 (by omega)]; exact h4, by rw [jT, r 3 (by omega)]; exact h5, fun i hi => ?_⟩
      have z := h6 i hi
      by_cases q : i = 9
      · subst q; rw [r9]; omega
      · rw [r i q]; omega
    · have c2 := b.c2 hs hk (Ne.symm hks); have c3 := b.cl s hs; have c4 := b.cl k hk; have c5 := b.mu k hk
      have e3 : (iv N (Y + 19) k + a).toInt = (iv N (Y + 19) k).toInt + a.toInt := i_add (by omega) (by omega)
      have jM : qM N' Y n = qM N Y n := by
        have e := sm_2 (f := fun s => (iv N (Y + 18) s).toInt + (iv N (Y + 19) s).toInt) (g := fun s => (iv N' (Y + 18) s).toInt + (iv N' (Y + 19) s).toInt) hs hk (Ne.symm hks) (fun i hi q q2 => by
          show (iv N' (Y + 18) i).toInt + (iv N' (Y + 19) i).toInt = _
          rw [o _ _ (by omega) (by omega) (by omega), ec i q2])
        rw [w18, e2, ec s (Ne.symm hks), ek, e3, o (Y + 18) k (by omega) (by omega) (by omega)] at e
        unfold qM; omega
      exact ⟨fun i hi => by rw [o _ _ (by omega) (by omega) (by omega), o _ _ (by omega) (by omega) (by omega)]; exact hS i hi, by rw [jW, ej, ej, ej, ej]; exact h1, by rw [jS, ej, ej, ej]; exact h2, by rw [jM, ej, ej, ej]; exact h3, by rw [ej, ej]; exact h4, by rw [jT, ej]; exact h5, fun i hi => by have := h6 i hi; rw [ej]; omega⟩
  refine ⟨kA'.up (by push_cast; omega), ?_, fun k hk => (h.i k hk).same (fun a a1 a2 => o _ _ (by omega) (by omega) (by omega)), fun j hj => ?_, fun s hs τ hτ => ?_, fun s9 hs => ?_⟩
  · rw [o Y _ (by omega) (by omega) (by omega), sm_eq (f := us N Y t) (fun j _ => by unfold us; rw [o _ _ (by omega) (by omega) (by omega), o _ _ (by omega) (by omega) (by omega)]), jW]
    exact hw
  · rw [o _ _ (by omega) (by omega) (by omega)] at hj; rw [o _ _ (by omega) (by omega) (by omega), o _ _ (by omega) (by omega) (by omega)]; exact h.u j hj
  · rw [o _ _ (by omega) (by omega) (by omega)]; exact h.ta s hs τ hτ
  · by_cases q : s9 = s
    · subst q; rw [w21, e1]; omega
    · rw [o _ _ (by omega) (by omega) (by omega)]; exact h.p s9 hs
