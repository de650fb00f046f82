/-! the invariant behind each step -/
theorem wi_id {M : w_M} {a j : Nat} {x : Int32} (h : iv M a j = x) : wi M a j x = M := by
  refine w_ext (fun b k => ?_) (fun b k => rfl)
  rw [iv_wi]; split
  · rename_i q; rw [q.1, q.2, h]
  · rfl
theorem as_sub (x y z : Int32) : x + (y - z) = x + y - z := by rw [Int32.sub_eq_add_neg, Int32.sub_eq_add_neg, Int32.add_assoc]
def JE (X Y O k : Nat) (M : w_M) : Prop := ∃ (N : w_M) (n ic τ c oc tc sc w0 m0 q cc : Nat), JJ X Y O M N n ic τ c oc tc sc w0 m0 q cc ∧ c ≤ 2 * k ∧ q ≤ k
section JS
variable {X Y O : Nat} {M N M2 N2 : w_M} {n ic τ c oc tc sc w0 m0 q cc : Nat}
theorem jj_sec {s9 d : Nat} {x : Int32} (h : JJ X Y O M N n ic τ c oc tc sc w0 m0 q cc) (hO : X + 3000 ≤ O) (T : TT X Y M M2 N2 (n + 1) ic τ (c + 1) oc cc (w0 + s9) (m0 + d)) (o : ∀ x j, (x ≠ Y ∨ j ≠ 16) → (x ≠ Y + 17 ∨ j ≠ n) → (x ≠ Y + 18 ∨ j ≠ n) → x ≠ Y + 22 → iv N2 x j = iv N x j) (hx : x = iv N2 (Y + 17) 0) (hs : s9 ≤ 6000) (hd : d ≤ 2000) : JJ X Y O (wi (wi (wi (wi M2 O 0 (nI (n + 1))) O 6 (nI (w0 + s9))) O 7 (nI (m0 + d))) O 27 x) N2 (n + 1) ic τ (c + 1) oc tc sc (w0 + s9) (m0 + d) q cc := by
  obtain ⟨T1, T2, T3, T4⟩ := T
  have i6 := h.v.rr.i6
  have f : ∀ j, iv M2 O j = iv M O j := fun j => T4 O j (by omega)
  have hw := h.w; have hm := h.m
  refine ⟨T1.same (fun a j ha => by simp (disch := omega) only [iv_n]) (fun j => rfl), T2, T3, ⟨?_, ?_, ?_, ?_, ?_, ?_, ?_, ?_, ?_, fun k hk => ⟨?_, ?_⟩, fun hn => ?_⟩, ?_, ?_, by omega, by omega, h.t6, h.s20, ?_⟩
  · simp (disch := omega) only [iv_n, iv_s]
  · simp (disch := omega) only [iv_n, iv_s]; rw [f]; exact h.d1
  · simp (disch := omega) only [iv_n, iv_s]; rw [f]; exact h.d2
  · simp (disch := omega) only [iv_n, iv_s]; rw [f]; exact h.d3
  · simp (disch := omega) only [iv_n, iv_s]; rw [f]; exact h.d4
  · simp (disch := omega) only [iv_n, iv_s]; rw [f]; exact h.d5
  · simp (disch := omega) only [iv_n, iv_s]
  · simp (disch := omega) only [iv_n, iv_s]
  · simp (disch := omega) only [iv_n, iv_s]; rw [f]; exact h.d8
  · simp (disch := omega) only [iv_n]; rw [f, o _ _ (by omega) (by omega) (by omega) (by omega)]; exact (h.d9 k hk).1
  · simp (disch := omega) only [iv_n]; rw [f, o _ _ (by omega) (by omega) (by omega) (by omega)]; exact (h.d9 k hk).2
  · rw [iv_s]; exact hx
  · rw [o _ _ (by omega) (by omega) (by omega) (by omega)]; exact h.htc
  · rw [o _ _ (by omega) (by omega) (by omega) (by omega)]; exact h.hsc
  · rw [o _ _ (by omega) (by omega) (by omega) (by omega)]; exact h.mk
theorem jj_turn (h : JJ X Y O M N n ic τ c oc tc sc w0 m0 q cc) (hO : X + 3000 ≤ O) (t6 : tc < 6) (T : TT X Y M M2 N2 n ic τ (c + 1) oc cc w0 m0) (e3 : iv N2 Y 3 = nI (tc + 1)) (o : ∀ x j, (x ≠ Y ∨ j ≠ 3) → x ≠ Y + 4 → iv N2 x j = iv N x j) : JJ X Y O (wi M2 O 3 (nI (tc + 1))) N2 n ic τ (c + 1) oc (tc + 1) sc w0 m0 q cc := by
  obtain ⟨T1, T2, T3, T4⟩ := T
  have i6 := h.v.rr.i6
  have f : ∀ j, iv M2 O j = iv M O j := fun j => T4 O j (by omega)
  refine ⟨T1.same (fun a j ha => by simp (disch := omega) only [iv_n]) (fun j => rfl), T2, T3, ⟨?_, ?_, ?_, ?_, ?_, ?_, ?_, ?_, ?_, fun k hk => ⟨?_, ?_⟩, fun hn => ?_⟩, e3, ?_, h.w, h.m, by omega, h.s20, ?_⟩
  · simp (disch := omega) only [iv_n]; rw [f]; exact h.d0
  · simp (disch := omega) only [iv_n]; rw [f]; exact h.d1
  · simp (disch := omega) only [iv_n]; rw [f]; exact h.d2
  · rw [iv_s]
  · simp (disch := omega) only [iv_n]; rw [f]; exact h.d4
  · simp (disch := omega) only [iv_n]; rw [f]; exact h.d5
  · simp (disch := omega) only [iv_n]; rw [f]; exact h.d6
  · simp (disch := omega) only [iv_n]; rw [f]; exact h.d7
  · simp (disch := omega) only [iv_n]; rw [f]; exact h.d8
  · simp (disch := omega) only [iv_n]; rw [f, o _ _ (by omega) (by omega)]; exact (h.d9 k hk).1
  · simp (disch := omega) only [iv_n]; rw [f, o _ _ (by omega) (by omega)]; exact (h.d9 k hk).2
  · simp (disch := omega) only [iv_n]; rw [f, o _ _ (by omega) (by omega)]; exact h.d27 hn
  · rw [o _ _ (by omega) (by omega)]; exact h.hsc
  · rw [o _ _ (by omega) (by omega)]; exact h.mk
theorem jj_surge (h : JJ X Y O M N n ic τ c oc tc sc w0 m0 q cc) (hO : X + 3000 ≤ O) (s20 : sc < 20) (T : TT X Y M M2 N2 n ic τ (c + 1) oc cc w0 m0) (e5 : iv N2 Y 5 = nI (sc + 1)) (o : ∀ x j, (x ≠ Y ∨ j ≠ 5) → x ≠ Y + 6 → iv N2 x j = iv N x j) : JJ X Y O (wi M2 O 4 (nI (sc + 1))) N2 n ic τ (c + 1) oc tc (sc + 1) w0 m0 q cc := by
  obtain ⟨T1, T2, T3, T4⟩ := T
  have i6 := h.v.rr.i6
  have f : ∀ j, iv M2 O j = iv M O j := fun j => T4 O j (by omega)
  refine ⟨T1.same (fun a j ha => by simp (disch := omega) only [iv_n]) (fun j => rfl), T2, T3, ⟨?_, ?_, ?_, ?_, ?_, ?_, ?_, ?_, ?_, fun k hk => ⟨?_, ?_⟩, fun hn => ?_⟩, ?_, e5, h.w, h.m, h.t6, by omega, ?_⟩
  · simp (disch := omega) only [iv_n]; rw [f]; exact h.d0
  · simp (disch := omega) only [iv_n]; rw [f]; exact h.d1
  · simp (disch := omega) only [iv_n]; rw [f]; exact h.d2
  · simp (disch := omega) only [iv_n]; rw [f]; exact h.d3
  · rw [iv_s]
  · simp (disch := omega) only [iv_n]; rw [f]; exact h.d5
  · simp (disch := omega) only [iv_n]; rw [f]; exact h.d6
  · simp (disch := omega) only [iv_n]; rw [f]; exact h.d7
  · simp (disch := omega) only [iv_n]; rw [f]; exact h.d8
  · simp (disch := omega) only [iv_n]; rw [f, o _ _ (by omega) (by omega)]; exact (h.d9 k hk).1
  · simp (disch := omega) only [iv_n]; rw [f, o _ _ (by omega) (by omega)]; exact (h.d9 k hk).2
  · simp (disch := omega) only [iv_n]; rw [f, o _ _ (by omega) (by omega)]; exact h.d27 hn
  · rw [o _ _ (by omega) (by omega)]; exact h.htc
  · rw [o _ _ (by omega) (by omega)]; exact h.mk
theorem jj_int {ro us g : Nat} (h : JJ X Y O M N n ic τ c oc tc sc w0 m0 q cc) (hO : X + 3000 ≤ O) (hi : ic < 6) (T : TT X Y M M2 N2 n (ic + 1) τ (c + 1) oc cc w0 m0) (e29 : iv N2 (Y + 29) ic = nI ro) (e30 : iv N2 (Y + 30) ic = nI us) (o : ∀ x j, (x ≠ Y ∨ j ≠ 25) → (x < Y + 26 ∨ Y + 30 < x ∨ j ≠ ic) → iv N2 x j = iv N x j) : JJ X Y O (wi (wi (wi (wi M2 O 1 (nI (ic + 1))) O (9 + ic) (nI ro)) O (15 + ic) (nI us)) O (21 + ic) (nI g)) N2 n (ic + 1) τ (c + 1) oc tc sc w0 m0 q cc := by
  obtain ⟨T1, T2, T3, T4⟩ := T
  have f : ∀ j, iv M2 O j = iv M O j := fun j => T4 O j (by omega)
  refine ⟨T1.same (fun a j ha => by simp (disch := omega) only [iv_n]) (fun j => rfl), T2, T3, ⟨?_, ?_, ?_, ?_, ?_, ?_, ?_, ?_, ?_, fun k hk => ⟨?_, ?_⟩, fun hn => ?_⟩, ?_, ?_, h.w, h.m, h.t6, h.s20, ?_⟩
  · simp (disch := omega) only [iv_n]; rw [f]; exact h.d0
  · simp (disch := omega) only [iv_n, iv_s]
  · simp (disch := omega) only [iv_n]; rw [f]; exact h.d2
  · simp (disch := omega) only [iv_n]; rw [f]; exact h.d3
  · simp (disch := omega) only [iv_n]; rw [f]; exact h.d4
  · simp (disch := omega) only [iv_n]; rw [f]; exact h.d5
  · simp (disch := omega) only [iv_n]; rw [f]; exact h.d6
  · simp (disch := omega) only [iv_n]; rw [f]; exact h.d7
  · simp (disch := omega) only [iv_n]; rw [f]; exact h.d8
  · by_cases z : k = ic
    · subst z; simp (disch := omega) only [iv_n, iv_s]; exact e29.symm
    · simp (disch := omega) only [iv_n]; rw [f, o _ _ (by omega) (by omega)]; exact (h.d9 k (by omega)).1
  · by_cases z : k = ic
    · subst z; simp (disch := omega) only [iv_n, iv_s]; exact e30.symm
    · simp (disch := omega) only [iv_n]; rw [f, o _ _ (by omega) (by omega)]; exact (h.d9 k (by omega)).2
  · simp (disch := omega) only [iv_n]; rw [f, o _ _ (by omega) (by omega)]; exact h.d27 hn
  · rw [o _ _ (by omega) (by omega)]; exact h.htc
  · rw [o _ _ (by omega) (by omega)]; exact h.hsc
  · rw [o _ _ (by omega) (by omega)]; exact h.mk
/-- cells of the law's own row change, but none that counts; or the other mouth -/
theorem jj_M (h : JJ X Y O M N n ic τ c oc tc sc w0 m0 q cc) {q2 : Nat} (e : ∀ a j, a < X + 2000 → iv M2 a j = iv M a j) (ej : ∀ j, jv M2 (X + 1005) j = jv M (X + 1005) j) (e8 : iv M2 O 8 = nI q2) (eO : ∀ j, j ≠ 8 → iv M2 O j = iv M O j) (i6 : ic ≤ 6) : JJ X Y O M2 N n ic τ c oc tc sc w0 m0 q2 cc := by
  refine ⟨h.v.same e ej, h.k, h.kc, ⟨?_, ?_, ?_, ?_, ?_, ?_, ?_, ?_, e8, fun k hk => ⟨?_, ?_⟩, fun hn => ?_⟩, h.htc, h.hsc, h.w, h.m, h.t6, h.s20, h.mk⟩
  · rw [eO _ (by omega)]; exact h.d0
  · rw [eO _ (by omega)]; exact h.d1
  · rw [eO _ (by omega)]; exact h.d2
  · rw [eO _ (by omega)]; exact h.d3
  · rw [eO _ (by omega)]; exact h.d4
  · rw [eO _ (by omega)]; exact h.d5
  · rw [eO _ (by omega)]; exact h.d6
  · rw [eO _ (by omega)]; exact h.d7
  · rw [eO _ (by omega)]; exact (h.d9 k hk).1
  · rw [eO _ (by omega)]; exact (h.d9 k hk).2
  · rw [eO _ (by omega)]; exact h.d27 hn
theorem jj_oys {v g w : Nat} (h : JJ X Y O M N n ic τ c oc tc sc w0 m0 q cc) (hO : X + 3000 ≤ O) (hv : v < n) (hw : w ≤ 24) (ho : oc < 6) (e2 : M2 = wi (wi (wi (wi M (X + 10 + oc) 0 (nI v)) (X + 10 + oc) 1 (nI g)) (X + 10 + oc) 2 (nI w)) X 4 (nI (oc + 1))) : JJ X Y O (wi M2 O 2 (nI (oc + 1))) N n ic τ c (oc + 1) tc sc w0 m0 q cc ∧ iv M2 (X + 10 + oc) 1 = nI g := by
  have i6 := h.v.rr.i6
  have oX : ∀ a j, (a ≠ X ∨ j ≠ 4) → a ≠ X + 10 + oc → iv M2 a j = iv M a j := fun a j q1 q2 => by rw [e2]; simp (disch := omega) only [iv_n]
  have v4 : iv M2 X 4 = nI (oc + 1) := by rw [e2, iv_s]
  have u0 : iv M2 (X + 10 + oc) 0 = nI v := by rw [e2]; simp (disch := omega) only [iv_n, iv_s]
  have u1 : iv M2 (X + 10 + oc) 1 = nI g := by rw [e2]; simp (disch := omega) only [iv_n, iv_s]
  have u2 : iv M2 (X + 10 + oc) 2 = nI w := by rw [e2]; simp (disch := omega) only [iv_n, iv_s]
  have ej : ∀ a j, jv M2 a j = jv M a j := fun a j => by rw [e2]; rfl
  have f : ∀ j, iv M2 O j = iv M O j := fun j => oX O j (by omega) (by omega)
  have er : (fun j => iv (wi M2 O 2 (nI (oc + 1))) (X + 2) j) = fun j => iv M (X + 2) j := funext fun j => by rw [iv_n (by omega), oX _ _ (by omega) (by omega)]
  have JV2 : JV X Y (wi M2 O 2 (nI (oc + 1))) N n ic τ c (oc + 1) := by
    have v9 := h.v
    refine ⟨v9.rr.cM (fun x x1 x2 j => by rw [iv_n (by omega), oX _ _ (by omega) (by omega)]) (fun j => ej _ _), by rw [iv_n (by omega), oX _ _ (by omega) (by omega)]; exact v9.cn, by rw [er]; exact v9.gk, by rw [er]; exact v9.gt, by rw [er]; exact v9.eN, by rw [iv_n (by omega)]; exact v4, by omega, fun i hi => ?_⟩
    by_cases z : i = oc
    · subst z
      rw [iv_n (by omega), iv_n (by omega), u0, u2]
      exact ⟨⟨v, hv, rfl⟩, w, hw, rfl⟩
    · rw [iv_n (by omega), iv_n (by omega), oX _ _ (by omega) (by omega), oX _ _ (by omega) (by omega)]
      exact v9.oy i (by omega)
  refine ⟨⟨JV2, h.k, h.kc, ⟨?_, ?_, ?_, ?_, ?_, ?_, ?_, ?_, ?_, fun k hk => ⟨?_, ?_⟩, fun hn => ?_⟩, h.htc, h.hsc, h.w, h.m, h.t6, h.s20, h.mk⟩, u1⟩
  · rw [iv_n (by omega), f]; exact h.d0
  · rw [iv_n (by omega), f]; exact h.d1
  · rw [iv_s]
  · rw [iv_n (by omega), f]; exact h.d3
  · rw [iv_n (by omega), f]; exact h.d4
  · rw [iv_n (by omega), f]; exact h.d5
  · rw [iv_n (by omega), f]; exact h.d6
  · rw [iv_n (by omega), f]; exact h.d7
  · rw [iv_n (by omega), f]; exact h.d8
  · rw [iv_n (by omega), f]; exact (h.d9 k hk).1
  · rw [iv_n (by omega), f]; exact (h.d9 k hk).2
  · rw [iv_n (by omega), f]; exact h.d27 hn
theorem fr_zero (h : JJ X Y O M N n ic τ c oc tc sc w0 m0 q cc) {s9 : Nat} (hs : s9 < n) : ∀ c9 j, j + c9 ≤ τ → τ ≤ j + 24 → s_fr M (X + 1000 + 100 + s9) (nI 0) c9 j = false
  | 0, _, _, _ => rfl
  | c9 + 1, j, h1, h2 => by
    have e := h.v.rr.ta s9 hs j (by omega) (by omega)
    have t := h.k.ta s9 hs j (by omega)
    rw [s_fr, e, if_neg (by rw [i_lt, i_N (by omega)]; omega)]
    exact fr_zero h hs c9 (j + 1) (by omega) (by omega)
theorem lev_new {a u w d : Nat} (h17 : iv N2 (Y + 17) n = nI a) (h18 : iv N2 (Y + 18) n = nI d) (h22 : iv N2 (Y + 22) n = nI u) (h22l : iv N2 (Y + 22) (8 + n) = nI w) (a0 : 0 < a) (a1 : a ≤ 100) (hu : u + w ≤ 6000) (hd : d ≤ 2000) : g_lev N2 Y n = nI (d / a + (u + w) / a) := by
  unfold g_lev
  rw [h17, h18, h22, h22l, nI_add, nI_dv (by omega) a0 (by omega), nI_dv (by omega) a0 (by omega), nI_add]
end JS
