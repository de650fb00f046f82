/-! a telling, by the invariant -/
section TL
variable {X Y O : Nat} {M N : w_M} {n ic τ c oc tc sc w0 m0 q cc : Nat}
theorem tell_far {kd a b c9 d e : Int32} (h : JV X Y M N n ic τ c oc) (hv : v_hk N Y kd a b c9 d e) {x j : Nat} (hx : X + 1200 ≤ x) : iv (m_tell M X kd a b c9 d e) x j = iv M x j := by
  unfold m_tell
  have r1 : RR (m_keep M (X + 1) (iv M (X + 1000) 9) kd a b c9 d e) (X + 1000) N Y n ic τ := h.rr.cM (fun x x1 x2 j => keep_o (by omega) (by omega)) (fun j => rfl)
  rw [((fr_hk r1 hv) x (by omega) j).1]
  exact keep_o (by omega) (by omega)
/-- what a telling leaves: the class's side, what is kept, closures, all beyond -/
def TT (X Y : Nat) (M M2 N2 : w_M) (n ic τ c oc cc : Nat) (w0 m0 : Nat) : Prop := JV X Y M2 N2 n ic τ c oc ∧ KN N2 Y n ic τ c w0 m0 ∧ kC N2 Y τ cc ∧ ∀ x j, X + 1200 ≤ x → iv M2 x j = iv M x j
theorem t_mk {kd a b c9 d e : Int32} {n' ic' w0' m0' : Nat} {N2 : w_M} (h : JJ X Y O M N n ic τ c oc tc sc w0 m0 q cc) (hc : c < 512) (hv : v_hk N Y kd a b c9 d e) (e2 : g_hk N Y kd a b c9 d e = N2) (en : iv N2 Y 16 = nI n') (ei : iv N2 Y 25 = nI ic') (hnn : n ≤ n') (hn8 : n' ≤ 8) (hi6 : ic' ≤ 6) (K : KN N2 Y n' ic' τ (c + 1) w0' m0') (eC : ∀ a j, (a = Y ∧ j = 12) ∨ a = Y + 13 ∨ a = Y + 14 → iv N2 a j = iv N a j) : TT X Y M (m_tell M X kd a b c9 d e) N2 n' ic' τ (c + 1) oc cc w0' m0' := by
  subst e2
  exact ⟨h.v.tell hc hv en ei hnn hn8 hi6, K, h.kc.same eC, fun x j hx => tell_far h.v hv hx⟩
theorem JJ.n16 (h : JJ X Y O M N n ic τ c oc tc sc w0 m0 q cc) : iv N Y 16 = nI n := h.v.rr.Nn
theorem JJ.n25 (h : JJ X Y O M N n ic τ c oc tc sc w0 m0 q cc) : iv N Y 25 = nI ic := h.v.rr.Ni
theorem JJ.c16 (h : JJ X Y O M N n ic τ c oc tc sc w0 m0 q cc) : cN (iv N Y 16) = n := by have := h.v.rr.n8; rw [h.n16]; exact cN_nI (by omega)
theorem JJ.c25 (h : JJ X Y O M N n ic τ c oc tc sc w0 m0 q cc) : cN (iv N Y 25) = ic := by have := h.v.rr.i6; rw [h.n25]; exact cN_nI (by omega)
theorem t_turn (h : JJ X Y O M N n ic τ c oc tc sc w0 m0 q cc) (hc : c < 512) (t6 : tc < 6) {a u w d : Nat} (a0 : 2 ≤ a) (a1 : a ≤ 60) (u0 : 1 ≤ u) (hu : u ≤ a - 1) (hw : w ≤ 50) (hd : d ≤ 59) : TT X Y M (m_tell M X 0 (nI a) (nI u) (nI w) (nI d) 0) (gE_turn N Y tc (nI a) (nI u) (nI w) (nI d)) n ic τ (c + 1) oc cc w0 m0 ∧ iv (gE_turn N Y tc (nI a) (nI u) (nI w) (nI d)) Y 3 = nI (tc + 1) ∧ iv (gE_turn N Y tc (nI a) (nI u) (nI w) (nI d)) (Y + 4) (4 * tc) = nI a ∧ (∀ x j, (x ≠ Y ∨ j ≠ 3) → x ≠ Y + 4 → iv (gE_turn N Y tc (nI a) (nI u) (nI w) (nI d)) x j = iv N x j) := by
  have n8 := h.v.rr.n8; have i6 := h.v.rr.i6
  have c3 : cN (iv N Y 3) = tc := by rw [h.htc]; exact cN_nI (by omega)
  have o : ∀ x j, (x ≠ Y ∨ j ≠ 3) → x ≠ Y + 4 → iv (gE_turn N Y tc (nI a) (nI u) (nI w) (nI d)) x j = iv N x j := fun x j q1 q2 => by unfold gE_turn g_a; simp (disch := omega) only [iv_n]
  refine ⟨t_mk h hc (Or.inl ⟨rfl, by rw [c3]; exact t6, ?_⟩) (by show gE_turn N Y (cN (iv N Y 3)) _ _ _ _ = _; rw [c3]) (by rw [o _ _ (by omega) (by omega)]; exact h.n16) (by rw [o _ _ (by omega) (by omega)]; exact h.n25) (Nat.le_refl _) n8 i6 (KN_turn h.k) (fun a j z => o _ _ (by omega) (by omega)), ?_, ?_, o⟩
  · rw [i_N (by omega), i_N (by omega), i_N (by omega), i_N (by omega)]; omega
  · unfold gE_turn g_a; simp (disch := omega) only [iv_s, iv_n]; rw [h.htc]; exact nI_1 tc
  · unfold gE_turn g_a; simp (disch := omega) only [iv_s, iv_n]
theorem t_mean (h : JJ X Y O M N n ic τ c oc tc sc w0 m0 q cc) (hc : c < 512) {v : Nat} (hv : v ≤ 100) : TT X Y M (m_tell M X 1 (nI v) 0 0 0 0) (wi N Y 2 (nI v)) n ic τ (c + 1) oc cc w0 m0 := by
  have n8 := h.v.rr.n8; have i6 := h.v.rr.i6
  exact t_mk h hc (Or.inr (Or.inl ⟨rfl, by rw [i_N (by omega)]; omega⟩)) rfl (by rw [iv_n (by omega)]; exact h.n16) (by rw [iv_n (by omega)]; exact h.n25) (Nat.le_refl _) n8 i6 (KN_mean h.k) (fun a j z => iv_n (by omega))
theorem t_surge (h : JJ X Y O M N n ic τ c oc tc sc w0 m0 q cc) (hc : c < 512) (s20 : sc < 20) {a b : Nat} {x : Int32} (a0 : τ ≤ a) (ab : a ≤ b) (b1 : b ≤ a + 19) (a1 : a ≤ 1100) (x0 : -50 ≤ x.toInt) (x1 : x.toInt ≤ 100) : TT X Y M (m_tell M X 2 (nI a) (nI b) x 0 0) (gE_surge N Y sc (nI a) (nI b) x) n ic τ (c + 1) oc cc w0 m0 ∧ iv (gE_surge N Y sc (nI a) (nI b) x) Y 5 = nI (sc + 1) ∧ (∀ x9 j, (x9 ≠ Y ∨ j ≠ 5) → x9 ≠ Y + 6 → iv (gE_surge N Y sc (nI a) (nI b) x) x9 j = iv N x9 j) ∧ g_for (gE_surge N Y sc (nI a) (nI b) x) Y (nI a) = g_for N Y (nI a) + x := by
  have n8 := h.v.rr.n8; have i6 := h.v.rr.i6
  have c5 : cN (iv N Y 5) = sc := by rw [h.hsc]; exact cN_nI (by omega)
  have o : ∀ x9 j, (x9 ≠ Y ∨ j ≠ 5) → x9 ≠ Y + 6 → iv (gE_surge N Y sc (nI a) (nI b) x) x9 j = iv N x9 j := fun x9 j q1 q2 => by unfold gE_surge g_a; simp (disch := omega) only [iv_n]
  have K := KN_surge (p := nI a) (r := nI b) (x := x) h.k h.v.rr.gt.sc (by rw [c5]; exact s20) (by rw [i_N (by omega)]; omega) (by rw [i_N (by omega), i_N (by omega)]; omega) (by rw [i_N (by omega), i_N (by omega)]; omega)
  rw [c5] at K
  have e5 : iv (gE_surge N Y sc (nI a) (nI b) x) Y 5 = nI (sc + 1) := by unfold gE_surge g_a; simp (disch := omega) only [iv_s, iv_n]; rw [h.hsc]; exact nI_1 sc
  refine ⟨t_mk h hc (Or.inr (Or.inr (Or.inl ⟨rfl, by rw [c5]; exact s20, x0, x1⟩))) (by show gE_surge N Y (cN (iv N Y 5)) _ _ _ = _; rw [c5]) (by rw [o _ _ (by omega) (by omega)]; exact h.n16) (by rw [o _ _ (by omega) (by omega)]; exact h.n25) (Nat.le_refl _) n8 i6 K (fun a j z => o _ _ (by omega) (by omega)), e5, o, ?_⟩
  have p0 : iv (gE_surge N Y sc (nI a) (nI b) x) (Y + 6) (3 * sc) = nI a := by unfold gE_surge g_a; simp (disch := omega) only [iv_s, iv_n]
  have p1 : iv (gE_surge N Y sc (nI a) (nI b) x) (Y + 6) (3 * sc + 1) = nI b := by unfold gE_surge g_a; simp (disch := omega) only [iv_s, iv_n]
  have p2 : iv (gE_surge N Y sc (nI a) (nI b) x) (Y + 6) (3 * sc + 2) = x := by unfold gE_surge g_a; simp (disch := omega) only [iv_s, iv_n]
  have pl : ∀ j, j < 3 * sc → iv (gE_surge N Y sc (nI a) (nI b) x) (Y + 6) j = iv N (Y + 6) j := fun j hj => by unfold gE_surge g_a; simp (disch := omega) only [iv_n]
  generalize gE_surge N Y sc (nI a) (nI b) x = N2 at *
  have tt : ∀ i, g_t N2 Y (nI a) i = g_t N Y (nI a) i := by
    intro i; induction i with
    | zero => rw [g_t, g_t, o _ _ (by omega) (by omega)]
    | succ i ih => rw [g_t, g_t, ih, o _ _ (by omega) (by omega), o _ _ (by omega) (by omega), o _ _ (by omega) (by omega), o _ _ (by omega) (by omega)]
  have ss : ∀ i m, i ≤ sc → g_s N2 Y (nI a) m i = g_s N Y (nI a) m i := by
    intro i m; induction i with
    | zero => intro _; rw [g_s, g_s, tt]
    | succ i ih => intro hi; rw [g_s, g_s, ih (by omega), pl _ (by omega), pl _ (by omega), pl _ (by omega)]
  unfold g_for
  rw [c5, e5, cN_nI (by omega), o Y 3 (by omega) (by omega), g_s, ss sc _ (Nat.le_refl _), p0, p1, p2, if_neg]
  exact fW_n (Nat.le_refl _) ab (by omega)
theorem t_river (h : JJ X Y O M N n ic τ c oc tc sc w0 m0 q cc) (hc : c < 512) {v w : Nat} (hv : v ≤ 500) (hw : w ≤ 500) : TT X Y M (m_tell M X 3 (nI v) (nI w) 0 0 0) (wi (wi N Y 8 (nI v)) Y 9 (nI w)) n ic τ (c + 1) oc cc w0 m0 := by
  have n8 := h.v.rr.n8; have i6 := h.v.rr.i6
  exact t_mk h hc (Or.inr (Or.inr (Or.inr (Or.inl ⟨rfl, by rw [i_N (by omega), i_N (by omega)]; omega⟩)))) rfl (by simp (disch := omega) only [iv_n]; exact h.n16) (by simp (disch := omega) only [iv_n]; exact h.n25) (Nat.le_refl _) n8 i6 (KN_two h.k (by omega) (by omega)) (fun a j z => by simp (disch := omega) only [iv_n])
theorem t_bar (h : JJ X Y O M N n ic τ c oc tc sc w0 m0 q cc) (hc : c < 512) {v : Int32} {w : Nat} (hw : w ≤ 12) : TT X Y M (m_tell M X 4 v (nI w) 0 0 0) (wi (wi N Y 10 v) Y 11 (nI w)) n ic τ (c + 1) oc cc w0 m0 := by
  have n8 := h.v.rr.n8; have i6 := h.v.rr.i6
  exact t_mk h hc (Or.inr (Or.inr (Or.inr (Or.inr (Or.inl ⟨rfl, w, hw, rfl⟩))))) rfl (by simp (disch := omega) only [iv_n]; exact h.n16) (by simp (disch := omega) only [iv_n]; exact h.n25) (Nat.le_refl _) n8 i6 (KN_two h.k (by omega) (by omega)) (fun a j z => by simp (disch := omega) only [iv_n])
theorem t_sec (h : JJ X Y O M N n ic τ c oc tc sc w0 m0 q cc) (hc : c < 512) (hn : n < 8) (ht : τ = 0) {a u w d : Nat} (a0 : 1 ≤ a) (a1 : a ≤ 100) (hu : u + w ≤ 6000) (hd : d ≤ 2000) : TT X Y M (m_tell M X 5 (nI a) (nI u) (nI w) (nI d) 0) (gE_sec N Y n (nI a) (nI u) (nI w) (nI d)) (n + 1) ic τ (c + 1) oc cc (w0 + (u + w)) (m0 + d) ∧ iv (gE_sec N Y n (nI a) (nI u) (nI w) (nI d)) (Y + 17) n = nI a ∧ iv (gE_sec N Y n (nI a) (nI u) (nI w) (nI d)) (Y + 18) n = nI d ∧ iv (gE_sec N Y n (nI a) (nI u) (nI w) (nI d)) (Y + 22) n = nI u ∧ iv (gE_sec N Y n (nI a) (nI u) (nI w) (nI d)) (Y + 22) (8 + n) = nI w ∧ (∀ x j, (x ≠ Y ∨ j ≠ 16) → (x ≠ Y + 17 ∨ j ≠ n) → (x ≠ Y + 18 ∨ j ≠ n) → x ≠ Y + 22 → iv (gE_sec N Y n (nI a) (nI u) (nI w) (nI d)) x j = iv N x j) := by
  subst ht
  have i6 := h.v.rr.i6
  have o : ∀ x j, (x ≠ Y ∨ j ≠ 16) → (x ≠ Y + 17 ∨ j ≠ n) → (x ≠ Y + 18 ∨ j ≠ n) → x ≠ Y + 22 → iv (gE_sec N Y n (nI a) (nI u) (nI w) (nI d)) x j = iv N x j := fun x j q1 q2 q3 q4 => by unfold gE_sec g_a; simp (disch := omega) only [iv_n]
  have K := KN_sec (ar := nI a) (up := nI u) (low := nI w) (mud := nI d) h.k (h.v.rr.zs rfl) hn (by rw [i_N (by omega)]; omega) (by rw [i_N (by omega)]; omega) (by rw [i_N (by omega)]; omega) (by rw [i_N (by omega), i_N (by omega)]; omega)
  rw [i_N (n := u) (by omega), i_N (n := w) (by omega), i_N (n := d) (by omega)] at K
  refine ⟨t_mk h hc (Or.inr (Or.inr (Or.inr (Or.inr (Or.inr (Or.inl ⟨rfl, by rw [h.c16]; exact hn, h.v.rr.Nt, ?_⟩)))))) (by show gE_sec N Y (cN (iv N Y 16)) _ _ _ _ = _; rw [h.c16]) ?_ (by rw [o _ _ (by omega) (by omega) (by omega) (by omega)]; exact h.n25) (Nat.le_succ _) (by omega) i6 (by push_cast; exact K) (fun a j z => o _ _ (by omega) (by omega) (by omega) (by omega)), ?_, ?_, ?_, ?_, o⟩
  · rw [i_N (by omega), i_N (by omega), i_N (by omega), i_N (by omega)]; omega
  · unfold gE_sec g_a; simp (disch := omega) only [iv_s, iv_n]; rw [h.n16]; exact nI_1 n
  · unfold gE_sec g_a; simp (disch := omega) only [iv_s, iv_n]
  · unfold gE_sec g_a; simp (disch := omega) only [iv_s, iv_n]
  · unfold gE_sec g_a; simp (disch := omega) only [iv_s, iv_n]
  · unfold gE_sec g_a; simp (disch := omega) only [iv_s, iv_n]
theorem t_int (h : JJ X Y O M N n ic τ c oc tc sc w0 m0 q cc) (hc : c < 512) (hi : ic < 6) {v a u w d : Nat} (hv : v < n) (a1 : a ≤ 500) (hu : u ≤ 30) (hw : w ≤ 10000) (hd : d ≤ 500) : TT X Y M (m_tell M X 6 (nI v) (nI a) (nI u) (nI w) (nI d)) (gE_int N Y ic (nI v) (nI a) (nI u) (nI w) (nI d)) n (ic + 1) τ (c + 1) oc cc w0 m0 ∧ iv (gE_int N Y ic (nI v) (nI a) (nI u) (nI w) (nI d)) (Y + 29) ic = nI w ∧ iv (gE_int N Y ic (nI v) (nI a) (nI u) (nI w) (nI d)) (Y + 30) ic = nI d ∧ (∀ x j, (x ≠ Y ∨ j ≠ 25) → (x < Y + 26 ∨ Y + 30 < x ∨ j ≠ ic) → iv (gE_int N Y ic (nI v) (nI a) (nI u) (nI w) (nI d)) x j = iv N x j) := by
  have n8 := h.v.rr.n8
  have o : ∀ x j, (x ≠ Y ∨ j ≠ 25) → (x < Y + 26 ∨ Y + 30 < x ∨ j ≠ ic) → iv (gE_int N Y ic (nI v) (nI a) (nI u) (nI w) (nI d)) x j = iv N x j := fun x j q1 q2 => by unfold gE_int g_a; simp (disch := omega) only [iv_n]
  have K := KN_int (v := nI v) (ra := nI a) (gr := nI u) (ro := nI w) (use := nI d) h.k h.v.rr.zi (by rw [i_N (by omega)]; omega) (by rw [i_N (by omega)]; omega)
  refine ⟨t_mk h hc (Or.inr (Or.inr (Or.inr (Or.inr (Or.inr (Or.inr (Or.inl ⟨rfl, by rw [h.c25]; exact hi, ⟨v, by rw [h.c16]; exact hv, rfl⟩, ?_⟩))))))) (by show gE_int N Y (cN (iv N Y 25)) _ _ _ _ _ = _; rw [h.c25]) (by rw [o _ _ (by omega) (by omega)]; exact h.n16) ?_ (Nat.le_refl _) n8 (by omega) K (fun a j z => o _ _ (by omega) (by omega)), ?_, ?_, o⟩
  · rw [i_N (by omega), i_N (by omega), i_N (by omega)]; omega
  · unfold gE_int g_a; simp (disch := omega) only [iv_s, iv_n]; rw [h.n25]; exact nI_1 ic
  · unfold gE_int g_a; simp (disch := omega) only [iv_s, iv_n]
  · unfold gE_int g_a; simp (disch := omega) only [iv_s, iv_n]
theorem t_per (h : JJ X Y O M N n ic τ c oc tc sc w0 m0 q cc) (hc : c < 512) {v a : Nat} (hv : v < n) (a1 : a ≤ 10000) : TT X Y M (m_tell M X 7 (nI v) (nI a) 0 0 0) (wi N (Y + 21) v (nI a)) n ic τ (c + 1) oc cc w0 m0 := by
  have n8 := h.v.rr.n8; have i6 := h.v.rr.i6
  exact t_mk h hc (Or.inr (Or.inr (Or.inr (Or.inr (Or.inr (Or.inr (Or.inr (Or.inl ⟨rfl, v, by rw [h.c16]; exact hv, rfl⟩)))))))) (by show wi N (Y + 21) (cN (nI v)) (nI a) = _; rw [cN_nI (by omega)]) (by rw [iv_n (by omega)]; exact h.n16) (by rw [iv_n (by omega)]; exact h.n25) (Nat.le_refl _) n8 i6 (KN_per h.k (by rw [i_N (by omega)]; omega) (by rw [i_N (by omega)]; omega)) (fun a j z => iv_n (by omega))
theorem ref_0 {a P D : Int32} (h : f_ref a P D = 0) : ¬ P = 0 ∧ ¬ P < a ∧ ¬ D < a := by
  unfold f_ref at h
  split at h
  · exact absurd h (by decide)
  · split at h
    · exact absurd h (by decide)
    · split at h
      · exact absurd h (by decide)
      · exact ⟨by assumption, by assumption, by assumption⟩
theorem ref_n {a P D : Int32} (h : ¬ f_ref a P D = 0) : 0 < (f_ref a P D).toInt := by
  unfold f_ref at *
  split at h
  · rename_i z; rw [if_pos z]; decide
  · rename_i z; rw [if_neg z] at *
    split at h
    · rename_i y; rw [if_pos y]; decide
    · rename_i y; rw [if_neg y] at *
      split at h
      · rename_i x; rw [if_pos x]; decide
      · exact absurd rfl h
/-- dredged -/
theorem t_dre (h : JJ X Y O M N n ic τ c oc tc sc w0 m0 q cc) (hc : c < 512) {v a : Nat} {to : Int32} (hv : v < n) (a0 : 1 ≤ a) (a1 : a ≤ 10000) (hto : to = -1 ∨ ∃ j, j < n ∧ j ≠ v ∧ to = nI j) (h0 : f_ref (nI a) (iv N (Y + 21) v) (iv N (Y + 18) v) = 0) : TT X Y M (m_tell M X 8 (nI v) (nI a) to 0 0) (gE_dre N Y v (nI a) to) n ic τ (c + 1) oc cc w0 m0 ∧ iv (gE_dre N Y v (nI a) to) (Y + 21) v = iv N (Y + 21) v - nI a ∧ iv (gE_dre N Y v (nI a) to) (Y + 18) v = iv N (Y + 18) v - nI a ∧ (∀ x j, (x ≠ Y + 21 ∨ j ≠ v) → (x ≠ Y + 18 ∨ j ≠ v) → x ≠ Y + 19 → iv (gE_dre N Y v (nI a) to) x j = iv N x j) ∧ (to = -1 → jv (gE_dre N Y v (nI a) to) (Y + 40) 9 = jv N (Y + 40) 9 + (nI a).toInt64) ∧ (∀ k, to = nI k → k < n → iv (gE_dre N Y v (nI a) to) (Y + 19) k = iv N (Y + 19) k + nI a ∧ jv (gE_dre N Y v (nI a) to) (Y + 40) 9 = jv N (Y + 40) 9) := by
  have n8 := h.v.rr.n8; have i6 := h.v.rr.i6
  have t1 := h.v.rr.t1
  obtain ⟨W, C, b, hW, hC⟩ := h.gb
  obtain ⟨p0, p1, p2⟩ := ref_0 h0
  rw [i_lt, i_N (by omega)] at p1 p2
  have o : ∀ x j, (x ≠ Y + 21 ∨ j ≠ v) → (x ≠ Y + 18 ∨ j ≠ v) → x ≠ Y + 19 → iv (gE_dre N Y v (nI a) to) x j = iv N x j := fun x j q1 q2 q3 => by unfold gE_dre g_a g_b gsadd; split <;> simp (disch := omega) only [iv_n, iv_wj]
  have e21 : iv (gE_dre N Y v (nI a) to) (Y + 21) v = iv N (Y + 21) v - nI a := by unfold gE_dre g_a g_b gsadd; split <;> simp (disch := omega) only [iv_n, iv_s, iv_wj]
  have e18 : iv (gE_dre N Y v (nI a) to) (Y + 18) v = iv N (Y + 18) v - nI a := by unfold gE_dre g_a g_b gsadd; split <;> simp (disch := omega) only [iv_n, iv_s, iv_wj]
  have kk : ∀ k, k < 8 → ¬ nI k = -1 := fun k hk z => absurd (show nI k < 0 by rw [z]; decide) (nI_pos (by omega))
  have cS : to = -1 → (∀ j, iv (gE_dre N Y v (nI a) to) (Y + 19) j = iv N (Y + 19) j) ∧ jv (gE_dre N Y v (nI a) to) (Y + 40) 9 = jv N (Y + 40) 9 + (nI a).toInt64 ∧ gE_dre N Y v (nI a) to = gsadd (g_b (g_b N (Y + 21) v (nI a)) (Y + 18) v (nI a)) Y 9 (nI a).toInt64 := fun z => by
    have e : gE_dre N Y v (nI a) to = gsadd (g_b (g_b N (Y + 21) v (nI a)) (Y + 18) v (nI a)) Y 9 (nI a).toInt64 := by unfold gE_dre; rw [if_pos z]
    refine ⟨fun j => ?_, ?_, e⟩
    · rw [e]; unfold gsadd g_b; simp (disch := omega) only [iv_n, iv_wj]
    · rw [e]; unfold gsadd; rw [jv_s]; rfl
  have cC : ∀ k, to = nI k → k < n → iv (gE_dre N Y v (nI a) to) (Y + 19) k = iv N (Y + 19) k + nI a ∧ (∀ j, j ≠ k → iv (gE_dre N Y v (nI a) to) (Y + 19) j = iv N (Y + 19) j) ∧ ∀ j, jv (gE_dre N Y v (nI a) to) (Y + 40) j = jv N (Y + 40) j := fun k z hk => by
    have e : gE_dre N Y v (nI a) to = g_a (g_b (g_b N (Y + 21) v (nI a)) (Y + 18) v (nI a)) (Y + 19) k (nI a) := by unfold gE_dre; rw [if_neg (by rw [z]; exact kk k (by omega)), z, cN_nI (by omega)]
    rw [e]
    refine ⟨?_, fun j hj => ?_, fun j => rfl⟩
    · unfold g_a g_b; simp (disch := omega) only [iv_n, iv_s]
    · unfold g_a g_b; simp (disch := omega) only [iv_n]
  have z9 := h.z (by omega) 9 (by omega)
  have K : KN (gE_dre N Y v (nI a) to) Y n ic τ (c + 1) w0 m0 := by
    refine KN_dre h.k b (by omega) hv (by rw [i_N (by omega)]; omega) (by rw [i_N (by omega)]; omega) (by rw [i_N (by omega)]; omega) ⟨by omega, by omega⟩ e21 e18 o ?_
    rcases hto with z | ⟨j, hj, hjv, z⟩
    · obtain ⟨s1, s2, s3⟩ := cS z
      refine Or.inl ⟨s1, fun i => ?_⟩
      rw [s3]
      exact qj_add (N := g_b (g_b N (Y + 21) v (nI a)) (Y + 18) v (nI a)) z9.1 (show (jv N (Y + 40) 9).toInt ≤ _ by omega) i
    · obtain ⟨s1, s2, s3⟩ := cC j z hj
      exact Or.inr ⟨⟨j, hj, hjv, s1, s2⟩, fun i => by unfold qj; rw [s3]⟩
  refine ⟨t_mk h hc (Or.inr (Or.inr (Or.inr (Or.inr (Or.inr (Or.inr (Or.inr (Or.inr ⟨rfl, v, by rw [h.c16]; exact hv, rfl, by rw [i_N (by omega)]; omega, by rw [i_N (by omega)]; omega, ?_⟩)))))))) (by show gE_dre N Y (cN (nI v)) (nI a) to = _; rw [cN_nI (by omega)]) (by rw [o _ _ (by omega) (by omega) (by omega)]; exact h.n16) (by rw [o _ _ (by omega) (by omega) (by omega)]; exact h.n25) (Nat.le_refl _) n8 i6 K (fun a j z => o _ _ (by omega) (by omega) (by omega)), e21, e18, o, fun z => (cS z).2.1, fun k z hk => ⟨(cC k z hk).1, (cC k z hk).2.2 9⟩⟩
  rcases hto with z | ⟨j, hj, hjv, z⟩
  · exact Or.inl z
  · exact Or.inr ⟨j, by rw [h.c16]; exact hj, z, fun y => hjv y.symm⟩
end TL
