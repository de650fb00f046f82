/-! what the law's own check of sums finds -/
theorem l_ad {x y : Int64} (h1 : -9223372036854775808 ≤ x.toInt + y.toInt) (h2 : x.toInt + y.toInt < 9223372036854775808) : (x + y).toInt = x.toInt + y.toInt := by rw [Int64.toInt_add, i_bm8 h1 h2]
theorem l_sb {x y : Int64} (h1 : -9223372036854775808 ≤ x.toInt - y.toInt) (h2 : x.toInt - y.toInt < 9223372036854775808) : (x - y).toInt = x.toInt - y.toInt := by rw [Int64.toInt_sub, i_bm8 h1 h2]
theorem l_mu {x y : Int64} (h1 : -9223372036854775808 ≤ x.toInt * y.toInt) (h2 : x.toInt * y.toInt < 9223372036854775808) : (x * y).toInt = x.toInt * y.toInt := by rw [Int64.toInt_mul, i_bm8 h1 h2]
theorem l_ext {x y : Int64} (h : x.toInt = y.toInt) : x = y := Int64.toInt_inj.mp h
theorem lg_c8 (x : Int64) : lg_cmp x x = 0 := by simp [lg_cmp]
theorem lg_c9 {x y : Int64} (h : x = y) : lg_cmp x y = 0 := h ▸ lg_c8 x
def sL (f : Nat → Int32) : Nat → Int64
  | 0 => 0
  | n + 1 => sL f n + (f n).toInt64
theorem sL_e (f : Nat → Int32) : ∀ n : Nat, n ≤ 1000 → (sL f n).toInt = sm (fun i => (f i).toInt) n ∧ -2147483648 * (n : Int) ≤ sm (fun i => (f i).toInt) n ∧ sm (fun i => (f i).toInt) n ≤ 2147483648 * (n : Int)
  | 0, _ => ⟨by rw [sL, sm]; decide, by simp [sm], by simp [sm]⟩
  | n + 1, h => by
    obtain ⟨e, b1, b2⟩ := sL_e f n (by omega)
    have r := i_rg (f n)
    rw [sL, sm]
    refine ⟨?_, by push_cast; omega, by push_cast; omega⟩
    rw [l_ad (by rw [Int32.toInt_toInt64]; omega) (by rw [Int32.toInt_toInt64]; omega), Int32.toInt_toInt64, e]
/-- the law's own numbers -/
def JD (M N : w_M) (O Y n ic oc τ tc sc w0 m0 q : Nat) : Prop := iv M O 0 = nI n ∧ iv M O 1 = nI ic ∧ iv M O 2 = nI oc ∧ iv M O 3 = nI tc ∧ iv M O 4 = nI sc ∧ iv M O 5 = nI τ ∧ iv M O 6 = nI w0 ∧ iv M O 7 = nI m0 ∧ iv M O 8 = nI q ∧ (∀ k, k < ic → iv M O (9 + k) = iv N (Y + 29) k ∧ iv M O (15 + k) = iv N (Y + 30) k) ∧ (0 < n → iv M O 27 = iv N (Y + 17) 0)
/-- the law's invariant -/
def JJ (X Y O : Nat) (M N : w_M) (n ic τ c oc tc sc w0 m0 q cc : Nat) : Prop := JV X Y M N n ic τ c oc ∧ KN N Y n ic τ c w0 m0 ∧ kC N Y τ cc ∧ JD M N O Y n ic oc τ tc sc w0 m0 q ∧ iv N Y 3 = nI tc ∧ iv N Y 5 = nI sc ∧ w0 ≤ 6000 * n ∧ m0 ≤ 2000 * n ∧ tc ≤ 6 ∧ sc ≤ 20 ∧ -1 ≤ (iv N Y 10).toInt
section JJs
variable {X Y O : Nat} {M N : w_M} {n ic τ c oc tc sc w0 m0 q cc : Nat}
theorem JJ.v (h : JJ X Y O M N n ic τ c oc tc sc w0 m0 q cc) : JV X Y M N n ic τ c oc := h.1
theorem JJ.k (h : JJ X Y O M N n ic τ c oc tc sc w0 m0 q cc) : KN N Y n ic τ c w0 m0 := h.2.1
theorem JJ.kc (h : JJ X Y O M N n ic τ c oc tc sc w0 m0 q cc) : kC N Y τ cc := h.2.2.1
theorem JJ.d (h : JJ X Y O M N n ic τ c oc tc sc w0 m0 q cc) : JD M N O Y n ic oc τ tc sc w0 m0 q := h.2.2.2.1
theorem JJ.htc (h : JJ X Y O M N n ic τ c oc tc sc w0 m0 q cc) : iv N Y 3 = nI tc := h.2.2.2.2.1
theorem JJ.hsc (h : JJ X Y O M N n ic τ c oc tc sc w0 m0 q cc) : iv N Y 5 = nI sc := h.2.2.2.2.2.1
theorem JJ.w (h : JJ X Y O M N n ic τ c oc tc sc w0 m0 q cc) : w0 ≤ 6000 * n := h.2.2.2.2.2.2.1
theorem JJ.m (h : JJ X Y O M N n ic τ c oc tc sc w0 m0 q cc) : m0 ≤ 2000 * n := h.2.2.2.2.2.2.2.1
theorem JJ.t6 (h : JJ X Y O M N n ic τ c oc tc sc w0 m0 q cc) : tc ≤ 6 := h.2.2.2.2.2.2.2.2.1
theorem JJ.s20 (h : JJ X Y O M N n ic τ c oc tc sc w0 m0 q cc) : sc ≤ 20 := h.2.2.2.2.2.2.2.2.2.1
theorem JJ.mk (h : JJ X Y O M N n ic τ c oc tc sc w0 m0 q cc) : -1 ≤ (iv N Y 10).toInt := h.2.2.2.2.2.2.2.2.2.2
theorem JJ.d0 (h : JJ X Y O M N n ic τ c oc tc sc w0 m0 q cc) : iv M O 0 = nI n := h.d.1
theorem JJ.d1 (h : JJ X Y O M N n ic τ c oc tc sc w0 m0 q cc) : iv M O 1 = nI ic := h.d.2.1
theorem JJ.d2 (h : JJ X Y O M N n ic τ c oc tc sc w0 m0 q cc) : iv M O 2 = nI oc := h.d.2.2.1
theorem JJ.d3 (h : JJ X Y O M N n ic τ c oc tc sc w0 m0 q cc) : iv M O 3 = nI tc := h.d.2.2.2.1
theorem JJ.d4 (h : JJ X Y O M N n ic τ c oc tc sc w0 m0 q cc) : iv M O 4 = nI sc := h.d.2.2.2.2.1
theorem JJ.d5 (h : JJ X Y O M N n ic τ c oc tc sc w0 m0 q cc) : iv M O 5 = nI τ := h.d.2.2.2.2.2.1
theorem JJ.d6 (h : JJ X Y O M N n ic τ c oc tc sc w0 m0 q cc) : iv M O 6 = nI w0 := h.d.2.2.2.2.2.2.1
theorem JJ.d7 (h : JJ X Y O M N n ic τ c oc tc sc w0 m0 q cc) : iv M O 7 = nI m0 := h.d.2.2.2.2.2.2.2.1
theorem JJ.d8 (h : JJ X Y O M N n ic τ c oc tc sc w0 m0 q cc) : iv M O 8 = nI q := h.d.2.2.2.2.2.2.2.2.1
theorem JJ.d9 (h : JJ X Y O M N n ic τ c oc tc sc w0 m0 q cc) : ∀ k, k < ic → iv M O (9 + k) = iv N (Y + 29) k ∧ iv M O (15 + k) = iv N (Y + 30) k := h.d.2.2.2.2.2.2.2.2.2.1
theorem JJ.d27 (h : JJ X Y O M N n ic τ c oc tc sc w0 m0 q cc) : 0 < n → iv M O 27 = iv N (Y + 17) 0 := h.d.2.2.2.2.2.2.2.2.2.2
/-- water and mud are within bounds -/
theorem JJ.gb (h : JJ X Y O M N n ic τ c oc tc sc w0 m0 q cc) : ∃ W C : Int, gB N Y n W C ∧ W < 2 ^ 26 ∧ C < 2 ^ 26 := by
  have r := h.v.rr
  have n8 := r.n8; have t1 := r.t1
  have u := us_b (t := τ) h.k.u _ (Nat.le_refl _)
  have s20 := (cB_le r.gt.sc (by decide)).2
  exact ⟨_, _, r.b.W' h.k.w, by omega, by omega⟩
theorem JJ.z (h : JJ X Y O M N n ic τ c oc tc sc w0 m0 q cc) (hc : c ≤ 512) : ∀ i, i < 10 → 0 ≤ (jv N (Y + 40) i).toInt ∧ (jv N (Y + 40) i).toInt ≤ 2 ^ 46 := fun i hi => by
  have t1 := h.v.rr.t1
  have z := h.k.a.2.2.2.2.2.2 i hi
  unfold qj at z
  omega
theorem kept_w (h : JJ X Y O M N n ic τ c oc tc sc w0 m0 q cc) (hc : c ≤ 512) : sL (fun k => iv N (Y + 22) k + iv N (Y + 22) (8 + k)) n = (nI w0).toInt64 + jv N (Y + 40) 0 - jv N (Y + 40) 1 + jv N (Y + 40) 2 - jv N (Y + 40) 3 := by
  have n8 := h.v.rr.n8; have hw := h.w
  obtain ⟨W, C, b, hW, hC⟩ := h.gb
  have a := h.k.a.2.1
  have z0 := h.z hc 0 (by omega); have z1 := h.z hc 1 (by omega); have z2 := h.z hc 2 (by omega); have z3 := h.z hc 3 (by omega)
  have e := sL_e (fun k => iv N (Y + 22) k + iv N (Y + 22) (8 + k)) n (by omega)
  have e2 : sm (fun i => (iv N (Y + 22) i + iv N (Y + 22) (8 + i)).toInt) n = qW N Y n := by
    unfold qW
    refine sm_eq (fun i hi => ?_)
    have := b.w hi; have := b.wu i hi; have := b.wl i hi
    exact i_add (by omega) (by omega)
  unfold qj at a
  have eI : (nI w0).toInt64.toInt = (w0 : Int) := by rw [Int32.toInt_toInt64, i_N (by omega)]
  refine l_ext ?_
  rw [e.1, e2]
  have h1 : ((nI w0).toInt64 + jv N (Y + 40) 0).toInt = (w0 : Int) + (jv N (Y + 40) 0).toInt := by rw [l_ad (by omega) (by omega), eI]
  have h2 : ((nI w0).toInt64 + jv N (Y + 40) 0 - jv N (Y + 40) 1).toInt = (w0 : Int) + (jv N (Y + 40) 0).toInt - (jv N (Y + 40) 1).toInt := by rw [l_sb (by omega) (by omega), h1]
  have h3 : ((nI w0).toInt64 + jv N (Y + 40) 0 - jv N (Y + 40) 1 + jv N (Y + 40) 2).toInt = (w0 : Int) + (jv N (Y + 40) 0).toInt - (jv N (Y + 40) 1).toInt + (jv N (Y + 40) 2).toInt := by rw [l_ad (by omega) (by omega), h2]
  rw [l_sb (by omega) (by omega), h3]
  omega
theorem kept_s (h : JJ X Y O M N n ic τ c oc tc sc w0 m0 q cc) (hc : c ≤ 512) : sL (fun k => iv N (Y + 23) k + iv N (Y + 23) (8 + k)) n = jv N (Y + 40) 4 - jv N (Y + 40) 5 - jv N (Y + 40) 6 := by
  have n8 := h.v.rr.n8
  obtain ⟨W, C, b, hW, hC⟩ := h.gb
  have a := h.k.a.2.2.1
  have hS := h.k.a.1
  have z4 := h.z hc 4 (by omega); have z5 := h.z hc 5 (by omega); have z6 := h.z hc 6 (by omega)
  have e := sL_e (fun k => iv N (Y + 23) k + iv N (Y + 23) (8 + k)) n (by omega)
  have e2 : sm (fun i => (iv N (Y + 23) i + iv N (Y + 23) (8 + i)).toInt) n = qS N Y n := by
    unfold qS
    refine sm_eq (fun i hi => ?_)
    have := b.w hi
    have := hS i (Or.inl hi); have := hS (8 + i) (Or.inr ⟨by omega, by omega⟩)
    exact i_add (by omega) (by omega)
  unfold qj at a
  refine l_ext ?_
  rw [e.1, e2]
  have h1 : (jv N (Y + 40) 4 - jv N (Y + 40) 5).toInt = (jv N (Y + 40) 4).toInt - (jv N (Y + 40) 5).toInt := l_sb (by omega) (by omega)
  rw [l_sb (by omega) (by omega), h1]
  omega
theorem kept_m (h : JJ X Y O M N n ic τ c oc tc sc w0 m0 q cc) (hc : c ≤ 512) : sL (fun k => iv N (Y + 19) k + iv N (Y + 18) k) n = (nI m0).toInt64 + jv N (Y + 40) 7 - jv N (Y + 40) 8 - jv N (Y + 40) 9 := by
  have n8 := h.v.rr.n8; have hm := h.m
  obtain ⟨W, C, b, hW, hC⟩ := h.gb
  have a := h.k.a.2.2.2.1
  have z7 := h.z hc 7 (by omega); have z8 := h.z hc 8 (by omega); have z9 := h.z hc 9 (by omega)
  have e := sL_e (fun k => iv N (Y + 19) k + iv N (Y + 18) k) n (by omega)
  have e2 : sm (fun i => (iv N (Y + 19) i + iv N (Y + 18) i).toInt) n = qM N Y n := by
    unfold qM
    refine sm_eq (fun i hi => ?_)
    have := b.c hi; have := b.mu i hi; have := b.cl i hi
    rw [i_add (by omega) (by omega)]; omega
  unfold qj at a
  have eI : (nI m0).toInt64.toInt = (m0 : Int) := by rw [Int32.toInt_toInt64, i_N (by omega)]
  refine l_ext ?_
  rw [e.1, e2]
  have h1 : ((nI m0).toInt64 + jv N (Y + 40) 7).toInt = (m0 : Int) + (jv N (Y + 40) 7).toInt := by rw [l_ad (by omega) (by omega), eI]
  have h2 : ((nI m0).toInt64 + jv N (Y + 40) 7 - jv N (Y + 40) 8).toInt = (m0 : Int) + (jv N (Y + 40) 7).toInt - (jv N (Y + 40) 8).toInt := by rw [l_sb (by omega) (by omega), h1]
  rw [l_sb (by omega) (by omega), h2]
  omega
theorem kept_30 (h : JJ X Y O M N n ic τ c oc tc sc w0 m0 q cc) (hc : c ≤ 512) : jv N (Y + 40) 4 = 30 * jv N (Y + 40) 0 := by
  have a := h.k.a.2.2.2.2.1
  have z0 := h.z hc 0 (by omega); have z4 := h.z hc 4 (by omega)
  unfold qj at a
  have e : (30 : Int64).toInt = 30 := by decide
  refine l_ext ?_
  rw [l_mu (by rw [e]; omega) (by rw [e]; omega), e]
  exact a
theorem kept_t (h : JJ X Y O M N n ic τ c oc tc sc w0 m0 q cc) (hc : c ≤ 512) : sL (fun k => iv N (Y + 32) k) ic = jv N (Y + 40) 3 := by
  have i6 := h.v.rr.i6
  have a := h.k.a.2.2.2.2.2.1
  have e := sL_e (fun k => iv N (Y + 32) k) ic (by omega)
  unfold qj qT at a
  refine l_ext ?_
  rw [e.1]; exact a
/-- of one section -/
theorem kept_1 (h : JJ X Y O M N n ic τ c oc tc sc w0 m0 q cc) {k : Nat} (hk : k < n) : (g_sal N Y 0 k).toInt ≤ 30 ∧ (g_sal N Y 1 k).toInt ≤ 30 ∧ 0 ≤ (iv N (Y + 23) k).toInt ∧ 0 ≤ (iv N (Y + 23) (8 + k)).toInt ∧ 0 ≤ (iv N (Y + 19) k).toInt := by
  have n8 := h.v.rr.n8
  obtain ⟨W, C, b, hW, hC⟩ := h.gb
  have hS := h.k.a.1
  exact ⟨(sl_0 hS b hk n8 (Or.inl rfl)).2, (sl_0 hS b hk n8 (Or.inr rfl)).2, (hS k (Or.inl hk)).1, (hS (8 + k) (Or.inr ⟨by omega, by omega⟩)).1, b.cl k hk⟩
/-- of one intake -/
theorem kept_2 (h : JJ X Y O M N n ic τ c oc tc sc w0 m0 q cc) {k : Nat} (hk : k < ic) : 0 ≤ (iv N (Y + 31) k).toInt ∧ (iv N (Y + 31) k).toInt ≤ (iv N (Y + 29) k).toInt ∧ (if iv N (Y + 35) k = 0 then (0 : Int32) else 1).toInt ≤ (iv N (Y + 34) k).toInt ∧ (iv N (Y + 34) k).toInt ≤ τ := by
  obtain ⟨a1, a2, a3, a4, a5, a6, a7, a8, a9⟩ := h.k.i k hk
  refine ⟨h.v.rr.gi.ke k hk, h.v.rr.gi.ro k hk, ?_, a9⟩
  rcases a7 with z | z
  · rw [if_pos z, i_0]; rw [z, i_0] at a8; exact a8
  · rw [if_neg (by rw [z]; decide), i_1]; rw [z, i_1] at a8; exact a8
end JJs
