/-! a whole hour -/
theorem Rc.M2 {M M' : w_M} {B : Nat} {N : w_M} {Y n ic : Nat} {T : Nat → Nat → Int32} (h : Rc M B N Y n ic T) (e : ∀ a j, (a = B ∧ (j = 7 ∨ j = 8)) ∨ B + 100 ≤ a → iv M' a j = iv M a j) (ej : ∀ j, jv M' (B + 5) j = jv M (B + 5) j) : Rc M' B N Y n ic T :=
  ⟨fun i hi => by rw [e _ _ (by omega)]; exact h.ar i hi, fun i hi => by rw [e _ _ (by omega)]; exact h.mu i hi, fun i hi => by rw [e _ _ (by omega)]; exact h.cl i hi, fun i hi => by rw [e _ _ (by omega)]; exact h.ru i hi, fun i hi => by rw [e _ _ (by omega)]; exact h.pe i hi, fun i hi => by rw [e _ _ (by omega)]; exact h.wu i hi, fun i hi => by rw [e _ _ (by omega)]; exact h.su i hi, fun i hi => by rw [e _ _ (by omega)]; exact h.wl i hi, fun i hi => by rw [e _ _ (by omega)]; exact h.sl i hi, fun i hi => by rw [ej]; exact h.sm i hi, fun k hk j hj => by rw [e _ _ (by omega)]; exact h.it k hk j hj, by rw [e _ _ (by omega)]; exact h.rw, by rw [e _ _ (by omega)]; exact h.rs, fun i hi j => by rw [e _ _ (by omega)]; exact h.ta i hi j⟩
theorem Rc.N2 {M : w_M} {B : Nat} {N N' : w_M} {Y n ic : Nat} {T : Nat → Nat → Int32} (h : Rc M B N Y n ic T) (e : ∀ a j, (a = Y ∧ (j = 8 ∨ j = 9)) ∨ (Y + 17 ≤ a ∧ a ≤ Y + 23) ∨ (Y + 26 ≤ a ∧ a ≤ Y + 35) → iv N' a j = iv N a j) (ej : ∀ j, jv N' (Y + 40) j = jv N (Y + 40) j) : Rc M B N' Y n ic T :=
  ⟨fun i hi => by rw [e _ _ (by omega)]; exact h.ar i hi, fun i hi => by rw [e _ _ (by omega)]; exact h.mu i hi, fun i hi => by rw [e _ _ (by omega)]; exact h.cl i hi, fun i hi => by rw [e _ _ (by omega)]; exact h.ru i hi, fun i hi => by rw [e _ _ (by omega)]; exact h.pe i hi, fun i hi => by rw [e _ _ (by omega)]; exact h.wu i hi, fun i hi => by rw [e _ _ (by omega)]; exact h.su i hi, fun i hi => by rw [e _ _ (by omega)]; exact h.wl i hi, fun i hi => by rw [e _ _ (by omega)]; exact h.sl i hi, fun i hi => by rw [ej]; exact h.sm i hi, fun k hk j hj => by rw [e _ _ (by omega)]; exact h.it k hk j hj, by rw [e _ _ (by omega)]; exact h.rw, by rw [e _ _ (by omega)]; exact h.rs, h.ta⟩
theorem look_j {M : w_M} {k s0 t a j : Nat} : jv (m_look M k s0 t) a j = jv M a j := by
  unfold m_look; split
  · have e : ∀ M1 : w_M, jv (m_lk3 M1 k s0 t) a j = jv M1 a j := fun M1 => by unfold m_lk3; split <;> rfl
    rw [e]; split <;> rfl
  · rfl
theorem cl_j {N : w_M} {Y a j : Nat} {x : Int32} : jv (g_cl N Y x) a j = jv N a j := by
  unfold g_cl g_c2 g_c1; split <;> rfl
theorem c0_j {N : w_M} {Y a j : Nat} {x : Int32} : jv (g_c0 N Y x) a j = jv N a j := by
  unfold g_c0; split
  · exact cl_j
  · rfl
theorem c0_o {N : w_M} {Y a j : Nat} {x : Int32} (h1 : a ≠ Y ∨ j ≠ 12) (h2 : a ≠ Y + 13) (h3 : a ≠ Y + 14) (h4 : a ≠ Y + 15) : iv (g_c0 N Y x) a j = iv N a j := by
  unfold g_c0; split
  · exact cl_o h1 h2 h3 h4
  · rfl
theorem ts_j {N : w_M} {Y t a j : Nat} : ∀ i, jv (g_ts N Y t i) a j = jv N a j
  | 0 => rfl
  | i + 1 => by rw [g_ts, jv_wi', ts_j i]
theorem ts_24 {N : w_M} {Y t : Nat} (ht : t < 1001) : ∀ i s τ, τ < 1001 → iv (g_ts N Y t i) (Y + 24) (1001 * s + τ) = if s < i ∧ τ = t then g_sal N Y 1 s else iv N (Y + 24) (1001 * s + τ)
  | 0, s, τ, hτ => by rw [if_neg (by omega)]; rfl
  | i + 1, s, τ, hτ => by
    rw [g_ts]
    by_cases q : s = i ∧ τ = t
    · obtain ⟨rfl, rfl⟩ := q
      rw [iv_s, if_pos (by omega)]
      unfold g_sal; rw [ts_o (by omega), ts_o (by omega)]
    · rw [iv_n (by omega), ts_24 ht i s τ hτ]
      by_cases q2 : s < i ∧ τ = t
      · rw [if_pos q2, if_pos (by omega)]
      · rw [if_neg q2, if_neg (by omega)]
theorem hour_lk {M : w_M} {B n ic t a j : Nat} {x : Int32} (h : a < B + 100) (h8 : a ≠ B + 8) : iv (m_hour M B n ic t x) a j = iv (m_look (m_r0 M B n) (B + 2) (B + 1) t) a j := by
  unfold m_hour
  rw [iv_n (by omega), lo_eh n a h, lo_srv ic a h, lo_mx n a h, lo_lv (n - 1) a h, lo_ab a h]
theorem hour_8 {M : w_M} {B n ic t τ : Nat} {x : Int32} : iv (m_hour M B n ic t x) (B + 8) τ = if τ = t then x else iv M (B + 8) τ := by
  have h : B + 8 < B + 100 := by omega
  unfold m_hour
  by_cases q : τ = t
  · subst q; rw [iv_s, if_pos rfl]
  · rw [iv_n (by omega), if_neg q, lo_eh n _ h, lo_srv ic _ h, lo_mx n _ h, lo_lv (n - 1) _ h, lo_ab _ h, ne_look (by omega) (by omega) (by omega) (by omega), lo_r0 n _ h]
theorem hrn_c {N : w_M} {Y n ic t a j : Nat} {x : Int32} (hk : kpA Y a ∨ (a = Y ∧ j ≠ 41 ∧ j ≠ 42)) (h1 : a ≠ Y ∨ j ≠ 1) (h2 : a ≠ Y + 7) (h3 : a ≠ Y + 24) : iv (g_hrn N Y n ic t x) a j = iv (g_c0 (g_r0 N Y n) Y x) a j := by
  unfold g_hrn g_e1 g_e2 g_e3 g_e4
  rw [ts_ok h1 h2 h3]
  have k := kp_mid (M := g_c0 (g_r0 N Y n) Y x) (Y := Y) (n := n) (ic := ic) (sh := g_shut (g_r0 N Y n) Y) (h := x)
  rcases hk with q | ⟨rfl, q1, q2⟩
  · exact k.2 a q j
  · exact k.1 j q1 q2
/-- what an intake that isn't there yet has -/
def kq (Y ic : Nat) (N N' : w_M) : Prop := ∀ a, 31 ≤ a → a ≤ 35 → ∀ k, ic ≤ k → iv N' (Y + a) k = iv N (Y + a) k
theorem kq.rf {Y ic : Nat} {N : w_M} : kq Y ic N N := fun _ _ _ _ _ => rfl
theorem kq.tr {Y ic : Nat} {N N1 N2 : w_M} (h : kq Y ic N N1) (h2 : kq Y ic N1 N2) : kq Y ic N N2 := fun a a1 a2 k hk => (h2 a a1 a2 k hk).trans (h a a1 a2 k hk)
theorem kq_wi {Y ic a j : Nat} {N : w_M} {x : Int32} (h : a < Y + 31 ∨ Y + 35 < a) : kq Y ic N (wi N a j x) := fun b b1 b2 k hk => iv_n (by omega)
theorem kq_fl0 {Y ic s t : Nat} {N : w_M} {f : Int32} : kq Y ic N (g_fl N Y 0 s t f) := fun b b1 b2 k hk => fl0_o (by omega) (by omega) (by omega) (by omega)
theorem kq_fl1 {Y ic s t : Nat} {N : w_M} {f : Int32} : kq Y ic N (g_fl N Y 1 s t f) := fun b b1 b2 k hk => fl1_o (by omega) (by omega) (by omega)
theorem kq_nr {Y ic k : Nat} {N : w_M} {f : Int32} : kq Y ic N (g_nr N Y k f) := (kq_wi (by omega)).tr (kq_wi (by omega))
theorem kq_n1 {Y ic k : Nat} {N : w_M} : kq Y ic N (g_n1 N Y k) := by
  rw [g_n1_e]; split
  · exact kq_fl1.tr kq_nr
  · exact kq_fl0.tr kq_nr
theorem kq_n2 {Y ic k : Nat} {N : w_M} : kq Y ic N (g_n2 N Y k) := by
  rw [g_n2_e]; split
  · exact kq_fl1.tr kq_fl0
  · exact kq.rf
theorem kq_nbs {Y ic : Nat} {N : w_M} : ∀ i, kq Y ic N (g_nbs N Y i)
  | 0 => kq.rf
  | i + 1 => ((kq_nbs i).tr kq_n1).tr kq_n2
theorem kq_r0 {Y ic : Nat} {N : w_M} : ∀ i, kq Y ic N (g_r0 N Y i)
  | 0 => kq.rf
  | i + 1 => (kq_r0 i).tr (kq_wi (by omega))
theorem kq_mxs {Y ic : Nat} {N : w_M} : ∀ i, kq Y ic N (g_mxs N Y i)
  | 0 => kq.rf
  | i + 1 => (kq_mxs i).tr (fun b b1 b2 k hk => mx_run (by omega))
theorem kq_s1 {Y ic s : Nat} {N : w_M} : kq Y ic N (g_s1 N Y s) := by
  unfold g_s1; split
  · exact (kq_wi (by omega)).tr (kq_wi (by omega))
  · exact kq.rf
theorem kq_s2 {Y ic s : Nat} {N : w_M} : kq Y ic N (g_s2 N Y s) := by
  unfold g_s2; split
  · exact (kq_wi (by omega)).tr (kq_wi (by omega))
  · exact kq.rf
theorem kq_sts {Y ic : Nat} {N : w_M} : ∀ i, kq Y ic N (g_sts N Y i)
  | 0 => kq.rf
  | i + 1 => ((kq_sts i).tr kq_s1).tr kq_s2
theorem kq_dr {Y ic k s : Nat} {N : w_M} (hk : k < ic) : kq Y ic N (g_dr N Y k s) := fun b b1 b2 i hi => by
  by_cases hd : g_ds N Y k s = 0
  · rw [dr_0 hd, d3_o (by omega), d2_o (by omega) (by omega) (by omega), d1_o (by omega)]
  · rw [dr_1 hd, d3_o (by omega), d1_o (by omega)]
theorem kq_drs {Y ic : Nat} {N : w_M} : ∀ i, i ≤ ic → kq Y ic N (g_drs N Y i)
  | 0, _ => kq.rf
  | i + 1, hi => (kq_drs i (by omega)).tr (kq_dr (by omega))
theorem kq_mo {Y ic : Nat} {N : w_M} {x : Int32} : kq Y ic N (g_mo N Y x) := by
  rw [g_mo_e]; split
  · exact fun b b1 b2 k hk => by unfold g_mo1 g_a; simp (disch := omega) only [iv_gsadd, iv_n]
  · exact fun b b1 b2 k hk => (show iv (g_lv N Y 0 0 (fq2 N Y x)) (Y + b) k = iv N (Y + b) k from lv0_o (by omega) (by omega) (by omega) (by omega))
theorem kq_ab {Y ic n : Nat} {N : w_M} {sh : Bool} {x : Int32} : kq Y ic N (g_ab N Y n sh x) := by
  have rv : ∀ N1 : w_M, kq Y ic N1 (g_rv N1 Y n) := fun N1 b b1 b2 k hk => by unfold g_rv g_rv4 g_rv3 g_rv2 g_rv1 g_a; simp (disch := omega) only [iv_gsadd, iv_n]
  unfold g_ab; split
  · exact kq.rf
  · split
    · exact rv _
    · exact kq_mo.tr (rv _)
theorem kq_hrn {Y n ic t : Nat} {N : w_M} {x : Int32} : kq Y ic N (g_hrn N Y n ic t x) := by
  intro b b1 b2 k hk
  unfold g_hrn g_e1 g_e2 g_e3 g_e4 g_e5
  rw [iv_n (by omega), iv_n (by omega), ts_o (by omega)]
  have z : kq Y ic N (g_drs (g_sts (g_mxs (g_nbs (g_ab (g_c0 (g_r0 N Y n) Y x) Y n (g_shut (g_r0 N Y n) Y) x) Y (n - 1)) Y n) Y n) Y ic) :=
    (((((((kq_r0 n).tr (fun b b1 b2 k hk => c0_o (by omega) (by omega) (by omega) (by omega))).tr kq_ab).tr (kq_nbs _)).tr (kq_mxs _)).tr (kq_sts _)).tr (kq_drs _ (Nat.le_refl _)))
  exact z b b1 b2 k hk
/-- a mouth of the class and the reference -/
def RR (M : w_M) (B : Nat) (N : w_M) (Y n ic t : Nat) : Prop := (n ≤ 8) ∧ (ic ≤ 6) ∧ (t ≤ 1000) ∧ (iv M B 5 = nI n) ∧ (iv M B 6 = nI ic) ∧ (iv M B 9 = nI t) ∧ (iv N Y 16 = nI n) ∧ (iv N Y 25 = nI ic) ∧ (iv N Y 1 = nI t) ∧ (Rc M B N Y n ic (fun s j => iv M (B + 100 + s + 40) j)) ∧ (∀ s, s < n → ∀ τ, τ < t → t ≤ τ + 24 → iv M (B + 100 + s + 40) (τ % 24) = iv N (Y + 24) (1001 * s + τ)) ∧ (gB N Y n (20000 * n + 120500 * t) (10000 * n + 500 * t)) ∧ (gI N Y n ic) ∧ (Rt M B N Y) ∧ (gT N Y) ∧ (0 ≤ (iv N Y 8).toInt) ∧ ((iv N Y 8).toInt ≤ 500) ∧ (0 ≤ (iv N Y 9).toInt) ∧ ((iv N Y 9).toInt ≤ 500) ∧ (∀ τ, τ < t → iv M (B + 8) τ = iv N (Y + 7) τ) ∧ (Rb M B N Y t) ∧ (cB (iv N Y 11) 12) ∧ (t = 0 → ∀ s, n ≤ s → s < 8 → iv N (Y + 19) s = 0 ∧ iv N (Y + 20) s = 0 ∧ iv N (Y + 21) s = 0 ∧ iv N (Y + 23) s = 0 ∧ iv N (Y + 23) (8 + s) = 0) ∧ (∀ k, ic ≤ k → ∀ a, 31 ≤ a → a ≤ 35 → iv N (Y + a) k = 0)
theorem RR.n8 {M : w_M} {B : Nat} {N : w_M} {Y n ic t : Nat} (h : RR M B N Y n ic t) : n ≤ 8 := h.1
theorem RR.i6 {M : w_M} {B : Nat} {N : w_M} {Y n ic t : Nat} (h : RR M B N Y n ic t) : ic ≤ 6 := h.2.1
theorem RR.t1 {M : w_M} {B : Nat} {N : w_M} {Y n ic t : Nat} (h : RR M B N Y n ic t) : t ≤ 1000 := h.2.2.1
theorem RR.Mn {M : w_M} {B : Nat} {N : w_M} {Y n ic t : Nat} (h : RR M B N Y n ic t) : iv M B 5 = nI n := h.2.2.2.1
theorem RR.Mi {M : w_M} {B : Nat} {N : w_M} {Y n ic t : Nat} (h : RR M B N Y n ic t) : iv M B 6 = nI ic := h.2.2.2.2.1
theorem RR.Mt {M : w_M} {B : Nat} {N : w_M} {Y n ic t : Nat} (h : RR M B N Y n ic t) : iv M B 9 = nI t := h.2.2.2.2.2.1
theorem RR.Nn {M : w_M} {B : Nat} {N : w_M} {Y n ic t : Nat} (h : RR M B N Y n ic t) : iv N Y 16 = nI n := h.2.2.2.2.2.2.1
theorem RR.Ni {M : w_M} {B : Nat} {N : w_M} {Y n ic t : Nat} (h : RR M B N Y n ic t) : iv N Y 25 = nI ic := h.2.2.2.2.2.2.2.1
theorem RR.Nt {M : w_M} {B : Nat} {N : w_M} {Y n ic t : Nat} (h : RR M B N Y n ic t) : iv N Y 1 = nI t := h.2.2.2.2.2.2.2.2.1
theorem RR.rc {M : w_M} {B : Nat} {N : w_M} {Y n ic t : Nat} (h : RR M B N Y n ic t) : Rc M B N Y n ic (fun s j => iv M (B + 100 + s + 40) j) := h.2.2.2.2.2.2.2.2.2.1
theorem RR.ta {M : w_M} {B : Nat} {N : w_M} {Y n ic t : Nat} (h : RR M B N Y n ic t) : ∀ s, s < n → ∀ τ, τ < t → t ≤ τ + 24 → iv M (B + 100 + s + 40) (τ % 24) = iv N (Y + 24) (1001 * s + τ) := h.2.2.2.2.2.2.2.2.2.2.1
theorem RR.b {M : w_M} {B : Nat} {N : w_M} {Y n ic t : Nat} (h : RR M B N Y n ic t) : gB N Y n (20000 * n + 120500 * t) (10000 * n + 500 * t) := h.2.2.2.2.2.2.2.2.2.2.2.1
theorem RR.gi {M : w_M} {B : Nat} {N : w_M} {Y n ic t : Nat} (h : RR M B N Y n ic t) : gI N Y n ic := h.2.2.2.2.2.2.2.2.2.2.2.2.1
theorem RR.rt {M : w_M} {B : Nat} {N : w_M} {Y n ic t : Nat} (h : RR M B N Y n ic t) : Rt M B N Y := h.2.2.2.2.2.2.2.2.2.2.2.2.2.1
theorem RR.gt {M : w_M} {B : Nat} {N : w_M} {Y n ic t : Nat} (h : RR M B N Y n ic t) : gT N Y := h.2.2.2.2.2.2.2.2.2.2.2.2.2.2.1
theorem RR.w0 {M : w_M} {B : Nat} {N : w_M} {Y n ic t : Nat} (h : RR M B N Y n ic t) : 0 ≤ (iv N Y 8).toInt := h.2.2.2.2.2.2.2.2.2.2.2.2.2.2.2.1
theorem RR.w1 {M : w_M} {B : Nat} {N : w_M} {Y n ic t : Nat} (h : RR M B N Y n ic t) : (iv N Y 8).toInt ≤ 500 := h.2.2.2.2.2.2.2.2.2.2.2.2.2.2.2.2.1
theorem RR.s0 {M : w_M} {B : Nat} {N : w_M} {Y n ic t : Nat} (h : RR M B N Y n ic t) : 0 ≤ (iv N Y 9).toInt := h.2.2.2.2.2.2.2.2.2.2.2.2.2.2.2.2.2.1
theorem RR.s1 {M : w_M} {B : Nat} {N : w_M} {Y n ic t : Nat} (h : RR M B N Y n ic t) : (iv N Y 9).toInt ≤ 500 := h.2.2.2.2.2.2.2.2.2.2.2.2.2.2.2.2.2.2.1
theorem RR.pa {M : w_M} {B : Nat} {N : w_M} {Y n ic t : Nat} (h : RR M B N Y n ic t) : ∀ τ, τ < t → iv M (B + 8) τ = iv N (Y + 7) τ := h.2.2.2.2.2.2.2.2.2.2.2.2.2.2.2.2.2.2.2.1
theorem RR.rb {M : w_M} {B : Nat} {N : w_M} {Y n ic t : Nat} (h : RR M B N Y n ic t) : Rb M B N Y t := h.2.2.2.2.2.2.2.2.2.2.2.2.2.2.2.2.2.2.2.2.1
theorem RR.ld {M : w_M} {B : Nat} {N : w_M} {Y n ic t : Nat} (h : RR M B N Y n ic t) : cB (iv N Y 11) 12 := h.2.2.2.2.2.2.2.2.2.2.2.2.2.2.2.2.2.2.2.2.2.1
theorem RR.zs {M : w_M} {B : Nat} {N : w_M} {Y n ic t : Nat} (h : RR M B N Y n ic t) : t = 0 → ∀ s, n ≤ s → s < 8 → iv N (Y + 19) s = 0 ∧ iv N (Y + 20) s = 0 ∧ iv N (Y + 21) s = 0 ∧ iv N (Y + 23) s = 0 ∧ iv N (Y + 23) (8 + s) = 0 := h.2.2.2.2.2.2.2.2.2.2.2.2.2.2.2.2.2.2.2.2.2.2.1
theorem RR.zi {M : w_M} {B : Nat} {N : w_M} {Y n ic t : Nat} (h : RR M B N Y n ic t) : ∀ k, ic ≤ k → ∀ a, 31 ≤ a → a ≤ 35 → iv N (Y + a) k = 0 := h.2.2.2.2.2.2.2.2.2.2.2.2.2.2.2.2.2.2.2.2.2.2.2
theorem RR_hour {M : w_M} {B : Nat} {N : w_M} {Y n ic t : Nat} (h : RR M B N Y n ic t) (ht : t < 1000) : RR (m_hr M B) B (g_hour N Y) Y n ic (t + 1) := by
  have hn := h.n8; have hi := h.i6
  have eN0 : cN (iv N Y 16) = n := by rw [h.Nn]; exact cN_nI (by omega)
  have eN1 : cN (iv N Y 25) = ic := by rw [h.Ni]; exact cN_nI (by omega)
  have eN2 : cN (iv N Y 1) = t := by rw [h.Nt]; exact cN_nI (by omega)
  have eM0 : cN (iv M B 5) = n := by rw [h.Mn]; exact cN_nI (by omega)
  have eM1 : cN (iv M B 6) = ic := by rw [h.Mi]; exact cN_nI (by omega)
  have eM2 : cN (iv M B 9) = t := by rw [h.Mt]; exact cN_nI (by omega)
  obtain ⟨x, hx⟩ : ∃ x, x = g_for N Y (nI t) := ⟨_, rfl⟩
  have xb : -1000 ≤ x.toInt ∧ x.toInt ≤ 2400 := by rw [hx]; exact for_b h.gt (by rw [i_N (by omega)]; omega) (by rw [i_N (by omega)]; omega)
  have eM : m_hr M B = wi (m_hour M B n ic t x) B 9 (nI (t + 1)) := by
    unfold m_hr; rw [eM0, eM1, eM2, for_e _ h.rt h.gt, ← hx]
  have eN : g_hour N Y = g_hrn N Y n ic t x := by
    unfold g_hour; rw [eN0, eN1, eN2]
    have : g_sea N Y t = x := by unfold g_sea; rw [eN2, if_neg (by omega), ← hx]
    rw [this]
  have hW : (20000 * n + 120500 * t : Int) < 2 ^ 28 := by omega
  have hC : (10000 * n + 500 * t : Int) < 2 ^ 28 := by omega
  -- the runs
  have c1 := Rc_r0 h.rc hn n (Nat.le_refl _)
  have b1 := gB_r0 h.b n
  have l1 : ∀ a, a < B + 100 → ∀ j, iv (m_r0 M B n) a j = iv M a j := fun a ha j => lo_r0 n a ha j
  have k1 : ∀ a j, a ≠ Y + 20 → iv (g_r0 N Y n) a j = iv N a j := by
    intro a j ha
    have : ∀ i, iv (g_r0 N Y i) a j = iv N a j := by
      intro i; induction i with
      | zero => rfl
      | succ i ih => rw [g_r0, iv_n (by omega), ih]
    exact this n
  have rt1 : Rt (m_r0 M B n) B (g_r0 N Y n) Y := (h.rt.M h.gt (fun a ha j => l1 a (by omega) j)).N (k1 _ _ (by omega)) (k1 _ _ (by omega)) (k1 _ _ (by omega)) (fun j => k1 _ _ (by omega)) (fun j => k1 _ _ (by omega))
  have gt1 : gT (g_r0 N Y n) Y := h.gt.e (k1 _ _ (by omega)) (k1 _ _ (by omega)) (k1 _ _ (by omega)) (fun j => k1 _ _ (by omega)) (fun j => k1 _ _ (by omega))
  have ego : g_go (g_r0 N Y n) Y = g_go N Y := by unfold g_go; rw [k1 _ _ (by omega), k1 _ _ (by omega), k1 _ _ (by omega)]
  have rb1 : Rb (m_r0 M B n) B (g_r0 N Y n) Y t := by
    have r := h.rb
    refine ⟨?_, ?_, ?_, ?_, ?_, ?_, ?_, ?_, ?_, ?_⟩
    · rw [l1 _ (by omega), k1 _ _ (by omega)]; exact r.mk9
    · rw [l1 _ (by omega), k1 _ _ (by omega)]; exact r.ld
    · rw [l1 _ (by omega), k1 _ _ (by omega)]; exact r.cc
    · rw [k1 _ _ (by omega)]; exact r.c5
    · rw [k1 _ _ (by omega)]; intro i hi; rw [l1 _ (by omega), k1 _ _ (by omega)]; exact r.fi i hi
    · rw [k1 _ _ (by omega)]; intro i hi; rw [l1 _ (by omega), k1 _ _ (by omega)]; exact r.la i hi
    · rw [k1 _ _ (by omega)]; intro i hi; rw [l1 _ (by omega), k1 _ _ (by omega)]; exact r.ri i hi
    · rw [k1 _ _ (by omega)]; intro i hi; rw [k1 _ _ (by omega)]; exact r.z i hi
    · rw [l1 _ (by omega), ego]; exact r.go
    · rw [k1 _ _ (by omega), k1 _ _ (by omega)]; exact r.v
  have ht1 : iv (g_r0 N Y n) Y 1 = nI t := by rw [k1 _ _ (by omega)]; exact h.Nt
  have hx1 : x = g_for (g_r0 N Y n) Y (nI t) := by rw [← for_e _ rt1 gt1, for_e _ ((h.rt.M h.gt (fun a ha j => l1 a (by omega) j))) h.gt]; exact hx
  have sh := clo_e rb1 rt1 gt1 ht1 ht
  -- the look
  generalize hM2 : m_look (m_r0 M B n) (B + 2) (B + 1) t = M2
  generalize hN2 : g_c0 (g_r0 N Y n) Y x = N2
  have c2 : Rc M2 B N2 Y n ic (fun s j => iv M (B + 100 + s + 40) j) := by
    rw [← hM2, ← hN2]
    exact (c1.M2 (fun a j q => ne_look (by omega) (by omega) (by omega) (by omega)) (fun j => look_j)).N2 (fun a j q => c0_o (by omega) (by omega) (by omega) (by omega)) (fun j => c0_j)
  have b2 : gB N2 Y n (20000 * n + 120500 * t) (10000 * n + 500 * t) := by
    rw [← hN2]; exact b1.same (fun i => c0_o (by omega) (by omega) (by omega) (by omega)) (fun i => c0_o (by omega) (by omega) (by omega) (by omega)) (fun i => c0_o (by omega) (by omega) (by omega) (by omega)) (fun i => c0_o (by omega) (by omega) (by omega) (by omega))
  have o2 : ∀ a j, (a ≠ Y ∨ j ≠ 12) → a ≠ Y + 13 → a ≠ Y + 14 → a ≠ Y + 15 → a ≠ Y + 20 → iv N2 a j = iv N a j := fun a j q1 q2 q3 q4 q5 => by
    rw [← hN2, c0_o q1 q2 q3 q4, k1 _ _ q5]
  have f2 : iv M2 (B + 2) 6 = 0 ↔ g_shut (g_r0 N Y n) Y = false := by rw [← hM2, lk_6, sh]
  have m25 : iv M2 B 5 = nI n := by rw [← hM2, ne_look (by omega) (by omega) (by omega) (by omega), l1 _ (by omega)]; exact h.Mn
  -- the sea, the river
  generalize hM3 : m_ab M2 B n x = M3
  generalize hN3 : g_ab N2 Y n (g_shut (g_r0 N Y n) Y) x = N3
  have g2 : gI N2 Y n ic := h.gi.same (fun a a1 a2 k => o2 _ _ (by omega) (by omega) (by omega) (by omega) (by omega))
  have c3 : Rc M3 B N3 Y n ic (fun s j => iv M (B + 100 + s + 40) j) ∧ gB N3 Y n (20000 * n + 120500 * t + 120500) (10000 * n + 500 * t + 500) := by
    rw [← hM3, ← hN3]; unfold m_ab g_ab
    by_cases n0 : n = 0
    · rw [if_pos n0, if_pos n0]; exact ⟨c2, b2.mono (by omega) (by omega)⟩
    · rw [if_neg n0, if_neg n0]
      have w8 : iv N2 Y 8 = iv N Y 8 := o2 _ _ (by omega) (by omega) (by omega) (by omega) (by omega)
      have w9 : iv N2 Y 9 = iv N Y 9 := o2 _ _ (by omega) (by omega) (by omega) (by omega) (by omega)
      have hw0 := h.w0; have hw1 := h.w1; have hs0 := h.s0; have hs1 := h.s1
      cases hs : g_shut (g_r0 N Y n) Y
      · rw [if_pos (f2.mpr hs), if_neg (by decide)]
        have b3 := gB_mo b2 (show 0 < n by omega) hn hW hC xb.1 xb.2
        have v8 : iv (g_mo N2 Y x) Y 8 = iv N Y 8 := by rw [kp_mo.1 8 (by omega) (by omega)]; exact w8
        have v9 : iv (g_mo N2 Y x) Y 9 = iv N Y 9 := by rw [kp_mo.1 9 (by omega) (by omega)]; exact w9
        exact ⟨Rc_riv (Rc_sea c2 b2 hn (by omega) hW hC xb.1 xb.2) hn (by omega), (gB_rv b3 (by omega) hn (by omega) hC (by rw [v8]; exact hw0) (by rw [v8]; exact hw1) (by rw [v9]; exact hs0) (by rw [v9]; exact hs1)).mono (by omega) (by omega)⟩
      · rw [if_neg (fun q => by rw [f2.mp q] at hs; exact absurd hs (by decide)), if_pos rfl]
        exact ⟨Rc_riv c2 hn (by omega), (gB_rv b2 (by omega) hn hW hC (by rw [w8]; exact hw0) (by rw [w8]; exact hw1) (by rw [w9]; exact hs0) (by rw [w9]; exact hs1)).mono (by omega) (by omega)⟩
  obtain ⟨c3, b3⟩ := c3
  have hW3 : (20000 * n + 120500 * t + 120500 : Int) < 2 ^ 28 := by omega
  have hC3 : (10000 * n + 500 * t + 500 : Int) < 2 ^ 28 := by omega
  have g3 : gI N3 Y n ic := by
    rw [← hN3]
    refine ⟨fun k hk => ?_, fun k hk => ?_, fun k hk => ?_, fun k hk => ?_, fun k hk => ?_⟩
    · rw [kp_ab.2 _ (by unfold kpA; omega)]; exact g2.at9 k hk
    · rw [kp_ab.2 _ (by unfold kpA; omega)]; exact g2.ra k hk
    · rw [kp_ab.2 _ (by unfold kpA; omega)]; exact g2.us k hk
    · rw [kq_ab (ic := 0) 31 (by omega) (by omega) k (by omega)]; exact g2.ke k hk
    · rw [kq_ab (ic := 0) 31 (by omega) (by omega) k (by omega), kp_ab.2 _ (by unfold kpA; omega)]; exact g2.ro k hk
  have m35 : iv M3 B 5 = nI n := by rw [← hM3, lo_ab B (by omega)]; exact m25
  -- the flows between neighbours, the mixing, the mud
  have c4 := Rc_lv c3 b3 hn hW3 hC3 (n - 1) (Nat.le_refl _)
  have b4 := gB_nbs b3 hn hW3 hC3 (n - 1) (Nat.le_refl _)
  have c5 := Rc_mx c4 b4 hC3 hn n (Nat.le_refl _)
  have b5 := gB_sts (gB_mxs b4 n) hC3 n (Nat.le_refl _)
  have g5 : gI (g_sts (g_mxs (g_nbs N3 Y (n - 1)) Y n) Y n) Y n ic := by
    have kk : kp Y N3 (g_sts (g_mxs (g_nbs N3 Y (n - 1)) Y n) Y n) := ((kp_nbs _).tr (kp_mxs _)).tr (kp_sts _)
    have qq : kq Y 0 N3 (g_sts (g_mxs (g_nbs N3 Y (n - 1)) Y n) Y n) := ((kq_nbs _).tr (kq_mxs _)).tr (kq_sts _)
    refine ⟨fun k hk => ?_, fun k hk => ?_, fun k hk => ?_, fun k hk => ?_, fun k hk => ?_⟩
    · rw [kk.2 _ (by unfold kpA; omega)]; exact g3.at9 k hk
    · rw [kk.2 _ (by unfold kpA; omega)]; exact g3.ra k hk
    · rw [kk.2 _ (by unfold kpA; omega)]; exact g3.us k hk
    · rw [qq 31 (by omega) (by omega) k (by omega)]; exact g3.ke k hk
    · rw [qq 31 (by omega) (by omega) k (by omega), kk.2 _ (by unfold kpA; omega)]; exact g3.ro k hk
  have m55 : iv (m_mx (m_lv M3 B (n - 1)) B n) B 5 = nI n := by rw [lo_mx n B (by omega), lo_lv (n - 1) B (by omega)]; exact m35
  obtain ⟨c6, b6, g6⟩ := Rc_srv c5 b5 g5 hn hi m55 ic (Nat.le_refl _)
  have c7 := Rc_eh (t := t) c6 b6 hn n (Nat.le_refl _)
  -- the end
  have eMh : m_hour M B n ic t x = wi (m_eh (m_srv (m_mx (m_lv M3 B (n - 1)) B n) B ic) B t n) (B + 8) t x := by
    unfold m_hour; rw [hM2, hM3]
  have eNh : g_hrn N Y n ic t x = g_e5 (g_drs (g_sts (g_mxs (g_nbs N3 Y (n - 1)) Y n) Y n) Y ic) Y n t x := by
    unfold g_hrn g_e1 g_e2 g_e3 g_e4; rw [hN2, hN3]
  have frM : ∀ a j, a ≠ B → iv (m_hr M B) a j = iv (m_hour M B n ic t x) a j := fun a j q => by rw [eM, iv_n (by omega)]
  have kA : ∀ a, (a < Y ∨ (Y < a ∧ a < Y + 18) ∨ a = Y + 21 ∨ (Y + 24 ≤ a ∧ a ≤ Y + 30) ∨ Y + 36 ≤ a) → kpA Y a := fun a q => by unfold kpA; omega
  have frN : ∀ a j, (kpA Y a ∨ (a = Y ∧ j ≠ 41 ∧ j ≠ 42)) → (a ≠ Y ∨ (j ≠ 1 ∧ j ≠ 12)) → a ≠ Y + 7 → a ≠ Y + 24 → a ≠ Y + 13 → a ≠ Y + 14 → a ≠ Y + 15 → iv (g_hour N Y) a j = iv N a j := fun a j q1 q2 q3 q4 q5 q6 q7 => by
    rw [eN]; exact hrn_o q1 q2 q3 q4 q5 q6 q7
  have N1' : iv (g_hour N Y) Y 1 = nI (t + 1) := by rw [eN]; exact hrn_1
  refine ⟨hn, hi, by omega, ?_, ?_, ?_, ?_, ?_, N1', ?_, ?_, ?_, ?_, ?_, ?_, ?_, ?_, ?_, ?_, ?_, ?_, ?_, ?_, ?_⟩
  · rw [hr_B (by omega)]; exact h.Mn
  · rw [hr_B (by omega)]; exact h.Mi
  · rw [hr_9, eM2]
  · rw [frN _ _ (Or.inr ⟨rfl, by omega, by omega⟩) (by omega) (by omega) (by omega) (by omega) (by omega) (by omega)]; exact h.Nn
  · rw [frN _ _ (Or.inr ⟨rfl, by omega, by omega⟩) (by omega) (by omega) (by omega) (by omega) (by omega) (by omega)]; exact h.Ni
  · rw [eN, eNh]; unfold g_e5
    have c8 := (c7.M2 (M' := m_hr M B) (fun a j q => by
      rw [eM, eMh]
      rcases q with ⟨rfl, q⟩ | q
      · rw [iv_n (by omega), iv_n (by omega)]
      · rw [iv_n (by omega), iv_n (by omega)]) (fun j => by rw [eM, eMh]; rfl)).N2 (N' := wi (wi (g_ts (g_drs (g_sts (g_mxs (g_nbs N3 Y (n - 1)) Y n) Y n) Y ic) Y t n) (Y + 7) t x) Y 1 (nI (t + 1))) (fun a j q => by
        rw [iv_n (by omega), iv_n (by omega), ts_o (by omega)]) (fun j => by rw [jv_wi', jv_wi', ts_j])
    exact ⟨c8.ar, c8.mu, c8.cl, c8.ru, c8.pe, c8.wu, c8.su, c8.wl, c8.sl, c8.sm, c8.it, c8.rw, c8.rs, fun s hs j => rfl⟩
  · intro s hs τ hτ h24
    have e1 : iv (m_hr M B) (B + 100 + s + 40) (τ % 24) = if s < n ∧ τ % 24 = t % 24 then g_sal (g_drs (g_sts (g_mxs (g_nbs N3 Y (n - 1)) Y n) Y n) Y ic) Y 1 s else iv M (B + 100 + s + 40) (τ % 24) := by
      rw [frM _ _ (by omega), eMh, iv_n (by omega)]; exact c7.ta s hs (τ % 24)
    have e2 : iv (g_hour N Y) (Y + 24) (1001 * s + τ) = if s < n ∧ τ = t then g_sal (g_drs (g_sts (g_mxs (g_nbs N3 Y (n - 1)) Y n) Y n) Y ic) Y 1 s else iv N (Y + 24) (1001 * s + τ) := by
      rw [eN, eNh]; unfold g_e5
      rw [iv_n (by omega), iv_n (by omega), ts_24 (by omega) n s τ (by omega)]
      have : iv (g_drs (g_sts (g_mxs (g_nbs N3 Y (n - 1)) Y n) Y n) Y ic) (Y + 24) (1001 * s + τ) = iv N (Y + 24) (1001 * s + τ) := by
        have kk : kp Y N3 (g_drs (g_sts (g_mxs (g_nbs N3 Y (n - 1)) Y n) Y n) Y ic) := (((kp_nbs _).tr (kp_mxs _)).tr (kp_sts _)).tr (kp_drs _)
        rw [kk.2 _ (kA _ (by omega)), ← hN3, kp_ab.2 _ (kA _ (by omega)), o2 _ _ (by omega) (by omega) (by omega) (by omega) (by omega)]
      rw [this]
    rw [e1, e2]
    by_cases q : τ = t
    · subst q; rw [if_pos ⟨hs, rfl⟩, if_pos ⟨hs, rfl⟩]
    · rw [if_neg (by omega), if_neg (by omega)]; exact h.ta s hs τ (by omega) (by omega)
  · rw [eN, eNh]; unfold g_e5
    refine (b6.same (fun i => ?_) (fun i => ?_) (fun i => ?_) (fun i => ?_)).mono (by omega) (by omega) <;> rw [iv_n (by omega), iv_n (by omega), ts_o (by omega)]
  · rw [eN, eNh]; unfold g_e5
    refine g6.same (fun a a1 a2 k => ?_)
    rw [iv_n (by omega), iv_n (by omega), ts_o (by omega)]
  · refine (h.rt.M h.gt (fun a ha j => ?_)).N ?_ ?_ ?_ (fun j => ?_) (fun j => ?_)
    · rw [frM _ _ (by omega), hour_mid (by omega) (by omega) (by omega) (by omega) (by omega) (by omega)]
    · exact frN _ _ (Or.inr ⟨rfl, by omega, by omega⟩) (by omega) (by omega) (by omega) (by omega) (by omega) (by omega)
    · exact frN _ _ (Or.inr ⟨rfl, by omega, by omega⟩) (by omega) (by omega) (by omega) (by omega) (by omega) (by omega)
    · exact frN _ _ (Or.inr ⟨rfl, by omega, by omega⟩) (by omega) (by omega) (by omega) (by omega) (by omega) (by omega)
    · exact frN _ _ (Or.inl (kA _ (by omega))) (by omega) (by omega) (by omega) (by omega) (by omega) (by omega)
    · exact frN _ _ (Or.inl (kA _ (by omega))) (by omega) (by omega) (by omega) (by omega) (by omega) (by omega)
  · refine h.gt.e ?_ ?_ ?_ (fun j => ?_) (fun j => ?_)
    · exact frN _ _ (Or.inr ⟨rfl, by omega, by omega⟩) (by omega) (by omega) (by omega) (by omega) (by omega) (by omega)
    · exact frN _ _ (Or.inr ⟨rfl, by omega, by omega⟩) (by omega) (by omega) (by omega) (by omega) (by omega) (by omega)
    · exact frN _ _ (Or.inr ⟨rfl, by omega, by omega⟩) (by omega) (by omega) (by omega) (by omega) (by omega) (by omega)
    · exact frN _ _ (Or.inl (kA _ (by omega))) (by omega) (by omega) (by omega) (by omega) (by omega) (by omega)
    · exact frN _ _ (Or.inl (kA _ (by omega))) (by omega) (by omega) (by omega) (by omega) (by omega) (by omega)
  · rw [frN _ _ (Or.inr ⟨rfl, by omega, by omega⟩) (by omega) (by omega) (by omega) (by omega) (by omega) (by omega)]; exact h.w0
  · rw [frN _ _ (Or.inr ⟨rfl, by omega, by omega⟩) (by omega) (by omega) (by omega) (by omega) (by omega) (by omega)]; exact h.w1
  · rw [frN _ _ (Or.inr ⟨rfl, by omega, by omega⟩) (by omega) (by omega) (by omega) (by omega) (by omega) (by omega)]; exact h.s0
  · rw [frN _ _ (Or.inr ⟨rfl, by omega, by omega⟩) (by omega) (by omega) (by omega) (by omega) (by omega) (by omega)]; exact h.s1
  · intro τ hτ
    rw [frM _ _ (by omega), hour_8]
    have e2 : iv (g_hour N Y) (Y + 7) τ = if τ = t then x else iv N (Y + 7) τ := by
      rw [eN, eNh]; unfold g_e5
      by_cases q : τ = t
      · subst q; rw [iv_n (by omega), iv_s, if_pos rfl]
      · rw [iv_n (by omega), iv_n (by omega), if_neg q, ts_o (by omega)]
        have kk : kp Y N3 (g_drs (g_sts (g_mxs (g_nbs N3 Y (n - 1)) Y n) Y n) Y ic) := (((kp_nbs _).tr (kp_mxs _)).tr (kp_sts _)).tr (kp_drs _)
        rw [kk.2 _ (kA _ (by omega)), ← hN3, kp_ab.2 _ (kA _ (by omega)), o2 _ _ (by omega) (by omega) (by omega) (by omega) (by omega)]
    rw [e2]
    by_cases q : τ = t
    · rw [if_pos q, if_pos q]
    · rw [if_neg q, if_neg q]; exact h.pa τ (by omega)
  · refine Rb_look rb1 rt1 gt1 ht1 ht hx1 (fun j => ?_) (fun a a1 a2 j => ?_) (fun j j1 j2 => ?_) (fun a a1 a2 j => ?_) N1'
    · rw [frM _ _ (by omega)]; exact hour_bar
    · rw [frM _ _ (by omega)]; exact hour_lk (by omega) (by omega)
    · rw [eN]; exact hrn_c (Or.inr ⟨rfl, by omega, by omega⟩) (by omega) (by omega) (by omega)
    · rw [eN]; exact hrn_c (Or.inl (kA _ (by omega))) (by omega) (by omega) (by omega)
  · rw [frN _ _ (Or.inr ⟨rfl, by omega, by omega⟩) (by omega) (by omega) (by omega) (by omega) (by omega) (by omega)]; exact h.ld
  · intro q; omega
  · intro k hk a a1 a2
    rw [eN, kq_hrn a a1 a2 k hk]; exact h.zi k hk a a1 a2
theorem RR_go {B : Nat} {Y n ic : Nat} : ∀ (c : Nat) {M N : w_M} {t : Nat}, RR M B N Y n ic t → t + c ≤ 1000 → RR (m_go M B c) B (g_gos N Y c) Y n ic (t + c)
  | 0, _, _, _, h, _ => h
  | c + 1, M, N, t, h, hc => by
    have r := RR_go c (RR_hour h (by omega)) (by omega)
    rw [m_go, g_gos, show t + (c + 1) = t + 1 + c by omega]; exact r
