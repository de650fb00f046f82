/-! the answers to questions are the same -/
theorem le9 {j : Nat} (h : j ≤ 9) : j = 0 ∨ j = 1 ∨ j = 2 ∨ j = 3 ∨ j = 4 ∨ j = 5 ∨ j = 6 ∨ j = 7 ∨ j = 8 ∨ j = 9 := by omega
theorem ans_e {M : w_M} {B : Nat} {N : w_M} {Y n ic s j : Nat} {T : Nat → Nat → Int32} {W C : Int} (h : Rc M B N Y n ic T) (b : gB N Y n W C) (hs : s < n) (hj : j ≤ 9) : s_ans M (B + 100 + s) j = gR_of N Y s (nI j) := by
  have e7 : f_sal (iv M (B + 100 + s + 20) 0) (iv M (B + 100 + s + 20) 1) = g_sal N Y 0 s := by
    unfold g_sal; rw [show 8 * 0 + s = s by omega, h.wu s hs, h.su s hs, sal_sl (b.wu s hs)]
  have e8 : f_sal (iv M (B + 100 + s + 30) 0) (iv M (B + 100 + s + 30) 1) = g_sal N Y 1 s := by
    rw [h.wl s hs, h.sl s hs, sal_sl (b.wl s hs)]; rfl
  have e6 := s_lev_e h b hs
  unfold gR_of
  rcases le9 hj with rfl | rfl | rfl | rfl | rfl | rfl | rfl | rfl | rfl | rfl
  · rw [if_pos (by decide), if_pos (by decide), if_pos (by decide)]; exact h.wu s hs
  · rw [if_pos (by decide), if_neg (by decide), if_pos (by decide)]; exact h.su s hs
  · rw [if_pos (by decide), if_pos (by decide), if_neg (by decide)]; exact h.wl s hs
  · rw [if_pos (by decide), if_neg (by decide), if_neg (by decide)]; exact h.sl s hs
  · rw [if_neg (by decide), if_pos (by decide), if_pos (by decide)]; exact h.cl s hs
  · rw [if_neg (by decide), if_pos (by decide), if_neg (by decide), if_pos (by decide)]; exact h.mu s hs
  · rw [if_neg (by decide), if_pos (by decide), if_neg (by decide), if_neg (by decide)]; exact e6
  · rw [if_neg (by decide), if_neg (by decide), if_neg (by decide), if_pos (by decide)]; exact e7
  · rw [if_neg (by decide), if_neg (by decide), if_neg (by decide), if_neg (by decide)]; exact e8
  · rw [if_neg (by decide), if_neg (by decide), if_pos (by decide)]; exact h.ru s hs
theorem ians_e {M : w_M} {B : Nat} {N : w_M} {Y n ic k j : Nat} {T : Nat → Nat → Int32} (h : Rc M B N Y n ic T) (hk : k < ic) (hj : j ≤ 4) : i_ans M (B + 150 + k) j = gR_oi N Y k (nI j) := by
  have i5 : iv M (B + 150 + k) 5 = iv N (Y + 31) k := h.it k hk 5 (by omega)
  have i6 : iv M (B + 150 + k) 6 = iv N (Y + 32) k := h.it k hk 6 (by omega)
  have i7 : iv M (B + 150 + k) 7 = iv N (Y + 33) k := h.it k hk 7 (by omega)
  have i8 : iv M (B + 150 + k) 8 = iv N (Y + 34) k := h.it k hk 8 (by omega)
  have i9 : iv M (B + 150 + k) 9 = iv N (Y + 35) k := h.it k hk 9 (by omega)
  unfold gR_oi
  rcases (by omega : j = 0 ∨ j = 1 ∨ j = 2 ∨ j = 3 ∨ j = 4) with rfl | rfl | rfl | rfl | rfl
  · rw [if_pos (by decide), if_pos (by decide)]; exact i5
  · rw [if_pos (by decide), if_neg (by decide), if_pos (by decide)]; exact i6
  · rw [if_pos (by decide), if_neg (by decide), if_neg (by decide)]; exact i7
  · rw [if_neg (by decide), if_neg (by decide), ← i9]; rfl
  · rw [if_neg (by decide), if_pos (by decide)]; exact i8
theorem bans_e {M : w_M} {B : Nat} {N : w_M} {Y t i j : Nat} (h : Rb M B N Y t) (hi : i < cN (iv N Y 12)) (hj : j ≤ 2) : b_ans M (B + 2) i j = gR_cl N Y i (nI j) := by
  have e1 : iv M (B + 2 + 7) i = iv N (Y + 13) i := h.fi i hi
  have e2 : iv M (B + 2 + 8) i = iv N (Y + 14) i := h.la i hi
  have e3 : iv M (B + 2 + 9) i = iv N (Y + 15) i := h.ri i hi
  unfold gR_cl
  rcases (by omega : j = 0 ∨ j = 1 ∨ j = 2) with rfl | rfl | rfl
  · rw [if_pos (by decide)]; exact e1
  · rw [if_neg (by decide), if_pos (by decide)]; exact e2
  · rw [if_neg (by decide), if_neg (by decide), ← e3]; rfl
theorem itr_e {M : w_M} {B : Nat} {N : w_M} {Y n ic : Nat} {T : Nat → Nat → Int32} {W C : Int} {g : Int32} (h : Rc M B N Y n ic T) (b : gB N Y n W C) : ∀ c j, c + j = n → s_itr M B g c j = g_itr N Y g c j
  | 0, _, _ => rfl
  | c + 1, j, hj => by
    have e8 : f_sal (iv M (B + 100 + j + 30) 0) (iv M (B + 100 + j + 30) 1) = g_sal N Y 1 j := by
      rw [h.wl j (by omega), h.sl j (by omega), sal_sl (b.wl j (by omega))]; rfl
    rw [s_itr, g_itr, e8, itr_e h b c (j + 1) (by omega)]
theorem win_e {M : w_M} {B : Nat} {N : w_M} {Y t : Nat} {bd kl hs : Int32} (r : Rt M B N Y) (g : gT N Y) (ht : cN (iv N Y 1) = t) (b0 : 0 ≤ bd.toInt) (b1 : bd.toInt ≤ 2 ^ 28) (k0 : 0 ≤ kl.toInt) (k1 : kl.toInt ≤ 1000) : ∀ (c j : Nat) (x : Int32), t ≤ j → j + c ≤ 5000 → s_win M (B + 1) (bd + kl) hs c j x = g_win N Y bd kl hs c j x
  | 0, _, _, _, _ => rfl
  | c + 1, j, x, hj, hc => by
    have e : g_sea N Y j = g_for N Y (nI j) := by unfold g_sea; rw [ht, if_neg (by omega)]
    have fb := for_b g (x := nI j) (by rw [i_N (by omega)]; omega) (by rw [i_N (by omega)]; omega)
    have ec : (s_for M (B + 1) (nI j) < bd + kl) ↔ (g_sea N Y j - bd < kl) := by
      rw [for_e _ r g, e, i_lt, i_lt, i_add (by omega) (by omega), i_sub (by omega) (by omega)]; omega
    rw [s_win, g_win]
    simp only [ec]
    rw [win_e r g ht b0 b1 k0 k1 c (j + 1) _ (by omega) (by omega)]
theorem fr_a {M : w_M} {B : Nat} {N : w_M} {Y s t hs : Nat} {gr : Int32} (h24 : hs ≤ 24) (ta : ∀ τ, τ < t → t ≤ τ + 24 → iv M (B + 100 + s + 40) (τ % 24) = iv N (Y + 24) (1001 * s + τ)) : ∀ c j, c + j = hs → hs ≤ t + j → g_fr N Y s gr hs t c j = s_fr M (B + 100 + s) gr c (t + j - hs)
  | 0, _, _, _ => rfl
  | c + 1, j, hj, ht => by
    have e := ta (t + j - hs) (by omega) (by omega)
    rw [g_fr, s_fr, fr_a h24 ta c (j + 1) (by omega) (by omega), e, show t + (j + 1) - hs = t + j - hs + 1 by omega]
    by_cases q : iv N (Y + 24) (1001 * s + (t + j - hs)) < gr
    · rw [if_pos ⟨ht, q⟩, if_pos q]
    · rw [if_neg (fun z => q z.2), if_neg q]
theorem fr_b {N : w_M} {Y s t hs : Nat} {gr : Int32} : ∀ d c j, t + j + d ≤ hs → g_fr N Y s gr hs t (c + d) j = g_fr N Y s gr hs t c (j + d)
  | 0, c, j, _ => rfl
  | d + 1, c, j, h => by
    rw [show c + (d + 1) = (c + d) + 1 by omega, g_fr, if_neg (by omega), fr_b d c (j + 1) (by omega), show j + 1 + d = j + (d + 1) by omega]
theorem fr_e {M : w_M} {B : Nat} {N : w_M} {Y s t hs : Nat} {gr : Int32} (h24 : hs ≤ 24) (ta : ∀ τ, τ < t → t ≤ τ + 24 → iv M (B + 100 + s + 40) (τ % 24) = iv N (Y + 24) (1001 * s + τ)) : s_fr M (B + 100 + s) gr (t - (t - hs)) (t - hs) = g_fr N Y s gr hs t hs 0 := by
  rcases Nat.le_total hs t with q | q
  · rw [fr_a h24 ta hs 0 (by omega) (by omega), show t - (t - hs) = hs by omega, show t + 0 - hs = t - hs from rfl]
  · have e1 := fr_b (N := N) (Y := Y) (s := s) (t := t) (hs := hs) (gr := gr) (hs - t) t 0 (by omega)
    rw [show t + (hs - t) = hs by omega] at e1
    rw [e1, fr_a h24 ta t (0 + (hs - t)) (by omega) (by omega), show t - (t - hs) = t by omega, show t - hs = t + (0 + (hs - t)) - hs by omega]
/-- the live mouth at X + 1000 against what was told, replayed (N); oysters -/
def JV (X Y : Nat) (M N : w_M) (n ic τ c oc : Nat) : Prop := RR M (X + 1000) N Y n ic τ ∧ iv M (X + 1) 1 = nI c ∧ gok (fun j => iv M (X + 2) j) Y c ∧ cN (iv (gst (fun j => iv M (X + 2) j) Y c) Y 1) ≤ τ ∧ N = g_gos (gst (fun j => iv M (X + 2) j) Y c) Y (τ - cN (iv (gst (fun j => iv M (X + 2) j) Y c) Y 1)) ∧ iv M X 4 = nI oc ∧ oc ≤ 6 ∧ ∀ i, i < oc → (∃ s, s < n ∧ iv M (X + 10 + i) 0 = nI s) ∧ cB (iv M (X + 10 + i) 2) 24
theorem JV.rr {X Y : Nat} {M N : w_M} {n ic τ c oc : Nat} (h : JV X Y M N n ic τ c oc) : RR M (X + 1000) N Y n ic τ := h.1
theorem JV.cn {X Y : Nat} {M N : w_M} {n ic τ c oc : Nat} (h : JV X Y M N n ic τ c oc) : iv M (X + 1) 1 = nI c := h.2.1
theorem JV.gk {X Y : Nat} {M N : w_M} {n ic τ c oc : Nat} (h : JV X Y M N n ic τ c oc) : gok (fun j => iv M (X + 2) j) Y c := h.2.2.1
theorem JV.gt {X Y : Nat} {M N : w_M} {n ic τ c oc : Nat} (h : JV X Y M N n ic τ c oc) : cN (iv (gst (fun j => iv M (X + 2) j) Y c) Y 1) ≤ τ := h.2.2.2.1
theorem JV.eN {X Y : Nat} {M N : w_M} {n ic τ c oc : Nat} (h : JV X Y M N n ic τ c oc) : N = g_gos (gst (fun j => iv M (X + 2) j) Y c) Y (τ - cN (iv (gst (fun j => iv M (X + 2) j) Y c) Y 1)) := h.2.2.2.2.1
theorem JV.gr {X Y : Nat} {M N : w_M} {n ic τ c oc : Nat} (h : JV X Y M N n ic τ c oc) : RR M (X + 1000) (g_gos (gst (fun j => iv M (X + 2) j) Y c) Y (τ - cN (iv (gst (fun j => iv M (X + 2) j) Y c) Y 1))) Y n ic τ := by rw [← h.eN]; exact h.rr
theorem JV.oM {X Y : Nat} {M N : w_M} {n ic τ c oc : Nat} (h : JV X Y M N n ic τ c oc) : iv M X 4 = nI oc := h.2.2.2.2.2.1
theorem JV.o6 {X Y : Nat} {M N : w_M} {n ic τ c oc : Nat} (h : JV X Y M N n ic τ c oc) : oc ≤ 6 := h.2.2.2.2.2.2.1
theorem JV.oy {X Y : Nat} {M N : w_M} {n ic τ c oc : Nat} (h : JV X Y M N n ic τ c oc) : ∀ i, i < oc → (∃ s, s < n ∧ iv M (X + 10 + i) 0 = nI s) ∧ cB (iv M (X + 10 + i) 2) 24 := h.2.2.2.2.2.2.2
theorem RR.okc {M : w_M} {B : Nat} {N : w_M} {Y n ic t : Nat} (h : RR M B N Y n ic t) : okC M B := by
  refine ⟨⟨n, h.n8, h.Mn⟩, ⟨ic, h.i6, h.Mi⟩, ⟨t, h.t1, h.Mt⟩, ?_, ?_, ?_, ?_⟩
  · rw [h.rt.tc]; exact h.gt.tc
  · rw [h.rt.sc]; exact h.gt.sc
  · rw [h.rb.cc]; exact h.rb.c5
  · rw [h.rb.ld]; exact h.ld
theorem JV.okx {X Y : Nat} {M N : w_M} {n ic τ c oc : Nat} (h : JV X Y M N n ic τ c oc) : okX M X := by
  have o6 := h.o6
  have cc : cN (iv M X 4) = oc := by rw [h.oM]; exact cN_nI (by omega)
  have n8 := h.rr.n8
  have cn : cN (iv M (X + 1000) 5) = n := by rw [h.rr.Mn]; exact cN_nI (by omega)
  refine ⟨h.rr.okc, ⟨oc, o6, h.oM⟩, fun i hi => ?_⟩
  rw [cc] at hi; rw [cn]
  exact h.oy i hi
theorem JV.hk {X Y : Nat} {M N : w_M} {n ic τ c oc : Nat} (h : JV X Y M N n ic τ c oc) (hk : c < 512) : ∃ n9 : Nat, n9 < 512 ∧ iv M (X + 1) 1 = nI n9 := ⟨c, hk, h.cn⟩
theorem JV.same {X Y : Nat} {M M' N : w_M} {n ic τ c oc : Nat} (h : JV X Y M N n ic τ c oc) (e : ∀ a j, a < X + 2000 → iv M' a j = iv M a j) (e1 : ∀ j, jv M' (X + 1005) j = jv M (X + 1005) j) : JV X Y M' N n ic τ c oc := by
  have er : (fun j => iv M' (X + 2) j) = fun j => iv M (X + 2) j := funext fun j => e _ _ (by omega)
  refine ⟨h.rr.cM (fun x x1 x2 j => e _ _ (by omega)) e1, by rw [e _ _ (by omega)]; exact h.cn, by rw [er]; exact h.gk, by rw [er]; exact h.gt, by rw [er]; exact h.eN, by rw [e _ _ (by omega)]; exact h.oM, h.o6, fun i hi => ?_⟩
  have o6 := h.o6
  rw [e _ _ (by omega), e _ _ (by omega)]; exact h.oy i hi
theorem keep_o {M : w_M} {k : Nat} {h kd a b c d e : Int32} {x j : Nat} (h1 : x ≠ k) (h2 : x ≠ k + 1) : iv (m_keep M k h kd a b c d e) x j = iv M x j := by
  unfold m_keep; simp (disch := omega) only [iv_n]
theorem JV.tell {X Y : Nat} {M N : w_M} {n ic τ c oc n' ic' : Nat} {kd a b c9 d e : Int32} (h : JV X Y M N n ic τ c oc) (hk : c < 512) (hv : v_hk N Y kd a b c9 d e) (en : iv (g_hk N Y kd a b c9 d e) Y 16 = nI n') (ei : iv (g_hk N Y kd a b c9 d e) Y 25 = nI ic') (hnn : n ≤ n') (hn8 : n' ≤ 8) (hi6 : ic' ≤ 6) :
    JV X Y (m_hk (m_keep M (X + 1) (iv M (X + 1000) 9) kd a b c9 d e) (X + 1000) kd a b c9 d e) (g_hk N Y kd a b c9 d e) n' ic' τ (c + 1) oc := by
  have hgt := h.gt; have hgk := h.gk; have hN := h.eN
  have o6 := h.o6
  have ht1 := h.rr.t1
  have cc : cN (iv M (X + 1) 1) = c := by rw [h.cn]; exact cN_nI (by omega)
  obtain ⟨R, hR⟩ : ∃ R : Nat → Int32, R = fun j => iv M (X + 2) j := ⟨_, rfl⟩
  rw [← hR] at hgt hgk hN
  generalize hMk : m_keep M (X + 1) (iv M (X + 1000) 9) kd a b c9 d e = Mk
  have ok1 : ∀ x j, x ≠ X + 1 → x ≠ X + 2 → iv Mk x j = iv M x j := fun x j q q2 => by rw [← hMk]; exact keep_o q q2
  have oj1 : ∀ x j, jv Mk x j = jv M x j := fun x j => by rw [← hMk]; rfl
  have r1 : RR Mk (X + 1000) N Y n ic τ := h.rr.cM (fun x x1 x2 j => ok1 _ _ (by omega) (by omega)) (fun j => oj1 _ _)
  have f1 := fr_hk r1 hv
  obtain ⟨n2, ic2, rB⟩ := RR_hk r1 hv
  have b8 := rB.n8; have b6 := rB.i6
  obtain rfl : n2 = n' := nI_inj (by omega) (by omega) (rB.Nn.symm.trans en)
  obtain rfl : ic2 = ic' := nI_inj (by omega) (by omega) (rB.Ni.symm.trans ei)
  generalize hM4 : m_hk Mk (X + 1000) kd a b c9 d e = M4 at f1 rB
  have lk : ∀ x j, x < X + 1000 → iv M4 x j = iv Mk x j := fun x j q => (f1 x (by omega) j).1
  have row : ∀ j, iv M4 (X + 2) j = iv Mk (X + 2) j := fun j => lk _ _ (by omega)
  have w0 : iv M4 (X + 2) (7 * c) = nI τ := by rw [row, ← hMk]; unfold m_keep; rw [cc]; simp (disch := omega) only [iv_n, iv_s]; exact h.rr.Mt
  have w1 : iv M4 (X + 2) (7 * c + 1) = kd := by rw [row, ← hMk]; unfold m_keep; rw [cc]; simp (disch := omega) only [iv_n, iv_s]
  have w2 : iv M4 (X + 2) (7 * c + 2) = a := by rw [row, ← hMk]; unfold m_keep; rw [cc]; simp (disch := omega) only [iv_n, iv_s]
  have w3 : iv M4 (X + 2) (7 * c + 3) = b := by rw [row, ← hMk]; unfold m_keep; rw [cc]; simp (disch := omega) only [iv_n, iv_s]
  have w4 : iv M4 (X + 2) (7 * c + 4) = c9 := by rw [row, ← hMk]; unfold m_keep; rw [cc]; simp (disch := omega) only [iv_n, iv_s]
  have w5 : iv M4 (X + 2) (7 * c + 5) = d := by rw [row, ← hMk]; unfold m_keep; rw [cc]; simp (disch := omega) only [iv_n, iv_s]
  have w6 : iv M4 (X + 2) (7 * c + 6) = e := by rw [row, ← hMk]; unfold m_keep; rw [cc]; simp (disch := omega) only [iv_n, iv_s]
  have wl : ∀ j, j < 7 * c → iv M4 (X + 2) j = R j := fun j hj => by rw [row, ← hMk, hR]; unfold m_keep; rw [cc]; simp (disch := omega) only [iv_n]
  have eg : gst (fun j => iv M4 (X + 2) j) Y c = gst R Y c := gst_c c wl
  have cτ : cN (nI τ) = τ := cN_nI (by omega)
  have e0 : gs0 (fun j => iv M4 (X + 2) j) Y c (gst R Y c) = N := by unfold gs0; simp only [w0]; rw [cτ]; exact hN.symm
  have eg1 : gst (fun j => iv M4 (X + 2) j) Y (c + 1) = g_hk N Y kd a b c9 d e := by
    rw [gst, eg, e0]; unfold gs1; simp only [w1, w2, w3, w4, w5, w6]
  have cT : cN (iv (g_hk N Y kd a b c9 d e) Y 1) = τ := by rw [rB.Nt]; exact cτ
  refine ⟨rB, ?_, ?_, ?_, ?_, ?_, o6, ?_⟩
  · rw [lk _ _ (by omega), ← hMk]; unfold m_keep; rw [iv_s, h.cn]; exact nI_1 c
  · intro i hi
    by_cases q : i = c
    · subst q
      refine ⟨⟨τ, w0, ht1, by rw [eg]; exact hgt⟩, ?_⟩
      rw [eg, e0]; simp only [w1, w2, w3, w4, w5, w6]; exact hv
    · exact gok_c hgk wl i (by omega)
  · rw [eg1, cT]; exact Nat.le_refl _
  · rw [eg1, cT, Nat.sub_self]; rfl
  · rw [lk _ _ (by omega), ok1 _ _ (by omega) (by omega)]; exact h.oM
  · intro i hi
    obtain ⟨⟨s, hs, es⟩, a4⟩ := h.oy i hi
    have ox : ∀ j, iv M4 (X + 10 + i) j = iv M (X + 10 + i) j := fun j => by rw [lk _ _ (by omega), ok1 _ _ (by omega) (by omega)]
    rw [ox, ox]
    exact ⟨⟨s, by omega, es⟩, a4⟩
theorem JV.pass {X Y p : Nat} {M N : w_M} {n ic τ c oc : Nat} (h : JV X Y M N n ic τ c oc) (hp : τ + p ≤ 1000) : JV X Y (m_go M (X + 1000) p) (g_gos N Y p) n ic (τ + p) c oc := by
  have hgt := h.gt; have hgk := h.gk; have hN := h.eN
  have o6 := h.o6
  have f1 := fr_go h.rr.n8 h.rr.i6 p h.rr.Mn h.rr.Mi
  have rg := RR_go p h.rr hp
  generalize hM1 : m_go M (X + 1000) p = M1 at f1 rg
  have lk : ∀ x j, x < X + 1000 → iv M1 x j = iv M x j := fun x j q => (f1 x (by omega) j).1
  have er : (fun j => iv M1 (X + 2) j) = fun j => iv M (X + 2) j := funext fun j => lk _ _ (by omega)
  refine ⟨rg, ?_, ?_, ?_, ?_, ?_, o6, ?_⟩
  · rw [lk _ _ (by omega)]; exact h.cn
  · rw [er]; exact hgk
  · rw [er]; omega
  · rw [er, show τ + p - cN (iv (gst (fun j => iv M (X + 2) j) Y c) Y 1) = (τ - cN (iv (gst (fun j => iv M (X + 2) j) Y c) Y 1)) + p by omega, ← g_gos_add, ← hN]
  · rw [lk _ _ (by omega)]; exact h.oM
  · intro i hi
    rw [lk _ _ (by omega), lk _ _ (by omega)]; exact h.oy i hi
theorem anew_e {X Y : Nat} {M N : w_M} {n ic τ c oc : Nat} (h : JV X Y M N n ic τ c oc) : RR (m_anew M X c) (X + 2000) (g_gos (gst (fun j => iv M (X + 2) j) Y c) Y (τ - cN (iv (gst (fun j => iv M (X + 2) j) Y c) Y 1))) Y n ic τ ∧ fr (X + 2000) M (m_anew M X c) ∧ fr (X + 2000) M (m_rep M X c) := by
  have hτ := h.rr.t1
  obtain ⟨⟨n', ic', t', r⟩, f⟩ := RR_rep h.gk c (Nat.le_refl _)
  have ht' := r.t1
  have hgt := h.gt
  have cT : cN (iv (gst (fun j => iv M (X + 2) j) Y c) Y 1) = t' := by rw [r.Nt]; exact cN_nI (by omega)
  rw [cT] at hgt
  have cM : cN (iv (m_rep M X c) (X + 2000) 9) = t' := by rw [r.Mt]; exact cN_nI (by omega)
  have cL : cN (iv (m_rep M X c) (X + 1000) 9) = τ := by rw [(f (X + 1000) (by omega) 9).1, h.rr.Mt]; exact cN_nI (by omega)
  have r2 := RR_go (τ - t') r (by omega)
  rw [show t' + (τ - t') = τ by omega] at r2
  have gr := h.gr
  rw [cT] at gr
  obtain ⟨e1, e2, _⟩ := gr.uniqN r2
  subst e1; subst e2
  unfold m_anew
  rw [cM, cL, cT]
  exact ⟨r2, f.tr (fr_go r.n8 r.i6 _ r.Mn r.Mi), f⟩
theorem vA_of {X Y : Nat} {M N : w_M} {n ic τ c oc : Nat} (h : JV X Y M N n ic τ c oc) : vA M X c := by
  refine ⟨fun i hi => ?_, fun i hi => ?_⟩
  · obtain ⟨⟨n', ic', t', r⟩, f⟩ := RR_rep h.gk i hi
    exact ⟨by rw [(f (X + 1) (by omega) 1).1]; exact h.cn, r.okc⟩
  · obtain ⟨⟨n', ic', t', r⟩, f⟩ := RR_rep h.gk i (by omega)
    obtain ⟨⟨τ', e1, e2, e3⟩, v⟩ := h.gk i hi
    have rows : ∀ j, iv (m_rep M X i) (X + 2) j = iv M (X + 2) j := fun j => (f (X + 2) (by omega) j).1
    have ht1 := r.t1
    have cT : cN (iv (gst (fun j => iv M (X + 2) j) Y i) Y 1) = t' := by rw [r.Nt]; exact cN_nI (by omega)
    have cM : cN (iv (m_rep M X i) (X + 2000) 9) = t' := by rw [r.Mt]; exact cN_nI (by omega)
    have e1' : iv M (X + 2) (7 * i) = nI τ' := e1
    rw [cT] at e3
    have cR : cN (iv M (X + 2) (7 * i)) = τ' := by rw [e1']; exact cN_nI (by omega)
    have h0 : RR (m_st0 (m_rep M X i) X i) (X + 2000) (gs0 (fun j => iv M (X + 2) j) Y i (gst (fun j => iv M (X + 2) j) Y i)) Y n' ic' τ' := by
      unfold m_st0 gs0
      rw [rows, cR, cM, cT]
      have r2 := RR_go (τ' - t') r (by omega)
      rw [show t' + (τ' - t') = τ' by omega] at r2; exact r2
    have f0 : fr (X + 2000) M (m_st0 (m_rep M X i) X i) := by
      unfold m_st0; exact f.tr (fr_go r.n8 r.i6 _ r.Mn r.Mi)
    have rows0 : ∀ j, iv (m_st0 (m_rep M X i) X i) (X + 2) j = iv M (X + 2) j := fun j => (f0 (X + 2) (by omega) j).1
    refine ⟨⟨τ', e2, by rw [rows]; exact e1'⟩, h0.okc, ?_⟩
    rw [rows0, rows0, rows0]
    exact v_p h0 v
