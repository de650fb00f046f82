/-! the invariant of the law's loop -/
def IVs (X Y k : Nat) (M : w_M) (n ic τ c : Nat) : Prop := (RR M (X + 1000) M Y n ic τ) ∧ (iv M (X + 1) 1 = nI c) ∧ (c ≤ k) ∧ (gok (fun j => iv M (X + 2) j) Y c) ∧ (cN (iv (gst (fun j => iv M (X + 2) j) Y c) Y 1) ≤ τ) ∧ (RR M (X + 1000) (g_gos (gst (fun j => iv M (X + 2) j) Y c) Y (τ - cN (iv (gst (fun j => iv M (X + 2) j) Y c) Y 1))) Y n ic τ) ∧ (iv M X 4 = iv M Y 36) ∧ (cB (iv M Y 36) 6) ∧ (∀ i, i < cN (iv M Y 36) → iv M (X + 10 + i) 0 = iv M (Y + 37) i ∧ iv M (X + 10 + i) 1 = iv M (Y + 38) i ∧ iv M (X + 10 + i) 2 = iv M (Y + 39) i ∧ (∃ s, s < n ∧ iv M (Y + 37) i = nI s) ∧ cB (iv M (Y + 39) i) 24)
theorem IVs.rr {X Y k : Nat} {M : w_M} {n ic τ c : Nat} (h : IVs X Y k M n ic τ c) : RR M (X + 1000) M Y n ic τ := h.1
theorem IVs.cn {X Y k : Nat} {M : w_M} {n ic τ c : Nat} (h : IVs X Y k M n ic τ c) : iv M (X + 1) 1 = nI c := h.2.1
theorem IVs.ck {X Y k : Nat} {M : w_M} {n ic τ c : Nat} (h : IVs X Y k M n ic τ c) : c ≤ k := h.2.2.1
theorem IVs.gk {X Y k : Nat} {M : w_M} {n ic τ c : Nat} (h : IVs X Y k M n ic τ c) : gok (fun j => iv M (X + 2) j) Y c := h.2.2.2.1
theorem IVs.gt {X Y k : Nat} {M : w_M} {n ic τ c : Nat} (h : IVs X Y k M n ic τ c) : cN (iv (gst (fun j => iv M (X + 2) j) Y c) Y 1) ≤ τ := h.2.2.2.2.1
theorem IVs.gr {X Y k : Nat} {M : w_M} {n ic τ c : Nat} (h : IVs X Y k M n ic τ c) : RR M (X + 1000) (g_gos (gst (fun j => iv M (X + 2) j) Y c) Y (τ - cN (iv (gst (fun j => iv M (X + 2) j) Y c) Y 1))) Y n ic τ := h.2.2.2.2.2.1
theorem IVs.oM {X Y k : Nat} {M : w_M} {n ic τ c : Nat} (h : IVs X Y k M n ic τ c) : iv M X 4 = iv M Y 36 := h.2.2.2.2.2.2.1
theorem IVs.oc {X Y k : Nat} {M : w_M} {n ic τ c : Nat} (h : IVs X Y k M n ic τ c) : cB (iv M Y 36) 6 := h.2.2.2.2.2.2.2.1
theorem IVs.oy {X Y k : Nat} {M : w_M} {n ic τ c : Nat} (h : IVs X Y k M n ic τ c) : ∀ i, i < cN (iv M Y 36) → iv M (X + 10 + i) 0 = iv M (Y + 37) i ∧ iv M (X + 10 + i) 1 = iv M (Y + 38) i ∧ iv M (X + 10 + i) 2 = iv M (Y + 39) i ∧ (∃ s, s < n ∧ iv M (Y + 37) i = nI s) ∧ cB (iv M (Y + 39) i) 24 := h.2.2.2.2.2.2.2.2
def IV (X Y k : Nat) (M : w_M) : Prop := ∃ n ic τ c, IVs X Y k M n ic τ c
theorem RR.okc {M : w_M} {B : Nat} {N : w_M} {Y n ic t : Nat} (h : RR M B N Y n ic t) : okC M B := by
  refine ⟨⟨n, h.n8, h.Mn⟩, ⟨ic, h.i6, h.Mi⟩, ⟨t, h.t1, h.Mt⟩, ?_, ?_, ?_, ?_⟩
  · rw [h.rt.tc]; exact h.gt.tc
  · rw [h.rt.sc]; exact h.gt.sc
  · rw [h.rb.cc]; exact h.rb.c5
  · rw [h.rb.ld]; exact h.ld
theorem IVs.okx {X Y k : Nat} {M : w_M} {n ic τ c : Nat} (h : IVs X Y k M n ic τ c) : okX M X := by
  have hn := h.rr.n8
  have cn : cN (iv M (X + 1000) 5) = n := by rw [h.rr.Mn]; exact cN_nI (by omega)
  refine ⟨h.rr.okc, by rw [h.oM]; exact h.oc, fun i hi => ?_⟩
  rw [h.oM] at hi
  obtain ⟨e0, e1, e2, ⟨s, hs, es⟩, e4⟩ := h.oy i hi
  exact ⟨⟨s, by rw [cn]; exact hs, by rw [e0]; exact es⟩, by rw [e2]; exact e4⟩
theorem IVs.okm {X Y k : Nat} {M : w_M} {n ic τ c : Nat} (h : IVs X Y k M n ic τ c) : okM2 M Y := by
  have r := h.rr
  have hn := r.n8; have hi := r.i6; have ht := r.t1
  have cn : cN (iv M Y 16) = n := by rw [r.Nn]; exact cN_nI (by omega)
  have ci : cN (iv M Y 25) = ic := by rw [r.Ni]; exact cN_nI (by omega)
  have ct : cN (iv M Y 1) = τ := by rw [r.Nt]; exact cN_nI (by omega)
  refine ⟨⟨⟨⟨τ, ht, r.Nt⟩, r.gt.tc, r.gt.sc, fun i hi => ?_⟩, ⟨n, hn, r.Nn⟩, ⟨ic, hi, r.Ni⟩, h.oc, ?_, r.ld, ?_, ?_, ?_⟩, ?_⟩
  · have p := r.gt.p i hi; have q := r.gt.r i hi
    refine ⟨fun e => ?_, fun e => ?_, fun e => ?_⟩
    · rw [e, i_0] at p; omega
    · rw [e, i_0] at q; omega
    · have := congrArg Int32.toInt e
      rw [i_sub (by omega) (by omega), i_0] at this; omega
  · obtain ⟨m, h1, h2⟩ := r.rb.c5; exact ⟨m, by omega, h2⟩
  · rw [cn]; intro s hs e
    have := r.b.ar s hs
    rw [e, i_0] at this; omega
  · rw [ci, cn]; exact r.gi.at9
  · rw [cn]; intro k hk; exact ⟨(h.oy k hk).2.2.2.1, (h.oy k hk).2.2.2.2⟩
  · rw [ct]; rcases r.rb.v with q | ⟨v, l, e, b⟩ <;> omega
theorem IVs.hk {X Y k : Nat} {M : w_M} {n ic τ c : Nat} (h : IVs X Y k M n ic τ c) (hk : k < 512) : ∃ n9 : Nat, n9 < 512 ∧ iv M (X + 1) 1 = nI n9 := ⟨c, by have := h.ck; omega, h.cn⟩
/-- the same, but for what is asked -/
theorem IVs.same {X Y k k' : Nat} {M M' : w_M} {n ic τ c : Nat} (h : IVs X Y k M n ic τ c) (hXY : X + 4000 ≤ Y) (hk : k ≤ k') (e : ∀ a j, (a < X + 2000 ∨ (Y ≤ a ∧ a < Y + 40)) → (a ≠ Y ∨ j ≠ 0) → iv M' a j = iv M a j) (e1 : ∀ j, jv M' (X + 1005) j = jv M (X + 1005) j) (e2 : ∀ j, jv M' (Y + 40) j = jv M (Y + 40) j) : IVs X Y k' M' n ic τ c := by
  have er : (fun j => iv M' (X + 2) j) = fun j => iv M (X + 2) j := funext fun j => e _ _ (by omega) (by omega)
  have c6 := (cB_le h.oc (by decide)).2
  refine ⟨?_, ?_, by have := h.ck; omega, ?_, ?_, ?_, ?_, ?_, ?_⟩
  · exact (h.rr.cM (fun a a1 a2 j => e _ _ (by omega) (by omega)) e1).kN (fun a a1 a2 j q => e _ _ (by omega) (by omega)) e2
  · rw [e _ _ (by omega) (by omega)]; exact h.cn
  · rw [er]; exact h.gk
  · rw [er]; exact h.gt
  · rw [er]; exact h.gr.cM (fun a a1 a2 j => e _ _ (by omega) (by omega)) e1
  · rw [e _ _ (by omega) (by omega), e _ _ (by omega) (by omega)]; exact h.oM
  · rw [e _ _ (by omega) (by omega)]; exact h.oc
  · rw [e _ _ (by omega) (by omega)]; intro i hi
    rw [e _ _ (by omega) (by omega), e _ _ (by omega) (by omega), e _ _ (by omega) (by omega), e _ _ (by omega) (by omega), e _ _ (by omega) (by omega), e _ _ (by omega) (by omega)]
    exact h.oy i hi
theorem keep_o {M : w_M} {k : Nat} {h kd a b c d e : Int32} {x j : Nat} (h1 : x ≠ k) (h2 : x ≠ k + 1) : iv (m_keep M k h kd a b c d e) x j = iv M x j := by
  unfold m_keep; simp (disch := omega) only [iv_n]
theorem keep_j {M : w_M} {k : Nat} {h kd a b c d e : Int32} {x j : Nat} : jv (m_keep M k h kd a b c d e) x j = jv M x j := rfl
theorem IVs.tell {X Y O k : Nat} {M : w_M} {n ic τ c : Nat} {kd a b c9 d e : Int32} {v : Int64} (h : IVs X Y k M n ic τ c) (hXY : X + 4000 ≤ Y) (hO : Y + 200 ≤ O) (hk : k < 512) (hv : v_hk M Y kd a b c9 d e) :
    IV X Y (k + 1) (g_hk (wi (wj (m_hk (m_keep M (X + 1) (iv M (X + 1000) 9) kd a b c9 d e) (X + 1000) kd a b c9 d e) O 0 v) Y 0 0) Y kd a b c9 d e) := by
  have hck := h.ck
  have hg := h.gr; have hgt := h.gt; have hgk := h.gk
  have c6 := (cB_le h.oc (by decide)).2
  have ht1 := h.rr.t1
  have cc : cN (iv M (X + 1) 1) = c := by rw [h.cn]; exact cN_nI (by omega)
  obtain ⟨R, hR⟩ : ∃ R : Nat → Int32, R = fun j => iv M (X + 2) j := ⟨_, rfl⟩
  rw [← hR] at hg hgt hgk
  generalize hG : g_gos (gst R Y c) Y (τ - cN (iv (gst R Y c) Y 1)) = G at hg
  generalize hMk : m_keep M (X + 1) (iv M (X + 1000) 9) kd a b c9 d e = Mk
  have ok1 : ∀ x j, x ≠ X + 1 → x ≠ X + 2 → iv Mk x j = iv M x j := fun x j q q2 => by rw [← hMk]; exact keep_o q q2
  have oj1 : ∀ x j, jv Mk x j = jv M x j := fun x j => by rw [← hMk]; rfl
  have r1 : RR Mk (X + 1000) M Y n ic τ := h.rr.cM (fun x x1 x2 j => ok1 _ _ (by omega) (by omega)) (fun j => oj1 _ _)
  have rg1 : RR Mk (X + 1000) G Y n ic τ := hg.cM (fun x x1 x2 j => ok1 _ _ (by omega) (by omega)) (fun j => oj1 _ _)
  have f1 := fr_hk r1 hv
  generalize hM1 : m_hk Mk (X + 1000) kd a b c9 d e = M1 at f1
  generalize hN1 : wi (wj M1 O 0 v) Y 0 0 = N1
  have n1 : ∀ x j, (x ≠ Y ∨ j ≠ 0) → iv N1 x j = iv M1 x j := fun x j q => by rw [← hN1, iv_n (by omega)]; rfl
  have nj1 : ∀ x j, x ≠ O → jv N1 x j = jv M1 x j := fun x j q => by rw [← hN1, jv_wi', jv_n (by omega)]
  have nM : ∀ x j, Y ≤ x → (x ≠ Y ∨ j ≠ 0) → iv N1 x j = iv M x j := fun x j q q2 => by
    rw [n1 _ _ q2, (f1 x (by omega) j).1, ok1 _ _ (by omega) (by omega)]
  have rN : RR Mk (X + 1000) N1 Y n ic τ := r1.kN (fun x x1 x2 j q => nM _ _ (by omega) q) (fun j => by rw [nj1 _ _ (by omega), (f1 (Y + 40) (by omega) j).2, oj1])
  have vN := RR_v r1 rN hv
  have vG := RR_v r1 rg1 hv
  obtain ⟨n', ic', rA⟩ := RR_hk rN vN
  obtain ⟨n2, ic2, rB⟩ := RR_hk rg1 vG
  rw [hM1] at rA rB
  obtain ⟨e1, e2, _⟩ := rA.uniq rB
  subst e1; subst e2
  have f4 := fg_hk (N := N1) (Y := Y) (kd := kd) (a := a) (b := b) (c := c9) (d := d) (e := e)
  have o4 : ∀ q j, ((q = Y ∧ (j = 0 ∨ j = 36)) ∨ (Y + 36 ≤ q ∧ q < Y + 40)) → iv (g_hk N1 Y kd a b c9 d e) q j = iv N1 q j := fun q j hq => ghk_o hq
  generalize hM4 : g_hk N1 Y kd a b c9 d e = M4 at f4 o4 rA
  have l4 : ∀ x j, x < Y → iv M4 x j = iv M1 x j := fun x j q => by rw [(f4 x (by omega) j).1, n1 _ _ (by omega)]
  have l4j : ∀ x j, x < Y → jv M4 x j = jv M1 x j := fun x j q => by rw [(f4 x (by omega) j).2, nj1 _ _ (by omega)]
  have lk : ∀ x j, x < X + 1000 → iv M4 x j = iv Mk x j := fun x j q => by rw [l4 _ _ (by omega), (f1 x (by omega) j).1]
  have row : ∀ j, iv M4 (X + 2) j = iv Mk (X + 2) j := fun j => lk _ _ (by omega)
  have w0 : iv M4 (X + 2) (7 * c) = nI τ := by rw [row, ← hMk]; unfold m_keep; rw [cc]; simp (disch := omega) only [iv_n, iv_s]; exact h.rr.Mt
  have w1 : iv M4 (X + 2) (7 * c + 1) = kd := by rw [row, ← hMk]; unfold m_keep; rw [cc]; simp (disch := omega) only [iv_n, iv_s]
  have w2 : iv M4 (X + 2) (7 * c + 2) = a := by rw [row, ← hMk]; unfold m_keep; rw [cc]; simp (disch := omega) only [iv_n, iv_s]
  have w3 : iv M4 (X + 2) (7 * c + 3) = b := by rw [row, ← hMk]; unfold m_keep; rw [cc]; simp (disch := omega) only [iv_n, iv_s]
  have w4 : iv M4 (X + 2) (7 * c + 4) = c9 := by rw [row, ← hMk]; unfold m_keep; rw [cc]; simp (disch := omega) only [iv_n, iv_s]
  have w5 : iv M4 (X + 2) (7 * c + 5) = d := by rw [row, ← hMk]; unfold m_keep; rw [cc]; simp (disch := omega) only [iv_n, iv_s]
  have w6 : iv M4 (X + 2) (7 * c + 6) = e := by rw [row, ← hMk]; unfold m_keep; rw [cc]; simp (disch := omega) only [iv_n, iv_s]
  have wl : ∀ j, j < 7 * c → iv M4 (X + 2) j = R j := fun j hj => by rw [row, ← hMk, hR]; unfold m_keep; rw [cc]; simp (disch := omega) only [iv_n]
  have eg : gst (fun j => iv M4 (X + 2) j) Y c = gst R Y c := gst_c c wl
  have cτ : cN (nI τ) = τ := cN_nI (by omega)
  have e0 : gs0 (fun j => iv M4 (X + 2) j) Y c (gst R Y c) = G := by unfold gs0; simp only [w0]; rw [cτ]; exact hG
  have eg1 : gst (fun j => iv M4 (X + 2) j) Y (c + 1) = g_hk G Y kd a b c9 d e := by
    rw [gst, eg, e0]; unfold gs1; simp only [w1, w2, w3, w4, w5, w6]
  have cT : cN (iv (g_hk G Y kd a b c9 d e) Y 1) = τ := by rw [rB.Nt]; exact cτ
  have o36 : iv M4 Y 36 = iv M Y 36 := by rw [o4 _ _ (Or.inl ⟨rfl, Or.inr rfl⟩), nM _ _ (by omega) (by omega)]
  have n8 := h.rr.n8
  have hnn : n ≤ n2 := by
    have a1 := rA.n8
    have := hv
    unfold v_hk at this
    have z := rA.Mn
    have hh : iv M1 (X + 1000) 5 = iv Mk (X + 1000) 5 ∨ iv M1 (X + 1000) 5 = iv Mk (X + 1000) 5 + 1 := by
      rw [← hM1]
      have s0 : ∀ (s : Nat), s < cN (iv M Y 16) → s < 8 := fun s hs => by rw [h.rr.Nn, cN_nI (by omega)] at hs; omega
      rcases this with ⟨rfl, this⟩ | ⟨rfl, this⟩ | ⟨rfl, this⟩ | ⟨rfl, this⟩ | ⟨rfl, this⟩ | ⟨rfl, this⟩ | ⟨rfl, this⟩ | ⟨rfl, s, hs, es⟩ | ⟨rfl, s, hs, es, this⟩
      · left; show iv (m_addT Mk (X + 1000 + 1) a b c9 d) _ _ = _; unfold m_addT; split <;> simp (disch := omega) only [iv_n]
      · left; show iv (wi Mk (X + 1000 + 1) 5 a) _ _ = _; simp (disch := omega) only [iv_n]
      · left; show iv (m_addS Mk (X + 1000 + 1) a b c9) _ _ = _; unfold m_addS; split <;> simp (disch := omega) only [iv_n]
      · left; show iv (wi (wi Mk (X + 1000) 7 a) (X + 1000) 8 b) _ _ = _; simp (disch := omega) only [iv_n]
      · left; show iv (wi (wi Mk (X + 1000 + 2) 4 a) (X + 1000 + 2) 5 b) _ _ = _; simp (disch := omega) only [iv_n]
      · right; show iv (m_asec Mk (X + 1000) a b c9 d) _ _ = _; unfold m_asec; rw [iv_s]
      · left; show iv (m_aint Mk (X + 1000) a b c9 d e) _ _ = _; unfold m_aint m_ibeg; simp (disch := omega) only [iv_n]
      · left; show iv (wi Mk (X + 1000 + 100 + cN a) 7 b) _ _ = _; simp (disch := omega) only [iv_n]
      · left; show iv (if c9 = -1 then m_mudS Mk (X + 1000) (cN a) b else m_mudC Mk (X + 1000) (cN a) (cN c9) b) _ _ = _
        unfold m_mudS m_mudC m_mud1; split <;> simp (disch := omega) only [iv_n, iv_sadd]
    rw [z, r1.Mn] at hh
    rcases hh with q | q
    · exact Nat.le_of_eq (nI_inj (by omega) (by omega) q).symm
    · rw [show nI n + 1 = nI (n + 1) from nI_ad n 1] at q
      have := nI_inj (by omega) (by omega) q; omega
  refine ⟨n2, ic2, τ, c + 1, ?_, ?_, by omega, ?_, ?_, ?_, ?_, ?_, ?_⟩
  · exact rA.cM (fun x x1 x2 j => l4 _ _ (by omega)) (fun j => l4j _ _ (by omega))
  · rw [lk _ _ (by omega), ← hMk]; unfold m_keep; rw [iv_s, h.cn]; exact nI_ad c 1
  · intro i hi
    by_cases q : i = c
    · subst q
      refine ⟨⟨τ, w0, ht1, by rw [eg]; exact hgt⟩, ?_⟩
      rw [eg, e0]; simp only [w1, w2, w3, w4, w5, w6]; exact vG
    · exact gok_c hgk wl i (by omega)
  · rw [eg1, cT]; exact Nat.le_refl _
  · rw [eg1, cT, Nat.sub_self]
    exact rB.cM (fun x x1 x2 j => l4 _ _ (by omega)) (fun j => l4j _ _ (by omega))
  · rw [lk _ _ (by omega), ok1 _ _ (by omega) (by omega), o36]; exact h.oM
  · rw [o36]; exact h.oc
  · rw [o36]; intro i hi
    obtain ⟨a0, a1, a2, ⟨s, hs, es⟩, a4⟩ := h.oy i hi
    have oo : ∀ x j, Y + 36 ≤ x → x < Y + 40 → iv M4 x j = iv M x j := fun x j q1 q2 => by rw [o4 _ _ (Or.inr ⟨q1, q2⟩), nM _ _ (by omega) (by omega)]
    have ox : ∀ j, iv M4 (X + 10 + i) j = iv M (X + 10 + i) j := fun j => by rw [lk _ _ (by omega), ok1 _ _ (by omega) (by omega)]
    rw [ox, ox, ox, oo _ _ (by omega) (by omega), oo _ _ (by omega) (by omega), oo _ _ (by omega) (by omega)]
    exact ⟨a0, a1, a2, ⟨s, by omega, es⟩, a4⟩
theorem IVs.pass {X Y O k p : Nat} {M : w_M} {n ic τ c : Nat} {v : Int64} (h : IVs X Y k M n ic τ c) (hXY : X + 4000 ≤ Y) (hO : Y + 200 ≤ O) (hp : τ + p ≤ 1000) :
    IVs X Y (k + 1) (g_gos (wi (wj (m_go M (X + 1000) p) O 0 v) Y 0 0) Y p) n ic (τ + p) c := by
  have hck := h.ck
  have hg := h.gr; have hgt := h.gt; have hgk := h.gk
  have c6 := (cB_le h.oc (by decide)).2
  have ht1 := h.rr.t1
  generalize hG : g_gos (gst (fun j => iv M (X + 2) j) Y c) Y (τ - cN (iv (gst (fun j => iv M (X + 2) j) Y c) Y 1)) = G at hg
  have f1 := fr_go h.rr.n8 h.rr.i6 p h.rr.Mn h.rr.Mi
  have rg := RR_go p hg hp
  generalize hM1 : m_go M (X + 1000) p = M1 at f1 rg
  generalize hN1 : wi (wj M1 O 0 v) Y 0 0 = N1
  have n1 : ∀ x j, (x ≠ Y ∨ j ≠ 0) → iv N1 x j = iv M1 x j := fun x j q => by rw [← hN1, iv_n (by omega)]; rfl
  have nj1 : ∀ x j, x ≠ O → jv N1 x j = jv M1 x j := fun x j q => by rw [← hN1, jv_wi', jv_n (by omega)]
  have nM : ∀ x j, Y ≤ x → (x ≠ Y ∨ j ≠ 0) → iv N1 x j = iv M x j := fun x j q q2 => by
    rw [n1 _ _ q2, (f1 x (by omega) j).1]
  have rN : RR M (X + 1000) N1 Y n ic τ := h.rr.kN (fun x x1 x2 j q => nM _ _ (by omega) q) (fun j => by rw [nj1 _ _ (by omega), (f1 (Y + 40) (by omega) j).2])
  have rA := RR_go p rN hp
  rw [hM1] at rA
  have f4 := fg_gos (Y := Y) p (M := N1)
  have o4 : ∀ q j, ((q = Y ∧ (j = 0 ∨ j = 36)) ∨ (Y + 36 ≤ q ∧ q < Y + 40)) → iv (g_gos N1 Y p) q j = iv N1 q j := fun q j hq => gos_o hq p N1
  generalize hM4 : g_gos N1 Y p = M4 at f4 o4 rA
  have l4 : ∀ x j, x < Y → iv M4 x j = iv M1 x j := fun x j q => by rw [(f4 x (by omega) j).1, n1 _ _ (by omega)]
  have l4j : ∀ x j, x < Y → jv M4 x j = jv M1 x j := fun x j q => by rw [(f4 x (by omega) j).2, nj1 _ _ (by omega)]
  have lk : ∀ x j, x < X + 1000 → iv M4 x j = iv M x j := fun x j q => by rw [l4 _ _ (by omega), (f1 x (by omega) j).1]
  have er : (fun j => iv M4 (X + 2) j) = fun j => iv M (X + 2) j := funext fun j => lk _ _ (by omega)
  have o36 : iv M4 Y 36 = iv M Y 36 := by rw [o4 _ _ (Or.inl ⟨rfl, Or.inr rfl⟩), nM _ _ (by omega) (by omega)]
  refine ⟨?_, ?_, by omega, ?_, ?_, ?_, ?_, ?_, ?_⟩
  · exact rA.cM (fun x x1 x2 j => l4 _ _ (by omega)) (fun j => l4j _ _ (by omega))
  · rw [lk _ _ (by omega)]; exact h.cn
  · rw [er]; exact hgk
  · rw [er]; omega
  · rw [er, show τ + p - cN (iv (gst (fun j => iv M (X + 2) j) Y c) Y 1) = (τ - cN (iv (gst (fun j => iv M (X + 2) j) Y c) Y 1)) + p by omega, ← g_gos_add, hG]
    exact rg.cM (fun x x1 x2 j => l4 _ _ (by omega)) (fun j => l4j _ _ (by omega))
  · rw [lk _ _ (by omega), o36]; exact h.oM
  · rw [o36]; exact h.oc
  · rw [o36]; intro i hi
    have oo : ∀ x j, Y + 36 ≤ x → x < Y + 40 → iv M4 x j = iv M x j := fun x j q1 q2 => by rw [o4 _ _ (Or.inr ⟨q1, q2⟩), nM _ _ (by omega) (by omega)]
    have ox : ∀ j, iv M4 (X + 10 + i) j = iv M (X + 10 + i) j := fun j => by rw [lk _ _ (by omega)]
    rw [ox, ox, ox, oo _ _ (by omega) (by omega), oo _ _ (by omega) (by omega), oo _ _ (by omega) (by omega)]
    exact h.oy i hi
