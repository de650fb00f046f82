/-! dredging; all that is told -/
theorem RR_dredgeS {M : w_M} {B : Nat} {N : w_M} {Y n ic t i : Nat} {a9 : Int32} (h : RR M B N Y n ic t) (hi : i < n) (a0 : 0 ≤ a9.toInt) (a1 : a9.toInt ≤ (iv N (Y + 18) i).toInt) : RR (m_mudS M B i a9) B (gsadd (g_b (g_b N (Y + 21) i a9) (Y + 18) i a9) Y 9 a9.toInt64) Y n ic t := by
  have hn := h.n8; have hi6 := h.i6
  have c := h.rc
  have hb := h.b; have hg := h.gi
  have m0 := hb.mu i hi
  have gm := i_rg (iv N (Y + 18) i)
  have e1 : (iv N (Y + 18) i - a9).toInt = (iv N (Y + 18) i).toInt - a9.toInt := i_sub (by omega) (by omega)
  have oM : ∀ a j, (a ≠ B + 100 + i ∨ (j ≠ 7 ∧ j ≠ 4)) → iv (m_mudS M B i a9) a j = iv M a j := fun a j q => by unfold m_mudS m_mud1; simp (disch := omega) only [iv_sadd, iv_n]
  have oN : ∀ a j, (a ≠ Y + 21 ∨ j ≠ i) → (a ≠ Y + 18 ∨ j ≠ i) → iv (gsadd (g_b (g_b N (Y + 21) i a9) (Y + 18) i a9) Y 9 a9.toInt64) a j = iv N a j := fun a j q q2 => by unfold g_b; simp (disch := omega) only [iv_gsadd, iv_n]
  have v7 : iv (m_mudS M B i a9) (B + 100 + i) 7 = iv M (B + 100 + i) 7 - a9 := by unfold m_mudS m_mud1; simp (disch := omega) only [iv_sadd, iv_n, iv_s]
  have v4 : iv (m_mudS M B i a9) (B + 100 + i) 4 = iv M (B + 100 + i) 4 - a9 := by unfold m_mudS m_mud1; simp (disch := omega) only [iv_sadd, iv_n, iv_s]
  have n21 : iv (gsadd (g_b (g_b N (Y + 21) i a9) (Y + 18) i a9) Y 9 a9.toInt64) (Y + 21) i = iv N (Y + 21) i - a9 := by unfold g_b; simp (disch := omega) only [iv_gsadd, iv_n, iv_s]
  have n18 : iv (gsadd (g_b (g_b N (Y + 21) i a9) (Y + 18) i a9) Y 9 a9.toInt64) (Y + 18) i = iv N (Y + 18) i - a9 := by unfold g_b; simp (disch := omega) only [iv_gsadd, iv_n, iv_s]
  refine h.re hn hi6 (fun a j b1 b2 b3 => oM _ _ (by omega)) (fun a j b1 b2 b3 => oN _ _ (by omega) (by omega)) ?_ ?_ ?_ ?_ ⟨?_, ?_, ?_, ?_, ?_, ?_, ?_, ?_, ?_, ?_, ?_, ?_, ?_, ?_⟩ ?_ ?_ ?_ ?_ ?_
  · rw [oM _ _ (by omega)]; exact h.Mn
  · rw [oM _ _ (by omega)]; exact h.Mi
  · rw [oN _ _ (by omega) (by omega)]; exact h.Nn
  · rw [oN _ _ (by omega) (by omega)]; exact h.Ni
  · intro r hr; rw [oM _ _ (by omega), oN _ _ (by omega) (by omega)]; exact c.ar r hr
  · intro r hr
    by_cases q : r = i
    · subst q; rw [v4, n18, c.mu r hr]
    · rw [oM _ _ (by omega), oN _ _ (by omega) (by omega)]; exact c.mu r hr
  · intro r hr; rw [oM _ _ (by omega), oN _ _ (by omega) (by omega)]; exact c.cl r hr
  · intro r hr; rw [oM _ _ (by omega), oN _ _ (by omega) (by omega)]; exact c.ru r hr
  · intro r hr
    by_cases q : r = i
    · subst q; rw [v7, n21, c.pe r hr]
    · rw [oM _ _ (by omega), oN _ _ (by omega) (by omega)]; exact c.pe r hr
  · intro r hr; rw [oM _ _ (by omega), oN _ _ (by omega) (by omega)]; exact c.wu r hr
  · intro r hr; rw [oM _ _ (by omega), oN _ _ (by omega) (by omega)]; exact c.su r hr
  · intro r hr; rw [oM _ _ (by omega), oN _ _ (by omega) (by omega)]; exact c.wl r hr
  · intro r hr; rw [oM _ _ (by omega), oN _ _ (by omega) (by omega)]; exact c.sl r hr
  · intro r hr; unfold m_mudS m_mud1 g_b; rw [sadd_s, gsadd_s]; simp only [jv_wi', c.sm r hr]
  · intro k hk j hj; rw [oM _ _ (by omega), oN _ _ (by omega) (by omega)]; exact c.it k hk j hj
  · rw [oM _ _ (by omega), oN _ _ (by omega) (by omega)]; exact c.rw
  · rw [oM _ _ (by omega), oN _ _ (by omega) (by omega)]; exact c.rs
  · intro s hs j; rfl
  · intro s hs τ hτ h24; rw [oM _ _ (by omega), oN _ _ (by omega) (by omega)]; exact h.ta s hs τ hτ h24
  · refine (gB.one 0 0 hb hi (fun r hr => oN _ _ (by omega) (by omega)) (fun r hr q => oN _ _ (by omega) (by omega)) (fun r hr q => oN _ _ (by omega) (by omega)) (fun r hr q => oN _ _ (by omega) (by omega)) (fun r hr q => oN _ _ (by omega) (by omega)) ?_ ?_ ?_ ?_ ?_ ?_).mono (by omega) (by omega)
    · rw [oN _ _ (by omega) (by omega)]; exact hb.wu i hi
    · rw [oN _ _ (by omega) (by omega)]; exact hb.wl i hi
    · rw [n18, e1]; omega
    · rw [oN _ _ (by omega) (by omega)]; exact hb.cl i hi
    · rw [oN _ _ (by omega) (by omega), oN _ _ (by omega) (by omega)]; omega
    · rw [n18, e1, oN _ _ (by omega) (by omega)]; omega
  · exact hg.same (fun a a1 a2 k => oN _ _ (by omega) (by omega))
  · intro q s hs hs8
    rw [oN _ _ (by omega) (by omega), oN _ _ (by omega) (by omega), oN _ _ (by omega) (by omega), oN _ _ (by omega) (by omega), oN _ _ (by omega) (by omega)]
    exact h.zs q s hs hs8
  · intro k hk a a1 a2; rw [oN _ _ (by omega) (by omega)]; exact h.zi k hk a a1 a2
theorem RR_dredgeC {M : w_M} {B : Nat} {N : w_M} {Y n ic t i j9 : Nat} {a9 : Int32} (h : RR M B N Y n ic t) (hi : i < n) (hj : j9 < n) (hij : i ≠ j9) (a0 : 0 ≤ a9.toInt) (a1 : a9.toInt ≤ (iv N (Y + 18) i).toInt) : RR (m_mudC M B i j9 a9) B (g_a (g_b (g_b N (Y + 21) i a9) (Y + 18) i a9) (Y + 19) j9 a9) Y n ic t := by
  have hn := h.n8; have hi6 := h.i6
  have ht := h.t1
  have c := h.rc
  have hb := h.b; have hg := h.gi
  have m0 := hb.mu i hi
  have gm := i_rg (iv N (Y + 18) i)
  have c0 := hb.cl j9 hj
  have cc := hb.c2 hi hj hij
  have cj := hb.mu j9 hj
  have ci := hb.cl i hi
  have e1 : (iv N (Y + 18) i - a9).toInt = (iv N (Y + 18) i).toInt - a9.toInt := i_sub (by omega) (by omega)
  have e2 : (iv N (Y + 19) j9 + a9).toInt = (iv N (Y + 19) j9).toInt + a9.toInt := i_add (by omega) (by omega)
  have oM : ∀ a j, (a ≠ B + 100 + i ∨ (j ≠ 7 ∧ j ≠ 4)) → (a ≠ B + 100 + j9 ∨ j ≠ 5) → iv (m_mudC M B i j9 a9) a j = iv M a j := fun a j q q2 => by unfold m_mudC m_mud1; simp (disch := omega) only [iv_n]
  have oN : ∀ a j, (a ≠ Y + 21 ∨ j ≠ i) → (a ≠ Y + 18 ∨ j ≠ i) → (a ≠ Y + 19 ∨ j ≠ j9) → iv (g_a (g_b (g_b N (Y + 21) i a9) (Y + 18) i a9) (Y + 19) j9 a9) a j = iv N a j := fun a j q q2 q3 => by unfold g_a g_b; simp (disch := omega) only [iv_n]
  have v7 : iv (m_mudC M B i j9 a9) (B + 100 + i) 7 = iv M (B + 100 + i) 7 - a9 := by unfold m_mudC m_mud1; simp (disch := omega) only [iv_n, iv_s]
  have v4 : iv (m_mudC M B i j9 a9) (B + 100 + i) 4 = iv M (B + 100 + i) 4 - a9 := by unfold m_mudC m_mud1; simp (disch := omega) only [iv_n, iv_s]
  have v5 : iv (m_mudC M B i j9 a9) (B + 100 + j9) 5 = iv M (B + 100 + j9) 5 + a9 := by unfold m_mudC m_mud1; simp (disch := omega) only [iv_n, iv_s]
  have n21 : iv (g_a (g_b (g_b N (Y + 21) i a9) (Y + 18) i a9) (Y + 19) j9 a9) (Y + 21) i = iv N (Y + 21) i - a9 := by unfold g_a g_b; simp (disch := omega) only [iv_n, iv_s]
  have n18 : iv (g_a (g_b (g_b N (Y + 21) i a9) (Y + 18) i a9) (Y + 19) j9 a9) (Y + 18) i = iv N (Y + 18) i - a9 := by unfold g_a g_b; simp (disch := omega) only [iv_n, iv_s]
  have n19 : iv (g_a (g_b (g_b N (Y + 21) i a9) (Y + 18) i a9) (Y + 19) j9 a9) (Y + 19) j9 = iv N (Y + 19) j9 + a9 := by unfold g_a g_b; simp (disch := omega) only [iv_n, iv_s]
  refine h.re hn hi6 (fun a j b1 b2 b3 => oM _ _ (by omega) (by omega)) (fun a j b1 b2 b3 => oN _ _ (by omega) (by omega) (by omega)) ?_ ?_ ?_ ?_ ⟨?_, ?_, ?_, ?_, ?_, ?_, ?_, ?_, ?_, ?_, ?_, ?_, ?_, ?_⟩ ?_ ?_ ?_ ?_ ?_
  · rw [oM _ _ (by omega) (by omega)]; exact h.Mn
  · rw [oM _ _ (by omega) (by omega)]; exact h.Mi
  · rw [oN _ _ (by omega) (by omega) (by omega)]; exact h.Nn
  · rw [oN _ _ (by omega) (by omega) (by omega)]; exact h.Ni
  · intro r hr; rw [oM _ _ (by omega) (by omega), oN _ _ (by omega) (by omega) (by omega)]; exact c.ar r hr
  · intro r hr
    by_cases q : r = i
    · subst q; rw [v4, n18, c.mu r hr]
    · rw [oM _ _ (by omega) (by omega), oN _ _ (by omega) (by omega) (by omega)]; exact c.mu r hr
  · intro r hr
    by_cases q : r = j9
    · subst q; rw [v5, n19, c.cl r hr]
    · rw [oM _ _ (by omega) (by omega), oN _ _ (by omega) (by omega) (by omega)]; exact c.cl r hr
  · intro r hr; rw [oM _ _ (by omega) (by omega), oN _ _ (by omega) (by omega) (by omega)]; exact c.ru r hr
  · intro r hr
    by_cases q : r = i
    · subst q; rw [v7, n21, c.pe r hr]
    · rw [oM _ _ (by omega) (by omega), oN _ _ (by omega) (by omega) (by omega)]; exact c.pe r hr
  · intro r hr; rw [oM _ _ (by omega) (by omega), oN _ _ (by omega) (by omega) (by omega)]; exact c.wu r hr
  · intro r hr; rw [oM _ _ (by omega) (by omega), oN _ _ (by omega) (by omega) (by omega)]; exact c.su r hr
  · intro r hr; rw [oM _ _ (by omega) (by omega), oN _ _ (by omega) (by omega) (by omega)]; exact c.wl r hr
  · intro r hr; rw [oM _ _ (by omega) (by omega), oN _ _ (by omega) (by omega) (by omega)]; exact c.sl r hr
  · exact c.sm
  · intro k hk j hj; rw [oM _ _ (by omega) (by omega), oN _ _ (by omega) (by omega) (by omega)]; exact c.it k hk j hj
  · rw [oM _ _ (by omega) (by omega), oN _ _ (by omega) (by omega) (by omega)]; exact c.rw
  · rw [oM _ _ (by omega) (by omega), oN _ _ (by omega) (by omega) (by omega)]; exact c.rs
  · intro s hs j; rfl
  · intro s hs τ hτ h24; rw [oM _ _ (by omega) (by omega), oN _ _ (by omega) (by omega) (by omega)]; exact h.ta s hs τ hτ h24
  · refine ⟨fun r hr => ?_, fun r hr => ?_, fun r hr => ?_, fun r hr => ?_, fun r hr => ?_, ?_, ?_⟩
    · rw [oN _ _ (by omega) (by omega) (by omega)]; exact hb.ar r hr
    · rw [oN _ _ (by omega) (by omega) (by omega)]; exact hb.wu r hr
    · rw [oN _ _ (by omega) (by omega) (by omega)]; exact hb.wl r hr
    · by_cases q : r = i
      · subst q; rw [n18, e1]; omega
      · rw [oN _ _ (by omega) (by omega) (by omega)]; exact hb.mu r hr
    · by_cases q : r = j9
      · subst q; rw [n19, e2]; omega
      · rw [oN _ _ (by omega) (by omega) (by omega)]; exact hb.cl r hr
    · have e := sm_eq (f := fun s => (iv N (Y + 22) s).toInt + (iv N (Y + 22) (8 + s)).toInt) (g := fun s => (iv (g_a (g_b (g_b N (Y + 21) i a9) (Y + 18) i a9) (Y + 19) j9 a9) (Y + 22) s).toInt + (iv (g_a (g_b (g_b N (Y + 21) i a9) (Y + 18) i a9) (Y + 19) j9 a9) (Y + 22) (8 + s)).toInt) (n := n) (fun r hr => by simp only [oN (Y + 22) r (by omega) (by omega) (by omega), oN (Y + 22) (8 + r) (by omega) (by omega) (by omega)])
      rw [e]; exact hb.W
    · have e := sm_2 (f := fun s => (iv N (Y + 18) s).toInt + (iv N (Y + 19) s).toInt) (g := fun s => (iv (g_a (g_b (g_b N (Y + 21) i a9) (Y + 18) i a9) (Y + 19) j9 a9) (Y + 18) s).toInt + (iv (g_a (g_b (g_b N (Y + 21) i a9) (Y + 18) i a9) (Y + 19) j9 a9) (Y + 19) s).toInt) hi hj hij (fun r hr q q2 => by simp only [oN (Y + 18) r (by omega) (by omega) (by omega), oN (Y + 19) r (by omega) (by omega) (by omega)])
      rw [n18, n19, oN (Y + 19) i (by omega) (by omega) (by omega), oN (Y + 18) j9 (by omega) (by omega) (by omega), e1, e2] at e
      have := hb.C; omega
  · exact hg.same (fun a a1 a2 k => oN _ _ (by omega) (by omega) (by omega))
  · intro q s hs hs8
    rw [oN _ _ (by omega) (by omega) (by omega), oN _ _ (by omega) (by omega) (by omega), oN _ _ (by omega) (by omega) (by omega), oN _ _ (by omega) (by omega) (by omega), oN _ _ (by omega) (by omega) (by omega)]
    exact h.zs q s hs hs8
  · intro k hk a a1 a2; rw [oN _ _ (by omega) (by omega) (by omega)]; exact h.zi k hk a a1 a2
/-- what the reference does with what is told -/
def g_hk (N : w_M) (Y : Nat) (kd a b c d e : Int32) : w_M := match cN kd with
  | 0 => gE_turn N Y (cN (iv N Y 3)) a b c d
  | 1 => wi N Y 2 a
  | 2 => gE_surge N Y (cN (iv N Y 5)) a b c
  | 3 => wi (wi N Y 8 a) Y 9 b
  | 4 => wi (wi N Y 10 a) Y 11 b
  | 5 => gE_sec N Y (cN (iv N Y 16)) a b c d
  | 6 => gE_int N Y (cN (iv N Y 25)) a b c d e
  | 7 => wi N (Y + 21) (cN a) b
  | _ => gE_dre N Y (cN a) b c
/-- what is told may be told -/
def v_hk (N : w_M) (Y : Nat) (kd a b c d e : Int32) : Prop :=
  (kd = 0 ∧ cN (iv N Y 3) < 6 ∧ 2 ≤ a.toInt ∧ a.toInt ≤ 60 ∧ 1 ≤ b.toInt ∧ b.toInt < a.toInt ∧ 0 ≤ c.toInt ∧ c.toInt ≤ 50 ∧ 0 ≤ d.toInt ∧ d.toInt ≤ 59) ∨
  (kd = 1 ∧ 0 ≤ a.toInt ∧ a.toInt ≤ 100) ∨
  (kd = 2 ∧ cN (iv N Y 5) < 20 ∧ -50 ≤ c.toInt ∧ c.toInt ≤ 100) ∨
  (kd = 3 ∧ 0 ≤ a.toInt ∧ a.toInt ≤ 500 ∧ 0 ≤ b.toInt ∧ b.toInt ≤ 500) ∨
  (kd = 4 ∧ cB b 12) ∨
  (kd = 5 ∧ cN (iv N Y 16) < 8 ∧ iv N Y 1 = 0 ∧ 1 ≤ a.toInt ∧ a.toInt ≤ 100 ∧ 0 ≤ b.toInt ∧ b.toInt ≤ 10000 ∧ 0 ≤ c.toInt ∧ c.toInt ≤ 10000 ∧ 0 ≤ d.toInt ∧ d.toInt ≤ 10000) ∨
  (kd = 6 ∧ cN (iv N Y 25) < 6 ∧ (∃ s, s < cN (iv N Y 16) ∧ a = nI s) ∧ 0 ≤ b.toInt ∧ 0 ≤ d.toInt ∧ 0 ≤ e.toInt) ∨
  (kd = 7 ∧ ∃ s, s < cN (iv N Y 16) ∧ a = nI s) ∨
  (kd = 8 ∧ ∃ s, s < cN (iv N Y 16) ∧ a = nI s ∧ 0 ≤ b.toInt ∧ b.toInt ≤ (iv N (Y + 18) s).toInt ∧ (c = -1 ∨ ∃ j, j < cN (iv N Y 16) ∧ c = nI j ∧ s ≠ j))
theorem RR_hk {M : w_M} {B : Nat} {N : w_M} {Y n ic t : Nat} {kd a b c d e : Int32} (h : RR M B N Y n ic t) (hv : v_hk N Y kd a b c d e) : ∃ n' ic', RR (m_hk M B kd a b c d e) B (g_hk N Y kd a b c d e) Y n' ic' t := by
  have hn := h.n8; have hi := h.i6
  have cn : cN (iv N Y 16) = n := by rw [h.Nn]; exact cN_nI (by omega)
  have ci : cN (iv N Y 25) = ic := by rw [h.Ni]; exact cN_nI (by omega)
  unfold v_hk at hv
  rw [cn, ci] at hv
  rcases hv with ⟨rfl, h1, h2, h3, h4, h5, h6, h7, h8, h9⟩ | ⟨rfl, h1, h2⟩ | ⟨rfl, h1, h2, h3⟩ | ⟨rfl, h1, h2, h3, h4⟩ | ⟨rfl, h1⟩ | ⟨rfl, h1, ht, h2, h3, h4, h5, h6, h7, h8, h9⟩ | ⟨rfl, h1, ⟨s, hs, es⟩, h2, h3, h4⟩ | ⟨rfl, s, hs, es⟩ | ⟨rfl, s, hs, es, h1, h2, h3⟩
  · exact ⟨n, ic, RR_turn h h1 h2 h3 h4 h5 h6 h7 h8 h9⟩
  · exact ⟨n, ic, RR_mean h h1 h2⟩
  · exact ⟨n, ic, RR_surge h h1 h2 h3⟩
  · exact ⟨n, ic, RR_river h h1 h2 h3 h4⟩
  · exact ⟨n, ic, RR_barrier h h1⟩
  · have t0 : t = 0 := by
      have e1 := h.Nt; have ht1 := h.t1
      rw [ht] at e1
      have := congrArg Int32.toInt e1
      rw [i_0, i_N (by omega)] at this; omega
    subst t0
    have r := RR_section h h1 h2 h3 h4 h5 h6 h7 h8 h9
    refine ⟨n + 1, ic, ?_⟩
    show RR (m_asec M B a b c d) B (gE_sec N Y (cN (iv N Y 16)) a b c d) Y (n + 1) ic 0
    rw [cn]; exact r
  · refine ⟨n, ic + 1, ?_⟩
    show RR (m_aint M B a b c d e) B (gE_int N Y (cN (iv N Y 25)) a b c d e) Y n (ic + 1) t
    rw [ci]; exact RR_intake h h1 hs es h2 h3 h4
  · refine ⟨n, ic, ?_⟩
    show RR (wi M (B + 100 + cN a) 7 b) B (wi N (Y + 21) (cN a) b) Y n ic t
    rw [es, cN_nI (by omega)]; exact RR_permit h hs
  · refine ⟨n, ic, ?_⟩
    show RR (if c = -1 then m_mudS M B (cN a) b else m_mudC M B (cN a) (cN c) b) B (gE_dre N Y (cN a) b c) Y n ic t
    have ca : cN a = s := by rw [es]; exact cN_nI (by omega)
    unfold gE_dre
    rw [ca]
    rcases h3 with rfl | ⟨j, hj, ej, hne⟩
    · rw [if_pos rfl, if_pos rfl]; exact RR_dredgeS h hs h1 h2
    · have cne : ¬ c = -1 := fun q => by
        rw [q] at ej
        have := congrArg Int32.toInt ej
        rw [i_N (by omega), show (-1 : Int32).toInt = -1 by decide] at this; omega
      have cc : cN c = j := by rw [ej]; exact cN_nI (by omega)
      rw [if_neg cne, if_neg cne, cc]; exact RR_dredgeC h hs hj hne h1 h2
