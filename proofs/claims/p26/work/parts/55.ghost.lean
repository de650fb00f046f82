/-! a fresh mouth; the reference replayed from what was told -/
theorem RR_0 {M : w_M} {B : Nat} {N : w_M} {Y : Nat} (m5 : iv M B 5 = 0) (m6 : iv M B 6 = 0) (m7 : iv M B 7 = 0) (m8 : iv M B 8 = 0) (m9 : iv M B 9 = 0) (s3 : iv M (B + 1) 3 = 0) (s4 : iv M (B + 1) 4 = 0) (s5 : iv M (B + 1) 5 = 50) (b3 : iv M (B + 2) 3 = 0) (b4 : iv M (B + 2) 4 = -1) (b5 : iv M (B + 2) 5 = 0) (b6 : iv M (B + 2) 6 = 0) (mj : ∀ i, i < 10 → jv M (B + 5) i = 0)
    (hN : ∀ a j, Y ≤ a → a < Y + 36 → iv N a j = if a = Y ∧ j = 2 then 50 else if a = Y ∧ j = 10 then -1 else 0) (nj : ∀ i, i < 10 → jv N (Y + 40) i = 0) : RR M B N Y 0 0 0 := by
  have z : ∀ a j, Y ≤ a → a < Y + 36 → (a ≠ Y ∨ (j ≠ 2 ∧ j ≠ 10)) → iv N a j = 0 := fun a j h1 h2 h3 => by rw [hN a j h1 h2, if_neg (by omega), if_neg (by omega)]
  have n2 : iv N Y 2 = 50 := by rw [hN _ _ (by omega) (by omega), if_pos ⟨rfl, rfl⟩]
  have n10 : iv N Y 10 = -1 := by rw [hN _ _ (by omega) (by omega), if_neg (by omega), if_pos ⟨rfl, rfl⟩]
  have c0 : cN (0 : Int32) = 0 := by decide
  have n0 : nI 0 = (0 : Int32) := by decide
  have n3 : cN (iv N Y 3) = 0 := by rw [z _ _ (by omega) (by omega) (by omega)]; exact c0
  have n5 : cN (iv N Y 5) = 0 := by rw [z _ _ (by omega) (by omega) (by omega)]; exact c0
  have n12 : cN (iv N Y 12) = 0 := by rw [z _ _ (by omega) (by omega) (by omega)]; exact c0
  refine ⟨by omega, by omega, by omega, ?_, ?_, ?_, ?_, ?_, ?_, ⟨?_, ?_, ?_, ?_, ?_, ?_, ?_, ?_, ?_, ?_, ?_, ?_, ?_, ?_⟩, ?_, ⟨?_, ?_, ?_, ?_, ?_, ?_, ?_⟩, ⟨?_, ?_, ?_, ?_, ?_⟩, ⟨?_, ?_, ?_, ?_, ?_⟩, ⟨?_, ?_, ?_, ?_, ?_, ?_, ?_, ?_, ?_⟩, ?_, ?_, ?_, ?_, ?_, ⟨?_, ?_, ?_, ?_, ?_, ?_, ?_, ?_, ?_, ?_⟩, ?_, ?_, ?_⟩
  · rw [m5, n0]
  · rw [m6, n0]
  · rw [m9, n0]
  · rw [z _ _ (by omega) (by omega) (by omega), n0]
  · rw [z _ _ (by omega) (by omega) (by omega), n0]
  · rw [z _ _ (by omega) (by omega) (by omega), n0]
  · intro s hs; omega
  · intro s hs; omega
  · intro s hs; omega
  · intro s hs; omega
  · intro s hs; omega
  · intro s hs; omega
  · intro s hs; omega
  · intro s hs; omega
  · intro s hs; omega
  · intro i hi; rw [mj i hi, nj i hi]
  · intro s hs; omega
  · rw [m7, z _ _ (by omega) (by omega) (by omega)]
  · rw [m8, z _ _ (by omega) (by omega) (by omega)]
  · intro s hs; omega
  · intro s hs; omega
  · intro s hs; omega
  · intro s hs; omega
  · intro s hs; omega
  · intro s hs; omega
  · intro s hs; omega
  · rw [sm]; omega
  · rw [sm]; omega
  · intro s hs; omega
  · intro s hs; omega
  · intro s hs; omega
  · intro s hs; omega
  · intro s hs; omega
  · rw [s5, n2]
  · rw [s3, z _ _ (by omega) (by omega) (by omega)]
  · rw [s4, z _ _ (by omega) (by omega) (by omega)]
  · rw [n3]; intro i hi; omega
  · rw [n5]; intro i hi; omega
  · exact ⟨0, by omega, by rw [z _ _ (by omega) (by omega) (by omega), n0]⟩
  · exact ⟨0, by omega, by rw [z _ _ (by omega) (by omega) (by omega), n0]⟩
  · rw [n2]; decide
  · rw [n2]; decide
  · rw [n3]; intro i hi; omega
  · rw [n3]; intro i hi; omega
  · rw [n3]; intro i hi; omega
  · rw [n3]; intro i hi; omega
  · rw [n5]; intro i hi; omega
  · rw [z _ _ (by omega) (by omega) (by omega)]; decide
  · rw [z _ _ (by omega) (by omega) (by omega)]; decide
  · rw [z _ _ (by omega) (by omega) (by omega)]; decide
  · rw [z _ _ (by omega) (by omega) (by omega)]; decide
  · intro s hs; omega
  · rw [b4, n10]
  · rw [b5, z _ _ (by omega) (by omega) (by omega)]
  · rw [b3, z _ _ (by omega) (by omega) (by omega)]
  · exact ⟨0, by omega, by rw [z _ _ (by omega) (by omega) (by omega), n0]⟩
  · rw [n12]; intro i hi; omega
  · rw [n12]; intro i hi; omega
  · rw [n12]; intro i hi; omega
  · intro i hi; exact z _ _ (by omega) (by omega) (by omega)
  · refine ⟨fun _ => ?_, fun _ => b6⟩
    unfold g_go; rw [z Y 12 (by omega) (by omega) (by omega)]; rfl
  · exact Or.inl n12
  · exact ⟨0, by omega, by rw [z _ _ (by omega) (by omega) (by omega), n0]⟩
  · intro _ s _ _; exact ⟨z _ _ (by omega) (by omega) (by omega), z _ _ (by omega) (by omega) (by omega), z _ _ (by omega) (by omega) (by omega), z _ _ (by omega) (by omega) (by omega), z _ _ (by omega) (by omega) (by omega)⟩
  · intro k _ a a1 a2; exact z _ _ (by omega) (by omega) (by omega)
def gN0 (Y : Nat) : w_M := (fun a j => if a = Y ∧ j = 2 then 50 else if a = Y ∧ j = 10 then -1 else 0, fun _ _ => 0)
def gs0 (R : Nat → Int32) (Y i : Nat) (N : w_M) : w_M := g_gos N Y (cN (R (7 * i)) - cN (iv N Y 1))
def gs1 (R : Nat → Int32) (Y i : Nat) (N : w_M) : w_M := g_hk N Y (R (7 * i + 1)) (R (7 * i + 2)) (R (7 * i + 3)) (R (7 * i + 4)) (R (7 * i + 5)) (R (7 * i + 6))
def gst (R : Nat → Int32) (Y : Nat) : Nat → w_M
  | 0 => gN0 Y
  | i + 1 => gs1 R Y i (gs0 R Y i (gst R Y i))
def gok (R : Nat → Int32) (Y c : Nat) : Prop := ∀ i, i < c → (∃ τ, R (7 * i) = nI τ ∧ τ ≤ 1000 ∧ cN (iv (gst R Y i) Y 1) ≤ τ) ∧ v_hk (gs0 R Y i (gst R Y i)) Y (R (7 * i + 1)) (R (7 * i + 2)) (R (7 * i + 3)) (R (7 * i + 4)) (R (7 * i + 5)) (R (7 * i + 6))
theorem gst_c {R R' : Nat → Int32} {Y : Nat} : ∀ i, (∀ j, j < 7 * i → R' j = R j) → gst R' Y i = gst R Y i
  | 0, _ => rfl
  | i + 1, h => by
    rw [gst, gst, gst_c i (fun j hj => h j (by omega))]
    unfold gs1 gs0
    rw [h (7 * i) (by omega), h (7 * i + 1) (by omega), h (7 * i + 2) (by omega), h (7 * i + 3) (by omega), h (7 * i + 4) (by omega), h (7 * i + 5) (by omega), h (7 * i + 6) (by omega)]
theorem gok_c {R R' : Nat → Int32} {Y c : Nat} (h : gok R Y c) (e : ∀ j, j < 7 * c → R' j = R j) : gok R' Y c := fun i hi => by
  obtain ⟨⟨τ, h1, h2, h3⟩, hv⟩ := h i hi
  have eg : gst R' Y i = gst R Y i := gst_c i (fun j hj => e j (by omega))
  have e0 : gs0 R' Y i (gst R Y i) = gs0 R Y i (gst R Y i) := by unfold gs0; rw [e (7 * i) (by omega)]
  refine ⟨⟨τ, by rw [e _ (by omega)]; exact h1, h2, by rw [eg]; exact h3⟩, ?_⟩
  rw [eg, e0, e (7 * i + 1) (by omega), e (7 * i + 2) (by omega), e (7 * i + 3) (by omega), e (7 * i + 4) (by omega), e (7 * i + 5) (by omega), e (7 * i + 6) (by omega)]; exact hv
theorem g_gos_add {Y : Nat} : ∀ (a b : Nat) (N : w_M), g_gos (g_gos N Y a) Y b = g_gos N Y (a + b)
  | 0, b, N => by rw [Nat.zero_add]; rfl
  | a + 1, b, N => by rw [g_gos, show a + 1 + b = (a + b) + 1 by omega, g_gos, g_gos_add a b]
theorem nI_inj {a b : Nat} (ha : a < 2 ^ 31) (hb : b < 2 ^ 31) (h : nI a = nI b) : a = b := by
  have := congrArg cN h
  rwa [cN_nI ha, cN_nI hb] at this
theorem RR.uniq {M : w_M} {B : Nat} {N N' : w_M} {Y n ic t n' ic' t' : Nat} (h : RR M B N Y n ic t) (h' : RR M B N' Y n' ic' t') : n' = n ∧ ic' = ic ∧ t' = t := by
  have a1 := h.n8; have a2 := h'.n8; have b1 := h.i6; have b2 := h'.i6; have c1 := h.t1; have c2 := h'.t1
  exact ⟨nI_inj (by omega) (by omega) (h'.Mn.symm.trans h.Mn), nI_inj (by omega) (by omega) (h'.Mi.symm.trans h.Mi), nI_inj (by omega) (by omega) (h'.Mt.symm.trans h.Mt)⟩
theorem RR.uniqN {M M' : w_M} {B B' : Nat} {N : w_M} {Y n ic t n' ic' t' : Nat} (h : RR M B N Y n ic t) (h' : RR M' B' N Y n' ic' t') : n' = n ∧ ic' = ic ∧ t' = t := by
  have a1 := h.n8; have a2 := h'.n8; have b1 := h.i6; have b2 := h'.i6; have c1 := h.t1; have c2 := h'.t1
  exact ⟨nI_inj (by omega) (by omega) (h'.Nn.symm.trans h.Nn), nI_inj (by omega) (by omega) (h'.Ni.symm.trans h.Ni), nI_inj (by omega) (by omega) (h'.Nt.symm.trans h.Nt)⟩
theorem RR_v {M : w_M} {B : Nat} {N N' : w_M} {Y n ic t n' ic' t' : Nat} {kd a b c d e : Int32} (h : RR M B N Y n ic t) (h' : RR M B N' Y n' ic' t') (v : v_hk N Y kd a b c d e) : v_hk N' Y kd a b c d e := by
  obtain ⟨e1, e2, e3⟩ := h.uniq h'
  subst e1; subst e2; subst e3
  have hn := h.n8
  have cn : cN (iv N Y 16) = n' := by rw [h.Nn]; exact cN_nI (by omega)
  unfold v_hk at v ⊢
  rw [← h'.rt.tc, h.rt.tc, ← h'.rt.sc, h.rt.sc, h'.Nn, ← h.Nn, h'.Ni, ← h.Ni, h'.Nt, ← h.Nt]
  rcases v with v | v | v | v | v | v | v | v | ⟨v0, s, hs, es, v1, v2, v3⟩
  · exact Or.inl v
  · exact Or.inr (Or.inl v)
  · exact Or.inr (Or.inr (Or.inl v))
  · exact Or.inr (Or.inr (Or.inr (Or.inl v)))
  · exact Or.inr (Or.inr (Or.inr (Or.inr (Or.inl v))))
  · exact Or.inr (Or.inr (Or.inr (Or.inr (Or.inr (Or.inl v)))))
  · exact Or.inr (Or.inr (Or.inr (Or.inr (Or.inr (Or.inr (Or.inl v))))))
  · exact Or.inr (Or.inr (Or.inr (Or.inr (Or.inr (Or.inr (Or.inr (Or.inl v)))))))
  · refine Or.inr (Or.inr (Or.inr (Or.inr (Or.inr (Or.inr (Or.inr (Or.inr ⟨v0, s, hs, es, v1, ?_, v3⟩)))))))
    rw [← h'.rc.mu s (by omega), h.rc.mu s (by omega)]; exact v2
theorem v_p {M : w_M} {B : Nat} {N : w_M} {Y n ic t : Nat} {kd a b c d e : Int32} (h : RR M B N Y n ic t) (v : v_hk N Y kd a b c d e) : p_hk M B kd a c := by
  have hn := h.n8; have hi := h.i6
  unfold v_hk at v; unfold p_hk
  rw [h.Mn, h.Mi]; rw [h.Nn, h.Ni] at v
  rcases v with v | v | v | v | v | v | v | v | ⟨v0, s, hs, es, v1, v2, v3⟩
  · exact ⟨0, by omega, v.1, by omega, by omega, by omega, by omega⟩
  · exact ⟨1, by omega, v.1, by omega, by omega, by omega, by omega⟩
  · exact ⟨2, by omega, v.1, by omega, by omega, by omega, by omega⟩
  · exact ⟨3, by omega, v.1, by omega, by omega, by omega, by omega⟩
  · exact ⟨4, by omega, v.1, by omega, by omega, by omega, by omega⟩
  · exact ⟨5, by omega, v.1, fun _ => v.2.1, by omega, by omega, by omega⟩
  · exact ⟨6, by omega, v.1, by omega, fun _ => v.2.1, by omega, by omega⟩
  · exact ⟨7, by omega, v.1, by omega, by omega, fun _ => v.2, by omega⟩
  · refine ⟨8, by omega, v0, by omega, by omega, fun _ => ⟨s, hs, es⟩, fun _ => ?_⟩
    rcases v3 with q | ⟨j, hj, ej, _⟩
    · exact Or.inl q
    · exact Or.inr ⟨j, hj, ej⟩
/-! what tellings leave -/
theorem fg_turn {N : w_M} {Y n : Nat} {p r g f : Int32} : fr Y N (gE_turn N Y n p r g f) := ((((fr_wi (by omega) (by omega)).tr (fr_wi (by omega) (by omega))).tr (fr_wi (by omega) (by omega))).tr (fr_wi (by omega) (by omega))).tr (fr_wi (by omega) (by omega))
theorem fg_surge {N : w_M} {Y n : Nat} {p r g : Int32} : fr Y N (gE_surge N Y n p r g) := (((fr_wi (by omega) (by omega)).tr (fr_wi (by omega) (by omega))).tr (fr_wi (by omega) (by omega))).tr (fr_wi (by omega) (by omega))
theorem fg_sec {N : w_M} {Y n : Nat} {p r g f : Int32} : fr Y N (gE_sec N Y n p r g f) := ((((fr_wi (by omega) (by omega)).tr (fr_wi (by omega) (by omega))).tr (fr_wi (by omega) (by omega))).tr (fr_wi (by omega) (by omega))).tr (fr_wi (by omega) (by omega))
theorem fg_int {N : w_M} {Y n : Nat} {p r g f x : Int32} : fr Y N (gE_int N Y n p r g f x) := (((((fr_wi (by omega) (by omega)).tr (fr_wi (by omega) (by omega))).tr (fr_wi (by omega) (by omega))).tr (fr_wi (by omega) (by omega))).tr (fr_wi (by omega) (by omega))).tr (fr_wi (by omega) (by omega))
theorem fg_dre {N : w_M} {Y n : Nat} {x y : Int32} : fr Y N (gE_dre N Y n x y) := by
  unfold gE_dre; split
  · exact ((fr_wi (by omega) (by omega)).tr (fr_wi (by omega) (by omega))).tr fr_gsadd
  · exact ((fr_wi (by omega) (by omega)).tr (fr_wi (by omega) (by omega))).tr (fr_wi (by omega) (by omega))
theorem fg_hk {N : w_M} {Y : Nat} {kd a b c d e : Int32} : fr Y N (g_hk N Y kd a b c d e) := by
  unfold g_hk; split
  · exact fg_turn
  · exact fr_wi (by omega) (by omega)
  · exact fg_surge
  · exact (fr_wi (by omega) (by omega)).tr (fr_wi (by omega) (by omega))
  · exact (fr_wi (by omega) (by omega)).tr (fr_wi (by omega) (by omega))
  · exact fg_sec
  · exact fg_int
  · exact fr_wi (by omega) (by omega)
  · exact fg_dre
/-- the oysters and what was thrown -/
theorem ghk_o {N : w_M} {Y : Nat} {kd a b c d e : Int32} {q j : Nat} (h : (q = Y ∧ (j = 0 ∨ j = 36)) ∨ (Y + 36 ≤ q ∧ q < Y + 40)) : iv (g_hk N Y kd a b c d e) q j = iv N q j := by
  unfold g_hk; split
  · unfold gE_turn g_a; simp (disch := omega) only [iv_n]
  · simp (disch := omega) only [iv_n]
  · unfold gE_surge g_a; simp (disch := omega) only [iv_n]
  · simp (disch := omega) only [iv_n]
  · simp (disch := omega) only [iv_n]
  · unfold gE_sec g_a; simp (disch := omega) only [iv_n]
  · unfold gE_int g_a; simp (disch := omega) only [iv_n]
  · simp (disch := omega) only [iv_n]
  · unfold gE_dre g_a g_b; split <;> simp (disch := omega) only [iv_n, iv_gsadd]
theorem gos_o {Y q j : Nat} (h : (q = Y ∧ (j = 0 ∨ j = 36)) ∨ (Y + 36 ≤ q ∧ q < Y + 40)) : ∀ (c : Nat) (N : w_M), iv (g_gos N Y c) q j = iv N q j
  | 0, _ => rfl
  | c + 1, N => by
    rw [g_gos, gos_o h c]
    unfold g_hour
    refine hrn_o ?_ (by omega) (by omega) (by omega) (by omega) (by omega) (by omega)
    rcases h with ⟨rfl, h⟩ | h
    · exact Or.inr ⟨rfl, by omega, by omega⟩
    · left; unfold kpA; omega
theorem fr_mbeg {M : w_M} {B : Nat} : fr B M (m_mbeg M B) := by
  have z : ∀ i (M1 : w_M), fr B M1 (m_z M1 B i) := by
    intro i; induction i with
    | zero => intro M1; exact fr.rf
    | succ i ih => intro M1; exact (ih M1).tr (fr_wj (by omega) (by omega))
  unfold m_mbeg m_bb m_sb
  refine (((((fr.tr ?_ (z 10 _)).tr (fr_wi (by omega) (by omega))).tr (fr_wi (by omega) (by omega))).tr (fr_wi (by omega) (by omega))).tr (fr_wi (by omega) (by omega))).tr (fr_wi (by omega) (by omega))
  exact ((((((fr_wi (by omega) (by omega)).tr (fr_wi (by omega) (by omega))).tr (fr_wi (by omega) (by omega))).tr (fr_wi (by omega) (by omega))).tr (fr_wi (by omega) (by omega))).tr (fr_wi (by omega) (by omega))).tr (fr_wi (by omega) (by omega))
theorem fr_hk {M : w_M} {B : Nat} {N : w_M} {Y n ic t : Nat} {kd a b c d e : Int32} (h : RR M B N Y n ic t) (v : v_hk N Y kd a b c d e) : fr B M (m_hk M B kd a b c d e) := by
  have hn := h.n8; have hi := h.i6
  have cn : cN (iv N Y 16) = n := by rw [h.Nn]; exact cN_nI (by omega)
  have ci : cN (iv N Y 25) = ic := by rw [h.Ni]; exact cN_nI (by omega)
  have cMn : cN (iv M B 5) = n := by rw [h.Mn]; exact cN_nI (by omega)
  have cMi : cN (iv M B 6) = ic := by rw [h.Mi]; exact cN_nI (by omega)
  unfold v_hk at v
  rw [cn, ci] at v
  rcases v with ⟨rfl, v⟩ | ⟨rfl, v⟩ | ⟨rfl, v⟩ | ⟨rfl, v⟩ | ⟨rfl, v⟩ | ⟨rfl, v⟩ | ⟨rfl, v⟩ | ⟨rfl, s, hs, es⟩ | ⟨rfl, s, hs, es, v1, v2, v3⟩
  · show fr B M (m_addT M (B + 1) a b c d)
    unfold m_addT; split
    · exact ((((fr_wi (by omega) (by omega)).tr (fr_wi (by omega) (by omega))).tr (fr_wi (by omega) (by omega))).tr (fr_wi (by omega) (by omega))).tr (fr_wi (by omega) (by omega))
    · exact fr.rf
  · exact fr_wi (by omega) (by omega)
  · show fr B M (m_addS M (B + 1) a b c)
    unfold m_addS; split
    · exact (((fr_wi (by omega) (by omega)).tr (fr_wi (by omega) (by omega))).tr (fr_wi (by omega) (by omega))).tr (fr_wi (by omega) (by omega))
    · exact fr.rf
  · exact (fr_wi (by omega) (by omega)).tr (fr_wi (by omega) (by omega))
  · exact (fr_wi (by omega) (by omega)).tr (fr_wi (by omega) (by omega))
  · show fr B M (m_asec M B a b c d)
    unfold m_asec m_sbeg; rw [cMn]
    exact (((((((((fr_wi (by omega) (by omega)).tr (fr_wi (by omega) (by omega))).tr (fr_wi (by omega) (by omega))).tr (fr_wi (by omega) (by omega))).tr (fr_wi (by omega) (by omega))).tr (fr_wi (by omega) (by omega))).tr (fr_wi (by omega) (by omega))).tr (fr_wi (by omega) (by omega))).tr (fr_wi (by omega) (by omega))).tr (fr_wi (by omega) (by omega))
  · show fr B M (m_aint M B a b c d e)
    unfold m_aint m_ibeg; rw [cMi]
    exact ((((((((((fr_wi (by omega) (by omega)).tr (fr_wi (by omega) (by omega))).tr (fr_wi (by omega) (by omega))).tr (fr_wi (by omega) (by omega))).tr (fr_wi (by omega) (by omega))).tr (fr_wi (by omega) (by omega))).tr (fr_wi (by omega) (by omega))).tr (fr_wi (by omega) (by omega))).tr (fr_wi (by omega) (by omega))).tr (fr_wi (by omega) (by omega))).tr (fr_wi (by omega) (by omega))
  · show fr B M (wi M (B + 100 + cN a) 7 b)
    rw [es, cN_nI (by omega)]; exact fr_wi (by omega) (by omega)
  · show fr B M (if c = -1 then m_mudS M B (cN a) b else m_mudC M B (cN a) (cN c) b)
    have ca : cN a = s := by rw [es]; exact cN_nI (by omega)
    rw [ca]
    rcases v3 with rfl | ⟨j, hj, ej, hne⟩
    · rw [if_pos rfl]; exact ((fr_wi (by omega) (by omega)).tr (fr_wi (by omega) (by omega))).tr fr_sadd
    · have cc : cN c = j := by rw [ej]; exact cN_nI (by omega)
      rw [cc]; split
      · exact ((fr_wi (by omega) (by omega)).tr (fr_wi (by omega) (by omega))).tr fr_sadd
      · exact ((fr_wi (by omega) (by omega)).tr (fr_wi (by omega) (by omega))).tr (fr_wi (by omega) (by omega))
theorem RR_mbeg {M : w_M} {B Y : Nat} : RR (m_mbeg M B) B (gN0 Y) Y 0 0 0 := by
  have zi9 : ∀ i (M1 : w_M) a j, iv (m_z M1 B i) a j = iv M1 a j := by
    intro i; induction i with
    | zero => intro M1 a j; rfl
    | succ i ih => intro M1 a j; rw [m_z, iv_wj, ih]
  have zj9 : ∀ i (M1 : w_M) j, j < i → jv (m_z M1 B i) (B + 5) j = 0 := by
    intro i; induction i with
    | zero => intro M1 j h; omega
    | succ i ih =>
      intro M1 j h
      rw [m_z]
      by_cases q : j = i
      · subst q; rw [jv_s]
      · rw [jv_n (by omega), ih _ _ (by omega)]
  refine RR_0 ?_ ?_ ?_ ?_ ?_ ?_ ?_ ?_ ?_ ?_ ?_ ?_ ?_ (fun a j h1 h2 => rfl) (fun i hi => rfl)
  · unfold m_mbeg; simp (disch := omega) only [iv_n, iv_s]
  · unfold m_mbeg; simp (disch := omega) only [iv_n, iv_s]
  · unfold m_mbeg; simp (disch := omega) only [iv_n, iv_s]
  · unfold m_mbeg; simp (disch := omega) only [iv_n, iv_s]
  · unfold m_mbeg; simp (disch := omega) only [iv_n, iv_s]
  · unfold m_mbeg m_bb m_sb; simp (disch := omega) only [iv_n, iv_s, zi9]
  · unfold m_mbeg m_bb m_sb; simp (disch := omega) only [iv_n, iv_s, zi9]
  · unfold m_mbeg m_bb m_sb; simp (disch := omega) only [iv_n, iv_s, zi9]
  · unfold m_mbeg m_bb m_sb; simp (disch := omega) only [iv_n, iv_s, zi9]
  · unfold m_mbeg m_bb m_sb; simp (disch := omega) only [iv_n, iv_s, zi9]
  · unfold m_mbeg m_bb m_sb; simp (disch := omega) only [iv_n, iv_s, zi9]
  · unfold m_mbeg m_bb m_sb; simp (disch := omega) only [iv_n, iv_s, zi9]
  · intro i hi; unfold m_mbeg; simp only [jv_wi']; exact zj9 10 _ i hi
/-- the replay: the anew mouth has what the replayed reference has -/
theorem RR_rep {M : w_M} {X Y c : Nat} (hg : gok (fun j => iv M (X + 2) j) Y c) : ∀ i, i ≤ c → (∃ n ic t, RR (m_rep M X i) (X + 2000) (gst (fun j => iv M (X + 2) j) Y i) Y n ic t) ∧ fr (X + 2000) M (m_rep M X i)
  | 0, _ => ⟨⟨0, 0, 0, RR_mbeg⟩, fr_mbeg⟩
  | i + 1, hi => by
    obtain ⟨⟨n, ic, t, h⟩, f⟩ := RR_rep hg i (by omega)
    obtain ⟨⟨τ, e1, e2, e3⟩, v⟩ := hg i (by omega)
    have rows : ∀ j, iv (m_rep M X i) (X + 2) j = iv M (X + 2) j := fun j => (f (X + 2) (by omega) j).1
    have ht1 := h.t1
    have cT : cN (iv (gst (fun j => iv M (X + 2) j) Y i) Y 1) = t := by rw [h.Nt]; exact cN_nI (by omega)
    have cM : cN (iv (m_rep M X i) (X + 2000) 9) = t := by rw [h.Mt]; exact cN_nI (by omega)
    have e1' : iv M (X + 2) (7 * i) = nI τ := e1
    rw [cT] at e3
    have cR : cN (iv M (X + 2) (7 * i)) = τ := by rw [e1']; exact cN_nI (by omega)
    have h0 : RR (m_st0 (m_rep M X i) X i) (X + 2000) (gs0 (fun j => iv M (X + 2) j) Y i (gst (fun j => iv M (X + 2) j) Y i)) Y n ic τ := by
      unfold m_st0 gs0
      rw [rows, cR, cM, cT]
      have r := RR_go (τ - t) h (by omega)
      rw [show t + (τ - t) = τ by omega] at r; exact r
    have f0 : fr (X + 2000) M (m_st0 (m_rep M X i) X i) := by
      unfold m_st0; exact f.tr (fr_go h.n8 h.i6 _ h.Mn h.Mi)
    have rows0 : ∀ j, iv (m_st0 (m_rep M X i) X i) (X + 2) j = iv M (X + 2) j := fun j => (f0 (X + 2) (by omega) j).1
    obtain ⟨n', ic', h1⟩ := RR_hk h0 v
    refine ⟨⟨n', ic', τ, ?_⟩, ?_⟩
    · rw [m_rep, gst]; unfold m_st1 gs1; simp only [rows0]; exact h1
    · rw [m_rep]; unfold m_st1; simp only [rows0]; exact f0.tr (fr_hk h0 v)
