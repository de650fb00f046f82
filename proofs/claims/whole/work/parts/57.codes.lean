/-! the codes of the two sides are the same -/
theorem fW_0 {v a b : Int32} : fW v a b = 0 ↔ ¬ (a.toInt ≤ v.toInt ∧ v.toInt ≤ b.toInt) := by
  have e : (a ≤ v ∧ v ≤ b) ↔ (a.toInt ≤ v.toInt ∧ v.toInt ≤ b.toInt) := by rw [i_le, i_le]
  rw [← e]; unfold fW; split
  · rename_i h; exact ⟨fun q => absurd q (by decide), fun q => absurd h q⟩
  · rename_i h; exact ⟨fun _ => h, fun _ => rfl⟩
theorem fW_1 {v a b : Int32} : ¬ fW v a b = 0 ↔ (a.toInt ≤ v.toInt ∧ v.toInt ≤ b.toInt) := by rw [fW_0, Decidable.not_not]
theorem fW_01 (v a b : Int32) : fW v a b = 0 ∨ fW v a b = 1 := by unfold fW; split; exact Or.inr rfl; exact Or.inl rfl
theorem i_m1 : (-1 : Int32).toInt = -1 := by decide
theorem nI_0' {x : Int32} (h : x = 0) : x = nI 0 := by rw [h]; decide
theorem nI_n0 {i : Nat} (h : i < 100) : ¬ nI (i + 1) = 0 := fun q => by
  have := congrArg Int32.toInt q
  rw [i_N (by omega), i_0] at this; omega
/-- a count below its bound, on the two sides -/
theorem c_lt {c : Int32} {b : Nat} (x : Int32) (hx : x.toInt = b) (h : cB c b) (hb : b < 1000) : c < x ↔ ¬ c = x := by
  obtain ⟨m, hm, e⟩ := h
  have := i_N (n := m) (by omega)
  rw [i_lt, i_eq, e, this, hx]; omega
theorem k_turn {p r g f c : Int32} (h : cB c 6) : kc_turn p r g f c = gk_turn p r g f c := by
  unfold kc_turn gk_turn
  have e := c_lt 6 (by decide) h (by decide)
  by_cases q : c = 6
  · rw [if_neg (show ¬ c < 6 from fun z => e.mp z q), if_pos q]
  · rw [if_pos (e.mpr q), if_neg q]
theorem k_surge {a b h9 now c : Int32} (h : cB c 20) : kc_surge a b h9 now c = gk_surge a b h9 now c := by
  unfold kc_surge gk_surge
  have e := c_lt 20 (by decide) h (by decide)
  by_cases q : c = 20
  · rw [if_neg (show ¬ c < 20 from fun z => e.mp z q), if_pos q]
  · rw [if_pos (e.mpr q), if_neg q]
theorem k_bar {m l : Int32} : kc_bar m l = gk_bar m l := by
  unfold kc_bar gk_bar
  have e : (¬ m = -1 ∧ fW m 0 500 = 0) ↔ fW m (-1) 500 = 0 := by
    rw [fW_0, fW_0, i_eq, i_m1, i_0, show (500 : Int32).toInt = 500 by decide]; omega
  simp only [e]
theorem k_sec {ar up low mud c now : Int32} (h : cB c 8) : kc_sec ar up low mud c now = gk_sec ar up low mud c now := by
  unfold kc_sec gk_sec
  have e1 : (fW ar 1 100 = 0 ∨ fW mud 0 10000 = 0 ∨ fW up 0 10000 = 0 ∨ fW low 0 10000 = 0) ↔ (fW ar 1 100 = 0 ∨ fW up 0 10000 = 0 ∨ fW low 0 10000 = 0 ∨ fW mud 0 10000 = 0) := by
    constructor
    · rintro (q | q | q | q)
      · exact Or.inl q
      · exact Or.inr (Or.inr (Or.inr q))
      · exact Or.inr (Or.inl q)
      · exact Or.inr (Or.inr (Or.inl q))
    · rintro (q | q | q | q)
      · exact Or.inl q
      · exact Or.inr (Or.inr (Or.inl q))
      · exact Or.inr (Or.inr (Or.inr q))
      · exact Or.inr (Or.inl q)
  simp only [e1]
  split
  · rfl
  · have e2 : (¬ 8 ≤ c ∧ now ≤ 0) ↔ ¬ (c = 8 ∨ 0 < now) := by
      obtain ⟨m, hm, e⟩ := h
      have := i_N (n := m) (by omega)
      rw [i_le, i_le, i_eq, i_lt, i_0, i_8, e, this]; omega
    by_cases q : c = 8 ∨ 0 < now
    · rw [if_neg (fun z => e2.mp z q), if_pos q]
    · rw [if_pos (e2.mpr q), if_neg q]
theorem k_has {M : w_M} {B : Nat} {N : w_M} {Y n : Nat} {v : Int32} (h1 : iv M B 5 = nI n) (h2 : iv N Y 16 = nI n) (hn : n ≤ 8) : s_has M B v = g_has N Y v := by
  unfold s_has g_has
  have e := i_N (n := n) (by omega)
  have e1 : (nI n - 1).toInt = (n : Int) - 1 := by rw [i_sub (by rw [i_1]; omega) (by rw [i_1]; omega), i_1, e]
  rw [h1, h2]; unfold fW
  by_cases q : v < 0
  · rw [if_pos q, if_neg]; rw [i_le, i_0]; rw [i_lt, i_0] at q; omega
  · rw [if_neg q]
    by_cases q2 : nI n ≤ v
    · rw [if_pos q2, if_neg]; rw [i_le, i_le, e1]; rw [i_le, e] at q2; omega
    · rw [if_neg q2, if_pos]; rw [i_le, i_le, e1, i_0]; rw [i_le, e] at q2; rw [i_lt, i_0] at q; omega
theorem k_int {has ra gr ro us c : Int32} (h : cB c 6) : kc_int has ra gr ro us c = gk_int has ra gr ro us c := by
  unfold kc_int gk_int
  have e := c_lt 6 (by decide) h (by decide)
  by_cases q : c = 6
  · rw [if_neg (show ¬ c < 6 from fun z => e.mp z q), if_pos q]
  · rw [if_pos (e.mpr q), if_neg q]
theorem k_oys {has gr hr c : Int32} (h : cB c 6) : kc_oys has gr hr c = gk_oys has gr hr c := by
  unfold kc_oys gk_oys
  have e := c_lt 6 (by decide) h (by decide)
  by_cases q : c = 6
  · rw [if_neg (show ¬ c < 6 from fun z => e.mp z q), if_pos q]
  · rw [if_pos (e.mpr q), if_neg q]
theorem k_why {M : w_M} {B : Nat} {N : w_M} {Y n ic s : Nat} {T : Nat → Nat → Int32} {a : Int32} (h : Rc M B N Y n ic T) (hs : s < n) : f_ref a (iv M (B + 100 + s) 7) (iv M (B + 100 + s) 4) = g_why N Y s a := by
  unfold f_ref g_why; rw [h.pe s hs, h.mu s hs]
theorem f_ref_01 (a p m : Int32) : f_ref a p m = 0 ∨ 0 < f_ref a p m := by
  unfold f_ref; split
  · exact Or.inr (by decide)
  · split
    · exact Or.inr (by decide)
    · split
      · exact Or.inr (by decide)
      · exact Or.inl rfl
theorem k_dre {h1 h2 s a to p m : Int32} : kc_dre h1 h2 s a to (f_ref a p m) = gk_dre h1 h2 s a to (f_ref a p m) := by
  unfold kc_dre gk_dre
  split
  · rfl
  · split
    · rfl
    · rcases f_ref_01 a p m with q | q
      · rw [if_pos q, if_neg]; rw [q]; decide
      · rw [if_neg (fun z => by rw [z] at q; exact absurd q (by decide)), if_pos q]
theorem k_cnt {v : Int32} {n : Nat} (hn : n ≤ 1000) : (v < 0 ∨ ¬ v < nI n) ↔ fW v 0 (nI n - 1) = 0 := by
  have e := i_N (n := n) (by omega)
  have e1 : (nI n - 1).toInt = (n : Int) - 1 := by rw [i_sub (by rw [i_1]; omega) (by rw [i_1]; omega), i_1, e]
  rw [fW_0, e1, i_lt, i_lt, e, i_0]; omega
theorem k_oin {v w : Int32} {n : Nat} (hn : n ≤ 1000) : kc_oin v (nI n) w = gk_oin v (nI n) w := by
  unfold kc_oin gk_oin; simp only [k_cnt hn]
theorem k_cls {v : Int32} {n : Nat} (hn : n ≤ 1000) : kc_cls v (nI n) = gk_cls v (nI n) := by
  unfold kc_cls gk_cls; simp only [k_cnt hn]
theorem k_clo {v w : Int32} {n : Nat} (hn : n ≤ 1000) : kc_clo v (nI n) w = gk_clo v (nI n) w := by
  unfold kc_clo gk_clo; simp only [k_cnt hn]
/-! how a call's comparison ends -/
theorem okM.c {M M' : w_M} {Y : Nat} (h : okM M Y) (e : ∀ a, Y ≤ a → a < Y + 40 → ∀ j, (a ≠ Y ∨ j ≠ 0) → iv M' a j = iv M a j) : okM M' Y := by
  obtain ⟨⟨s1, s2, s3, s4⟩, h1, h2, h3, h4, h5, h6, h7, h8⟩ := h
  refine ⟨⟨?_, ?_, ?_, ?_⟩, ?_, ?_, ?_, ?_, ?_, ?_, ?_, ?_⟩
  · rw [e _ (by omega) (by omega) _ (by omega)]; exact s1
  · rw [e _ (by omega) (by omega) _ (by omega)]; exact s2
  · rw [e _ (by omega) (by omega) _ (by omega)]; exact s3
  · unfold okT at s4 ⊢
    rw [e _ (by omega) (by omega) _ (by omega)]; intro i hi
    rw [e _ (by omega) (by omega) _ (by omega), e _ (by omega) (by omega) _ (by omega)]; exact s4 i hi
  · rw [e _ (by omega) (by omega) _ (by omega)]; exact h1
  · rw [e _ (by omega) (by omega) _ (by omega)]; exact h2
  · rw [e _ (by omega) (by omega) _ (by omega)]; exact h3
  · rw [e _ (by omega) (by omega) _ (by omega)]; exact h4
  · rw [e _ (by omega) (by omega) _ (by omega)]; exact h5
  · rw [e _ (by omega) (by omega) _ (by omega)]; intro s hs; rw [e _ (by omega) (by omega) _ (by omega)]; exact h6 s hs
  · rw [e _ (by omega) (by omega) _ (by omega), e _ (by omega) (by omega) _ (by omega)]; intro k hk; rw [e _ (by omega) (by omega) _ (by omega)]; exact h7 k hk
  · rw [e _ (by omega) (by omega) _ (by omega), e _ (by omega) (by omega) _ (by omega)]; intro k hk; rw [e _ (by omega) (by omega) _ (by omega), e _ (by omega) (by omega) _ (by omega)]; exact h8 k hk
/-- a refused call -/
theorem fin_bad {X Y t : Nat} {M M3 M4 : w_M} {r5 r7 : Int32} {P : Prop} {kk : Nat} (h : IV X Y t M) (hXY : X + 4000 ≤ Y) (hk : kk < 100) (e5 : r5 = nI (kk + 1)) (e3 : M3 = wi M Y 0 (nI (kk + 1))) (e7 : r7 = iv M3 Y 0) (e4 : M4 = M3) : r7 = r5 ∧ (r5 = 0 → P) ∧ IV X Y (t + 1) M4 := by
  subst e4; subst e3
  refine ⟨by rw [e7, iv_s, e5], fun q => absurd (e5.symm.trans q) (nI_n0 hk), ?_⟩
  obtain ⟨n, ic, τ, c, h⟩ := h
  exact ⟨n, ic, τ, c, h.same hXY (by omega) (fun a j _ q => iv_n (by omega)) (fun j => rfl) (fun j => rfl)⟩
/-- a call that only asks -/
theorem fin_ask {X Y O t : Nat} {M M3 M4 : w_M} {r5 r7 : Int32} {x y : Int64} (h : IV X Y t M) (hXY : X + 4000 ≤ Y) (hO : Y + 200 ≤ O) (e5 : r5 = nI 0) (exy : x = y) (e3 : M3 = wi (wj M O 0 x) Y 0 0) (e7 : r7 = iv M3 Y 0) (e4 : M4 = M3) : r7 = r5 ∧ (r5 = 0 → jv M4 O 0 = y) ∧ IV X Y (t + 1) M4 := by
  subst e4; subst e3
  refine ⟨by rw [e7, iv_s, e5]; decide, fun _ => by rw [jv_wi', jv_s, exy], ?_⟩
  obtain ⟨n, ic, τ, c, h⟩ := h
  exact ⟨n, ic, τ, c, h.same hXY (by omega) (fun a j _ q => by rw [iv_n (by omega), iv_wj]) (fun j => by rw [jv_wi', jv_n (by omega)]) (fun j => by rw [jv_wi', jv_n (by omega)])⟩
/-- a call that tells -/
theorem fin_tell {X Y O t : Nat} {M M3 M4 Mv : w_M} {n ic τ c : Nat} {r5 r7 : Int32} {x y : Int64} {kd a b c9 d e : Int32} (h : IVs X Y t M n ic τ c) (hXY : X + 4000 ≤ Y) (hO : Y + 200 ≤ O) (ht : t < 512) (hv : v_hk M Y kd a b c9 d e) (e5 : r5 = nI 0) (exy : x = y)
    (eM : Mv = m_hk (m_keep M (X + 1) (iv M (X + 1000) 9) kd a b c9 d e) (X + 1000) kd a b c9 d e) (e3 : M3 = g_hk (wi (wj Mv O 0 x) Y 0 0) Y kd a b c9 d e) (e7 : r7 = iv M3 Y 0) (e4 : M4 = M3) : r7 = r5 ∧ (r5 = 0 → jv M4 O 0 = y) ∧ IV X Y (t + 1) M4 := by
  subst e4; subst e3; subst eM
  refine ⟨by rw [e7, ghk_o (Or.inl ⟨rfl, Or.inl rfl⟩), iv_s, e5]; decide, fun _ => ?_, h.tell hXY hO ht hv⟩
  rw [(fg_hk O (by omega) 0).2, jv_wi', jv_s, exy]
