/-! what is kept over an hour -/
def lk (N N' : w_M) (Y k : Nat) : Prop := (iv N (Y + 33) k).toInt ≤ (iv N' (Y + 33) k).toInt ∧ (iv N' (Y + 33) k).toInt ≤ (iv N (Y + 33) k).toInt + (iv N (Y + 30) k).toInt
theorem drs_k {N : w_M} {Y n ic t : Nat} {W0 M0 Z W C : Int} (h : kA N Y n ic W0 M0 Z) (g : gI N Y n ic) (b : gB N Y n W C) (k9 : ∀ k, k < ic → kI N Y k t) (ht : t < 1000) (hn : n ≤ 8) (hi6 : ic ≤ 6) (hW : W < 2 ^ 26) (hZ : Z ≤ 2 ^ 58) : ∀ i, i ≤ ic → kA (g_drs N Y i) Y n ic W0 M0 (Z + i * 2 ^ 31) ∧ gI (g_drs N Y i) Y n ic ∧ gB (g_drs N Y i) Y n W C ∧ (∀ k, k < i → kI (g_drs N Y i) Y k (t + 1) ∧ lk N (g_drs N Y i) Y k) ∧ (∀ k, i ≤ k → ∀ a, 26 ≤ a → a ≤ 35 → iv (g_drs N Y i) (Y + a) k = iv N (Y + a) k) ∧ (∀ k a, 26 ≤ a → a ≤ 30 → iv (g_drs N Y i) (Y + a) k = iv N (Y + a) k)
  | 0, _ => ⟨h.up (by push_cast; omega), g, b, fun k hk => absurd hk (by omega), fun _ _ _ _ _ => rfl, fun _ _ _ _ => rfl⟩
  | i + 1, hi => by
    obtain ⟨h1, g1, b1, p1, p2, p3⟩ := drs_k h g b k9 ht hn hi6 hW hZ i (by omega)
    obtain ⟨s, hs, es⟩ := g1.at9 i (by omega)
    have ec : cN (iv (g_drs N Y i) (Y + 26) i) = s := by rw [es]; exact cN_nI (by omega)
    have ki : kI (g_drs N Y i) Y i t := (k9 i (by omega)).same (fun a a1 a2 => p2 i (Nat.le_refl _) a (by omega) a2)
    have r := kA_dr h1 g1 b1 ki (by omega) (by omega) hn hW (show i < ic by omega) hs (by omega)
    obtain ⟨c1, c2, -⟩ := dr_c (N := g_drs N Y i) (Y := Y) (k := i) (s := s) _ rfl
    rw [g_drs, ec]
    refine ⟨r.1.up (by push_cast; omega), gI_dr g1 b1 hn (by omega) hs, gB_dr g1 b1 hn (by omega) hs, fun k hk => ?_, fun k hk a a1 a2 => ?_, fun k a a1 a2 => ?_⟩
    · by_cases q : k = i
      · subst q
        refine ⟨r.2.1, ?_, ?_⟩
        · rw [← p2 k (Nat.le_refl _) 33 (by omega) (by omega)]; exact r.2.2.1
        · rw [← p2 k (Nat.le_refl _) 33 (by omega) (by omega), ← p2 k (Nat.le_refl _) 30 (by omega) (by omega)]; exact r.2.2.2
      · obtain ⟨u1, u2⟩ := p1 k (by omega)
        have e : ∀ a, 27 ≤ a → a ≤ 35 → iv (g_dr (g_drs N Y i) Y i s) (Y + a) k = iv (g_drs N Y i) (Y + a) k := fun a a1 a2 => by
          by_cases q2 : a < 31
          · exact c1 a k (Or.inl q2) (by omega) (by omega) (by omega)
          · exact c2 a k (by omega) a2 q
        exact ⟨u1.same e, by unfold lk at *; rw [e 33 (by omega) (by omega)]; exact u2⟩
    · by_cases q2 : a < 31
      · rw [c1 a k (Or.inl q2) (by omega) (by omega) (by omega)]; exact p2 k (by omega) a a1 a2
      · rw [c2 a k (by omega) a2 (by omega)]; exact p2 k (by omega) a a1 a2
    · rw [c1 a k (Or.inl (by omega)) (by omega) (by omega) (by omega)]; exact p3 k a a1 a2
theorem ab_k {N : w_M} {Y n ic : Nat} {sh : Bool} {x : Int32} {W0 M0 Z W C X : Int} (h : kA N Y n ic W0 M0 Z) (b : gB N Y n W C) (hn : n ≤ 8) (hW : W + 250000 < 2 ^ 26) (hC : C + 500 < 2 ^ 28) (hZ : Z ≤ 2 ^ 58) (w0 : 0 ≤ (iv N Y 8).toInt) (w1 : (iv N Y 8).toInt ≤ 500) (s0 : 0 ≤ (iv N Y 9).toInt) (s1 : (iv N Y 9).toInt ≤ 500) (x0 : -1000 ≤ x.toInt) (x1 : x.toInt ≤ X) (X0 : 0 ≤ X) (X1 : X ≤ 2400) : kA (g_ab N Y n sh x) Y n ic W0 M0 (Z + 2 ^ 32) ∧ gB (g_ab N Y n sh x) Y n (W + 50 * X + 500) (C + 500) := by
  unfold g_ab
  by_cases n0 : n = 0
  · rw [if_pos n0]; exact ⟨h.up (by omega), b.mono (by omega) (by omega)⟩
  · rw [if_neg n0]
    cases sh
    · rw [if_neg (by decide)]
      have v8 : iv (g_mo N Y x) Y 8 = iv N Y 8 := kp_mo.1 8 (by omega) (by omega)
      have v9 : iv (g_mo N Y x) Y 9 = iv N Y 9 := kp_mo.1 9 (by omega) (by omega)
      have h2 := kA_mo h b (show 0 < n by omega) hn (by omega) (by omega) (by omega) x0 (by omega)
      have b2 := gB_moF b (show 0 < n by omega) hn (by omega) (by omega) x0 (by omega) x1 X0
      exact ⟨(kA_rv h2 b2 (by omega) hn (by omega) (by omega) (by omega) (by rw [v8]; exact w0) (by rw [v8]; exact w1) (by rw [v9]; exact s0) (by rw [v9]; exact s1)).up (by omega), gB_rv b2 (by omega) hn (by omega) (by omega) (by rw [v8]; exact w0) (by rw [v8]; exact w1) (by rw [v9]; exact s0) (by rw [v9]; exact s1)⟩
    · rw [if_pos rfl]
      exact ⟨(kA_rv h b (by omega) hn (by omega) (by omega) (by omega) w0 w1 s0 s1).up (by omega), (gB_rv b (by omega) hn (by omega) (by omega) w0 w1 s0 s1).mono (by omega) (by omega)⟩
theorem it_same {N N' : w_M} {Y : Nat} (h : kp Y N N') (q : kq Y 0 N N') : ∀ a, 26 ≤ a → a ≤ 35 → ∀ k, iv N' (Y + a) k = iv N (Y + a) k := fun a a1 a2 k => by
  by_cases c : a < 31
  · exact h.2 (Y + a) (by unfold kpA; omega) k
  · exact q a (by omega) a2 k (Nat.zero_le _)
theorem hrn_k {N : w_M} {Y n ic t : Nat} {x : Int32} {W0 M0 Z W C X : Int} (h : kA N Y n ic W0 M0 Z) (b : gB N Y n W C) (g : gI N Y n ic) (k9 : ∀ k, k < ic → kI N Y k t) (ht : t < 1000) (hn : n ≤ 8) (hi6 : ic ≤ 6) (hW : W + 250000 < 2 ^ 26) (hC : C + 500 < 2 ^ 28) (hZ : Z ≤ 2 ^ 57) (w0 : 0 ≤ (iv N Y 8).toInt) (w1 : (iv N Y 8).toInt ≤ 500) (s0 : 0 ≤ (iv N Y 9).toInt) (s1 : (iv N Y 9).toInt ≤ 500) (x0 : -1000 ≤ x.toInt) (x1 : x.toInt ≤ X) (X0 : 0 ≤ X) (X1 : X ≤ 2400) : kA (g_hrn N Y n ic t x) Y n ic W0 M0 (Z + 2 ^ 34) ∧ gB (g_hrn N Y n ic t x) Y n (W + 50 * X + 500) (C + 500) ∧ (∀ k, k < ic → kI (g_hrn N Y n ic t x) Y k (t + 1) ∧ lk N (g_hrn N Y n ic t x) Y k ∧ iv (g_hrn N Y n ic t x) (Y + 30) k = iv N (Y + 30) k) := by
  have r0 : ∀ a j, a ≠ Y + 20 → iv (g_r0 N Y n) a j = iv N a j := by
    intro a j ha
    have : ∀ i, iv (g_r0 N Y i) a j = iv N a j := by
      intro i; induction i with
      | zero => rfl
      | succ i ih => rw [g_r0, iv_n (by omega), ih]
    exact this n
  unfold g_hrn
  generalize hsh : g_shut (g_r0 N Y n) Y = sh
  have o2 : ∀ a j, (a ≠ Y ∨ j ≠ 12) → a ≠ Y + 13 → a ≠ Y + 14 → a ≠ Y + 15 → a ≠ Y + 20 → iv (g_c0 (g_r0 N Y n) Y x) a j = iv N a j := fun a j q1 q2 q3 q4 q5 => by rw [c0_o q1 q2 q3 q4, r0 _ _ q5]
  have h2 : kA (g_c0 (g_r0 N Y n) Y x) Y n ic W0 M0 Z := (kA_r0 h n).same (fun i => c0_o (by omega) (by omega) (by omega) (by omega)) (fun i => c0_o (by omega) (by omega) (by omega) (by omega)) (fun i => c0_o (by omega) (by omega) (by omega) (by omega)) (fun i => c0_o (by omega) (by omega) (by omega) (by omega)) (fun i => c0_o (by omega) (by omega) (by omega) (by omega)) (fun i => c0_j)
  have b2 : gB (g_c0 (g_r0 N Y n) Y x) Y n W C := (gB_r0 b n).same (fun i => c0_o (by omega) (by omega) (by omega) (by omega)) (fun i => c0_o (by omega) (by omega) (by omega) (by omega)) (fun i => c0_o (by omega) (by omega) (by omega) (by omega)) (fun i => c0_o (by omega) (by omega) (by omega) (by omega))
  have i2 : ∀ a, 26 ≤ a → a ≤ 35 → ∀ k, iv (g_c0 (g_r0 N Y n) Y x) (Y + a) k = iv N (Y + a) k := fun a a1 a2 k => o2 _ _ (by omega) (by omega) (by omega) (by omega) (by omega)
  have v8 : iv (g_c0 (g_r0 N Y n) Y x) Y 8 = iv N Y 8 := o2 _ _ (by omega) (by omega) (by omega) (by omega) (by omega)
  have v9 : iv (g_c0 (g_r0 N Y n) Y x) Y 9 = iv N Y 9 := o2 _ _ (by omega) (by omega) (by omega) (by omega) (by omega)
  generalize g_c0 (g_r0 N Y n) Y x = N2 at *
  obtain ⟨h3, b3⟩ := ab_k (sh := sh) h2 b2 hn hW hC (by omega) (by rw [v8]; exact w0) (by rw [v8]; exact w1) (by rw [v9]; exact s0) (by rw [v9]; exact s1) x0 x1 X0 X1
  have i3 : ∀ a, 26 ≤ a → a ≤ 35 → ∀ k, iv (g_ab N2 Y n sh x) (Y + a) k = iv N (Y + a) k := fun a a1 a2 k => (it_same kp_ab kq_ab a a1 a2 k).trans (i2 a a1 a2 k)
  generalize g_ab N2 Y n sh x = N3 at *
  unfold g_e1
  have h4 := kA_nbs h3 b3 hn (by omega) (by omega) (n - 1) (Nat.le_refl _)
  have b4 := gB_nbs b3 hn (by omega) (by omega) (n - 1) (Nat.le_refl _)
  have i4 : ∀ a, 26 ≤ a → a ≤ 35 → ∀ k, iv (g_nbs N3 Y (n - 1)) (Y + a) k = iv N (Y + a) k := fun a a1 a2 k => (it_same (kp_nbs _) (kq_nbs _) a a1 a2 k).trans (i3 a a1 a2 k)
  generalize g_nbs N3 Y (n - 1) = N4 at *
  unfold g_e2
  have h5 := kA_mxs h4 b4 hn (by omega) n (Nat.le_refl _)
  have b5 := gB_mxs b4 n
  have i5 : ∀ a, 26 ≤ a → a ≤ 35 → ∀ k, iv (g_mxs N4 Y n) (Y + a) k = iv N (Y + a) k := fun a a1 a2 k => (it_same (kp_mxs _) (kq_mxs _) a a1 a2 k).trans (i4 a a1 a2 k)
  generalize g_mxs N4 Y n = N5 at *
  unfold g_e3
  have h6 := kA_sts h5 b5 (by omega) n (Nat.le_refl _)
  have b6 := gB_sts b5 (by omega) n (Nat.le_refl _)
  have i6 : ∀ a, 26 ≤ a → a ≤ 35 → ∀ k, iv (g_sts N5 Y n) (Y + a) k = iv N (Y + a) k := fun a a1 a2 k => (it_same (kp_sts _) (kq_sts _) a a1 a2 k).trans (i5 a a1 a2 k)
  generalize g_sts N5 Y n = N6 at *
  unfold g_e4
  have g6 : gI N6 Y n ic := g.same (fun a a1 a2 k => i6 a (by omega) (by omega) k)
  obtain ⟨h7, g7, b7, p7, -, p8⟩ := drs_k h6 g6 b6 (fun k hk => (k9 k hk).same (fun a a1 a2 => i6 a (by omega) (by omega) k)) ht hn hi6 (by omega) (by omega) ic (Nat.le_refl _)
  have p9 : ∀ k, k < ic → lk N (g_drs N6 Y ic) Y k := fun k hk => by
    have q := (p7 k hk).2
    unfold lk at *; rw [i6 33 (by omega) (by omega), i6 30 (by omega) (by omega)] at q; exact q
  generalize g_drs N6 Y ic = N7 at *
  have o8 : ∀ a j, (a ≠ Y ∨ j ≠ 1) → a ≠ Y + 7 → a ≠ Y + 24 → iv (g_e5 N7 Y n t x) a j = iv N7 a j := fun a j q1 q2 q3 => ts_ok q1 q2 q3
  have j8 : ∀ i, jv (g_e5 N7 Y n t x) (Y + 40) i = jv N7 (Y + 40) i := fun i => by unfold g_e5; exact ts_j n
  have z9 : (Z + 2 ^ 32 + (ic : Int) * 2 ^ 31) ≤ Z + 2 ^ 34 := by omega
  refine ⟨((h7.same (fun i => o8 _ _ (by omega) (by omega) (by omega)) (fun i => o8 _ _ (by omega) (by omega) (by omega)) (fun i => o8 _ _ (by omega) (by omega) (by omega)) (fun i => o8 _ _ (by omega) (by omega) (by omega)) (fun i => o8 _ _ (by omega) (by omega) (by omega)) j8).up z9), b7.same (fun i => o8 _ _ (by omega) (by omega) (by omega)) (fun i => o8 _ _ (by omega) (by omega) (by omega)) (fun i => o8 _ _ (by omega) (by omega) (by omega)) (fun i => o8 _ _ (by omega) (by omega) (by omega)), fun k hk => ⟨(p7 k hk).1.same (fun a a1 a2 => o8 _ _ (by omega) (by omega) (by omega)), ?_, ?_⟩⟩
  · have q := p9 k hk
    unfold lk at *; rw [o8 _ _ (by omega) (by omega) (by omega)]; exact q
  · rw [o8 _ _ (by omega) (by omega) (by omega), p8 k 30 (by omega) (by omega), i6 30 (by omega) (by omega)]
/-! the surges that have an hour -/
def su1 (N : w_M) (Y : Nat) (h : Int32) (j : Nat) : Int := if fW h (iv N (Y + 6) (3 * j)) (iv N (Y + 6) (3 * j + 1)) = 0 then 0 else 1
theorem gs_c {N : w_M} {Y : Nat} {x : Int32} (g : gT N Y) (x0 : 0 ≤ x.toInt) (x1 : x.toInt ≤ 5000) : ∀ j, j ≤ cN (iv N Y 5) → (g_s N Y x (cN (iv N Y 3)) j).toInt ≤ 400 + 100 * sm (su1 N Y x) j ∧ 0 ≤ sm (su1 N Y x) j ∧ sm (su1 N Y x) j ≤ j
  | 0, _ => by
    have t6 := (cB_le g.tc (by decide)).2
    have r := gt_b g x0 x1 _ (Nat.le_refl _)
    rw [g_s, sm]; omega
  | j + 1, hj => by
    have hl : j < cN (iv N Y 5) := by omega
    have t6 := (cB_le g.sc (by decide)).2
    have r := gs_c g x0 x1 j (by omega)
    have rb := gs_b g x0 x1 j (by omega)
    have q := g.h j hl
    rw [g_s, sm]
    unfold su1
    split
    · rw [x_add0]; unfold su1 at r; omega
    · rw [i_add (by omega) (by omega)]; unfold su1 at r; omega
/-- hours that a surge has had by now -/
def us (N : w_M) (Y t : Nat) (j : Nat) : Int := min (t : Int) ((iv N (Y + 6) (3 * j + 1)).toInt + 1) - min (t : Int) (iv N (Y + 6) (3 * j)).toInt
def kU (N : w_M) (Y : Nat) : Prop := ∀ j, j < cN (iv N Y 5) → 0 ≤ (iv N (Y + 6) (3 * j)).toInt ∧ (iv N (Y + 6) (3 * j)).toInt ≤ (iv N (Y + 6) (3 * j + 1)).toInt ∧ (iv N (Y + 6) (3 * j + 1)).toInt ≤ (iv N (Y + 6) (3 * j)).toInt + 19
theorem fW_0 {v a b : Int32} : fW v a b = 0 ↔ ¬ (a.toInt ≤ v.toInt ∧ v.toInt ≤ b.toInt) := by
  unfold fW
  constructor
  · intro h q
    rw [if_pos ⟨i_le.mpr q.1, i_le.mpr q.2⟩] at h
    exact absurd h (by decide)
  · intro q
    rw [if_neg (fun z => q ⟨i_le.mp z.1, i_le.mp z.2⟩)]
theorem us_1 {N : w_M} {Y t j : Nat} (h : kU N Y) (hj : j < cN (iv N Y 5)) (ht : t < 2 ^ 31) : us N Y (t + 1) j = us N Y t j + su1 N Y (nI t) j := by
  obtain ⟨h0, h1, h2⟩ := h j hj
  unfold us su1
  by_cases q : fW (nI t) (iv N (Y + 6) (3 * j)) (iv N (Y + 6) (3 * j + 1)) = 0
  · rw [if_pos q]
    rw [fW_0, i_N ht] at q
    push_cast; omega
  · rw [if_neg q]
    rw [fW_0, i_N ht, Decidable.not_not] at q
    push_cast; omega
theorem us_s {N : w_M} {Y t : Nat} (h : kU N Y) (ht : t < 2 ^ 31) : ∀ j, j ≤ cN (iv N Y 5) → sm (us N Y (t + 1)) j = sm (us N Y t) j + sm (su1 N Y (nI t)) j
  | 0, _ => by simp only [sm]; omega
  | j + 1, hj => by rw [sm, sm, sm, us_s h ht j (by omega), us_1 h (by omega) ht]; omega
theorem us_b {N : w_M} {Y t : Nat} (h : kU N Y) : ∀ j, j ≤ cN (iv N Y 5) → 0 ≤ sm (us N Y t) j ∧ sm (us N Y t) j ≤ 20 * j
  | 0, _ => by simp only [sm]; omega
  | j + 1, hj => by
    have r := us_b (t := t) h j (by omega)
    obtain ⟨h0, h1, h2⟩ := h j (by omega)
    rw [sm]; unfold us at *; omega
