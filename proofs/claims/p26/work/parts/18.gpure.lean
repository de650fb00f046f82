/-! the reference as functions on flat memory: the definitions and lemmas of whole that need no contract -/
def f_lt (x y : Int32) : Int32 := if x < y then x else y
def f_shr (a f o : Int32) : Int32 := if o = 0 then 0 else (a.toInt64 * f.toInt64 / o.toInt64).toInt32
def f_sl (w s : Int32) : Int32 := if w = 0 then 0 else s / w
/-- a row of the reference -/
def g (M : w_M) (Y a i : Nat) : Int32 := iv M (Y + a) i
theorem u_shl0 {x : Int32} (h : ¬ x = 0) : ¬ x.toInt64 = 0 := u_l0 h
def g_lev (M : w_M) (Y s : Nat) : Int32 := iv M (Y + 18) s / iv M (Y + 17) s + (iv M (Y + 22) s + iv M (Y + 22) (8 + s)) / iv M (Y + 17) s
def g_sal (M : w_M) (Y a s : Nat) : Int32 := f_sl (iv M (Y + 22) (8 * a + s)) (iv M (Y + 23) (8 * a + s))
def g_sg (M : w_M) (Y a s : Nat) (f : Int32) : Int32 := f_shr (iv M (Y + 23) (8 * a + s)) f (iv M (Y + 22) (8 * a + s))
def g_cg (M : w_M) (Y a s : Nat) (f : Int32) : Int32 := if nI a = 0 then f_shr (iv M (Y + 19) s) f (iv M (Y + 22) (8 * a + s)) else 0
def g_lv (M : w_M) (Y a s : Nat) (f : Int32) : w_M := wi (wi (wi (wi (wi M Y 41 (g_sg M Y a s f)) Y 42 (g_cg M Y a s f)) (Y + 22) (8 * a + s) (iv M (Y + 22) (8 * a + s) - f)) (Y + 23) (8 * a + s) (iv M (Y + 23) (8 * a + s) - g_sg M Y a s f)) (Y + 19) s (iv M (Y + 19) s - g_cg M Y a s f)
def g_fl1 (M : w_M) (Y a t : Nat) (f : Int32) : w_M := wi M (Y + 22) (8 * a + t) (iv M (Y + 22) (8 * a + t) + f)
def g_fl2 (M : w_M) (Y a t : Nat) : w_M := wi M (Y + 23) (8 * a + t) (iv M (Y + 23) (8 * a + t) + iv M Y 41)
def g_fl3 (M : w_M) (Y t : Nat) : w_M := wi M (Y + 19) t (iv M (Y + 19) t + iv M Y 42)
def g_fl (M : w_M) (Y a s t : Nat) (f : Int32) : w_M := g_fl3 (g_fl2 (g_fl1 (g_lv M Y a s f) Y a t f) Y a t) Y t
def gsadd (M : w_M) (Y i : Nat) (x : Int64) : w_M := wj M (Y + 40) i (jv M (Y + 40) i + x)
def f_hg (p r g f h : Int32) : Int32 := if (h + f) - (h + f) / p * p < r then g * ((h + f) - (h + f) / p * p) / r else g * (p - ((h + f) - (h + f) / p * p)) / (p - r)
def g_t (M : w_M) (Y : Nat) (h : Int32) : Nat → Int32
  | 0 => iv M Y 2
  | i + 1 => g_t M Y h i + f_hg (iv M (Y + 4) (4 * i)) (iv M (Y + 4) (4 * i + 1)) (iv M (Y + 4) (4 * i + 2)) (iv M (Y + 4) (4 * i + 3)) h
def g_s (M : w_M) (Y : Nat) (h : Int32) (n : Nat) : Nat → Int32
  | 0 => g_t M Y h n
  | j + 1 => g_s M Y h n j + (if fW h (iv M (Y + 6) (3 * j)) (iv M (Y + 6) (3 * j + 1)) = 0 then 0 else iv M (Y + 6) (3 * j + 2))
def g_for (M : w_M) (Y : Nat) (h : Int32) : Int32 := g_s M Y h (cN (iv M Y 3)) (cN (iv M Y 5))
def g_sea (M : w_M) (Y t : Nat) : Int32 := if t < cN (iv M Y 1) then iv M (Y + 7) t else g_for M Y (nI t)
/-- the turns can be reckoned with -/
def okT (M : w_M) (Y : Nat) : Prop := ∀ i, i < cN (iv M Y 3) → ¬ iv M (Y + 4) (4 * i) = 0 ∧ ¬ iv M (Y + 4) (4 * i + 1) = 0 ∧ ¬ iv M (Y + 4) (4 * i) - iv M (Y + 4) (4 * i + 1) = 0
def okS (M : w_M) (Y : Nat) : Prop := cB (iv M Y 1) 1000 ∧ cB (iv M Y 3) 6 ∧ cB (iv M Y 5) 20 ∧ okT M Y
def g_a (M : w_M) (a i : Nat) (x : Int32) : w_M := wi M a i (iv M a i + x)
def g_b (M : w_M) (a i : Nat) (x : Int32) : w_M := wi M a i (iv M a i - x)
def g_mo1 (M : w_M) (Y : Nat) (c : Int32) : w_M := gsadd (gsadd (g_a (g_a M (Y + 22) 8 c) (Y + 23) 8 (30 * c)) Y 0 c.toInt64) Y 4 (30 * c).toInt64
def g_mo2a (M : w_M) (Y : Nat) (f : Int32) : w_M := gsadd (g_lv M Y 0 0 f) Y 1 f.toInt64
def g_mo2b (M : w_M) (Y : Nat) : w_M := gsadd M Y 5 (iv M Y 41).toInt64
def g_mo2c (M : w_M) (Y : Nat) : w_M := gsadd M Y 8 (iv M Y 42).toInt64
def g_mo2 (M : w_M) (Y : Nat) (f : Int32) : w_M := g_mo2c (g_mo2b (g_mo2a M Y f) Y) Y
def g_mo (M : w_M) (Y : Nat) (h : Int32) : w_M := if 0 < h - g_lev M Y 0 then g_mo1 M Y ((h - g_lev M Y 0) * iv M (Y + 17) 0 / 2) else g_mo2 M Y (f_lt (-(h - g_lev M Y 0) * iv M (Y + 17) 0 / 2) (iv M (Y + 22) 0))
def g_nd (M : w_M) (Y k : Nat) : Int32 := g_lev M Y k - g_lev M Y (k + 1)
def g_na (M : w_M) (Y k : Nat) : Int32 := f_lt (iv M (Y + 17) k) (iv M (Y + 17) (k + 1))
def g_nr (M : w_M) (Y k : Nat) (f : Int32) : w_M := g_a (g_a M (Y + 20) k f) (Y + 20) (k + 1) f
def g_n1 (M : w_M) (Y k : Nat) : w_M := if 0 < g_nd M Y k then g_nr (g_fl M Y 1 k (k + 1) (f_lt (g_nd M Y k * g_na M Y k / 4) (iv M (Y + 22) (8 + k)))) Y k (f_lt (g_nd M Y k * g_na M Y k / 4) (iv M (Y + 22) (8 + k)))
  else g_nr (g_fl M Y 0 (k + 1) k (f_lt (-g_nd M Y k * g_na M Y k / 4) (iv M (Y + 22) (k + 1)))) Y k (f_lt (-g_nd M Y k * g_na M Y k / 4) (iv M (Y + 22) (k + 1)))
def g_n2 (M : w_M) (Y k : Nat) : w_M := if g_sal M Y 1 (k + 1) < g_sal M Y 1 k then g_fl (g_fl M Y 1 k (k + 1) (f_lt (iv M (Y + 22) (8 + k)) (iv M (Y + 22) (k + 1)) / 8)) Y 0 (k + 1) k (f_lt (iv M (Y + 22) (8 + k)) (iv M (Y + 22) (k + 1)) / 8) else M
def g_xl (M : w_M) (Y s : Nat) : Int32 := f_lt (iv M (Y + 22) s) (iv M (Y + 22) (8 + s))
def g_xm (M : w_M) (Y s : Nat) : Int32 := f_shr (iv M (Y + 23) (8 + s)) (g_xl M Y s / 4) (iv M (Y + 22) (8 + s)) - f_shr (iv M (Y + 23) s) (g_xl M Y s / 4) (iv M (Y + 22) s)
def g_mx (M : w_M) (Y s : Nat) : w_M := if iv M (Y + 20) s < 20 then M else if 0 < g_xm M Y s then wi (wi M (Y + 23) (8 + s) (iv M (Y + 23) (8 + s) - g_xm M Y s)) (Y + 23) s (iv M (Y + 23) s + g_xm M Y s) else M
def g_s1 (M : w_M) (Y s : Nat) : w_M := if iv M (Y + 20) s < 10 then wi (wi M (Y + 19) s (iv M (Y + 19) s - (iv M (Y + 19) s + 1) / 2)) (Y + 18) s (iv M (Y + 18) s + (iv M (Y + 19) s + 1) / 2) else M
def g_s2 (M : w_M) (Y s : Nat) : w_M := if 40 < iv M (Y + 20) s then wi (wi M (Y + 18) s (iv M (Y + 18) s - f_lt (iv M (Y + 20) s / 8) (iv M (Y + 18) s))) (Y + 19) s (iv M (Y + 19) s + f_lt (iv M (Y + 20) s / 8) (iv M (Y + 18) s)) else M
def g_ds (M : w_M) (Y k s : Nat) : Int32 := if iv M (Y + 22) s = 0 then 1 else if iv M (Y + 28) k < g_sal M Y 0 s then 1 else 0
def g_d0 (x : Int32) : Int32 := if x = 0 then 0 else 1
def g_d1 (M : w_M) (Y k : Nat) (x : Int32) : w_M := g_a (wi M (Y + 35) k x) (Y + 34) k (g_d0 x)
def g_df (M : w_M) (Y k s : Nat) : Int32 := f_lt (f_lt (iv M (Y + 27) k) (iv M (Y + 22) s)) (iv M (Y + 29) k - iv M (Y + 31) k)
def g_d2a (M : w_M) (Y k s : Nat) (f : Int32) : w_M := gsadd (g_a (g_a (wi (g_lv M Y 0 s f) (Y + 19) s (iv M (Y + 19) s)) (Y + 31) k f) (Y + 32) k f) Y 3 f.toInt64
def g_d2b (M : w_M) (Y : Nat) : w_M := gsadd M Y 6 (iv M Y 41).toInt64
def g_d2 (M : w_M) (Y k s : Nat) (f : Int32) : w_M := g_d2b (g_d2a M Y k s f) Y
def g_d4 (M : w_M) (Y k : Nat) (x : Int32) : w_M := g_a (g_b M (Y + 31) k x) (Y + 33) k (iv (g_b M (Y + 31) k x) (Y + 30) k - x)
def g_d3 (M : w_M) (Y k : Nat) : w_M := g_d4 M Y k (f_lt (iv M (Y + 30) k) (iv M (Y + 31) k))
def g_dr (M : w_M) (Y k s : Nat) : w_M := g_d3 (if g_ds M Y k s = 0 then g_d2 (g_d1 M Y k (g_ds M Y k s)) Y k s (g_df (g_d1 M Y k (g_ds M Y k s)) Y k s) else g_d1 M Y k (g_ds M Y k s)) Y k
def okM (M : w_M) (Y : Nat) : Prop := okS M Y ∧ cB (iv M Y 16) 8 ∧ cB (iv M Y 25) 6 ∧ cB (iv M Y 36) 6 ∧ cB (iv M Y 12) 1000 ∧ cB (iv M Y 11) 12 ∧ (∀ s, s < cN (iv M Y 16) → ¬ iv M (Y + 17) s = 0) ∧ (∀ k, k < cN (iv M Y 25) → ∃ s, s < cN (iv M Y 16) ∧ iv M (Y + 26) k = nI s) ∧ ∀ k, k < cN (iv M Y 36) → (∃ s, s < cN (iv M Y 16) ∧ iv M (Y + 37) k = nI s) ∧ cB (iv M (Y + 39) k) 24
def g_go (M : w_M) (Y : Nat) : Bool := decide (¬ iv M Y 12 ≤ 0) && decide (iv M (Y + 14) (cN (iv M Y 12) - 1) = iv M Y 1 - 1)
def g_c1 (M : w_M) (Y : Nat) : w_M := if g_go M Y = true then M else wi (wi M (Y + 13) (cN (iv M Y 12)) (iv M Y 1)) Y 12 (iv M Y 12 + 1)
def g_c2 (M : w_M) (Y c : Nat) (h : Int32) : w_M := wi (wi M (Y + 14) (c - 1) (iv M Y 1)) (Y + 15) (c - 1) (if iv (wi M (Y + 14) (c - 1) (iv M Y 1)) (Y + 15) (c - 1) = 0 then (if iv (wi M (Y + 14) (c - 1) (iv M Y 1)) Y 10 < h then 1 else 0) else 1)
def g_cl (M : w_M) (Y : Nat) (h : Int32) : w_M := g_c2 (g_c1 M Y) Y (cN (iv (g_c1 M Y) Y 12)) h
def g_abv (M : w_M) (Y : Nat) (mark : Int32) : Nat → Nat → Bool
  | 0, _ => false
  | c + 1, j => if mark < g_sea M Y j then true else g_abv M Y mark c (j + 1)
def g_shut (M : w_M) (Y : Nat) : Bool := if iv M Y 10 = -1 then false else g_abv M Y (iv M Y 10) (cN (iv M Y 11) + 1) (cN (iv M Y 1))
theorem u_fWm {v : Int32} {n : Nat} (hn : n < 2 ^ 30) (h : ¬ fW v 0 (nI n - 1) = 0) : ∃ i, i < n ∧ v = nI i := by
  unfold fW at h
  by_cases q : 0 ≤ v ∧ v ≤ nI n - 1
  · rcases n with _ | n
    · obtain ⟨q1, q2⟩ := q
      rw [Int32.le_iff_toInt_le] at q1 q2
      have e1 : (nI 0 - 1 : Int32).toInt = -1 := rfl
      have e0 : (0 : Int32).toInt = 0 := rfl
      omega
    · rw [nI_pred] at q
      obtain ⟨j, hj, rfl⟩ := nI_of (fun z => absurd q.1 (Int32.not_le.mpr z))
      exact ⟨j, by have := (nI_leI hj (by omega)).mp q.2; omega, rfl⟩
  · rw [if_neg q] at h; exact absurd rfl h
/-- the addresses of the reference that the middle of an hour leaves -/
def kpA (Y a : Nat) : Prop := a ≠ Y ∧ a ≠ Y + 18 ∧ a ≠ Y + 19 ∧ a ≠ Y + 20 ∧ a ≠ Y + 22 ∧ a ≠ Y + 23 ∧ ¬ (Y + 31 ≤ a ∧ a ≤ Y + 35)
def kp (Y : Nat) (M M' : w_M) : Prop := (∀ j, j ≠ 41 → j ≠ 42 → iv M' Y j = iv M Y j) ∧ ∀ a, kpA Y a → ∀ j, iv M' a j = iv M a j
theorem kp.rf {Y : Nat} {M : w_M} : kp Y M M := ⟨fun _ _ _ => rfl, fun _ _ _ => rfl⟩
theorem kp.tr {Y : Nat} {M M1 M2 : w_M} (h1 : kp Y M M1) (h2 : kp Y M1 M2) : kp Y M M2 := ⟨fun j a b => (h2.1 j a b).trans (h1.1 j a b), fun a ha j => (h2.2 a ha j).trans (h1.2 a ha j)⟩
theorem kp_Y {Y : Nat} {M : w_M} {j : Nat} {x : Int32} (h : j = 41 ∨ j = 42) : kp Y M (wi M Y j x) := by
  refine ⟨fun i h1 h2 => ?_, fun a ha i => ?_⟩
  · rw [iv_wi, if_neg]
    omega
  · rw [iv_wi, if_neg (fun z => ha.1 z.1)]
theorem kp_A {Y : Nat} {M : w_M} {a j : Nat} {x : Int32} (h : a ≠ Y ∧ ¬ kpA Y a) : kp Y M (wi M a j x) := by
  refine ⟨fun i h1 h2 => ?_, fun b hb i => ?_⟩
  · rw [iv_wi, if_neg]
    intro z
    exact h.1 z.1.symm
  · rw [iv_wi, if_neg]
    intro z
    exact h.2 (z.1 ▸ hb)
theorem kp_gs {Y : Nat} {M : w_M} {i : Nat} {x : Int64} : kp Y M (gsadd M Y i x) := ⟨fun _ _ _ => rfl, fun _ _ _ => rfl⟩
theorem kpo {Y a : Nat} (h : a = Y + 18 ∨ a = Y + 19 ∨ a = Y + 20 ∨ a = Y + 22 ∨ a = Y + 23 ∨ (Y + 31 ≤ a ∧ a ≤ Y + 35)) : a ≠ Y ∧ ¬ kpA Y a := ⟨by omega, fun z => by unfold kpA at z; omega⟩
theorem kp_lv {Y a s : Nat} {M : w_M} {f : Int32} : kp Y M (g_lv M Y a s f) := ((((kp_Y (Or.inl rfl)).tr (kp_Y (Or.inr rfl))).tr (kp_A (kpo (by omega)))).tr (kp_A (kpo (by omega)))).tr (kp_A (kpo (by omega)))
theorem kp_fl {Y a s t : Nat} {M : w_M} {f : Int32} : kp Y M (g_fl M Y a s t f) := ((kp_lv.tr (kp_A (kpo (by omega)))).tr (kp_A (kpo (by omega)))).tr (kp_A (kpo (by omega)))
theorem kp_mo {Y : Nat} {M : w_M} {h : Int32} : kp Y M (g_mo M Y h) := by
  unfold g_mo
  split
  · exact (((kp_A (kpo (by omega))).tr (kp_A (kpo (by omega)))).tr kp_gs).tr kp_gs
  · exact ((kp_lv.tr kp_gs).tr kp_gs).tr kp_gs
theorem kp_nr {Y k : Nat} {M : w_M} {f : Int32} : kp Y M (g_nr M Y k f) := (kp_A (kpo (by omega))).tr (kp_A (kpo (by omega)))
theorem kp_n1 {Y k : Nat} {M : w_M} : kp Y M (g_n1 M Y k) := by
  unfold g_n1
  split
  · exact kp_fl.tr kp_nr
  · exact kp_fl.tr kp_nr
theorem kp_n2 {Y k : Nat} {M : w_M} : kp Y M (g_n2 M Y k) := by
  unfold g_n2
  split
  · exact kp_fl.tr kp_fl
  · exact kp.rf
theorem kp_mx {Y s : Nat} {M : w_M} : kp Y M (g_mx M Y s) := by
  unfold g_mx
  split
  · exact kp.rf
  · split
    · exact (kp_A (kpo (by omega))).tr (kp_A (kpo (by omega)))
    · exact kp.rf
theorem kp_s1 {Y s : Nat} {M : w_M} : kp Y M (g_s1 M Y s) := by
  unfold g_s1
  split
  · exact (kp_A (kpo (by omega))).tr (kp_A (kpo (by omega)))
  · exact kp.rf
theorem kp_s2 {Y s : Nat} {M : w_M} : kp Y M (g_s2 M Y s) := by
  unfold g_s2
  split
  · exact (kp_A (kpo (by omega))).tr (kp_A (kpo (by omega)))
  · exact kp.rf
theorem kp_dr {Y k s : Nat} {M : w_M} : kp Y M (g_dr M Y k s) := by
  have h1 : ∀ x, kp Y M (g_d1 M Y k x) := fun x => (kp_A (kpo (by omega))).tr (kp_A (kpo (by omega)))
  have h3 : ∀ N : w_M, kp Y N (g_d3 N Y k) := fun N => (kp_A (kpo (by omega))).tr (kp_A (kpo (by omega)))
  have h2 : ∀ (N : w_M) (f : Int32), kp Y N (g_d2 N Y k s f) := fun N f => ((((kp_lv.tr (kp_A (kpo (by omega)))).tr (kp_A (kpo (by omega)))).tr (kp_A (kpo (by omega)))).tr kp_gs).tr kp_gs
  unfold g_dr
  refine kp.tr ?_ (h3 _)
  split
  · exact (h1 _).tr (h2 _ _)
  · exact h1 _
/-- what the hour's loops read -/
def hF (M : w_M) (Y n ic t : Nat) : Prop := iv M Y 16 = nI n ∧ iv M Y 25 = nI ic ∧ iv M Y 1 = nI t ∧ (∀ s, s < n → ¬ iv M (Y + 17) s = 0) ∧ ∀ k, k < ic → ∃ s, s < n ∧ iv M (Y + 26) k = nI s
theorem hF.kp {M M' : w_M} {Y n ic t : Nat} (h : hF M Y n ic t) (k : kp Y M M') : hF M' Y n ic t := by
  have e17 : ∀ s, iv M' (Y + 17) s = iv M (Y + 17) s := k.2 _ (by unfold kpA; omega)
  have e26 : ∀ s, iv M' (Y + 26) s = iv M (Y + 26) s := k.2 _ (by unfold kpA; omega)
  exact ⟨(k.1 16 (by decide) (by decide)).trans h.1, (k.1 25 (by decide) (by decide)).trans h.2.1, (k.1 1 (by decide) (by decide)).trans h.2.2.1, fun s hs => by rw [e17]; exact h.2.2.2.1 s hs, fun q hq => by rw [e26]; exact h.2.2.2.2 q hq⟩
def g_r0 (M : w_M) (Y : Nat) : Nat → w_M
  | 0 => M
  | i + 1 => wi (g_r0 M Y i) (Y + 20) i 0
theorem kp_r0 {M : w_M} {Y : Nat} : ∀ i, kp Y M (g_r0 M Y i)
  | 0 => kp.rf
  | i + 1 => (kp_r0 i).tr (kp_A (kpo (by omega)))
def g_nbs (M : w_M) (Y : Nat) : Nat → w_M
  | 0 => M
  | i + 1 => g_n2 (g_n1 (g_nbs M Y i) Y i) Y i
theorem kp_nbs {M : w_M} {Y : Nat} : ∀ i, kp Y M (g_nbs M Y i)
  | 0 => kp.rf
  | i + 1 => ((kp_nbs i).tr kp_n1).tr kp_n2
def g_mxs (M : w_M) (Y : Nat) : Nat → w_M
  | 0 => M
  | i + 1 => g_mx (g_mxs M Y i) Y i
theorem kp_mxs {M : w_M} {Y : Nat} : ∀ i, kp Y M (g_mxs M Y i)
  | 0 => kp.rf
  | i + 1 => (kp_mxs i).tr kp_mx
def g_sts (M : w_M) (Y : Nat) : Nat → w_M
  | 0 => M
  | i + 1 => g_s2 (g_s1 (g_sts M Y i) Y i) Y i
theorem kp_sts {M : w_M} {Y : Nat} : ∀ i, kp Y M (g_sts M Y i)
  | 0 => kp.rf
  | i + 1 => ((kp_sts i).tr kp_s1).tr kp_s2
def g_drs (M : w_M) (Y : Nat) : Nat → w_M
  | 0 => M
  | i + 1 => g_dr (g_drs M Y i) Y i (cN (iv (g_drs M Y i) (Y + 26) i))
theorem kp_drs {M : w_M} {Y : Nat} : ∀ i, kp Y M (g_drs M Y i)
  | 0 => kp.rf
  | i + 1 => (kp_drs i).tr kp_dr
def g_ts (M : w_M) (Y t : Nat) : Nat → w_M
  | 0 => M
  | i + 1 => wi (g_ts M Y t i) (Y + 24) (1001 * i + t) (g_sal (g_ts M Y t i) Y 1 i)
theorem ts_o {M : w_M} {Y t a j : Nat} (h : a ≠ Y + 24) : ∀ i, iv (g_ts M Y t i) a j = iv M a j
  | 0 => rfl
  | i + 1 => by rw [g_ts, iv_wi, if_neg (fun z => h z.1)]; exact ts_o h i
def g_rv1 (M : w_M) (Y n : Nat) : w_M := g_a M (Y + 22) (n - 1) (iv M Y 8)
def g_rv2 (M : w_M) (Y n : Nat) : w_M := g_a M (Y + 19) (n - 1) (iv M Y 9)
def g_rv3 (M : w_M) (Y : Nat) : w_M := gsadd M Y 2 (iv M Y 8).toInt64
def g_rv4 (M : w_M) (Y : Nat) : w_M := gsadd M Y 7 (iv M Y 9).toInt64
def g_rv (M : w_M) (Y n : Nat) : w_M := g_rv4 (g_rv3 (g_rv2 (g_rv1 M Y n) Y n) Y) Y
theorem kp_rv {M : w_M} {Y n : Nat} : kp Y M (g_rv M Y n) := (((kp_A (kpo (by omega))).tr (kp_A (kpo (by omega)))).tr kp_gs).tr kp_gs
def g_ab (M : w_M) (Y n : Nat) (sh : Bool) (h : Int32) : w_M := if n = 0 then M else g_rv (if sh = true then M else g_mo M Y h) Y n
theorem kp_ab {M : w_M} {Y n : Nat} {sh : Bool} {h : Int32} : kp Y M (g_ab M Y n sh h) := by
  unfold g_ab
  split
  · exact kp.rf
  · split
    · exact kp_rv
    · exact kp_mo.tr kp_rv
def g_e5 (M : w_M) (Y n t : Nat) (h : Int32) : w_M := wi (wi (g_ts M Y t n) (Y + 7) t h) Y 1 (nI (t + 1))
def g_e4 (M : w_M) (Y n ic t : Nat) (h : Int32) : w_M := g_e5 (g_drs M Y ic) Y n t h
def g_e3 (M : w_M) (Y n ic t : Nat) (h : Int32) : w_M := g_e4 (g_sts M Y n) Y n ic t h
def g_e2 (M : w_M) (Y n ic t : Nat) (h : Int32) : w_M := g_e3 (g_mxs M Y n) Y n ic t h
def g_e1 (M : w_M) (Y n ic t : Nat) (h : Int32) : w_M := g_e2 (g_nbs M Y (n - 1)) Y n ic t h
def g_c0 (M : w_M) (Y : Nat) (h : Int32) : w_M := if g_shut M Y = true then g_cl M Y h else M
def g_hrn (M : w_M) (Y n ic t : Nat) (h : Int32) : w_M := g_e1 (g_ab (g_c0 (g_r0 M Y n) Y h) Y n (g_shut (g_r0 M Y n) Y) h) Y n ic t h
def g_hour (M : w_M) (Y : Nat) : w_M := g_hrn M Y (cN (iv M Y 16)) (cN (iv M Y 25)) (cN (iv M Y 1)) (g_sea M Y (cN (iv M Y 1)))
theorem cl_o {M : w_M} {Y a j : Nat} {h : Int32} (h1 : a ≠ Y ∨ j ≠ 12) (h2 : a ≠ Y + 13) (h3 : a ≠ Y + 14) (h4 : a ≠ Y + 15) : iv (g_cl M Y h) a j = iv M a j := by
  have e1 : iv (g_c1 M Y) a j = iv M a j := by
    unfold g_c1
    split
    · rfl
    · rw [iv_wi, if_neg (by omega), iv_wi, if_neg (fun z => h2 z.1)]
  unfold g_cl
  simp only [g_c2]
  rw [iv_wi, if_neg (fun z => h4 z.1), iv_wi, if_neg (fun z => h3 z.1), e1]
theorem hF_cl {M : w_M} {Y n ic t : Nat} {x : Int32} (h : hF M Y n ic t) : hF (g_cl M Y x) Y n ic t :=
  ⟨(cl_o (Or.inr (by decide)) (by omega) (by omega) (by omega)).trans h.1, (cl_o (Or.inr (by decide)) (by omega) (by omega) (by omega)).trans h.2.1, (cl_o (Or.inr (by decide)) (by omega) (by omega) (by omega)).trans h.2.2.1, fun s hs => by rw [cl_o (Or.inl (by omega)) (by omega) (by omega) (by omega)]; exact h.2.2.2.1 s hs, fun q hq => by rw [cl_o (Or.inl (by omega)) (by omega) (by omega) (by omega)]; exact h.2.2.2.2 q hq⟩
theorem g_t_e {M M' : w_M} {Y : Nat} {h : Int32} (e2 : iv M' Y 2 = iv M Y 2) (e4 : ∀ j, iv M' (Y + 4) j = iv M (Y + 4) j) : ∀ i, g_t M' Y h i = g_t M Y h i
  | 0 => e2
  | i + 1 => by simp only [g_t]; rw [g_t_e e2 e4 i, e4, e4, e4, e4]
theorem g_s_e {M M' : w_M} {Y n : Nat} {h : Int32} (e2 : iv M' Y 2 = iv M Y 2) (e4 : ∀ j, iv M' (Y + 4) j = iv M (Y + 4) j) (e6 : ∀ j, iv M' (Y + 6) j = iv M (Y + 6) j) : ∀ i, g_s M' Y h n i = g_s M Y h n i
  | 0 => g_t_e e2 e4 n
  | i + 1 => by simp only [g_s]; rw [g_s_e e2 e4 e6 i, e6, e6, e6]
theorem g_for_kp {M M' : w_M} {Y : Nat} {h : Int32} (k : kp Y M M') : g_for M' Y h = g_for M Y h := by
  unfold g_for
  rw [k.1 3 (by decide) (by decide), k.1 5 (by decide) (by decide)]
  exact g_s_e (k.1 2 (by decide) (by decide)) (k.2 _ (by unfold kpA; omega)) (k.2 _ (by unfold kpA; omega)) _
theorem okS_kp {M M' : w_M} {Y : Nat} (k : kp Y M M') (h : okS M Y) : okS M' Y := by
  obtain ⟨h1, h2, h3, h4⟩ := h
  have e4 : ∀ j, iv M' (Y + 4) j = iv M (Y + 4) j := k.2 _ (by unfold kpA; omega)
  refine ⟨by rw [k.1 1 (by decide) (by decide)]; exact h1, by rw [k.1 3 (by decide) (by decide)]; exact h2, by rw [k.1 5 (by decide) (by decide)]; exact h3, fun i hi => ?_⟩
  rw [k.1 3 (by decide) (by decide)] at hi
  rw [e4, e4]
  exact h4 i hi
theorem okM_kp {M M' : w_M} {Y : Nat} (k : kp Y M M') (h : okM M Y) : okM M' Y := by
  obtain ⟨h1, h2, h3, h4, h5, h6, h7, h8, h9⟩ := h
  have f : ∀ j, j < 41 → iv M' Y j = iv M Y j := fun j hj => k.1 j (by omega) (by omega)
  have e17 : ∀ s, iv M' (Y + 17) s = iv M (Y + 17) s := k.2 _ (by unfold kpA; omega)
  have e26 : ∀ s, iv M' (Y + 26) s = iv M (Y + 26) s := k.2 _ (by unfold kpA; omega)
  have e37 : ∀ s, iv M' (Y + 37) s = iv M (Y + 37) s := k.2 _ (by unfold kpA; omega)
  have e39 : ∀ s, iv M' (Y + 39) s = iv M (Y + 39) s := k.2 _ (by unfold kpA; omega)
  refine ⟨okS_kp k h1, by rw [f 16 (by decide)]; exact h2, by rw [f 25 (by decide)]; exact h3, by rw [f 36 (by decide)]; exact h4, by rw [f 12 (by decide)]; exact h5, by rw [f 11 (by decide)]; exact h6, ?_, ?_, ?_⟩
  · intro s hs
    rw [f 16 (by decide)] at hs
    rw [e17]
    exact h7 s hs
  · intro q hq
    rw [f 25 (by decide)] at hq
    rw [f 16 (by decide), e26]
    exact h8 q hq
  · intro q hq
    rw [f 36 (by decide)] at hq
    rw [f 16 (by decide), e37, e39]
    exact h9 q hq
def okM2 (M : w_M) (Y : Nat) : Prop := okM M Y ∧ cN (iv M Y 12) ≤ cN (iv M Y 1)
theorem ts_ok {M : w_M} {Y n t : Nat} {h : Int32} {a j : Nat} (h1 : a ≠ Y ∨ j ≠ 1) (h2 : a ≠ Y + 7) (h3 : a ≠ Y + 24) : iv (g_e5 M Y n t h) a j = iv M a j := by
  unfold g_e5
  rw [iv_wi, if_neg (by omega), iv_wi, if_neg (by omega), ts_o h3]
theorem kp_mid {M : w_M} {Y n ic : Nat} {sh : Bool} {h : Int32} : kp Y M (g_drs (g_sts (g_mxs (g_nbs (g_ab M Y n sh h) Y (n - 1)) Y n) Y n) Y ic) := (((kp_ab.tr (kp_nbs _)).tr (kp_mxs _)).tr (kp_sts _)).tr (kp_drs _)
theorem hrn_o {M : w_M} {Y n ic t : Nat} {h : Int32} {a j : Nat} (hk : kpA Y a ∨ (a = Y ∧ j ≠ 41 ∧ j ≠ 42)) (h1 : a ≠ Y ∨ (j ≠ 1 ∧ j ≠ 12)) (h2 : a ≠ Y + 7) (h3 : a ≠ Y + 24) (h4 : a ≠ Y + 13) (h5 : a ≠ Y + 14) (h6 : a ≠ Y + 15) : iv (g_hrn M Y n ic t h) a j = iv M a j := by
  have kq : ∀ {N N' : w_M}, kp Y N N' → iv N' a j = iv N a j := fun k => by
    rcases hk with q | ⟨rfl, q1, q2⟩
    · exact k.2 a q j
    · exact k.1 j q1 q2
  show iv (g_e5 _ Y n t h) a j = _
  rw [ts_ok (by omega) h2 h3, kq kp_mid]
  unfold g_c0
  split
  · rw [cl_o (by omega) h4 h5 h6, kq (kp_r0 n)]
  · exact kq (kp_r0 n)
theorem hrn_1 {M : w_M} {Y n ic t : Nat} {h : Int32} : iv (g_hrn M Y n ic t h) Y 1 = nI (t + 1) := by
  show iv (g_e5 _ Y n t h) Y 1 = _
  unfold g_e5
  rw [iv_wi, if_pos ⟨rfl, rfl⟩]
theorem c1_12 {M : w_M} {Y : Nat} : iv (g_c1 M Y) Y 12 = if g_go M Y = true then iv M Y 12 else iv M Y 12 + 1 := by
  unfold g_c1
  split
  · rfl
  · rw [iv_wi, if_pos ⟨rfl, rfl⟩]
theorem cl_12 {M : w_M} {Y : Nat} {h : Int32} : iv (g_cl M Y h) Y 12 = if g_go M Y = true then iv M Y 12 else iv M Y 12 + 1 := by
  unfold g_cl
  simp only [g_c2]
  rw [iv_wi, if_neg (by omega), iv_wi, if_neg (by omega), c1_12]
theorem hrn_12 {M : w_M} {Y n ic t : Nat} {h : Int32} : iv (g_hrn M Y n ic t h) Y 12 = if g_shut (g_r0 M Y n) Y = true ∧ ¬ g_go (g_r0 M Y n) Y = true then iv M Y 12 + 1 else iv M Y 12 := by
  have e : iv (g_r0 M Y n) Y 12 = iv M Y 12 := (kp_r0 n).1 12 (by decide) (by decide)
  show iv (g_e5 _ Y n t h) Y 12 = _
  rw [ts_ok (Or.inr (by decide)) (by omega) (by omega), kp_mid.1 12 (by decide) (by decide)]
  unfold g_c0
  by_cases h1 : g_shut (g_r0 M Y n) Y = true
  · rw [if_pos h1, cl_12]
    by_cases h2 : g_go (g_r0 M Y n) Y = true
    · rw [if_pos h2, if_neg (fun z => z.2 h2), e]
    · rw [if_neg h2, if_pos ⟨h1, h2⟩, e]
  · rw [if_neg h1, if_neg (fun z => h1 z.1), e]
theorem hour_okM {M : w_M} {Y : Nat} (ok : okM2 M Y) (ht : cN (iv M Y 1) < 1000) : okM2 (g_hour M Y) Y := by
  obtain ⟨⟨⟨h1, h2, h3, h4⟩, h5, h6, h7, h8, h9, h10, h11, h12⟩, h13⟩ := ok
  have f : ∀ j, j < 41 → j ≠ 1 → j ≠ 12 → iv (g_hour M Y) Y j = iv M Y j := fun j a b c => hrn_o (Or.inr ⟨rfl, by omega, by omega⟩) (Or.inr ⟨b, c⟩) (by omega) (by omega) (by omega) (by omega) (by omega)
  have q : ∀ k, (k = 4 ∨ k = 17 ∨ k = 26 ∨ k = 37 ∨ k = 39) → ∀ j, iv (g_hour M Y) (Y + k) j = iv M (Y + k) j := fun k hk j => hrn_o (Or.inl (by unfold kpA; omega)) (Or.inl (by omega)) (by omega) (by omega) (by omega) (by omega) (by omega)
  have e1 : iv (g_hour M Y) Y 1 = nI (cN (iv M Y 1) + 1) := hrn_1
  have c1 : cN (iv (g_hour M Y) Y 1) = cN (iv M Y 1) + 1 := by rw [e1]; exact cN_nI (by omega)
  obtain ⟨h8a, h8b⟩ := cB_le h8 (by decide)
  have e12 : ∃ c, c ≤ cN (iv M Y 1) + 1 ∧ iv (g_hour M Y) Y 12 = nI c := by
    rw [g_hour, hrn_12]
    split
    · exact ⟨cN (iv M Y 12) + 1, by omega, by have z := nI_1 (cN (iv M Y 12)); rw [← h8a] at z; exact z⟩
    · exact ⟨cN (iv M Y 12), by omega, h8a⟩
  obtain ⟨c, hc1, hc2⟩ := e12
  refine ⟨⟨⟨⟨_, by omega, e1⟩, by rw [f 3 (by decide) (by decide) (by decide)]; exact h2, by rw [f 5 (by decide) (by decide) (by decide)]; exact h3, fun i hi => ?_⟩, by rw [f 16 (by decide) (by decide) (by decide)]; exact h5, by rw [f 25 (by decide) (by decide) (by decide)]; exact h6, by rw [f 36 (by decide) (by decide) (by decide)]; exact h7, ⟨c, by omega, hc2⟩, by rw [f 11 (by decide) (by decide) (by decide)]; exact h9, fun s hs => ?_, fun k hk => ?_, fun k hk => ?_⟩, by rw [c1, hc2, cN_nI (by omega)]; exact hc1⟩
  · rw [f 3 (by decide) (by decide) (by decide)] at hi
    rw [q 4 (by omega), q 4 (by omega)]
    exact h4 i hi
  · rw [f 16 (by decide) (by decide) (by decide)] at hs
    rw [q 17 (by omega)]
    exact h10 s hs
  · rw [f 25 (by decide) (by decide) (by decide)] at hk
    rw [f 16 (by decide) (by decide) (by decide), q 26 (by omega)]
    exact h11 k hk
  · rw [f 36 (by decide) (by decide) (by decide)] at hk
    rw [f 16 (by decide) (by decide) (by decide), q 37 (by omega), q 39 (by omega)]
    exact h12 k hk
def g_gos (M : w_M) (Y : Nat) : Nat → w_M
  | 0 => M
  | c + 1 => g_gos (g_hour M Y) Y c
def gk_turn (p r g f cnt : Int32) : Nat := if fW p 2 60 = 0 ∨ fW r 1 (p - 1) = 0 ∨ fW g 0 50 = 0 ∨ fW f 0 59 = 0 then 1 else if cnt = 6 then 2 else 0
def gk_surge (a b h now cnt : Int32) : Nat := if fW a now 2000 = 0 ∨ fW b a 2000 = 0 ∨ fW h (-50) 100 = 0 then 1 else if cnt = 20 then 2 else 0
def gk_bar (m ld : Int32) : Nat := if fW m (-1) 500 = 0 ∨ fW ld 0 12 = 0 then 1 else 0
def gk_sec (ar up low mud cnt now : Int32) : Nat := if fW ar 1 100 = 0 ∨ fW up 0 10000 = 0 ∨ fW low 0 10000 = 0 ∨ fW mud 0 10000 = 0 then 1 else if cnt = 8 ∨ 0 < now then 2 else 0
def gk_int (has rate grain room use cnt : Int32) : Nat := if has = 0 then 1 else if fW rate 1 500 = 0 ∨ fW grain 0 30 = 0 ∨ fW room 1 10000 = 0 ∨ fW use 0 500 = 0 then 2 else if cnt = 6 then 3 else 0
def gk_oys (has grain hours cnt : Int32) : Nat := if has = 0 then 1 else if fW grain 0 30 = 0 ∨ fW hours 1 24 = 0 then 2 else if cnt = 6 then 3 else 0
def gk_dre (has1 has2 s a to why : Int32) : Nat := if has1 = 0 ∨ (¬ to = -1 ∧ has2 = 0) then 1 else if fW a 1 10000 = 0 ∨ s = to then 2 else if 0 < why then 3 else 0
def gk_oin (v cnt w : Int32) : Nat := if fW v 0 (cnt - 1) = 0 then 1 else if fW w 0 4 = 0 then 2 else 0
def gk_cls (v cnt : Int32) : Nat := if fW v 0 (cnt - 1) = 0 then 1 else 0
def gk_clo (v cnt w : Int32) : Nat := if fW v 0 (cnt - 1) = 0 then 1 else if fW w 0 2 = 0 then 2 else 0
def g_has (M : w_M) (Y : Nat) (v : Int32) : Int32 := fW v 0 (iv M Y 16 - 1)
def g_why (M : w_M) (Y s : Nat) (a : Int32) : Int32 := if iv M (Y + 21) s = 0 then 1 else if iv M (Y + 21) s < a then 2 else if iv M (Y + 18) s < a then 3 else 0
def gE_turn (M : w_M) (Y n : Nat) (p r g f : Int32) : w_M := g_a (wi (wi (wi (wi M (Y + 4) (4 * n) p) (Y + 4) (4 * n + 1) r) (Y + 4) (4 * n + 2) g) (Y + 4) (4 * n + 3) f) Y 3 1
def gE_surge (M : w_M) (Y n : Nat) (a b h : Int32) : w_M := g_a (wi (wi (wi M (Y + 6) (3 * n) a) (Y + 6) (3 * n + 1) b) (Y + 6) (3 * n + 2) h) Y 5 1
def gE_sec (M : w_M) (Y n : Nat) (ar up low mud : Int32) : w_M := g_a (wi (wi (wi (wi M (Y + 17) n ar) (Y + 22) n up) (Y + 22) (8 + n) low) (Y + 18) n mud) Y 16 1
def gE_int (M : w_M) (Y n : Nat) (v a b c d : Int32) : w_M := g_a (wi (wi (wi (wi (wi M (Y + 26) n v) (Y + 27) n a) (Y + 28) n b) (Y + 29) n c) (Y + 30) n d) Y 25 1
def gE_oys (M : w_M) (Y n : Nat) (v g h : Int32) : w_M := g_a (wi (wi (wi M (Y + 37) n v) (Y + 38) n g) (Y + 39) n h) Y 36 1
def gE_dre (M : w_M) (Y s : Nat) (a to : Int32) : w_M := if to = -1 then gsadd (g_b (g_b M (Y + 21) s a) (Y + 18) s a) Y 9 a.toInt64 else g_a (g_b (g_b M (Y + 21) s a) (Y + 18) s a) (Y + 19) (cN to) a
def gR_of (M : w_M) (Y i : Nat) (w : Int32) : Int32 := if w < 4 then (if w - w / 2 * 2 = 0 then iv M (Y + 22) (if w < 2 then i else 8 + i) else iv M (Y + 23) (if w < 2 then i else 8 + i)) else if w < 7 then (if w = 4 then iv M (Y + 19) i else if w = 5 then iv M (Y + 18) i else g_lev M Y i) else if w = 9 then iv M (Y + 20) i else g_sal M Y (if w = 7 then 0 else 1) i
def gR_oi (M : w_M) (Y i : Nat) (w : Int32) : Int32 := if w < 3 then (if w = 0 then iv M (Y + 31) i else if w = 1 then iv M (Y + 32) i else iv M (Y + 33) i) else if w = 4 then iv M (Y + 34) i else if iv M (Y + 35) i = 0 then 0 else 1
def gR_cl (M : w_M) (Y i : Nat) (w : Int32) : Int32 := if w = 0 then iv M (Y + 13) i else if w = 1 then iv M (Y + 14) i else if iv M (Y + 15) i = 0 then 0 else 1
def g_fr (M : w_M) (Y at9 : Nat) (gr : Int32) (hs t : Nat) : Nat → Nat → Bool
  | 0, _ => false
  | c + 1, j => if hs ≤ t + j ∧ iv M (Y + 24) (1001 * at9 + (t + j - hs)) < gr then true else g_fr M Y at9 gr hs t c (j + 1)
def g_itr (M : w_M) (Y : Nat) (g : Int32) : Nat → Nat → Nat
  | 0, j => j
  | c + 1, j => if g_sal M Y 1 j < g then j else g_itr M Y g c (j + 1)
def g_win (M : w_M) (Y : Nat) (bd kl hs : Int32) : Nat → Nat → Int32 → Int32
  | 0, _, _ => -1
  | c + 1, j, g => if (if g_sea M Y j - bd < kl then 0 else g + 1) = hs then nI j - hs + 1 else g_win M Y bd kl hs c (j + 1) (if g_sea M Y j - bd < kl then 0 else g + 1)
theorem kp_Z {M : w_M} {Y : Nat} {x : Int32} {a j : Nat} (h : a ≠ Y ∨ j ≠ 0) : iv (wi M Y 0 x) a j = iv M a j := by rw [iv_wi, if_neg (by omega)]
theorem okM_Z {M : w_M} {Y : Nat} {x : Int32} (h : okM M Y) : okM (wi M Y 0 x) Y := by
  have e : ∀ a j, (a ≠ Y ∨ j ≠ 0) → iv (wi M Y 0 x) a j = iv M a j := fun a j q => kp_Z q
  have y : ∀ j, j ≠ 0 → iv (wi M Y 0 x) Y j = iv M Y j := fun j q => kp_Z (Or.inr q)
  have z : ∀ k, k ≠ 0 → ∀ j, iv (wi M Y 0 x) (Y + k) j = iv M (Y + k) j := fun k q j => kp_Z (Or.inl (by omega))
  obtain ⟨⟨h1, h2, h3, h4⟩, h5, h6, h7, h8, h9, h10, h11, h12⟩ := h
  unfold okM okS okT
  rw [y 1 (by decide), y 3 (by decide), y 5 (by decide), y 16 (by decide), y 25 (by decide), y 36 (by decide), y 12 (by decide), y 11 (by decide)]
  refine ⟨⟨h1, h2, h3, fun i hi => ?_⟩, h5, h6, h7, h8, h9, fun s hs => ?_, fun k hk => ?_, fun k hk => ?_⟩
  · rw [z 4 (by decide), z 4 (by decide)]; exact h4 i hi
  · rw [z 17 (by decide)]; exact h10 s hs
  · rw [z 26 (by decide)]; exact h11 k hk
  · rw [z 37 (by decide), z 39 (by decide)]; exact h12 k hk
theorem u_ge2 {a b c : Nat} (ha : a < 2 ^ 30) (hb : b < 2 ^ 30) (hc : c < 2 ^ 30) : nI c ≤ nI a - nI b ↔ (c : Int) ≤ (a : Int) - b := by
  rw [Int32.le_iff_toInt_le, pk_sub_toInt ha hb, nI_toInt (by omega)]
theorem u_lt2 {a b : Nat} (ha : a < 2 ^ 30) (hb : b < 2 ^ 30) : nI a - nI b < 0 ↔ a < b := by
  rw [Int32.lt_iff_toInt_lt, pk_sub_toInt ha hb]
  show _ < (0 : Int) ↔ _
  omega
theorem u_cl (a b : Nat) : nI a - nI b + 1 = nI (a + 1) - nI b := by
  rw [← nI_1, Int32.sub_eq_add_neg, Int32.sub_eq_add_neg, Int32.add_assoc, Int32.add_comm (-nI b) 1, ← Int32.add_assoc]
