/-- the addresses of the reference that the middle of an hour leaves -/
def kpA (Y a : Nat) : Prop := a ≠ Y ∧ a ≠ Y + 18 ∧ a ≠ Y + 19 ∧ a ≠ Y + 20 ∧ a ≠ Y + 22 ∧ a ≠ Y + 23 ∧ ¬ (Y + 31 ≤ a ∧ a ≤ Y + 35)
def kp (Y : Nat) (M M' : w_M) : Prop := (∀ j, j ≠ 41 → j ≠ 42 → iv M' Y j = iv M Y j) ∧ ∀ a, kpA Y a → ∀ j, iv M' a j = iv M a j
theorem kp.rf {Y : Nat} {M : w_M} : kp Y M M := ⟨fun _ _ _ => rfl, fun _ _ _ => rfl⟩
theorem kp.tr {Y : Nat} {M M1 M2 : w_M} (h1 : kp Y M M1) (h2 : kp Y M1 M2) : kp Y M M2 := ⟨fun j a b => (h2.1 j a b).trans (h1.1 j a b), fun a ha j => (h2.2 a ha j).trans (h1.2 a ha j)⟩
theorem kp_Y {Y : Nat} {M : w_M} {j : Nat} {x : Int32} (h : j = 41 ∨ j = 42) : kp Y M (wi M Y j x) := by
  refine ⟨fun i h1 h2 => ?_, fun a ha i => ?_⟩
  · rw [iv_wi, if_neg]
    omega
  · rw [iv_wi, if_neg (fun z => ha.1 z.1)]
theorem kp_A {Y : Nat} {M : w_M} {a j : Nat} {x : Int32} (h : a ≠ Y ∧ ¬ kpA Y a) : kp Y M (wi M a j x) := by
  refine ⟨fun i h1 h2 => ?_, fun b hb i => ?_⟩
  · rw [iv_wi, if_neg]
    intro z
    exact h.1 z.1.symm
  · rw [iv_wi, if_neg]
    intro z
    exact h.2 (z.1 ▸ hb)
theorem kp_gs {Y : Nat} {M : w_M} {i : Nat} {x : Int64} : kp Y M (gsadd M Y i x) := ⟨fun _ _ _ => rfl, fun _ _ _ => rfl⟩
theorem kpo {Y a : Nat} (h : a = Y + 18 ∨ a = Y + 19 ∨ a = Y + 20 ∨ a = Y + 22 ∨ a = Y + 23 ∨ (Y + 31 ≤ a ∧ a ≤ Y + 35)) : a ≠ Y ∧ ¬ kpA Y a := ⟨by omega, fun z => by unfold kpA at z; omega⟩
theorem kp_lv {Y a s : Nat} {M : w_M} {f : Int32} : kp Y M (g_lv M Y a s f) := ((((kp_Y (Or.inl rfl)).tr (kp_Y (Or.inr rfl))).tr (kp_A (kpo (by omega)))).tr (kp_A (kpo (by omega)))).tr (kp_A (kpo (by omega)))
theorem kp_fl {Y a s t : Nat} {M : w_M} {f : Int32} : kp Y M (g_fl M Y a s t f) := ((kp_lv.tr (kp_A (kpo (by omega)))).tr (kp_A (kpo (by omega)))).tr (kp_A (kpo (by omega)))
theorem kp_mo {Y : Nat} {M : w_M} {h : Int32} : kp Y M (g_mo M Y h) := by
  unfold g_mo
  split
  · exact (((kp_A (kpo (by omega))).tr (kp_A (kpo (by omega)))).tr kp_gs).tr kp_gs
  · exact ((kp_lv.tr kp_gs).tr kp_gs).tr kp_gs
theorem kp_nr {Y k : Nat} {M : w_M} {f : Int32} : kp Y M (g_nr M Y k f) := (kp_A (kpo (by omega))).tr (kp_A (kpo (by omega)))
theorem kp_n1 {Y k : Nat} {M : w_M} : kp Y M (g_n1 M Y k) := by
  unfold g_n1
  split
  · exact kp_fl.tr kp_nr
  · exact kp_fl.tr kp_nr
theorem kp_n2 {Y k : Nat} {M : w_M} : kp Y M (g_n2 M Y k) := by
  unfold g_n2
  split
  · exact kp_fl.tr kp_fl
  · exact kp.rf
theorem kp_mx {Y s : Nat} {M : w_M} : kp Y M (g_mx M Y s) := by
  unfold g_mx
  split
  · exact kp.rf
  · split
    · exact (kp_A (kpo (by omega))).tr (kp_A (kpo (by omega)))
    · exact kp.rf
theorem kp_s1 {Y s : Nat} {M : w_M} : kp Y M (g_s1 M Y s) := by
  unfold g_s1
  split
  · exact (kp_A (kpo (by omega))).tr (kp_A (kpo (by omega)))
  · exact kp.rf
theorem kp_s2 {Y s : Nat} {M : w_M} : kp Y M (g_s2 M Y s) := by
  unfold g_s2
  split
  · exact (kp_A (kpo (by omega))).tr (kp_A (kpo (by omega)))
  · exact kp.rf
theorem kp_dr {Y k s : Nat} {M : w_M} : kp Y M (g_dr M Y k s) := by
  have h1 : ∀ x, kp Y M (g_d1 M Y k x) := fun x => (kp_A (kpo (by omega))).tr (kp_A (kpo (by omega)))
  have h3 : ∀ N : w_M, kp Y N (g_d3 N Y k) := fun N => (kp_A (kpo (by omega))).tr (kp_A (kpo (by omega)))
  have h2 : ∀ (N : w_M) (f : Int32), kp Y N (g_d2 N Y k s f) := fun N f => ((((kp_lv.tr (kp_A (kpo (by omega)))).tr (kp_A (kpo (by omega)))).tr (kp_A (kpo (by omega)))).tr kp_gs).tr kp_gs
  unfold g_dr
  refine kp.tr ?_ (h3 _)
  split
  · exact (h1 _).tr (h2 _ _)
  · exact h1 _
/-- what the hour's loops read -/
def hF (M : w_M) (Y n ic t : Nat) : Prop := iv M Y 16 = nI n ∧ iv M Y 25 = nI ic ∧ iv M Y 1 = nI t ∧ (∀ s, s < n → ¬ iv M (Y + 17) s = 0) ∧ ∀ k, k < ic → ∃ s, s < n ∧ iv M (Y + 26) k = nI s
theorem hF.kp {M M' : w_M} {Y n ic t : Nat} (h : hF M Y n ic t) (k : kp Y M M') : hF M' Y n ic t := by
  have e17 : ∀ s, iv M' (Y + 17) s = iv M (Y + 17) s := k.2 _ (by unfold kpA; omega)
  have e26 : ∀ s, iv M' (Y + 26) s = iv M (Y + 26) s := k.2 _ (by unfold kpA; omega)
  exact ⟨(k.1 16 (by decide) (by decide)).trans h.1, (k.1 25 (by decide) (by decide)).trans h.2.1, (k.1 1 (by decide) (by decide)).trans h.2.2.1, fun s hs => by rw [e17]; exact h.2.2.2.1 s hs, fun q hq => by rw [e26]; exact h.2.2.2.2 q hq⟩
def g_r0 (M : w_M) (Y : Nat) : Nat → w_M
  | 0 => M
  | i + 1 => wi (g_r0 M Y i) (Y + 20) i 0
theorem kp_r0 {M : w_M} {Y : Nat} : ∀ i, kp Y M (g_r0 M Y i)
  | 0 => kp.rf
  | i + 1 => (kp_r0 i).tr (kp_A (kpo (by omega)))
def g_nbs (M : w_M) (Y : Nat) : Nat → w_M
  | 0 => M
  | i + 1 => g_n2 (g_n1 (g_nbs M Y i) Y i) Y i
theorem kp_nbs {M : w_M} {Y : Nat} : ∀ i, kp Y M (g_nbs M Y i)
  | 0 => kp.rf
  | i + 1 => ((kp_nbs i).tr kp_n1).tr kp_n2
def g_mxs (M : w_M) (Y : Nat) : Nat → w_M
  | 0 => M
  | i + 1 => g_mx (g_mxs M Y i) Y i
theorem kp_mxs {M : w_M} {Y : Nat} : ∀ i, kp Y M (g_mxs M Y i)
  | 0 => kp.rf
  | i + 1 => (kp_mxs i).tr kp_mx
def g_sts (M : w_M) (Y : Nat) : Nat → w_M
  | 0 => M
  | i + 1 => g_s2 (g_s1 (g_sts M Y i) Y i) Y i
theorem kp_sts {M : w_M} {Y : Nat} : ∀ i, kp Y M (g_sts M Y i)
  | 0 => kp.rf
  | i + 1 => ((kp_sts i).tr kp_s1).tr kp_s2
def g_drs (M : w_M) (Y : Nat) : Nat → w_M
  | 0 => M
  | i + 1 => g_dr (g_drs M Y i) Y i (cN (iv (g_drs M Y i) (Y + 26) i))
theorem kp_drs {M : w_M} {Y : Nat} : ∀ i, kp Y M (g_drs M Y i)
  | 0 => kp.rf
  | i + 1 => (kp_drs i).tr kp_dr
def g_ts (M : w_M) (Y t : Nat) : Nat → w_M
  | 0 => M
  | i + 1 => wi (g_ts M Y t i) (Y + 24) (1001 * i + t) (g_sal (g_ts M Y t i) Y 1 i)
theorem ts_o {M : w_M} {Y t a j : Nat} (h : a ≠ Y + 24) : ∀ i, iv (g_ts M Y t i) a j = iv M a j
  | 0 => rfl
  | i + 1 => by rw [g_ts, iv_wi, if_neg (fun z => h z.1)]; exact ts_o h i
def g_rv1 (M : w_M) (Y n : Nat) : w_M := g_a M (Y + 22) (n - 1) (iv M Y 8)
def g_rv2 (M : w_M) (Y n : Nat) : w_M := g_a M (Y + 19) (n - 1) (iv M Y 9)
def g_rv3 (M : w_M) (Y : Nat) : w_M := gsadd M Y 2 (iv M Y 8).toInt64
def g_rv4 (M : w_M) (Y : Nat) : w_M := gsadd M Y 7 (iv M Y 9).toInt64
def g_rv (M : w_M) (Y n : Nat) : w_M := g_rv4 (g_rv3 (g_rv2 (g_rv1 M Y n) Y n) Y) Y
theorem kp_rv {M : w_M} {Y n : Nat} : kp Y M (g_rv M Y n) := (((kp_A (kpo (by omega))).tr (kp_A (kpo (by omega)))).tr kp_gs).tr kp_gs
def g_ab (M : w_M) (Y n : Nat) (sh : Bool) (h : Int32) : w_M := if n = 0 then M else g_rv (if sh = true then M else g_mo M Y h) Y n
theorem kp_ab {M : w_M} {Y n : Nat} {sh : Bool} {h : Int32} : kp Y M (g_ab M Y n sh h) := by
  unfold g_ab
  split
  · exact kp.rf
  · split
    · exact kp_rv
    · exact kp_mo.tr kp_rv
def g_e5 (M : w_M) (Y n t : Nat) (h : Int32) : w_M := wi (wi (g_ts M Y t n) (Y + 7) t h) Y 1 (nI (t + 1))
def g_e4 (M : w_M) (Y n ic t : Nat) (h : Int32) : w_M := g_e5 (g_drs M Y ic) Y n t h
def g_e3 (M : w_M) (Y n ic t : Nat) (h : Int32) : w_M := g_e4 (g_sts M Y n) Y n ic t h
def g_e2 (M : w_M) (Y n ic t : Nat) (h : Int32) : w_M := g_e3 (g_mxs M Y n) Y n ic t h
def g_e1 (M : w_M) (Y n ic t : Nat) (h : Int32) : w_M := g_e2 (g_nbs M Y (n - 1)) Y n ic t h
def g_c0 (M : w_M) (Y : Nat) (h : Int32) : w_M := if g_shut M Y = true then g_cl M Y h else M
def g_hrn (M : w_M) (Y n ic t : Nat) (h : Int32) : w_M := g_e1 (g_ab (g_c0 (g_r0 M Y n) Y h) Y n (g_shut (g_r0 M Y n) Y) h) Y n ic t h
def g_hour (M : w_M) (Y : Nat) : w_M := g_hrn M Y (cN (iv M Y 16)) (cN (iv M Y 25)) (cN (iv M Y 1)) (g_sea M Y (cN (iv M Y 1)))
theorem cl_o {M : w_M} {Y a j : Nat} {h : Int32} (h1 : a ≠ Y ∨ j ≠ 12) (h2 : a ≠ Y + 13) (h3 : a ≠ Y + 14) (h4 : a ≠ Y + 15) : iv (g_cl M Y h) a j = iv M a j := by
  have e1 : iv (g_c1 M Y) a j = iv M a j := by
    unfold g_c1
    split
    · rfl
    · rw [iv_wi, if_neg (by omega), iv_wi, if_neg (fun z => h2 z.1)]
  unfold g_cl
  simp only [g_c2]
  rw [iv_wi, if_neg (fun z => h4 z.1), iv_wi, if_neg (fun z => h3 z.1), e1]
theorem hF_cl {M : w_M} {Y n ic t : Nat} {x : Int32} (h : hF M Y n ic t) : hF (g_cl M Y x) Y n ic t :=
  ⟨(cl_o (Or.inr (by decide)) (by omega) (by omega) (by omega)).trans h.1, (cl_o (Or.inr (by decide)) (by omega) (by omega) (by omega)).trans h.2.1, (cl_o (Or.inr (by decide)) (by omega) (by omega) (by omega)).trans h.2.2.1, fun s hs => by rw [cl_o (Or.inl (by omega)) (by omega) (by omega) (by omega)]; exact h.2.2.2.1 s hs, fun q hq => by rw [cl_o (Or.inl (by omega)) (by omega) (by omega) (by omega)]; exact h.2.2.2.2 q hq⟩
theorem g_t_e {M M' : w_M} {Y : Nat} {h : Int32} (e2 : iv M' Y 2 = iv M Y 2) (e4 : ∀ j, iv M' (Y + 4) j = iv M (Y + 4) j) : ∀ i, g_t M' Y h i = g_t M Y h i
  | 0 => e2
  | i + 1 => by simp only [g_t]; rw [g_t_e e2 e4 i, e4, e4, e4, e4]
theorem g_s_e {M M' : w_M} {Y n : Nat} {h : Int32} (e2 : iv M' Y 2 = iv M Y 2) (e4 : ∀ j, iv M' (Y + 4) j = iv M (Y + 4) j) (e6 : ∀ j, iv M' (Y + 6) j = iv M (Y + 6) j) : ∀ i, g_s M' Y h n i = g_s M Y h n i
  | 0 => g_t_e e2 e4 n
  | i + 1 => by simp only [g_s]; rw [g_s_e e2 e4 e6 i, e6, e6, e6]
theorem g_for_kp {M M' : w_M} {Y : Nat} {h : Int32} (k : kp Y M M') : g_for M' Y h = g_for M Y h := by
  unfold g_for
  rw [k.1 3 (by decide) (by decide), k.1 5 (by decide) (by decide)]
  exact g_s_e (k.1 2 (by decide) (by decide)) (k.2 _ (by unfold kpA; omega)) (k.2 _ (by unfold kpA; omega)) _
theorem okS_kp {M M' : w_M} {Y : Nat} (k : kp Y M M') (h : okS M Y) : okS M' Y := by
  obtain ⟨h1, h2, h3, h4⟩ := h
  have e4 : ∀ j, iv M' (Y + 4) j = iv M (Y + 4) j := k.2 _ (by unfold kpA; omega)
  refine ⟨by rw [k.1 1 (by decide) (by decide)]; exact h1, by rw [k.1 3 (by decide) (by decide)]; exact h2, by rw [k.1 5 (by decide) (by decide)]; exact h3, fun i hi => ?_⟩
  rw [k.1 3 (by decide) (by decide)] at hi
  rw [e4, e4]
  exact h4 i hi
theorem okM_kp {M M' : w_M} {Y : Nat} (k : kp Y M M') (h : okM M Y) : okM M' Y := by
  obtain ⟨h1, h2, h3, h4, h5, h6, h7, h8, h9⟩ := h
  have f : ∀ j, j < 41 → iv M' Y j = iv M Y j := fun j hj => k.1 j (by omega) (by omega)
  have e17 : ∀ s, iv M' (Y + 17) s = iv M (Y + 17) s := k.2 _ (by unfold kpA; omega)
  have e26 : ∀ s, iv M' (Y + 26) s = iv M (Y + 26) s := k.2 _ (by unfold kpA; omega)
  have e37 : ∀ s, iv M' (Y + 37) s = iv M (Y + 37) s := k.2 _ (by unfold kpA; omega)
  have e39 : ∀ s, iv M' (Y + 39) s = iv M (Y + 39) s := k.2 _ (by unfold kpA; omega)
  refine ⟨okS_kp k h1, by rw [f 16 (by decide)]; exact h2, by rw [f 25 (by decide)]; exact h3, by rw [f 36 (by decide)]; exact h4, by rw [f 12 (by decide)]; exact h5, by rw [f 11 (by decide)]; exact h6, ?_, ?_, ?_⟩
  · intro s hs
    rw [f 16 (by decide)] at hs
    rw [e17]
    exact h7 s hs
  · intro q hq
    rw [f 25 (by decide)] at hq
    rw [f 16 (by decide), e26]
    exact h8 q hq
  · intro q hq
    rw [f 36 (by decide)] at hq
    rw [f 16 (by decide), e37, e39]
    exact h9 q hq
set_option maxHeartbeats 1000000 in
set_option maxRecDepth 100000 in
theorem c_X11_hour (l : Launch) (D : va_G) (G : w_G) (M : w_M) (Y : Nat) (hY : L_mdl G (Y)) (ok : okM M Y) (ht : cN (iv M Y 1) < 1000) : u_Mv l D G yX11_hour cX11_hour 4 none 4 96 [.ref (gP G Y)] M (fun M' => M' = g_hour M Y) := by
  obtain ⟨okS9, o16, o25, o36, o12, o11, oA, oI, oO⟩ := id ok
  obtain ⟨o1, o3, o5, oT⟩ := id okS9
  obtain ⟨o1a, o1b⟩ := cB_le o1 (by decide)
  obtain ⟨o3a, o3b⟩ := cB_le o3 (by decide)
  obtain ⟨o5a, o5b⟩ := cB_le o5 (by decide)
  obtain ⟨o11a, o11b⟩ := cB_le o11 (by decide)
  obtain ⟨o12a, o12b⟩ := cB_le o12 (by decide)
  obtain ⟨o16a, o16b⟩ := cB_le o16 (by decide)
  obtain ⟨o25a, o25b⟩ := cB_le o25 (by decide)
  obtain ⟨o36a, o36b⟩ := cB_le o36 (by decide)
  obtain ⟨n, hn⟩ : ∃ n, n = cN (iv M Y 16) := ⟨_, rfl⟩
  obtain ⟨ic, hic⟩ : ∃ ic, ic = cN (iv M Y 25) := ⟨_, rfl⟩
  obtain ⟨t, htt⟩ : ∃ t, t = cN (iv M Y 1) := ⟨_, rfl⟩
  obtain ⟨h9, hh9⟩ : ∃ h9, h9 = g_sea M Y t := ⟨_, rfl⟩
  obtain ⟨GH, hGH⟩ : ∃ GH, GH = g_hour M Y := ⟨_, rfl⟩
  rw [← hGH]
  have hGH2 : GH = g_hrn M Y n ic t h9 := by rw [hGH, hh9, hn, hic, htt]; rfl
  rw [← hn] at o16a o16b
  rw [← hic] at o25a o25b
  rw [← htt] at o1a o1b ht
  have hFM : hF M Y n ic t := ⟨o16a, o25a, o1a, by rw [hn]; exact oA, by rw [hn, hic]; exact oI⟩
  refine u_bodyv (by decide +kernel) (Nat.le_of_ble_eq_true rfl) rfl (fun p e s m args below meth c A H0 Q C ret => ?_)
  have loop5 : ∀ (M0 : w_M), hF M0 Y n ic t → GH = g_e5 M0 Y n t h9 → ∀ (d i : Nat) (x3 : Int32), i ≤ n → n - i < d → x3 = nI i → u_S p l e (u_rm 4 96) s m args below meth c 4 D A H0 0 0 Q 215 [(0, .ref (gP G Y)), (1, .int h9), (3, .int x3)] [] G (g_ts M0 Y t i) := by
    intro M0 hF0 hM d
    induction d with
    | zero => intro i x3 hj hd; omega
    | succ d ih =>
      intro i x3 hj hd h3
      subst h3
      obtain ⟨f16, f25, f1, fA, fI⟩ := id hF0
      refine u_iload_n C dX11_hour_215 rfl ?_
      refine u_aload_n C dX11_hour_216 rfl ?_
      refine u_getIv (x := nI n) C gX11_hour_217 rfl (mdl_is hY) (by first | exact f16 | exact fz _ _ _ (by omega) | (rw [ts_o (by omega) i]; exact f16)) ?_
      refine u_icmp_ge (tgt := 250) C dX11_hour_220 (by decide) (fun c_220 => ?_) (fun c_220 => ?_)
      · obtain rfl : n = i := by have := u_gei c_220 (by omega) (by omega); omega
        refine u_aload_n C dX11_hour_250 rfl ?_
        refine u_getR (k2 := (Y + 7)) C gX11_hour_251 rfl (mdl_is hY) (mdl_f7 hY) ?_
        refine u_aload_n C dX11_hour_254 rfl ?_
        refine u_getIv (x := nI t) C gX11_hour_255 rfl (mdl_is hY) (by first | exact o1a | exact f1 | (simp only [ts_o (show Y ≠ Y + 24 by omega)]; exact f1) | (simp [iv_wi]; exact f1) | (simp [iv_wi, ts_o (show Y ≠ Y + 24 by omega)]; exact f1)) ?_
        refine u_iload_n C dX11_hour_258 rfl ?_
        refine u_iastN (i := t) C dX11_hour_259 (a1001_is (mdl_p7 hY)) (a1001_n (mdl_p7 hY)) (by omega) (by decide) ?_
        refine u_aload_n C dX11_hour_260 rfl ?_
        refine u_dup C dX11_hour_261 rfl ?_
        refine u_getIv (x := nI t) C gX11_hour_262 rfl (mdl_is hY) (by first | exact o1a | exact f1 | (simp only [ts_o (show Y ≠ Y + 24 by omega)]; exact f1) | (simp [iv_wi]; exact f1) | (simp [iv_wi, ts_o (show Y ≠ Y + 24 by omega)]; exact f1)) ?_
        refine u_iconst (v := 1) C dX11_hour_265 (by decide) ?_
        refine u_iadd C dX11_hour_266 ?_
        refine u_putI C pX11_hour_267 rfl (mdl_is hY) ?_
        exact ret _ _  _ dX11_hour_270  (by rw [hM, g_e5, ← nI_1])
      · have hi : i < n := u_lt c_220 (by omega)
        refine u_aload_n C dX11_hour_223 rfl ?_
        refine u_getR (k2 := (Y + 24)) C gX11_hour_224 rfl (mdl_is hY) (mdl_f24 hY) ?_
        refine u_sipush (v := (nI 1001)) C dX11_hour_227 (by decide) ?_
        refine u_iload_n C dX11_hour_230 rfl ?_
        refine u_imul C dX11_hour_231 ?_
        rw [pk_mul (1001) (i)]
        refine u_aload_n C dX11_hour_232 rfl ?_
        refine u_getIv (x := nI t) C gX11_hour_233 rfl (mdl_is hY) (by first | exact o1a | exact f1 | (simp only [ts_o (show Y ≠ Y + 24 by omega)]; exact f1) | (simp [iv_wi]; exact f1) | (simp [iv_wi, ts_o (show Y ≠ Y + 24 by omega)]; exact f1)) ?_
        refine u_iadd C dX11_hour_236 ?_
        rw [nI_add (1001 * i) (t)]
        refine u_aload_n C dX11_hour_237 rfl ?_
        refine u_iconst (v := (nI 1)) C dX11_hour_238 (by decide) ?_
        refine u_iload_n C dX11_hour_239 rfl ?_
        refine u_calliV2 C ev_X11_salinity dX11_hour_240 ml_RX11_182 (mdl_is hY) rfl (by decide) (c_X11_salinity l D G _ _ _ _ hY (by decide) (by omega)) (by decide) (Nat.le_of_ble_eq_true rfl) (fun r_240 M_240 q_240 => ?_)
        obtain ⟨rfl, e_240⟩ := q_240
        subst M_240
        refine u_iastN (i := (1001 * i) + t) C dX11_hour_243 (a8008_is (mdl_p24 hY)) (a8008_n (mdl_p24 hY)) (by omega) (by decide) ?_
        refine u_iinc C dX11_hour_244 (by decide) rfl ?_
        refine u_goto (tgt := 215) C dX11_hour_247 (by decide) ?_
        exact u_loc [0, 1, 3] rfl (ih (i + 1) _ (by omega) (by omega) (nI_1 i))
  have loop4d : ∀ (M0 : w_M), hF M0 Y n ic t → GH = g_e4 M0 Y n ic t h9 → ∀ (d i : Nat) (x3 : Int32), i ≤ ic → ic - i < d → x3 = nI i → u_S p l e (u_rm 4 96) s m args below meth c 4 D A H0 0 0 Q 194 [(0, .ref (gP G Y)), (1, .int h9), (3, .int x3)] [] G (g_drs M0 Y i) := by
    intro M0 hF0 hM d
    induction d with
    | zero => intro i x3 hj hd; omega
    | succ d ih =>
      intro i x3 hj hd h3
      subst h3
      obtain ⟨f16, f25, f1, fA, fI⟩ := hF0.kp (kp_drs i)
      refine u_iload_n C dX11_hour_194 rfl ?_
      refine u_aload_n C dX11_hour_195 rfl ?_
      refine u_getIv (x := nI ic) C gX11_hour_196 rfl (mdl_is hY) f25 ?_
      refine u_icmp_ge (tgt := 213) C dX11_hour_199 (by decide) (fun c_199 => ?_) (fun c_199 => ?_)
      · obtain rfl : ic = i := by have := u_gei c_199 (by omega) (by omega); omega
        refine u_iconst (v := 0) C dX11_hour_213 (by decide) ?_
        refine u_istore_n C dX11_hour_214 (by decide) ?_
        exact u_loc [0, 1, 3] rfl (loop5 _ (hF0.kp (kp_drs ic)) hM (n + 1) 0 _ (by omega) (by omega) nI_0.symm)
      · have hi : i < ic := u_lt c_199 (by omega)
        obtain ⟨q9, hq9, hat⟩ := fI i hi
        refine u_aload_n C dX11_hour_202 rfl ?_
        refine u_iload_n C dX11_hour_203 rfl ?_
        refine u_callvV1 C ev_X11_drinks dX11_hour_204 ml_RX11_205 (mdl_is hY) rfl (by decide) (c_X11_drinks l D G _ _ _ hY q9 (by omega) (by omega) hat) (by decide) (Nat.le_of_ble_eq_true rfl) (fun M_204 q_204 => ?_)
        obtain rfl := q_204
        refine u_iinc C dX11_hour_207 (by decide) rfl ?_
        refine u_goto (tgt := 194) C dX11_hour_210 (by decide) ?_
        exact u_loc [0, 1, 3] rfl (u_eq (ih (i + 1) _ (by omega) (by omega) (nI_1 i)) rfl rfl (by show _ = g_dr (g_drs M0 Y i) Y i (cN (iv (g_drs M0 Y i) (Y + 26) i)); rw [hat, cN_nI (by omega)]))
  have loop4c : ∀ (M0 : w_M), hF M0 Y n ic t → GH = g_e3 M0 Y n ic t h9 → ∀ (d i : Nat) (x3 : Int32), i ≤ n → n - i < d → x3 = nI i → u_S p l e (u_rm 4 96) s m args below meth c 4 D A H0 0 0 Q 173 [(0, .ref (gP G Y)), (1, .int h9), (3, .int x3)] [] G (g_sts M0 Y i) := by
    intro M0 hF0 hM d
    induction d with
    | zero => intro i x3 hj hd; omega
    | succ d ih =>
      intro i x3 hj hd h3
      subst h3
      obtain ⟨f16, f25, f1, fA, fI⟩ := hF0.kp (kp_sts i)
      refine u_iload_n C dX11_hour_173 rfl ?_
      refine u_aload_n C dX11_hour_174 rfl ?_
      refine u_getIv (x := nI n) C gX11_hour_175 rfl (mdl_is hY) (by first | exact f16 | exact fz _ _ _ (by omega) | (rw [ts_o (by omega) i]; exact f16)) ?_
      refine u_icmp_ge (tgt := 192) C dX11_hour_178 (by decide) (fun c_178 => ?_) (fun c_178 => ?_)
      · obtain rfl : n = i := by have := u_gei c_178 (by omega) (by omega); omega
        refine u_iconst (v := 0) C dX11_hour_192 (by decide) ?_
        refine u_istore_n C dX11_hour_193 (by decide) ?_
        exact u_loc [0, 1, 3] rfl (loop4d _ (hF0.kp (kp_sts n)) hM (ic + 1) 0 _ (by omega) (by omega) nI_0.symm)
      · have hi : i < n := u_lt c_178 (by omega)
        refine u_aload_n C dX11_hour_181 rfl ?_
        refine u_iload_n C dX11_hour_182 rfl ?_
        refine u_callvV1 C ev_X11_settles dX11_hour_183 ml_RX11_202 (mdl_is hY) rfl (by decide) (c_X11_settles l D G _ _ _ hY (by omega)) (by decide) (Nat.le_of_ble_eq_true rfl) (fun M_183 q_183 => ?_)
        obtain rfl := q_183
        refine u_iinc C dX11_hour_186 (by decide) rfl ?_
        refine u_goto (tgt := 173) C dX11_hour_189 (by decide) ?_
        exact u_loc [0, 1, 3] rfl (ih (i + 1) _ (by omega) (by omega) (nI_1 i))
  have loop4b : ∀ (M0 : w_M), hF M0 Y n ic t → GH = g_e2 M0 Y n ic t h9 → ∀ (d i : Nat) (x3 : Int32), i ≤ n → n - i < d → x3 = nI i → u_S p l e (u_rm 4 96) s m args below meth c 4 D A H0 0 0 Q 152 [(0, .ref (gP G Y)), (1, .int h9), (3, .int x3)] [] G (g_mxs M0 Y i) := by
    intro M0 hF0 hM d
    induction d with
    | zero => intro i x3 hj hd; omega
    | succ d ih =>
      intro i x3 hj hd h3
      subst h3
      obtain ⟨f16, f25, f1, fA, fI⟩ := hF0.kp (kp_mxs i)
      refine u_iload_n C dX11_hour_152 rfl ?_
      refine u_aload_n C dX11_hour_153 rfl ?_
      refine u_getIv (x := nI n) C gX11_hour_154 rfl (mdl_is hY) (by first | exact f16 | exact fz _ _ _ (by omega) | (rw [ts_o (by omega) i]; exact f16)) ?_
      refine u_icmp_ge (tgt := 171) C dX11_hour_157 (by decide) (fun c_157 => ?_) (fun c_157 => ?_)
      · obtain rfl : n = i := by have := u_gei c_157 (by omega) (by omega); omega
        refine u_iconst (v := 0) C dX11_hour_171 (by decide) ?_
        refine u_istore_n C dX11_hour_172 (by decide) ?_
        exact u_loc [0, 1, 3] rfl (loop4c _ (hF0.kp (kp_mxs n)) hM (n + 1) 0 _ (by omega) (by omega) nI_0.symm)
      · have hi : i < n := u_lt c_157 (by omega)
        refine u_aload_n C dX11_hour_160 rfl ?_
        refine u_iload_n C dX11_hour_161 rfl ?_
        refine u_callvV1 C ev_X11_mixes dX11_hour_162 ml_RX11_199 (mdl_is hY) rfl (by decide) (c_X11_mixes l D G _ _ _ hY (by omega)) (by decide) (Nat.le_of_ble_eq_true rfl) (fun M_162 q_162 => ?_)
        obtain rfl := q_162
        refine u_iinc C dX11_hour_165 (by decide) rfl ?_
        refine u_goto (tgt := 152) C dX11_hour_168 (by decide) ?_
        exact u_loc [0, 1, 3] rfl (ih (i + 1) _ (by omega) (by omega) (nI_1 i))
  have loop3 : ∀ (M0 : w_M), hF M0 Y n ic t → GH = g_e1 M0 Y n ic t h9 → ∀ (d i : Nat) (x3 : Int32), i ≤ (n - 1) → (n - 1) - i < d → x3 = nI i → u_S p l e (u_rm 4 96) s m args below meth c 4 D A H0 0 0 Q 129 [(0, .ref (gP G Y)), (1, .int h9), (3, .int x3)] [] G (g_nbs M0 Y i) := by
    intro M0 hF0 hM d
    induction d with
    | zero => intro i x3 hj hd; omega
    | succ d ih =>
      intro i x3 hj hd h3
      subst h3
      obtain ⟨f16, f25, f1, fA, fI⟩ := hF0.kp (kp_nbs i)
      refine u_iload_n C dX11_hour_129 rfl ?_
      refine u_iconst (v := 1) C dX11_hour_130 (by decide) ?_
      refine u_iadd C dX11_hour_131 ?_
      refine u_aload_n C dX11_hour_132 rfl ?_
      refine u_getIv (x := nI n) C gX11_hour_133 rfl (mdl_is hY) (by first | exact f16 | exact fz _ _ _ (by omega) | (rw [ts_o (by omega) i]; exact f16)) ?_
      rw [show nI i + 1 = nI (i + 1) from nI_1 i]
      refine u_icmp_ge (tgt := 150) C dX11_hour_136 (by decide) (fun c_136 => ?_) (fun c_136 => ?_)
      · obtain rfl : i = n - 1 := by have := u_gei c_136 (by omega) (by omega); omega
        refine u_iconst (v := 0) C dX11_hour_150 (by decide) ?_
        refine u_istore_n C dX11_hour_151 (by decide) ?_
        exact u_loc [0, 1, 3] rfl (loop4b _ (hF0.kp (kp_nbs (n - 1))) hM (n + 1) 0 _ (by omega) (by omega) nI_0.symm)
      · have hi : i + 1 < n := u_lt c_136 (by omega)
        refine u_aload_n C dX11_hour_139 rfl ?_
        refine u_iload_n C dX11_hour_140 rfl ?_
        refine u_callvV1 C ev_X11_neighbours dX11_hour_141 ml_RX11_196 (mdl_is hY) rfl (by decide) (c_X11_neighbours l D G _ _ _ hY (by omega) (fA i (by omega)) (fA (i + 1) (by omega))) (by decide) (Nat.le_of_ble_eq_true rfl) (fun M_141 q_141 => ?_)
        obtain rfl := q_141
        refine u_iinc C dX11_hour_144 (by decide) rfl ?_
        refine u_goto (tgt := 129) C dX11_hour_147 (by decide) ?_
        exact u_loc [0, 1, 3] rfl (ih (i + 1) _ (by omega) (by omega) (nI_1 i))
  have J62 : ∀ M0 : w_M, hF M0 Y n ic t → 0 < n → GH = g_e1 (g_rv M0 Y n) Y n ic t h9 → u_S p l e (u_rm 4 96) s m args below meth c 4 D A H0 0 0 Q 62 [(0, .ref (gP G Y)), (1, .int h9)] [] G M0 := by
    intro M0 hF0 hpos hM
    obtain ⟨f16, f25, f1, fA, fI⟩ := id hF0
    have fz : ∀ (a j : Nat) (x : Int32), a ≠ Y → iv (wi M0 a j x) Y 16 = nI n := fun a j x ha => by rw [iv_wi, if_neg (fun z => ha z.1.symm)]; exact f16
    refine u_aload_n C dX11_hour_62 rfl ?_
    refine u_getR (k2 := (Y + 22)) C gX11_hour_63 rfl (mdl_is hY) (mdl_f22 hY) ?_
    refine u_aload_n C dX11_hour_66 rfl ?_
    refine u_getIv (x := nI n) C gX11_hour_67 rfl (mdl_is hY) (by first | exact f16 | exact fz _ _ _ (by omega) | (rw [ts_o (by omega) i]; exact f16)) ?_
    refine u_iconst (v := (nI 1)) C dX11_hour_70 (by decide) ?_
    refine u_isub C dX11_hour_71 ?_
    rw [show nI n - nI 1 = nI (n - 1) from u_nsub1 hpos]
    refine u_dup2 C dX11_hour_72 rfl rfl ?_
    refine u_ialdN (i := n - 1) C dX11_hour_73 (a16_is (mdl_p22 hY)) (a16_n (mdl_p22 hY)) (by omega) (by decide) ?_
    refine u_aload_n C dX11_hour_74 rfl ?_
    refine u_getI C gX11_hour_75 rfl (mdl_is hY) ?_
    refine u_iadd C dX11_hour_78 ?_
    refine u_iastN (i := n - 1) C dX11_hour_79 (a16_is (mdl_p22 hY)) (a16_n (mdl_p22 hY)) (by omega) (by decide) ?_
    refine u_aload_n C dX11_hour_80 rfl ?_
    refine u_getR (k2 := (Y + 19)) C gX11_hour_81 rfl (mdl_is hY) (mdl_f19 hY) ?_
    refine u_aload_n C dX11_hour_84 rfl ?_
    refine u_getIv (x := nI n) C gX11_hour_85 rfl (mdl_is hY) (by first | exact f16 | exact fz _ _ _ (by omega) | (rw [ts_o (by omega) i]; exact f16)) ?_
    refine u_iconst (v := (nI 1)) C dX11_hour_88 (by decide) ?_
    refine u_isub C dX11_hour_89 ?_
    rw [show nI n - nI 1 = nI (n - 1) from u_nsub1 hpos]
    refine u_dup2 C dX11_hour_90 rfl rfl ?_
    refine u_ialdN (i := n - 1) C dX11_hour_91 (a8_is (mdl_p19 hY)) (a8_n (mdl_p19 hY)) (by omega) (by decide) ?_
    refine u_aload_n C dX11_hour_92 rfl ?_
    refine u_getI C gX11_hour_93 rfl (mdl_is hY) ?_
    refine u_iadd C dX11_hour_96 ?_
    refine u_iastN (i := n - 1) C dX11_hour_97 (a8_is (mdl_p19 hY)) (a8_n (mdl_p19 hY)) (by omega) (by decide) ?_
    refine u_aload_n C dX11_hour_98 rfl ?_
    refine u_getR (k2 := (Y + 40)) C gX11_hour_99 rfl (mdl_is hY) (mdl_f40 hY) ?_
    refine u_iconst (v := (nI 2)) C dX11_hour_102 (by decide) ?_
    refine u_dup2 C dX11_hour_103 rfl rfl ?_
    refine u_laldN (i := 2) C dX11_hour_104 (j10_is (mdl_p40 hY)) (j10_n (mdl_p40 hY)) (by omega) (by decide) ?_
    refine u_aload_n C dX11_hour_105 rfl ?_
    refine u_getI C gX11_hour_106 rfl (mdl_is hY) ?_
    refine u_i2l C dX11_hour_109 ?_
    refine u_ladd C dX11_hour_110 ?_
    refine u_lastN (i := 2) C dX11_hour_111 (j10_is (mdl_p40 hY)) (j10_n (mdl_p40 hY)) (by omega) (by decide) ?_
    refine u_aload_n C dX11_hour_112 rfl ?_
    refine u_getR (k2 := (Y + 40)) C gX11_hour_113 rfl (mdl_is hY) (mdl_f40 hY) ?_
    refine u_bipush (v := (nI 7)) C dX11_hour_116 (by decide) ?_
    refine u_dup2 C dX11_hour_118 rfl rfl ?_
    refine u_laldN (i := 7) C dX11_hour_119 (j10_is (mdl_p40 hY)) (j10_n (mdl_p40 hY)) (by omega) (by decide) ?_
    refine u_aload_n C dX11_hour_120 rfl ?_
    refine u_getI C gX11_hour_121 rfl (mdl_is hY) ?_
    refine u_i2l C dX11_hour_124 ?_
    refine u_ladd C dX11_hour_125 ?_
    refine u_lastN (i := 7) C dX11_hour_126 (j10_is (mdl_p40 hY)) (j10_n (mdl_p40 hY)) (by omega) (by decide) ?_
    refine u_iconst (v := 0) C dX11_hour_127 (by decide) ?_
    refine u_istore_n C dX11_hour_128 (by decide) ?_
    exact u_loc [0, 1, 3] rfl (loop3 (g_rv M0 Y n) (hF0.kp kp_rv) hM ((n - 1) + 1) 0 _ (by omega) (by omega) nI_0.symm)
  have J46 : ∀ M2 : w_M, hF M2 Y n ic t → M2 = g_c0 (g_r0 M Y n) Y h9 → u_S p l e (u_rm 4 96) s m args below meth c 4 D A H0 0 0 Q 46 [(0, .ref (gP G Y)), (1, .int h9), (2, .int (if g_shut (g_r0 M Y n) Y = true then 1 else 0))] [] G M2 := by
    intro M2 hF2 hM2
    obtain ⟨f16, f25, f1, fA, fI⟩ := id hF2
    refine u_aload_n C dX11_hour_46 rfl ?_
    refine u_getIv (x := nI n) C gX11_hour_47 rfl (mdl_is hY) (by first | exact f16 | exact fz _ _ _ (by omega) | (rw [ts_o (by omega) i]; exact f16)) ?_
    refine u_if_le (tgt := 127) C dX11_hour_50 (by decide) (fun c_50 => ?_) (fun c_50 => ?_)
    · refine u_iconst (v := 0) C dX11_hour_127 (by decide) ?_
      refine u_istore_n C dX11_hour_128 (by decide) ?_
      have hn0 : n = 0 := by rcases n with _ | n; rfl; exact absurd c_50 (nI_nle (by omega) (by omega))
      exact u_loc [0, 1, 3] rfl (loop3 M2 hF2 (by rw [hGH2, g_hrn, g_ab, if_pos hn0, hM2]) ((n - 1) + 1) 0 _ (by omega) (by omega) nI_0.symm)
    · have hpos : 0 < n := by rcases n with _ | n; exact absurd (by decide) c_50; omega
      refine u_iload_n C dX11_hour_53 rfl ?_
      refine u_if_ne (tgt := 62) C dX11_hour_54 (by decide) (fun c_54 => ?_) (fun c_54 => ?_)
      · have hsh : g_shut (g_r0 M Y n) Y = true := by cases hq : g_shut (g_r0 M Y n) Y; rw [hq] at c_54; exact absurd rfl c_54; rfl
        exact u_loc [0, 1] rfl (J62 M2 hF2 hpos (by rw [hGH2, g_hrn, g_ab, if_neg (by omega), if_pos hsh, hM2]))
      · refine u_aload_n C dX11_hour_57 rfl ?_
        refine u_iload_n C dX11_hour_58 rfl ?_
        refine u_callvV1 C ev_X11_mouth dX11_hour_59 ml_RX11_193 (mdl_is hY) rfl (by decide) (c_X11_mouth l D G _ _ _ hY (fA 0 hpos)) (by decide) (Nat.le_of_ble_eq_true rfl) (fun M_59 q_59 => ?_)
        obtain rfl := q_59
        have hsh : ¬ g_shut (g_r0 M Y n) Y = true := fun q => by rw [if_pos q] at c_54; exact absurd c_54 (by decide)
        exact u_loc [0, 1] rfl (J62 _ (hF2.kp kp_mo) hpos (by rw [hGH2, g_hrn, g_ab, if_neg (by omega), if_neg hsh, hM2]))
  have loop1 : ∀ (d i : Nat) (x2 : Int32), i ≤ n → n - i < d → x2 = nI i → u_S p l e (u_rm 4 96) s m args below meth c 4 D A H0 0 0 Q 11 [(0, .ref (gP G Y)), (1, .int h9), (2, .int x2)] [] G (g_r0 M Y i) := by
    intro d
    induction d with
    | zero => intro i x2 hj hd; omega
    | succ d ih =>
      intro i x2 hj hd h2
      subst h2
      obtain ⟨f16, f25, f1, fA, fI⟩ := hFM.kp (kp_r0 i)
      refine u_iload_n C dX11_hour_11 rfl ?_
      refine u_aload_n C dX11_hour_12 rfl ?_
      refine u_getIv (x := nI n) C gX11_hour_13 rfl (mdl_is hY) (by first | exact f16 | exact fz _ _ _ (by omega) | (rw [ts_o (by omega) i]; exact f16)) ?_
      refine u_icmp_ge (tgt := 32) C dX11_hour_16 (by decide) (fun c_16 => ?_) (fun c_16 => ?_)
      · obtain rfl : n = i := by have := u_gei c_16 (by omega) (by omega); omega
        refine u_aload_n C dX11_hour_32 rfl ?_
        refine u_calliV0 C ev_X11_isShutNow dX11_hour_33 ml_RX11_185 (mdl_is hY) rfl (by decide) (c_X11_isShutNow l D G _ _ hY (okM_kp (kp_r0 n) ok)) (by decide) (Nat.le_of_ble_eq_true rfl) (fun r_33 M_33 q_33 => ?_)
        obtain ⟨rfl, e_33⟩ := q_33
        subst M_33
        refine u_istore_n C dX11_hour_36 (by decide) ?_
        refine u_iload_n C dX11_hour_37 rfl ?_
        refine u_if_eq (tgt := 46) C dX11_hour_38 (by decide) (fun c_38 => ?_) (fun c_38 => ?_)
        · have hsh : ¬ g_shut (g_r0 M Y n) Y = true := fun q => by rw [if_pos q] at c_38; exact absurd c_38 (by decide)
          exact u_loc [0, 1, 2] rfl (J46 _ (hFM.kp (kp_r0 n)) (by rw [g_c0, if_neg hsh]))
        · refine u_aload_n C dX11_hour_41 rfl ?_
          refine u_iload_n C dX11_hour_42 rfl ?_
          refine u_callvV1 C ev_X11_closes dX11_hour_43 ml_RX11_189 (mdl_is hY) rfl (by decide) (c_X11_closes l D G _ _ _ hY (okM_kp (kp_r0 n) ok)) (by decide) (Nat.le_of_ble_eq_true rfl) (fun M_43 q_43 => ?_)
          obtain rfl := q_43
          have hsh : g_shut (g_r0 M Y n) Y = true := by cases hq : g_shut (g_r0 M Y n) Y; rw [hq] at c_38; exact absurd rfl c_38; rfl
          exact u_loc [0, 1, 2] rfl (J46 _ (hF_cl (hFM.kp (kp_r0 n))) (by rw [g_c0, if_pos hsh]))
      · have hi : i < n := u_lt c_16 (by omega)
        refine u_aload_n C dX11_hour_19 rfl ?_
        refine u_getR (k2 := (Y + 20)) C gX11_hour_20 rfl (mdl_is hY) (mdl_f20 hY) ?_
        refine u_iload_n C dX11_hour_23 rfl ?_
        refine u_iconst (v := 0) C dX11_hour_24 (by decide) ?_
        refine u_iastN (i := i) C dX11_hour_25 (a8_is (mdl_p20 hY)) (a8_n (mdl_p20 hY)) (by omega) (by decide) ?_
        refine u_iinc C dX11_hour_26 (by decide) rfl ?_
        refine u_goto (tgt := 11) C dX11_hour_29 (by decide) ?_
        exact u_loc [0, 1, 2] rfl (ih (i + 1) _ (by omega) (by omega) (nI_1 i))
  refine u_aload_n C dX11_hour_0 rfl ?_
  refine u_aload_n C dX11_hour_1 rfl ?_
  refine u_getIv (x := nI t) C gX11_hour_2 rfl (mdl_is hY) (by first | exact o1a | exact f1 | (simp only [ts_o (show Y ≠ Y + 24 by omega)]; exact f1) | (simp [iv_wi]; exact f1) | (simp [iv_wi, ts_o (show Y ≠ Y + 24 by omega)]; exact f1)) ?_
  refine u_calliV1 C ev_X11_seaOf dX11_hour_5 ml_RX11_169 (mdl_is hY) rfl (by decide) (c_X11_seaOf l D G _ _ _ hY okS9 (by omega)) (by decide) (Nat.le_of_ble_eq_true rfl) (fun r_5 M_5 q_5 => ?_)
  obtain ⟨rfl, e_5⟩ := q_5
  subst M_5
  rw [← hh9]
  refine u_istore_n C dX11_hour_8 (by decide) ?_
  refine u_iconst (v := 0) C dX11_hour_9 (by decide) ?_
  refine u_istore_n C dX11_hour_10 (by decide) ?_
  exact u_loc [0, 1, 2] rfl (loop1 (n + 1) 0 _ (by omega) (by omega) nI_0.symm)
