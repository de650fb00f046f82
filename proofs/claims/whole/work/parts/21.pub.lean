def okM2 (M : w_M) (Y : Nat) : Prop := okM M Y ∧ cN (iv M Y 12) ≤ cN (iv M Y 1)
theorem ts_ok {M : w_M} {Y n t : Nat} {h : Int32} {a j : Nat} (h1 : a ≠ Y ∨ j ≠ 1) (h2 : a ≠ Y + 7) (h3 : a ≠ Y + 24) : iv (g_e5 M Y n t h) a j = iv M a j := by
  unfold g_e5
  rw [iv_wi, if_neg (by omega), iv_wi, if_neg (by omega), ts_o h3]
theorem kp_mid {M : w_M} {Y n ic : Nat} {sh : Bool} {h : Int32} : kp Y M (g_drs (g_sts (g_mxs (g_nbs (g_ab M Y n sh h) Y (n - 1)) Y n) Y n) Y ic) := (((kp_ab.tr (kp_nbs _)).tr (kp_mxs _)).tr (kp_sts _)).tr (kp_drs _)
theorem hrn_o {M : w_M} {Y n ic t : Nat} {h : Int32} {a j : Nat} (hk : kpA Y a ∨ (a = Y ∧ j ≠ 41 ∧ j ≠ 42)) (h1 : a ≠ Y ∨ (j ≠ 1 ∧ j ≠ 12)) (h2 : a ≠ Y + 7) (h3 : a ≠ Y + 24) (h4 : a ≠ Y + 13) (h5 : a ≠ Y + 14) (h6 : a ≠ Y + 15) : iv (g_hrn M Y n ic t h) a j = iv M a j := by
  have kq : ∀ {N N' : w_M}, kp Y N N' → iv N' a j = iv N a j := fun k => by
    rcases hk with q | ⟨rfl, q1, q2⟩
    · exact k.2 a q j
    · exact k.1 j q1 q2
  show iv (g_e5 _ Y n t h) a j = _
  rw [ts_ok (by omega) h2 h3, kq kp_mid]
  unfold g_c0
  split
  · rw [cl_o (by omega) h4 h5 h6, kq (kp_r0 n)]
  · exact kq (kp_r0 n)
theorem hrn_1 {M : w_M} {Y n ic t : Nat} {h : Int32} : iv (g_hrn M Y n ic t h) Y 1 = nI (t + 1) := by
  show iv (g_e5 _ Y n t h) Y 1 = _
  unfold g_e5
  rw [iv_wi, if_pos ⟨rfl, rfl⟩]
theorem c1_12 {M : w_M} {Y : Nat} : iv (g_c1 M Y) Y 12 = if g_go M Y = true then iv M Y 12 else iv M Y 12 + 1 := by
  unfold g_c1
  split
  · rfl
  · rw [iv_wi, if_pos ⟨rfl, rfl⟩]
theorem cl_12 {M : w_M} {Y : Nat} {h : Int32} : iv (g_cl M Y h) Y 12 = if g_go M Y = true then iv M Y 12 else iv M Y 12 + 1 := by
  unfold g_cl
  simp only [g_c2]
  rw [iv_wi, if_neg (by omega), iv_wi, if_neg (by omega), c1_12]
theorem hrn_12 {M : w_M} {Y n ic t : Nat} {h : Int32} : iv (g_hrn M Y n ic t h) Y 12 = if g_shut (g_r0 M Y n) Y = true ∧ ¬ g_go (g_r0 M Y n) Y = true then iv M Y 12 + 1 else iv M Y 12 := by
  have e : iv (g_r0 M Y n) Y 12 = iv M Y 12 := (kp_r0 n).1 12 (by decide) (by decide)
  show iv (g_e5 _ Y n t h) Y 12 = _
  rw [ts_ok (Or.inr (by decide)) (by omega) (by omega), kp_mid.1 12 (by decide) (by decide)]
  unfold g_c0
  by_cases h1 : g_shut (g_r0 M Y n) Y = true
  · rw [if_pos h1, cl_12]
    by_cases h2 : g_go (g_r0 M Y n) Y = true
    · rw [if_pos h2, if_neg (fun z => z.2 h2), e]
    · rw [if_neg h2, if_pos ⟨h1, h2⟩, e]
  · rw [if_neg h1, if_neg (fun z => h1 z.1), e]
theorem hour_okM {M : w_M} {Y : Nat} (ok : okM2 M Y) (ht : cN (iv M Y 1) < 1000) : okM2 (g_hour M Y) Y := by
  obtain ⟨⟨⟨h1, h2, h3, h4⟩, h5, h6, h7, h8, h9, h10, h11, h12⟩, h13⟩ := ok
  have f : ∀ j, j < 41 → j ≠ 1 → j ≠ 12 → iv (g_hour M Y) Y j = iv M Y j := fun j a b c => hrn_o (Or.inr ⟨rfl, by omega, by omega⟩) (Or.inr ⟨b, c⟩) (by omega) (by omega) (by omega) (by omega) (by omega)
  have q : ∀ k, (k = 4 ∨ k = 17 ∨ k = 26 ∨ k = 37 ∨ k = 39) → ∀ j, iv (g_hour M Y) (Y + k) j = iv M (Y + k) j := fun k hk j => hrn_o (Or.inl (by unfold kpA; omega)) (Or.inl (by omega)) (by omega) (by omega) (by omega) (by omega) (by omega)
  have e1 : iv (g_hour M Y) Y 1 = nI (cN (iv M Y 1) + 1) := hrn_1
  have c1 : cN (iv (g_hour M Y) Y 1) = cN (iv M Y 1) + 1 := by rw [e1]; exact cN_nI (by omega)
  obtain ⟨h8a, h8b⟩ := cB_le h8 (by decide)
  have e12 : ∃ c, c ≤ cN (iv M Y 1) + 1 ∧ iv (g_hour M Y) Y 12 = nI c := by
    rw [g_hour, hrn_12]
    split
    · exact ⟨cN (iv M Y 12) + 1, by omega, by have z := nI_1 (cN (iv M Y 12)); rw [← h8a] at z; exact z⟩
    · exact ⟨cN (iv M Y 12), by omega, h8a⟩
  obtain ⟨c, hc1, hc2⟩ := e12
  refine ⟨⟨⟨⟨_, by omega, e1⟩, by rw [f 3 (by decide) (by decide) (by decide)]; exact h2, by rw [f 5 (by decide) (by decide) (by decide)]; exact h3, fun i hi => ?_⟩, by rw [f 16 (by decide) (by decide) (by decide)]; exact h5, by rw [f 25 (by decide) (by decide) (by decide)]; exact h6, by rw [f 36 (by decide) (by decide) (by decide)]; exact h7, ⟨c, by omega, hc2⟩, by rw [f 11 (by decide) (by decide) (by decide)]; exact h9, fun s hs => ?_, fun k hk => ?_, fun k hk => ?_⟩, by rw [c1, hc2, cN_nI (by omega)]; exact hc1⟩
  · rw [f 3 (by decide) (by decide) (by decide)] at hi
    rw [q 4 (by omega), q 4 (by omega)]
    exact h4 i hi
  · rw [f 16 (by decide) (by decide) (by decide)] at hs
    rw [q 17 (by omega)]
    exact h10 s hs
  · rw [f 25 (by decide) (by decide) (by decide)] at hk
    rw [f 16 (by decide) (by decide) (by decide), q 26 (by omega)]
    exact h11 k hk
  · rw [f 36 (by decide) (by decide) (by decide)] at hk
    rw [f 16 (by decide) (by decide) (by decide), q 37 (by omega), q 39 (by omega)]
    exact h12 k hk
def g_gos (M : w_M) (Y : Nat) : Nat → w_M
  | 0 => M
  | c + 1 => g_gos (g_hour M Y) Y c
def gk_turn (p r g f cnt : Int32) : Nat := if fW p 2 60 = 0 ∨ fW r 1 (p - 1) = 0 ∨ fW g 0 50 = 0 ∨ fW f 0 59 = 0 then 1 else if cnt = 6 then 2 else 0
def gk_surge (a b h now cnt : Int32) : Nat := if fW a now 2000 = 0 ∨ fW b a 2000 = 0 ∨ fW h (-50) 100 = 0 then 1 else if cnt = 20 then 2 else 0
def gk_bar (m ld : Int32) : Nat := if fW m (-1) 500 = 0 ∨ fW ld 0 12 = 0 then 1 else 0
def gk_sec (ar up low mud cnt now : Int32) : Nat := if fW ar 1 100 = 0 ∨ fW up 0 10000 = 0 ∨ fW low 0 10000 = 0 ∨ fW mud 0 10000 = 0 then 1 else if cnt = 8 ∨ 0 < now then 2 else 0
def gk_int (has rate grain room use cnt : Int32) : Nat := if has = 0 then 1 else if fW rate 1 500 = 0 ∨ fW grain 0 30 = 0 ∨ fW room 1 10000 = 0 ∨ fW use 0 500 = 0 then 2 else if cnt = 6 then 3 else 0
def gk_oys (has grain hours cnt : Int32) : Nat := if has = 0 then 1 else if fW grain 0 30 = 0 ∨ fW hours 1 24 = 0 then 2 else if cnt = 6 then 3 else 0
def gk_dre (has1 has2 s a to why : Int32) : Nat := if has1 = 0 ∨ (¬ to = -1 ∧ has2 = 0) then 1 else if fW a 1 10000 = 0 ∨ s = to then 2 else if 0 < why then 3 else 0
def gk_oin (v cnt w : Int32) : Nat := if fW v 0 (cnt - 1) = 0 then 1 else if fW w 0 4 = 0 then 2 else 0
def gk_cls (v cnt : Int32) : Nat := if fW v 0 (cnt - 1) = 0 then 1 else 0
def gk_clo (v cnt w : Int32) : Nat := if fW v 0 (cnt - 1) = 0 then 1 else if fW w 0 2 = 0 then 2 else 0
def g_has (M : w_M) (Y : Nat) (v : Int32) : Int32 := fW v 0 (iv M Y 16 - 1)
def g_why (M : w_M) (Y s : Nat) (a : Int32) : Int32 := if iv M (Y + 21) s = 0 then 1 else if iv M (Y + 21) s < a then 2 else if iv M (Y + 18) s < a then 3 else 0
def gE_turn (M : w_M) (Y n : Nat) (p r g f : Int32) : w_M := g_a (wi (wi (wi (wi M (Y + 4) (4 * n) p) (Y + 4) (4 * n + 1) r) (Y + 4) (4 * n + 2) g) (Y + 4) (4 * n + 3) f) Y 3 1
def gE_surge (M : w_M) (Y n : Nat) (a b h : Int32) : w_M := g_a (wi (wi (wi M (Y + 6) (3 * n) a) (Y + 6) (3 * n + 1) b) (Y + 6) (3 * n + 2) h) Y 5 1
def gE_sec (M : w_M) (Y n : Nat) (ar up low mud : Int32) : w_M := g_a (wi (wi (wi (wi M (Y + 17) n ar) (Y + 22) n up) (Y + 22) (8 + n) low) (Y + 18) n mud) Y 16 1
def gE_int (M : w_M) (Y n : Nat) (v a b c d : Int32) : w_M := g_a (wi (wi (wi (wi (wi M (Y + 26) n v) (Y + 27) n a) (Y + 28) n b) (Y + 29) n c) (Y + 30) n d) Y 25 1
def gE_oys (M : w_M) (Y n : Nat) (v g h : Int32) : w_M := g_a (wi (wi (wi M (Y + 37) n v) (Y + 38) n g) (Y + 39) n h) Y 36 1
def gE_dre (M : w_M) (Y s : Nat) (a to : Int32) : w_M := if to = -1 then gsadd (g_b (g_b M (Y + 21) s a) (Y + 18) s a) Y 9 a.toInt64 else g_a (g_b (g_b M (Y + 21) s a) (Y + 18) s a) (Y + 19) (cN to) a
def gR_of (M : w_M) (Y i : Nat) (w : Int32) : Int32 := if w < 4 then (if w - w / 2 * 2 = 0 then iv M (Y + 22) (if w < 2 then i else 8 + i) else iv M (Y + 23) (if w < 2 then i else 8 + i)) else if w < 7 then (if w = 4 then iv M (Y + 19) i else if w = 5 then iv M (Y + 18) i else g_lev M Y i) else if w = 9 then iv M (Y + 20) i else g_sal M Y (if w = 7 then 0 else 1) i
def gR_oi (M : w_M) (Y i : Nat) (w : Int32) : Int32 := if w < 3 then (if w = 0 then iv M (Y + 31) i else if w = 1 then iv M (Y + 32) i else iv M (Y + 33) i) else if w = 4 then iv M (Y + 34) i else if iv M (Y + 35) i = 0 then 0 else 1
def gR_cl (M : w_M) (Y i : Nat) (w : Int32) : Int32 := if w = 0 then iv M (Y + 13) i else if w = 1 then iv M (Y + 14) i else if iv M (Y + 15) i = 0 then 0 else 1
def g_fr (M : w_M) (Y at9 : Nat) (gr : Int32) (hs t : Nat) : Nat → Nat → Bool
  | 0, _ => false
  | c + 1, j => if hs ≤ t + j ∧ iv M (Y + 24) (1001 * at9 + (t + j - hs)) < gr then true else g_fr M Y at9 gr hs t c (j + 1)
def g_itr (M : w_M) (Y : Nat) (g : Int32) : Nat → Nat → Nat
  | 0, j => j
  | c + 1, j => if g_sal M Y 1 j < g then j else g_itr M Y g c (j + 1)
def g_win (M : w_M) (Y : Nat) (bd kl hs : Int32) : Nat → Nat → Int32 → Int32
  | 0, _, _ => -1
  | c + 1, j, g => if (if g_sea M Y j - bd < kl then 0 else g + 1) = hs then nI j - hs + 1 else g_win M Y bd kl hs c (j + 1) (if g_sea M Y j - bd < kl then 0 else g + 1)
theorem kp_Z {M : w_M} {Y : Nat} {x : Int32} {a j : Nat} (h : a ≠ Y ∨ j ≠ 0) : iv (wi M Y 0 x) a j = iv M a j := by rw [iv_wi, if_neg (by omega)]
theorem okM_Z {M : w_M} {Y : Nat} {x : Int32} (h : okM M Y) : okM (wi M Y 0 x) Y := by
  have e : ∀ a j, (a ≠ Y ∨ j ≠ 0) → iv (wi M Y 0 x) a j = iv M a j := fun a j q => kp_Z q
  have y : ∀ j, j ≠ 0 → iv (wi M Y 0 x) Y j = iv M Y j := fun j q => kp_Z (Or.inr q)
  have z : ∀ k, k ≠ 0 → ∀ j, iv (wi M Y 0 x) (Y + k) j = iv M (Y + k) j := fun k q j => kp_Z (Or.inl (by omega))
  obtain ⟨⟨h1, h2, h3, h4⟩, h5, h6, h7, h8, h9, h10, h11, h12⟩ := h
  unfold okM okS okT
  rw [y 1 (by decide), y 3 (by decide), y 5 (by decide), y 16 (by decide), y 25 (by decide), y 36 (by decide), y 12 (by decide), y 11 (by decide)]
  refine ⟨⟨h1, h2, h3, fun i hi => ?_⟩, h5, h6, h7, h8, h9, fun s hs => ?_, fun k hk => ?_, fun k hk => ?_⟩
  · rw [z 4 (by decide), z 4 (by decide)]; exact h4 i hi
  · rw [z 17 (by decide)]; exact h10 s hs
  · rw [z 26 (by decide)]; exact h11 k hk
  · rw [z 37 (by decide), z 39 (by decide)]; exact h12 k hk
set_option maxHeartbeats 1000000 in
set_option maxRecDepth 100000 in
theorem c_X11_turn (l : Launch) (D : va_G) (G : w_G) (M : w_M) (Y : Nat) (pe : Int32) (r0 : Int32) (g9 : Int32) (f : Int32) (hY : L_mdl G (Y)) (ok : okM M Y) : u_Mi l D G yX11_turn cX11_turn 6 (some .int) 1 22 [.ref (gP G Y), .int pe, .int r0, .int g9, .int f] M (fun r M' => (¬ gk_turn pe r0 g9 f (iv M Y 3) = 0 → M' = wi M Y 0 (nI (gk_turn pe r0 g9 f (iv M Y 3)))) ∧ (gk_turn pe r0 g9 f (iv M Y 3) = 0 → r = iv (gE_turn (wi M Y 0 0) Y (cN (iv M Y 3)) pe r0 g9 f) Y 3 - 1 ∧ M' = gE_turn (wi M Y 0 0) Y (cN (iv M Y 3)) pe r0 g9 f)) := by
  obtain ⟨okS9, o16, o25, o36, o12, o11, oA, oI, oO⟩ := id ok
  obtain ⟨o1, o3, o5, oT⟩ := id okS9
  obtain ⟨o1a, o1b⟩ := cB_le o1 (by decide)
  obtain ⟨o3a, o3b⟩ := cB_le o3 (by decide)
  obtain ⟨o5a, o5b⟩ := cB_le o5 (by decide)
  obtain ⟨o11a, o11b⟩ := cB_le o11 (by decide)
  obtain ⟨o12a, o12b⟩ := cB_le o12 (by decide)
  obtain ⟨o16a, o16b⟩ := cB_le o16 (by decide)
  obtain ⟨o25a, o25b⟩ := cB_le o25 (by decide)
  obtain ⟨o36a, o36b⟩ := cB_le o36 (by decide)
  refine u_bodyi (by decide +kernel) (Nat.le_of_ble_eq_true rfl) rfl (fun p e s m args below meth c A H0 Q C ret => ?_)
  have J0 : ∀ kq : Nat, kq = gk_turn pe r0 g9 f (iv M Y 3) → kq < 4 → u_S p l e (u_rm 1 22) s m args below meth c 6 D A H0 0 0 Q 73 [(0, .ref (gP G Y)), (1, .int pe), (2, .int r0), (3, .int g9), (4, .int f)] [.int (nI kq), .ref (gP G Y)] G M := by
    intro kq hkq hk4
    refine u_calliV1 C ev_X11_holds dX11_turn_73 ml_RX11_116 (mdl_is hY) rfl (by decide) (c_X11_holds l D G _ _ _ hY ) (by decide) (Nat.le_of_ble_eq_true rfl) (fun r_73 M_73 q_73 => ?_)
    obtain ⟨rfl, e_73⟩ := q_73
    subst M_73
    refine u_if_ne (tgt := 81) C dX11_turn_76 (by decide) (fun c_76 => ?_) (fun c_76 => ?_)
    · obtain rfl : kq = 0 := by rcases Nat.eq_zero_or_pos kq with q | q; exact q; exact absurd (if_neg (nI_ne0 q (by omega))) c_76
      rw [show nI 0 = (0 : Int32) from rfl]
      have hlt : cN (iv M Y 3) < 6 := by rcases Nat.lt_or_ge (cN (iv M Y 3)) 6 with q | q; exact q; exact absurd hkq.symm (by have e6 : iv M Y 3 = 6 := (by rw [o3a, show cN (iv M Y 3) = 6 by omega]; rfl); rw [gk_turn, e6]; split <;> simp)
      refine u_aload_n C dX11_turn_81 rfl ?_
      refine u_getR (k2 := (Y + 4)) C gX11_turn_82 rfl (mdl_is hY) (mdl_f4 hY) ?_
      refine u_iconst (v := (nI 4)) C dX11_turn_85 (by decide) ?_
      refine u_aload_n C dX11_turn_86 rfl ?_
      refine u_getIv (x := nI (cN (iv M Y 3))) C gX11_turn_87 rfl (mdl_is hY) (by first | exact o3a | (simp [iv_wi]; exact o3a)) ?_
      refine u_imul C dX11_turn_90 ?_
      rw [pk_mul (4) (cN (iv M Y 3))]
      refine u_iload_n C dX11_turn_91 rfl ?_
      refine u_iastN (i := 4 * (cN (iv M Y 3))) C dX11_turn_92 (a24_is (mdl_p4 hY)) (a24_n (mdl_p4 hY)) (by omega) (by decide) ?_
      refine u_aload_n C dX11_turn_93 rfl ?_
      refine u_getR (k2 := (Y + 4)) C gX11_turn_94 rfl (mdl_is hY) (mdl_f4 hY) ?_
      refine u_iconst (v := (nI 4)) C dX11_turn_97 (by decide) ?_
      refine u_aload_n C dX11_turn_98 rfl ?_
      refine u_getIv (x := nI (cN (iv M Y 3))) C gX11_turn_99 rfl (mdl_is hY) (by first | exact o3a | (simp [iv_wi]; exact o3a)) ?_
      refine u_imul C dX11_turn_102 ?_
      rw [pk_mul (4) (cN (iv M Y 3))]
      refine u_iconst (v := (nI 1)) C dX11_turn_103 (by decide) ?_
      refine u_iadd C dX11_turn_104 ?_
      rw [nI_add (4 * (cN (iv M Y 3))) (1)]
      refine u_iload_n C dX11_turn_105 rfl ?_
      refine u_iastN (i := (4 * (cN (iv M Y 3))) + 1) C dX11_turn_106 (a24_is (mdl_p4 hY)) (a24_n (mdl_p4 hY)) (by omega) (by decide) ?_
      refine u_aload_n C dX11_turn_107 rfl ?_
      refine u_getR (k2 := (Y + 4)) C gX11_turn_108 rfl (mdl_is hY) (mdl_f4 hY) ?_
      refine u_iconst (v := (nI 4)) C dX11_turn_111 (by decide) ?_
      refine u_aload_n C dX11_turn_112 rfl ?_
      refine u_getIv (x := nI (cN (iv M Y 3))) C gX11_turn_113 rfl (mdl_is hY) (by first | exact o3a | (simp [iv_wi]; exact o3a)) ?_
      refine u_imul C dX11_turn_116 ?_
      rw [pk_mul (4) (cN (iv M Y 3))]
      refine u_iconst (v := (nI 2)) C dX11_turn_117 (by decide) ?_
      refine u_iadd C dX11_turn_118 ?_
      rw [nI_add (4 * (cN (iv M Y 3))) (2)]
      refine u_iload_n C dX11_turn_119 rfl ?_
      refine u_iastN (i := (4 * (cN (iv M Y 3))) + 2) C dX11_turn_120 (a24_is (mdl_p4 hY)) (a24_n (mdl_p4 hY)) (by omega) (by decide) ?_
      refine u_aload_n C dX11_turn_121 rfl ?_
      refine u_getR (k2 := (Y + 4)) C gX11_turn_122 rfl (mdl_is hY) (mdl_f4 hY) ?_
      refine u_iconst (v := (nI 4)) C dX11_turn_125 (by decide) ?_
      refine u_aload_n C dX11_turn_126 rfl ?_
      refine u_getIv (x := nI (cN (iv M Y 3))) C gX11_turn_127 rfl (mdl_is hY) (by first | exact o3a | (simp [iv_wi]; exact o3a)) ?_
      refine u_imul C dX11_turn_130 ?_
      rw [pk_mul (4) (cN (iv M Y 3))]
      refine u_iconst (v := (nI 3)) C dX11_turn_131 (by decide) ?_
      refine u_iadd C dX11_turn_132 ?_
      rw [nI_add (4 * (cN (iv M Y 3))) (3)]
      refine u_iload C dX11_turn_133 rfl ?_
      refine u_iastN (i := (4 * (cN (iv M Y 3))) + 3) C dX11_turn_135 (a24_is (mdl_p4 hY)) (a24_n (mdl_p4 hY)) (by omega) (by decide) ?_
      refine u_aload_n C dX11_turn_136 rfl ?_
      refine u_dup C dX11_turn_137 rfl ?_
      refine u_getI C gX11_turn_138 rfl (mdl_is hY) ?_
      refine u_iconst (v := 1) C dX11_turn_141 (by decide) ?_
      refine u_iadd C dX11_turn_142 ?_
      refine u_putI C pX11_turn_143 rfl (mdl_is hY) ?_
      refine u_aload_n C dX11_turn_146 rfl ?_
      refine u_getI C gX11_turn_147 rfl (mdl_is hY) ?_
      refine u_iconst (v := 1) C dX11_turn_150 (by decide) ?_
      refine u_isub C dX11_turn_151 ?_
      exact ret _ _ _ _ dX11_turn_152  (by first | exact ⟨fun _ => by rw [← hkq], fun q => absurd (hkq.trans q) hk0⟩ | exact ⟨fun q => absurd hkq.symm q, fun _ => ⟨rfl, rfl⟩⟩)
    · have hk0 : ¬ kq = 0 := fun q => by rw [q, if_pos (show nI 0 = 0 from rfl)] at c_76; exact absurd c_76 (by decide)
      refine u_iconst (v := 0) C dX11_turn_79 (by decide) ?_
      exact ret _ _ _ _ dX11_turn_80  (by first | exact ⟨fun _ => by rw [← hkq], fun q => absurd (hkq.trans q) hk0⟩ | exact ⟨fun q => absurd hkq.symm q, fun _ => ⟨rfl, rfl⟩⟩)
  refine u_iload_n C dX11_turn_0 rfl ?_
  refine u_iconst (v := 2) C dX11_turn_1 (by decide) ?_
  refine u_bipush (v := 60) C dX11_turn_2 (by decide) ?_
  refine u_calliS3 C es_X11_isIn dX11_turn_4 ml_RX11_109 (c_X11_isIn l D G _ _ _ _  ) (by decide) (Nat.le_of_ble_eq_true rfl) (fun r_4 M_4 q_4 => ?_)
  obtain ⟨rfl, e_4⟩ := q_4
  subst M_4
  refine u_if_eq (tgt := 46) C dX11_turn_7 (by decide) (fun c_7 => ?_) (fun c_7 => ?_)
  · refine u_iconst (v := 0) C dX11_turn_46 (by decide) ?_
    refine u_istore C dX11_turn_47 (by decide) ?_
    refine u_aload_n C dX11_turn_49 rfl ?_
    refine u_iload C dX11_turn_50 rfl ?_
    refine u_if_ne (tgt := 59) C dX11_turn_52 (by decide) (fun c_52 => ?_) (fun c_52 => ?_)
    · exact absurd c_52 (by decide)
    · refine u_iconst (v := 1) C dX11_turn_55 (by decide) ?_
      refine u_goto (tgt := 73) C dX11_turn_56 (by decide) ?_
      exact u_loc [0, 1, 2, 3, 4] rfl (J0 1 (by (try simp only [u_le, Decidable.not_not] at c_7 c_52); simp [-Int32.not_lt, -Int32.not_le, gk_turn, u_le, c_7, c_52]) (by decide))
  · refine u_iload_n C dX11_turn_10 rfl ?_
    refine u_iconst (v := 1) C dX11_turn_11 (by decide) ?_
    refine u_iload_n C dX11_turn_12 rfl ?_
    refine u_iconst (v := 1) C dX11_turn_13 (by decide) ?_
    refine u_isub C dX11_turn_14 ?_
    refine u_calliS3 C es_X11_isIn dX11_turn_15 ml_RX11_109 (c_X11_isIn l D G _ _ _ _  ) (by decide) (Nat.le_of_ble_eq_true rfl) (fun r_15 M_15 q_15 => ?_)
    obtain ⟨rfl, e_15⟩ := q_15
    subst M_15
    refine u_if_eq (tgt := 46) C dX11_turn_18 (by decide) (fun c_18 => ?_) (fun c_18 => ?_)
    · refine u_iconst (v := 0) C dX11_turn_46 (by decide) ?_
      refine u_istore C dX11_turn_47 (by decide) ?_
      refine u_aload_n C dX11_turn_49 rfl ?_
      refine u_iload C dX11_turn_50 rfl ?_
      refine u_if_ne (tgt := 59) C dX11_turn_52 (by decide) (fun c_52 => ?_) (fun c_52 => ?_)
      · exact absurd c_52 (by decide)
      · refine u_iconst (v := 1) C dX11_turn_55 (by decide) ?_
        refine u_goto (tgt := 73) C dX11_turn_56 (by decide) ?_
        exact u_loc [0, 1, 2, 3, 4] rfl (J0 1 (by (try simp only [u_le, Decidable.not_not] at c_7 c_18 c_52); simp [-Int32.not_lt, -Int32.not_le, gk_turn, u_le, c_7, c_18, c_52]) (by decide))
    · refine u_iload_n C dX11_turn_21 rfl ?_
      refine u_iconst (v := 0) C dX11_turn_22 (by decide) ?_
      refine u_bipush (v := 50) C dX11_turn_23 (by decide) ?_
      refine u_calliS3 C es_X11_isIn dX11_turn_25 ml_RX11_109 (c_X11_isIn l D G _ _ _ _  ) (by decide) (Nat.le_of_ble_eq_true rfl) (fun r_25 M_25 q_25 => ?_)
      obtain ⟨rfl, e_25⟩ := q_25
      subst M_25
      refine u_if_eq (tgt := 46) C dX11_turn_28 (by decide) (fun c_28 => ?_) (fun c_28 => ?_)
      · refine u_iconst (v := 0) C dX11_turn_46 (by decide) ?_
        refine u_istore C dX11_turn_47 (by decide) ?_
        refine u_aload_n C dX11_turn_49 rfl ?_
        refine u_iload C dX11_turn_50 rfl ?_
        refine u_if_ne (tgt := 59) C dX11_turn_52 (by decide) (fun c_52 => ?_) (fun c_52 => ?_)
        · exact absurd c_52 (by decide)
        · refine u_iconst (v := 1) C dX11_turn_55 (by decide) ?_
          refine u_goto (tgt := 73) C dX11_turn_56 (by decide) ?_
          exact u_loc [0, 1, 2, 3, 4] rfl (J0 1 (by (try simp only [u_le, Decidable.not_not] at c_7 c_18 c_28 c_52); simp [-Int32.not_lt, -Int32.not_le, gk_turn, u_le, c_7, c_18, c_28, c_52]) (by decide))
      · refine u_iload C dX11_turn_31 rfl ?_
        refine u_iconst (v := 0) C dX11_turn_33 (by decide) ?_
        refine u_bipush (v := 59) C dX11_turn_34 (by decide) ?_
        refine u_calliS3 C es_X11_isIn dX11_turn_36 ml_RX11_109 (c_X11_isIn l D G _ _ _ _  ) (by decide) (Nat.le_of_ble_eq_true rfl) (fun r_36 M_36 q_36 => ?_)
        obtain ⟨rfl, e_36⟩ := q_36
        subst M_36
        refine u_if_eq (tgt := 46) C dX11_turn_39 (by decide) (fun c_39 => ?_) (fun c_39 => ?_)
        · refine u_iconst (v := 0) C dX11_turn_46 (by decide) ?_
          refine u_istore C dX11_turn_47 (by decide) ?_
          refine u_aload_n C dX11_turn_49 rfl ?_
          refine u_iload C dX11_turn_50 rfl ?_
          refine u_if_ne (tgt := 59) C dX11_turn_52 (by decide) (fun c_52 => ?_) (fun c_52 => ?_)
          · exact absurd c_52 (by decide)
          · refine u_iconst (v := 1) C dX11_turn_55 (by decide) ?_
            refine u_goto (tgt := 73) C dX11_turn_56 (by decide) ?_
            exact u_loc [0, 1, 2, 3, 4] rfl (J0 1 (by (try simp only [u_le, Decidable.not_not] at c_7 c_18 c_28 c_39 c_52); simp [-Int32.not_lt, -Int32.not_le, gk_turn, u_le, c_7, c_18, c_28, c_39, c_52]) (by decide))
        · refine u_iconst (v := 1) C dX11_turn_42 (by decide) ?_
          refine u_goto (tgt := 47) C dX11_turn_43 (by decide) ?_
          refine u_istore C dX11_turn_47 (by decide) ?_
          refine u_aload_n C dX11_turn_49 rfl ?_
          refine u_iload C dX11_turn_50 rfl ?_
          refine u_if_ne (tgt := 59) C dX11_turn_52 (by decide) (fun c_52 => ?_) (fun c_52 => ?_)
          · refine u_aload_n C dX11_turn_59 rfl ?_
            refine u_getI C gX11_turn_60 rfl (mdl_is hY) ?_
            refine u_bipush (v := 6) C dX11_turn_63 (by decide) ?_
            refine u_icmp_ne (tgt := 72) C dX11_turn_65 (by decide) (fun c_65 => ?_) (fun c_65 => ?_)
            · refine u_iconst (v := 0) C dX11_turn_72 (by decide) ?_
              exact u_loc [0, 1, 2, 3, 4] rfl (J0 0 (by (try simp only [u_le, Decidable.not_not] at c_7 c_18 c_28 c_39 c_52 c_65); simp [-Int32.not_lt, -Int32.not_le, gk_turn, u_le, c_7, c_18, c_28, c_39, c_52, c_65]) (by decide))
            · refine u_iconst (v := 2) C dX11_turn_68 (by decide) ?_
              refine u_goto (tgt := 73) C dX11_turn_69 (by decide) ?_
              exact u_loc [0, 1, 2, 3, 4] rfl (J0 2 (by (try simp only [u_le, Decidable.not_not] at c_7 c_18 c_28 c_39 c_52 c_65); simp [-Int32.not_lt, -Int32.not_le, gk_turn, u_le, c_7, c_18, c_28, c_39, c_52, c_65]) (by decide))
          · exact absurd c_52 (by decide)
set_option maxHeartbeats 1000000 in
set_option maxRecDepth 100000 in
theorem c_X11_mean (l : Launch) (D : va_G) (G : w_G) (M : w_M) (Y : Nat) (v : Int32) (hY : L_mdl G (Y)) (ok : okM M Y) : u_Mi l D G yX11_mean cX11_mean 3 (some .int) 1 22 [.ref (gP G Y), .int v] M (fun r M' => (¬ kc_mean v = 0 → M' = wi M Y 0 (nI (kc_mean v))) ∧ (kc_mean v = 0 → r = iv (wi M Y 0 0) Y 2 ∧ M' = wi (wi M Y 0 0) Y 2 v)) := by
  obtain ⟨okS9, o16, o25, o36, o12, o11, oA, oI, oO⟩ := id ok
  obtain ⟨o1, o3, o5, oT⟩ := id okS9
  obtain ⟨o1a, o1b⟩ := cB_le o1 (by decide)
  obtain ⟨o3a, o3b⟩ := cB_le o3 (by decide)
  obtain ⟨o5a, o5b⟩ := cB_le o5 (by decide)
  obtain ⟨o11a, o11b⟩ := cB_le o11 (by decide)
  obtain ⟨o12a, o12b⟩ := cB_le o12 (by decide)
  obtain ⟨o16a, o16b⟩ := cB_le o16 (by decide)
  obtain ⟨o25a, o25b⟩ := cB_le o25 (by decide)
  obtain ⟨o36a, o36b⟩ := cB_le o36 (by decide)
  refine u_bodyi (by decide +kernel) (Nat.le_of_ble_eq_true rfl) rfl (fun p e s m args below meth c A H0 Q C ret => ?_)
  have J0 : ∀ kq : Nat, kq = kc_mean v → kq < 4 → u_S p l e (u_rm 1 22) s m args below meth c 3 D A H0 0 0 Q 16 [(0, .ref (gP G Y)), (1, .int v)] [.int (nI kq), .ref (gP G Y)] G M := by
    intro kq hkq hk4
    refine u_calliV1 C ev_X11_holds dX11_mean_16 ml_RX11_116 (mdl_is hY) rfl (by decide) (c_X11_holds l D G _ _ _ hY ) (by decide) (Nat.le_of_ble_eq_true rfl) (fun r_16 M_16 q_16 => ?_)
    obtain ⟨rfl, e_16⟩ := q_16
    subst M_16
    refine u_if_ne (tgt := 24) C dX11_mean_19 (by decide) (fun c_19 => ?_) (fun c_19 => ?_)
    · obtain rfl : kq = 0 := by rcases Nat.eq_zero_or_pos kq with q | q; exact q; exact absurd (if_neg (nI_ne0 q (by omega))) c_19
      rw [show nI 0 = (0 : Int32) from rfl]
      refine u_aload_n C dX11_mean_24 rfl ?_
      refine u_getI C gX11_mean_25 rfl (mdl_is hY) ?_
      refine u_istore_n C dX11_mean_28 (by decide) ?_
      refine u_aload_n C dX11_mean_29 rfl ?_
      refine u_iload_n C dX11_mean_30 rfl ?_
      refine u_putI C pX11_mean_31 rfl (mdl_is hY) ?_
      refine u_iload_n C dX11_mean_34 rfl ?_
      exact ret _ _ _ _ dX11_mean_35  (by first | exact ⟨fun _ => by rw [← hkq], fun q => absurd (hkq.trans q) hk0⟩ | exact ⟨fun q => absurd hkq.symm q, fun _ => ⟨rfl, rfl⟩⟩)
    · have hk0 : ¬ kq = 0 := fun q => by rw [q, if_pos (show nI 0 = 0 from rfl)] at c_19; exact absurd c_19 (by decide)
      refine u_iconst (v := 0) C dX11_mean_22 (by decide) ?_
      exact ret _ _ _ _ dX11_mean_23  (by first | exact ⟨fun _ => by rw [← hkq], fun q => absurd (hkq.trans q) hk0⟩ | exact ⟨fun q => absurd hkq.symm q, fun _ => ⟨rfl, rfl⟩⟩)
  refine u_aload_n C dX11_mean_0 rfl ?_
  refine u_iload_n C dX11_mean_1 rfl ?_
  refine u_iconst (v := 0) C dX11_mean_2 (by decide) ?_
  refine u_bipush (v := 100) C dX11_mean_3 (by decide) ?_
  refine u_calliS3 C es_X11_isIn dX11_mean_5 ml_RX11_109 (c_X11_isIn l D G _ _ _ _  ) (by decide) (Nat.le_of_ble_eq_true rfl) (fun r_5 M_5 q_5 => ?_)
  obtain ⟨rfl, e_5⟩ := q_5
  subst M_5
  refine u_if_eq (tgt := 15) C dX11_mean_8 (by decide) (fun c_8 => ?_) (fun c_8 => ?_)
  · refine u_iconst (v := 1) C dX11_mean_15 (by decide) ?_
    exact u_loc [0, 1] rfl (J0 1 (by (try simp only [u_le, Decidable.not_not] at c_8); simp [-Int32.not_lt, -Int32.not_le, kc_mean, u_le, c_8]) (by decide))
  · refine u_iconst (v := 0) C dX11_mean_11 (by decide) ?_
    refine u_goto (tgt := 16) C dX11_mean_12 (by decide) ?_
    exact u_loc [0, 1] rfl (J0 0 (by (try simp only [u_le, Decidable.not_not] at c_8); simp [-Int32.not_lt, -Int32.not_le, kc_mean, u_le, c_8]) (by decide))
set_option maxHeartbeats 1000000 in
set_option maxRecDepth 100000 in
theorem c_X11_river (l : Launch) (D : va_G) (G : w_G) (M : w_M) (Y : Nat) (w : Int32) (si : Int32) (hY : L_mdl G (Y)) (ok : okM M Y) : u_Mi l D G yX11_river cX11_river 4 (some .int) 1 22 [.ref (gP G Y), .int w, .int si] M (fun r M' => (¬ kc_river w si = 0 → M' = wi M Y 0 (nI (kc_river w si))) ∧ (kc_river w si = 0 → r = iv (wi M Y 0 0) Y 8 ∧ M' = wi (wi (wi M Y 0 0) Y 8 w) Y 9 si)) := by
  obtain ⟨okS9, o16, o25, o36, o12, o11, oA, oI, oO⟩ := id ok
  obtain ⟨o1, o3, o5, oT⟩ := id okS9
  obtain ⟨o1a, o1b⟩ := cB_le o1 (by decide)
  obtain ⟨o3a, o3b⟩ := cB_le o3 (by decide)
  obtain ⟨o5a, o5b⟩ := cB_le o5 (by decide)
  obtain ⟨o11a, o11b⟩ := cB_le o11 (by decide)
  obtain ⟨o12a, o12b⟩ := cB_le o12 (by decide)
  obtain ⟨o16a, o16b⟩ := cB_le o16 (by decide)
  obtain ⟨o25a, o25b⟩ := cB_le o25 (by decide)
  obtain ⟨o36a, o36b⟩ := cB_le o36 (by decide)
  refine u_bodyi (by decide +kernel) (Nat.le_of_ble_eq_true rfl) rfl (fun p e s m args below meth c A H0 Q C ret => ?_)
  have J0 : ∀ kq : Nat, kq = kc_river w si → kq < 4 → u_S p l e (u_rm 1 22) s m args below meth c 4 D A H0 0 0 Q 28 [(0, .ref (gP G Y)), (1, .int w), (2, .int si)] [.int (nI kq), .ref (gP G Y)] G M := by
    intro kq hkq hk4
    refine u_calliV1 C ev_X11_holds dX11_river_28 ml_RX11_116 (mdl_is hY) rfl (by decide) (c_X11_holds l D G _ _ _ hY ) (by decide) (Nat.le_of_ble_eq_true rfl) (fun r_28 M_28 q_28 => ?_)
    obtain ⟨rfl, e_28⟩ := q_28
    subst M_28
    refine u_if_ne (tgt := 36) C dX11_river_31 (by decide) (fun c_31 => ?_) (fun c_31 => ?_)
    · obtain rfl : kq = 0 := by rcases Nat.eq_zero_or_pos kq with q | q; exact q; exact absurd (if_neg (nI_ne0 q (by omega))) c_31
      rw [show nI 0 = (0 : Int32) from rfl]
      refine u_aload_n C dX11_river_36 rfl ?_
      refine u_getI C gX11_river_37 rfl (mdl_is hY) ?_
      refine u_istore_n C dX11_river_40 (by decide) ?_
      refine u_aload_n C dX11_river_41 rfl ?_
      refine u_iload_n C dX11_river_42 rfl ?_
      refine u_putI C pX11_river_43 rfl (mdl_is hY) ?_
      refine u_aload_n C dX11_river_46 rfl ?_
      refine u_iload_n C dX11_river_47 rfl ?_
      refine u_putI C pX11_river_48 rfl (mdl_is hY) ?_
      refine u_iload_n C dX11_river_51 rfl ?_
      exact ret _ _ _ _ dX11_river_52  (by first | exact ⟨fun _ => by rw [← hkq], fun q => absurd (hkq.trans q) hk0⟩ | exact ⟨fun q => absurd hkq.symm q, fun _ => ⟨rfl, rfl⟩⟩)
    · have hk0 : ¬ kq = 0 := fun q => by rw [q, if_pos (show nI 0 = 0 from rfl)] at c_31; exact absurd c_31 (by decide)
      refine u_iconst (v := 0) C dX11_river_34 (by decide) ?_
      exact ret _ _ _ _ dX11_river_35  (by first | exact ⟨fun _ => by rw [← hkq], fun q => absurd (hkq.trans q) hk0⟩ | exact ⟨fun q => absurd hkq.symm q, fun _ => ⟨rfl, rfl⟩⟩)
  refine u_aload_n C dX11_river_0 rfl ?_
  refine u_iload_n C dX11_river_1 rfl ?_
  refine u_iconst (v := 0) C dX11_river_2 (by decide) ?_
  refine u_sipush (v := 500) C dX11_river_3 (by decide) ?_
  refine u_calliS3 C es_X11_isIn dX11_river_6 ml_RX11_109 (c_X11_isIn l D G _ _ _ _  ) (by decide) (Nat.le_of_ble_eq_true rfl) (fun r_6 M_6 q_6 => ?_)
  obtain ⟨rfl, e_6⟩ := q_6
  subst M_6
  refine u_if_eq (tgt := 27) C dX11_river_9 (by decide) (fun c_9 => ?_) (fun c_9 => ?_)
  · refine u_iconst (v := 1) C dX11_river_27 (by decide) ?_
    exact u_loc [0, 1, 2] rfl (J0 1 (by (try simp only [u_le, Decidable.not_not] at c_9); simp [-Int32.not_lt, -Int32.not_le, kc_river, u_le, c_9]) (by decide))
  · refine u_iload_n C dX11_river_12 rfl ?_
    refine u_iconst (v := 0) C dX11_river_13 (by decide) ?_
    refine u_sipush (v := 500) C dX11_river_14 (by decide) ?_
    refine u_calliS3 C es_X11_isIn dX11_river_17 ml_RX11_109 (c_X11_isIn l D G _ _ _ _  ) (by decide) (Nat.le_of_ble_eq_true rfl) (fun r_17 M_17 q_17 => ?_)
    obtain ⟨rfl, e_17⟩ := q_17
    subst M_17
    refine u_if_eq (tgt := 27) C dX11_river_20 (by decide) (fun c_20 => ?_) (fun c_20 => ?_)
    · refine u_iconst (v := 1) C dX11_river_27 (by decide) ?_
      exact u_loc [0, 1, 2] rfl (J0 1 (by (try simp only [u_le, Decidable.not_not] at c_9 c_20); simp [-Int32.not_lt, -Int32.not_le, kc_river, u_le, c_9, c_20]) (by decide))
    · refine u_iconst (v := 0) C dX11_river_23 (by decide) ?_
      refine u_goto (tgt := 28) C dX11_river_24 (by decide) ?_
      exact u_loc [0, 1, 2] rfl (J0 0 (by (try simp only [u_le, Decidable.not_not] at c_9 c_20); simp [-Int32.not_lt, -Int32.not_le, kc_river, u_le, c_9, c_20]) (by decide))
set_option maxHeartbeats 1000000 in
set_option maxRecDepth 100000 in
theorem c_X11_barrier (l : Launch) (D : va_G) (G : w_G) (M : w_M) (Y : Nat) (mk : Int32) (ld : Int32) (hY : L_mdl G (Y)) (ok : okM M Y) : u_Mi l D G yX11_barrier cX11_barrier 4 (some .int) 1 22 [.ref (gP G Y), .int mk, .int ld] M (fun r M' => (¬ gk_bar mk ld = 0 → M' = wi M Y 0 (nI (gk_bar mk ld))) ∧ (gk_bar mk ld = 0 → r = iv (wi M Y 0 0) Y 10 ∧ M' = wi (wi (wi M Y 0 0) Y 10 mk) Y 11 ld)) := by
  obtain ⟨okS9, o16, o25, o36, o12, o11, oA, oI, oO⟩ := id ok
  obtain ⟨o1, o3, o5, oT⟩ := id okS9
  obtain ⟨o1a, o1b⟩ := cB_le o1 (by decide)
  obtain ⟨o3a, o3b⟩ := cB_le o3 (by decide)
  obtain ⟨o5a, o5b⟩ := cB_le o5 (by decide)
  obtain ⟨o11a, o11b⟩ := cB_le o11 (by decide)
  obtain ⟨o12a, o12b⟩ := cB_le o12 (by decide)
  obtain ⟨o16a, o16b⟩ := cB_le o16 (by decide)
  obtain ⟨o25a, o25b⟩ := cB_le o25 (by decide)
  obtain ⟨o36a, o36b⟩ := cB_le o36 (by decide)
  refine u_bodyi (by decide +kernel) (Nat.le_of_ble_eq_true rfl) rfl (fun p e s m args below meth c A H0 Q C ret => ?_)
  have J0 : ∀ kq : Nat, kq = gk_bar mk ld → kq < 4 → u_S p l e (u_rm 1 22) s m args below meth c 4 D A H0 0 0 Q 27 [(0, .ref (gP G Y)), (1, .int mk), (2, .int ld)] [.int (nI kq), .ref (gP G Y)] G M := by
    intro kq hkq hk4
    refine u_calliV1 C ev_X11_holds dX11_barrier_27 ml_RX11_116 (mdl_is hY) rfl (by decide) (c_X11_holds l D G _ _ _ hY ) (by decide) (Nat.le_of_ble_eq_true rfl) (fun r_27 M_27 q_27 => ?_)
    obtain ⟨rfl, e_27⟩ := q_27
    subst M_27
    refine u_if_ne (tgt := 35) C dX11_barrier_30 (by decide) (fun c_30 => ?_) (fun c_30 => ?_)
    · obtain rfl : kq = 0 := by rcases Nat.eq_zero_or_pos kq with q | q; exact q; exact absurd (if_neg (nI_ne0 q (by omega))) c_30
      rw [show nI 0 = (0 : Int32) from rfl]
      refine u_aload_n C dX11_barrier_35 rfl ?_
      refine u_getI C gX11_barrier_36 rfl (mdl_is hY) ?_
      refine u_istore_n C dX11_barrier_39 (by decide) ?_
      refine u_aload_n C dX11_barrier_40 rfl ?_
      refine u_iload_n C dX11_barrier_41 rfl ?_
      refine u_putI C pX11_barrier_42 rfl (mdl_is hY) ?_
      refine u_aload_n C dX11_barrier_45 rfl ?_
      refine u_iload_n C dX11_barrier_46 rfl ?_
      refine u_putI C pX11_barrier_47 rfl (mdl_is hY) ?_
      refine u_iload_n C dX11_barrier_50 rfl ?_
      exact ret _ _ _ _ dX11_barrier_51  (by first | exact ⟨fun _ => by rw [← hkq], fun q => absurd (hkq.trans q) hk0⟩ | exact ⟨fun q => absurd hkq.symm q, fun _ => ⟨rfl, rfl⟩⟩)
    · have hk0 : ¬ kq = 0 := fun q => by rw [q, if_pos (show nI 0 = 0 from rfl)] at c_30; exact absurd c_30 (by decide)
      refine u_iconst (v := 0) C dX11_barrier_33 (by decide) ?_
      exact ret _ _ _ _ dX11_barrier_34  (by first | exact ⟨fun _ => by rw [← hkq], fun q => absurd (hkq.trans q) hk0⟩ | exact ⟨fun q => absurd hkq.symm q, fun _ => ⟨rfl, rfl⟩⟩)
  refine u_aload_n C dX11_barrier_0 rfl ?_
  refine u_iload_n C dX11_barrier_1 rfl ?_
  refine u_iconst (v := (-1)) C dX11_barrier_2 (by decide) ?_
  refine u_sipush (v := 500) C dX11_barrier_3 (by decide) ?_
  refine u_calliS3 C es_X11_isIn dX11_barrier_6 ml_RX11_109 (c_X11_isIn l D G _ _ _ _  ) (by decide) (Nat.le_of_ble_eq_true rfl) (fun r_6 M_6 q_6 => ?_)
  obtain ⟨rfl, e_6⟩ := q_6
  subst M_6
  refine u_if_eq (tgt := 26) C dX11_barrier_9 (by decide) (fun c_9 => ?_) (fun c_9 => ?_)
  · refine u_iconst (v := 1) C dX11_barrier_26 (by decide) ?_
    exact u_loc [0, 1, 2] rfl (J0 1 (by (try simp only [u_le, Decidable.not_not] at c_9); simp [-Int32.not_lt, -Int32.not_le, gk_bar, u_le, c_9]) (by decide))
  · refine u_iload_n C dX11_barrier_12 rfl ?_
    refine u_iconst (v := 0) C dX11_barrier_13 (by decide) ?_
    refine u_bipush (v := 12) C dX11_barrier_14 (by decide) ?_
    refine u_calliS3 C es_X11_isIn dX11_barrier_16 ml_RX11_109 (c_X11_isIn l D G _ _ _ _  ) (by decide) (Nat.le_of_ble_eq_true rfl) (fun r_16 M_16 q_16 => ?_)
    obtain ⟨rfl, e_16⟩ := q_16
    subst M_16
    refine u_if_eq (tgt := 26) C dX11_barrier_19 (by decide) (fun c_19 => ?_) (fun c_19 => ?_)
    · refine u_iconst (v := 1) C dX11_barrier_26 (by decide) ?_
      exact u_loc [0, 1, 2] rfl (J0 1 (by (try simp only [u_le, Decidable.not_not] at c_9 c_19); simp [-Int32.not_lt, -Int32.not_le, gk_bar, u_le, c_9, c_19]) (by decide))
    · refine u_iconst (v := 0) C dX11_barrier_22 (by decide) ?_
      refine u_goto (tgt := 27) C dX11_barrier_23 (by decide) ?_
      exact u_loc [0, 1, 2] rfl (J0 0 (by (try simp only [u_le, Decidable.not_not] at c_9 c_19); simp [-Int32.not_lt, -Int32.not_le, gk_bar, u_le, c_9, c_19]) (by decide))
set_option maxHeartbeats 1000000 in
set_option maxRecDepth 100000 in
theorem c_X11_sea (l : Launch) (D : va_G) (G : w_G) (M : w_M) (Y : Nat) (h : Int32) (hY : L_mdl G (Y)) (ok : okM M Y) : u_Mi l D G yX11_sea cX11_sea 2 (some .int) 2 49 [.ref (gP G Y), .int h] M (fun r M' => (¬ kc_sea h = 0 → M' = wi M Y 0 (nI (kc_sea h))) ∧ (kc_sea h = 0 → r = g_sea (wi M Y 0 0) Y (cN h) ∧ M' = (wi M Y 0 0))) := by
  obtain ⟨okS9, o16, o25, o36, o12, o11, oA, oI, oO⟩ := id ok
  obtain ⟨o1, o3, o5, oT⟩ := id okS9
  obtain ⟨o1a, o1b⟩ := cB_le o1 (by decide)
  obtain ⟨o3a, o3b⟩ := cB_le o3 (by decide)
  obtain ⟨o5a, o5b⟩ := cB_le o5 (by decide)
  obtain ⟨o11a, o11b⟩ := cB_le o11 (by decide)
  obtain ⟨o12a, o12b⟩ := cB_le o12 (by decide)
  obtain ⟨o16a, o16b⟩ := cB_le o16 (by decide)
  obtain ⟨o25a, o25b⟩ := cB_le o25 (by decide)
  obtain ⟨o36a, o36b⟩ := cB_le o36 (by decide)
  refine u_bodyi (by decide +kernel) (Nat.le_of_ble_eq_true rfl) rfl (fun p e s m args below meth c A H0 Q C ret => ?_)
  have J0 : ∀ kq : Nat, kq = kc_sea h → kq < 4 → u_S p l e (u_rm 2 49) s m args below meth c 2 D A H0 0 0 Q 17 [(0, .ref (gP G Y)), (1, .int h)] [.int (nI kq), .ref (gP G Y)] G M := by
    intro kq hkq hk4
    refine u_calliV1 C ev_X11_holds dX11_sea_17 ml_RX11_116 (mdl_is hY) rfl (by decide) (c_X11_holds l D G _ _ _ hY ) (by decide) (Nat.le_of_ble_eq_true rfl) (fun r_17 M_17 q_17 => ?_)
    obtain ⟨rfl, e_17⟩ := q_17
    subst M_17
    refine u_if_eq (tgt := 31) C dX11_sea_20 (by decide) (fun c_20 => ?_) (fun c_20 => ?_)
    · have hk0 : ¬ kq = 0 := fun q => by rw [q, if_pos (show nI 0 = 0 from rfl)] at c_20; exact absurd c_20 (by decide)
      refine u_iconst (v := 0) C dX11_sea_31 (by decide) ?_
      exact ret _ _ _ _ dX11_sea_32  (by first | exact ⟨fun _ => by rw [← hkq], fun q => absurd (hkq.trans q) hk0⟩ | exact ⟨fun q => absurd hkq.symm q, fun _ => ⟨by first | (rw [cN_nI (by omega)]; done) | (rw [cN_nI (by omega)]; rfl), rfl⟩⟩)
    · obtain rfl : kq = 0 := by rcases Nat.eq_zero_or_pos kq with q | q; exact q; exact absurd (if_neg (nI_ne0 q (by omega))) c_20
      rw [show nI 0 = (0 : Int32) from rfl]
      have hw9 : ¬ fW h 0 2000 = 0 := fun q => absurd hkq.symm (by rw [kc_sea, if_pos q]; decide)
      obtain ⟨t, ht2, rfl⟩ := u_fWn (n := 2000) rfl hw9
      refine u_aload_n C dX11_sea_23 rfl ?_
      refine u_iload_n C dX11_sea_24 rfl ?_
      refine u_calliV1 C ev_X11_seaOf dX11_sea_25 ml_RX11_169 (mdl_is hY) rfl (by decide) (c_X11_seaOf l D G _ _ _ hY (okM_Z ok).1 (by omega)) (by decide) (Nat.le_of_ble_eq_true rfl) (fun r_25 M_25 q_25 => ?_)
      obtain ⟨rfl, e_25⟩ := q_25
      subst M_25
      refine u_goto (tgt := 32) C dX11_sea_28 (by decide) ?_
      exact ret _ _ _ _ dX11_sea_32  (by first | exact ⟨fun _ => by rw [← hkq], fun q => absurd (hkq.trans q) hk0⟩ | exact ⟨fun q => absurd hkq.symm q, fun _ => ⟨by first | (rw [cN_nI (by omega)]; done) | (rw [cN_nI (by omega)]; rfl), rfl⟩⟩)
  refine u_aload_n C dX11_sea_0 rfl ?_
  refine u_iload_n C dX11_sea_1 rfl ?_
  refine u_iconst (v := 0) C dX11_sea_2 (by decide) ?_
  refine u_sipush (v := 2000) C dX11_sea_3 (by decide) ?_
  refine u_calliS3 C es_X11_isIn dX11_sea_6 ml_RX11_109 (c_X11_isIn l D G _ _ _ _  ) (by decide) (Nat.le_of_ble_eq_true rfl) (fun r_6 M_6 q_6 => ?_)
  obtain ⟨rfl, e_6⟩ := q_6
  subst M_6
  refine u_if_eq (tgt := 16) C dX11_sea_9 (by decide) (fun c_9 => ?_) (fun c_9 => ?_)
  · refine u_iconst (v := 1) C dX11_sea_16 (by decide) ?_
    exact u_loc [0, 1] rfl (J0 1 (by (try simp only [u_le, Decidable.not_not] at c_9); simp [-Int32.not_lt, -Int32.not_le, kc_sea, u_le, c_9]) (by decide))
  · refine u_iconst (v := 0) C dX11_sea_12 (by decide) ?_
    refine u_goto (tgt := 17) C dX11_sea_13 (by decide) ?_
    exact u_loc [0, 1] rfl (J0 0 (by (try simp only [u_le, Decidable.not_not] at c_9); simp [-Int32.not_lt, -Int32.not_le, kc_sea, u_le, c_9]) (by decide))
set_option maxHeartbeats 1000000 in
set_option maxRecDepth 100000 in
theorem c_X11_surge (l : Launch) (D : va_G) (G : w_G) (M : w_M) (Y : Nat) (a : Int32) (b : Int32) (h : Int32) (hY : L_mdl G (Y)) (ok : okM M Y) : u_Mi l D G yX11_surge cX11_surge 5 (some .int) 1 22 [.ref (gP G Y), .int a, .int b, .int h] M (fun r M' => (¬ gk_surge a b h (iv M Y 1) (iv M Y 5) = 0 → M' = wi M Y 0 (nI (gk_surge a b h (iv M Y 1) (iv M Y 5)))) ∧ (gk_surge a b h (iv M Y 1) (iv M Y 5) = 0 → r = iv (gE_surge (wi M Y 0 0) Y (cN (iv M Y 5)) a b h) Y 5 ∧ M' = gE_surge (wi M Y 0 0) Y (cN (iv M Y 5)) a b h)) := by
  obtain ⟨okS9, o16, o25, o36, o12, o11, oA, oI, oO⟩ := id ok
  obtain ⟨o1, o3, o5, oT⟩ := id okS9
  obtain ⟨o1a, o1b⟩ := cB_le o1 (by decide)
  obtain ⟨o3a, o3b⟩ := cB_le o3 (by decide)
  obtain ⟨o5a, o5b⟩ := cB_le o5 (by decide)
  obtain ⟨o11a, o11b⟩ := cB_le o11 (by decide)
  obtain ⟨o12a, o12b⟩ := cB_le o12 (by decide)
  obtain ⟨o16a, o16b⟩ := cB_le o16 (by decide)
  obtain ⟨o25a, o25b⟩ := cB_le o25 (by decide)
  obtain ⟨o36a, o36b⟩ := cB_le o36 (by decide)
  refine u_bodyi (by decide +kernel) (Nat.le_of_ble_eq_true rfl) rfl (fun p e s m args below meth c A H0 Q C ret => ?_)
  have J0 : ∀ kq : Nat, kq = gk_surge a b h (iv M Y 1) (iv M Y 5) → kq < 4 → u_S p l e (u_rm 1 22) s m args below meth c 5 D A H0 0 0 Q 67 [(0, .ref (gP G Y)), (1, .int a), (2, .int b), (3, .int h)] [.int (nI kq), .ref (gP G Y)] G M := by
    intro kq hkq hk4
    refine u_calliV1 C ev_X11_holds dX11_surge_67 ml_RX11_116 (mdl_is hY) rfl (by decide) (c_X11_holds l D G _ _ _ hY ) (by decide) (Nat.le_of_ble_eq_true rfl) (fun r_67 M_67 q_67 => ?_)
    obtain ⟨rfl, e_67⟩ := q_67
    subst M_67
    refine u_if_ne (tgt := 75) C dX11_surge_70 (by decide) (fun c_70 => ?_) (fun c_70 => ?_)
    · obtain rfl : kq = 0 := by rcases Nat.eq_zero_or_pos kq with q | q; exact q; exact absurd (if_neg (nI_ne0 q (by omega))) c_70
      rw [show nI 0 = (0 : Int32) from rfl]
      have hlt : cN (iv M Y 5) < 20 := by rcases Nat.lt_or_ge (cN (iv M Y 5)) 20 with q | q; exact q; exact absurd hkq.symm (by have e6 : iv M Y 5 = 20 := (by rw [o5a, show cN (iv M Y 5) = 20 by omega]; rfl); rw [gk_surge, e6]; first | (simp; done) | (simp; (repeat' split) <;> simp))
      refine u_aload_n C dX11_surge_75 rfl ?_
      refine u_getR (k2 := (Y + 6)) C gX11_surge_76 rfl (mdl_is hY) (mdl_f6 hY) ?_
      refine u_iconst (v := (nI 3)) C dX11_surge_79 (by decide) ?_
      refine u_aload_n C dX11_surge_80 rfl ?_
      refine u_getIv (x := nI (cN (iv M Y 5))) C gX11_surge_81 rfl (mdl_is hY) (by first | exact o5a | (simp [iv_wi]; exact o5a)) ?_
      refine u_imul C dX11_surge_84 ?_
      rw [pk_mul (3) (cN (iv M Y 5))]
      refine u_iload_n C dX11_surge_85 rfl ?_
      refine u_iastN (i := 3 * (cN (iv M Y 5))) C dX11_surge_86 (a60_is (mdl_p6 hY)) (a60_n (mdl_p6 hY)) (by omega) (by decide) ?_
      refine u_aload_n C dX11_surge_87 rfl ?_
      refine u_getR (k2 := (Y + 6)) C gX11_surge_88 rfl (mdl_is hY) (mdl_f6 hY) ?_
      refine u_iconst (v := (nI 3)) C dX11_surge_91 (by decide) ?_
      refine u_aload_n C dX11_surge_92 rfl ?_
      refine u_getIv (x := nI (cN (iv M Y 5))) C gX11_surge_93 rfl (mdl_is hY) (by first | exact o5a | (simp [iv_wi]; exact o5a)) ?_
      refine u_imul C dX11_surge_96 ?_
      rw [pk_mul (3) (cN (iv M Y 5))]
      refine u_iconst (v := (nI 1)) C dX11_surge_97 (by decide) ?_
      refine u_iadd C dX11_surge_98 ?_
      rw [nI_add (3 * (cN (iv M Y 5))) (1)]
      refine u_iload_n C dX11_surge_99 rfl ?_
      refine u_iastN (i := (3 * (cN (iv M Y 5))) + 1) C dX11_surge_100 (a60_is (mdl_p6 hY)) (a60_n (mdl_p6 hY)) (by omega) (by decide) ?_
      refine u_aload_n C dX11_surge_101 rfl ?_
      refine u_getR (k2 := (Y + 6)) C gX11_surge_102 rfl (mdl_is hY) (mdl_f6 hY) ?_
      refine u_iconst (v := (nI 3)) C dX11_surge_105 (by decide) ?_
      refine u_aload_n C dX11_surge_106 rfl ?_
      refine u_getIv (x := nI (cN (iv M Y 5))) C gX11_surge_107 rfl (mdl_is hY) (by first | exact o5a | (simp [iv_wi]; exact o5a)) ?_
      refine u_imul C dX11_surge_110 ?_
      rw [pk_mul (3) (cN (iv M Y 5))]
      refine u_iconst (v := (nI 2)) C dX11_surge_111 (by decide) ?_
      refine u_iadd C dX11_surge_112 ?_
      rw [nI_add (3 * (cN (iv M Y 5))) (2)]
      refine u_iload_n C dX11_surge_113 rfl ?_
      refine u_iastN (i := (3 * (cN (iv M Y 5))) + 2) C dX11_surge_114 (a60_is (mdl_p6 hY)) (a60_n (mdl_p6 hY)) (by omega) (by decide) ?_
      refine u_aload_n C dX11_surge_115 rfl ?_
      refine u_dup C dX11_surge_116 rfl ?_
      refine u_getI C gX11_surge_117 rfl (mdl_is hY) ?_
      refine u_iconst (v := 1) C dX11_surge_120 (by decide) ?_
      refine u_iadd C dX11_surge_121 ?_
      refine u_putI C pX11_surge_122 rfl (mdl_is hY) ?_
      refine u_aload_n C dX11_surge_125 rfl ?_
      refine u_getI C gX11_surge_126 rfl (mdl_is hY) ?_
      exact ret _ _ _ _ dX11_surge_129  (by first | exact ⟨fun _ => by rw [← hkq], fun q => absurd (hkq.trans q) hk0⟩ | exact ⟨fun q => absurd hkq.symm q, fun _ => ⟨rfl, rfl⟩⟩)
    · have hk0 : ¬ kq = 0 := fun q => by rw [q, if_pos (show nI 0 = 0 from rfl)] at c_70; exact absurd c_70 (by decide)
      refine u_iconst (v := 0) C dX11_surge_73 (by decide) ?_
      exact ret _ _ _ _ dX11_surge_74  (by first | exact ⟨fun _ => by rw [← hkq], fun q => absurd (hkq.trans q) hk0⟩ | exact ⟨fun q => absurd hkq.symm q, fun _ => ⟨rfl, rfl⟩⟩)
  refine u_iload_n C dX11_surge_0 rfl ?_
  refine u_aload_n C dX11_surge_1 rfl ?_
  refine u_getI C gX11_surge_2 rfl (mdl_is hY) ?_
  refine u_sipush (v := 2000) C dX11_surge_5 (by decide) ?_
  refine u_calliS3 C es_X11_isIn dX11_surge_8 ml_RX11_109 (c_X11_isIn l D G _ _ _ _  ) (by decide) (Nat.le_of_ble_eq_true rfl) (fun r_8 M_8 q_8 => ?_)
  obtain ⟨rfl, e_8⟩ := q_8
  subst M_8
  refine u_if_eq (tgt := 40) C dX11_surge_11 (by decide) (fun c_11 => ?_) (fun c_11 => ?_)
  · refine u_iconst (v := 0) C dX11_surge_40 (by decide) ?_
    refine u_istore C dX11_surge_41 (by decide) ?_
    refine u_aload_n C dX11_surge_43 rfl ?_
    refine u_iload C dX11_surge_44 rfl ?_
    refine u_if_ne (tgt := 53) C dX11_surge_46 (by decide) (fun c_46 => ?_) (fun c_46 => ?_)
    · exact absurd c_46 (by decide)
    · refine u_iconst (v := 1) C dX11_surge_49 (by decide) ?_
      refine u_goto (tgt := 67) C dX11_surge_50 (by decide) ?_
      exact u_loc [0, 1, 2, 3] rfl (J0 1 (by (try simp only [u_le, Decidable.not_not] at c_11 c_46); simp [-Int32.not_lt, -Int32.not_le, gk_surge, u_le, c_11, c_46]) (by decide))
  · refine u_iload_n C dX11_surge_14 rfl ?_
    refine u_iload_n C dX11_surge_15 rfl ?_
    refine u_sipush (v := 2000) C dX11_surge_16 (by decide) ?_
    refine u_calliS3 C es_X11_isIn dX11_surge_19 ml_RX11_109 (c_X11_isIn l D G _ _ _ _  ) (by decide) (Nat.le_of_ble_eq_true rfl) (fun r_19 M_19 q_19 => ?_)
    obtain ⟨rfl, e_19⟩ := q_19
    subst M_19
    refine u_if_eq (tgt := 40) C dX11_surge_22 (by decide) (fun c_22 => ?_) (fun c_22 => ?_)
    · refine u_iconst (v := 0) C dX11_surge_40 (by decide) ?_
      refine u_istore C dX11_surge_41 (by decide) ?_
      refine u_aload_n C dX11_surge_43 rfl ?_
      refine u_iload C dX11_surge_44 rfl ?_
      refine u_if_ne (tgt := 53) C dX11_surge_46 (by decide) (fun c_46 => ?_) (fun c_46 => ?_)
      · exact absurd c_46 (by decide)
      · refine u_iconst (v := 1) C dX11_surge_49 (by decide) ?_
        refine u_goto (tgt := 67) C dX11_surge_50 (by decide) ?_
        exact u_loc [0, 1, 2, 3] rfl (J0 1 (by (try simp only [u_le, Decidable.not_not] at c_11 c_22 c_46); simp [-Int32.not_lt, -Int32.not_le, gk_surge, u_le, c_11, c_22, c_46]) (by decide))
    · refine u_iload_n C dX11_surge_25 rfl ?_
      refine u_bipush (v := (-50)) C dX11_surge_26 (by decide) ?_
      refine u_bipush (v := 100) C dX11_surge_28 (by decide) ?_
      refine u_calliS3 C es_X11_isIn dX11_surge_30 ml_RX11_109 (c_X11_isIn l D G _ _ _ _  ) (by decide) (Nat.le_of_ble_eq_true rfl) (fun r_30 M_30 q_30 => ?_)
      obtain ⟨rfl, e_30⟩ := q_30
      subst M_30
      refine u_if_eq (tgt := 40) C dX11_surge_33 (by decide) (fun c_33 => ?_) (fun c_33 => ?_)
      · refine u_iconst (v := 0) C dX11_surge_40 (by decide) ?_
        refine u_istore C dX11_surge_41 (by decide) ?_
        refine u_aload_n C dX11_surge_43 rfl ?_
        refine u_iload C dX11_surge_44 rfl ?_
        refine u_if_ne (tgt := 53) C dX11_surge_46 (by decide) (fun c_46 => ?_) (fun c_46 => ?_)
        · exact absurd c_46 (by decide)
        · refine u_iconst (v := 1) C dX11_surge_49 (by decide) ?_
          refine u_goto (tgt := 67) C dX11_surge_50 (by decide) ?_
          exact u_loc [0, 1, 2, 3] rfl (J0 1 (by (try simp only [u_le, Decidable.not_not] at c_11 c_22 c_33 c_46); simp [-Int32.not_lt, -Int32.not_le, gk_surge, u_le, c_11, c_22, c_33, c_46]) (by decide))
      · refine u_iconst (v := 1) C dX11_surge_36 (by decide) ?_
        refine u_goto (tgt := 41) C dX11_surge_37 (by decide) ?_
        refine u_istore C dX11_surge_41 (by decide) ?_
        refine u_aload_n C dX11_surge_43 rfl ?_
        refine u_iload C dX11_surge_44 rfl ?_
        refine u_if_ne (tgt := 53) C dX11_surge_46 (by decide) (fun c_46 => ?_) (fun c_46 => ?_)
        · refine u_aload_n C dX11_surge_53 rfl ?_
          refine u_getI C gX11_surge_54 rfl (mdl_is hY) ?_
          refine u_bipush (v := 20) C dX11_surge_57 (by decide) ?_
          refine u_icmp_ne (tgt := 66) C dX11_surge_59 (by decide) (fun c_59 => ?_) (fun c_59 => ?_)
          · refine u_iconst (v := 0) C dX11_surge_66 (by decide) ?_
            exact u_loc [0, 1, 2, 3] rfl (J0 0 (by (try simp only [u_le, Decidable.not_not] at c_11 c_22 c_33 c_46 c_59); simp [-Int32.not_lt, -Int32.not_le, gk_surge, u_le, c_11, c_22, c_33, c_46, c_59]) (by decide))
          · refine u_iconst (v := 2) C dX11_surge_62 (by decide) ?_
            refine u_goto (tgt := 67) C dX11_surge_63 (by decide) ?_
            exact u_loc [0, 1, 2, 3] rfl (J0 2 (by (try simp only [u_le, Decidable.not_not] at c_11 c_22 c_33 c_46 c_59); simp [-Int32.not_lt, -Int32.not_le, gk_surge, u_le, c_11, c_22, c_33, c_46, c_59]) (by decide))
        · exact absurd c_46 (by decide)
set_option maxHeartbeats 1000000 in
set_option maxRecDepth 100000 in
theorem c_X11_section (l : Launch) (D : va_G) (G : w_G) (M : w_M) (Y : Nat) (ar : Int32) (up : Int32) (low : Int32) (mud : Int32) (hY : L_mdl G (Y)) (ok : okM M Y) : u_Mi l D G yX11_section cX11_section 6 (some .int) 1 22 [.ref (gP G Y), .int ar, .int up, .int low, .int mud] M (fun r M' => (¬ gk_sec ar up low mud (iv M Y 16) (iv M Y 1) = 0 → M' = wi M Y 0 (nI (gk_sec ar up low mud (iv M Y 16) (iv M Y 1)))) ∧ (gk_sec ar up low mud (iv M Y 16) (iv M Y 1) = 0 → r = iv (gE_sec (wi M Y 0 0) Y (cN (iv M Y 16)) ar up low mud) Y 16 - 1 ∧ M' = gE_sec (wi M Y 0 0) Y (cN (iv M Y 16)) ar up low mud)) := by
  obtain ⟨okS9, o16, o25, o36, o12, o11, oA, oI, oO⟩ := id ok
  obtain ⟨o1, o3, o5, oT⟩ := id okS9
  obtain ⟨o1a, o1b⟩ := cB_le o1 (by decide)
  obtain ⟨o3a, o3b⟩ := cB_le o3 (by decide)
  obtain ⟨o5a, o5b⟩ := cB_le o5 (by decide)
  obtain ⟨o11a, o11b⟩ := cB_le o11 (by decide)
  obtain ⟨o12a, o12b⟩ := cB_le o12 (by decide)
  obtain ⟨o16a, o16b⟩ := cB_le o16 (by decide)
  obtain ⟨o25a, o25b⟩ := cB_le o25 (by decide)
  obtain ⟨o36a, o36b⟩ := cB_le o36 (by decide)
  refine u_bodyi (by decide +kernel) (Nat.le_of_ble_eq_true rfl) rfl (fun p e s m args below meth c A H0 Q C ret => ?_)
  have J0 : ∀ kq : Nat, kq = gk_sec ar up low mud (iv M Y 16) (iv M Y 1) → kq < 4 → u_S p l e (u_rm 1 22) s m args below meth c 6 D A H0 0 0 Q 82 [(0, .ref (gP G Y)), (1, .int ar), (2, .int up), (3, .int low), (4, .int mud)] [.int (nI kq), .ref (gP G Y)] G M := by
    intro kq hkq hk4
    refine u_calliV1 C ev_X11_holds dX11_section_82 ml_RX11_116 (mdl_is hY) rfl (by decide) (c_X11_holds l D G _ _ _ hY ) (by decide) (Nat.le_of_ble_eq_true rfl) (fun r_82 M_82 q_82 => ?_)
    obtain ⟨rfl, e_82⟩ := q_82
    subst M_82
    refine u_if_ne (tgt := 90) C dX11_section_85 (by decide) (fun c_85 => ?_) (fun c_85 => ?_)
    · obtain rfl : kq = 0 := by rcases Nat.eq_zero_or_pos kq with q | q; exact q; exact absurd (if_neg (nI_ne0 q (by omega))) c_85
      rw [show nI 0 = (0 : Int32) from rfl]
      have hlt : cN (iv M Y 16) < 8 := by rcases Nat.lt_or_ge (cN (iv M Y 16)) 8 with q | q; exact q; exact absurd hkq.symm (by have e6 : iv M Y 16 = 8 := (by rw [o16a, show cN (iv M Y 16) = 8 by omega]; rfl); rw [gk_sec, e6]; first | (simp; done) | (simp; (repeat' split) <;> simp))
      refine u_aload_n C dX11_section_90 rfl ?_
      refine u_getR (k2 := (Y + 17)) C gX11_section_91 rfl (mdl_is hY) (mdl_f17 hY) ?_
      refine u_aload_n C dX11_section_94 rfl ?_
      refine u_getIv (x := nI (cN (iv M Y 16))) C gX11_section_95 rfl (mdl_is hY) (by first | exact o16a | (simp [iv_wi]; exact o16a)) ?_
      refine u_iload_n C dX11_section_98 rfl ?_
      refine u_iastN (i := cN (iv M Y 16)) C dX11_section_99 (a8_is (mdl_p17 hY)) (a8_n (mdl_p17 hY)) (by omega) (by decide) ?_
      refine u_aload_n C dX11_section_100 rfl ?_
      refine u_getR (k2 := (Y + 22)) C gX11_section_101 rfl (mdl_is hY) (mdl_f22 hY) ?_
      refine u_aload_n C dX11_section_104 rfl ?_
      refine u_getIv (x := nI (cN (iv M Y 16))) C gX11_section_105 rfl (mdl_is hY) (by first | exact o16a | (simp [iv_wi]; exact o16a)) ?_
      refine u_iload_n C dX11_section_108 rfl ?_
      refine u_iastN (i := cN (iv M Y 16)) C dX11_section_109 (a16_is (mdl_p22 hY)) (a16_n (mdl_p22 hY)) (by omega) (by decide) ?_
      refine u_aload_n C dX11_section_110 rfl ?_
      refine u_getR (k2 := (Y + 22)) C gX11_section_111 rfl (mdl_is hY) (mdl_f22 hY) ?_
      refine u_bipush (v := (nI 8)) C dX11_section_114 (by decide) ?_
      refine u_aload_n C dX11_section_116 rfl ?_
      refine u_getIv (x := nI (cN (iv M Y 16))) C gX11_section_117 rfl (mdl_is hY) (by first | exact o16a | (simp [iv_wi]; exact o16a)) ?_
      refine u_iadd C dX11_section_120 ?_
      rw [nI_add (8) (cN (iv M Y 16))]
      refine u_iload_n C dX11_section_121 rfl ?_
      refine u_iastN (i := 8 + (cN (iv M Y 16))) C dX11_section_122 (a16_is (mdl_p22 hY)) (a16_n (mdl_p22 hY)) (by omega) (by decide) ?_
      refine u_aload_n C dX11_section_123 rfl ?_
      refine u_getR (k2 := (Y + 18)) C gX11_section_124 rfl (mdl_is hY) (mdl_f18 hY) ?_
      refine u_aload_n C dX11_section_127 rfl ?_
      refine u_getIv (x := nI (cN (iv M Y 16))) C gX11_section_128 rfl (mdl_is hY) (by first | exact o16a | (simp [iv_wi]; exact o16a)) ?_
      refine u_iload C dX11_section_131 rfl ?_
      refine u_iastN (i := cN (iv M Y 16)) C dX11_section_133 (a8_is (mdl_p18 hY)) (a8_n (mdl_p18 hY)) (by omega) (by decide) ?_
      refine u_aload_n C dX11_section_134 rfl ?_
      refine u_dup C dX11_section_135 rfl ?_
      refine u_getI C gX11_section_136 rfl (mdl_is hY) ?_
      refine u_iconst (v := 1) C dX11_section_139 (by decide) ?_
      refine u_iadd C dX11_section_140 ?_
      refine u_putI C pX11_section_141 rfl (mdl_is hY) ?_
      refine u_aload_n C dX11_section_144 rfl ?_
      refine u_getI C gX11_section_145 rfl (mdl_is hY) ?_
      refine u_iconst (v := 1) C dX11_section_148 (by decide) ?_
      refine u_isub C dX11_section_149 ?_
      exact ret _ _ _ _ dX11_section_150  (by first | exact ⟨fun _ => by rw [← hkq], fun q => absurd (hkq.trans q) hk0⟩ | exact ⟨fun q => absurd hkq.symm q, fun _ => ⟨rfl, rfl⟩⟩)
    · have hk0 : ¬ kq = 0 := fun q => by rw [q, if_pos (show nI 0 = 0 from rfl)] at c_85; exact absurd c_85 (by decide)
      refine u_iconst (v := 0) C dX11_section_88 (by decide) ?_
      exact ret _ _ _ _ dX11_section_89  (by first | exact ⟨fun _ => by rw [← hkq], fun q => absurd (hkq.trans q) hk0⟩ | exact ⟨fun q => absurd hkq.symm q, fun _ => ⟨rfl, rfl⟩⟩)
  refine u_iload_n C dX11_section_0 rfl ?_
  refine u_iconst (v := 1) C dX11_section_1 (by decide) ?_
  refine u_bipush (v := 100) C dX11_section_2 (by decide) ?_
  refine u_calliS3 C es_X11_isIn dX11_section_4 ml_RX11_109 (c_X11_isIn l D G _ _ _ _  ) (by decide) (Nat.le_of_ble_eq_true rfl) (fun r_4 M_4 q_4 => ?_)
  obtain ⟨rfl, e_4⟩ := q_4
  subst M_4
  refine u_if_eq (tgt := 48) C dX11_section_7 (by decide) (fun c_7 => ?_) (fun c_7 => ?_)
  · refine u_iconst (v := 0) C dX11_section_48 (by decide) ?_
    refine u_istore C dX11_section_49 (by decide) ?_
    refine u_aload_n C dX11_section_51 rfl ?_
    refine u_iload C dX11_section_52 rfl ?_
    refine u_if_ne (tgt := 61) C dX11_section_54 (by decide) (fun c_54 => ?_) (fun c_54 => ?_)
    · exact absurd c_54 (by decide)
    · refine u_iconst (v := 1) C dX11_section_57 (by decide) ?_
      refine u_goto (tgt := 82) C dX11_section_58 (by decide) ?_
      exact u_loc [0, 1, 2, 3, 4] rfl (J0 1 (by (try simp only [u_le, Decidable.not_not] at c_7 c_54); simp [-Int32.not_lt, -Int32.not_le, gk_sec, u_le, c_7, c_54]) (by decide))
  · refine u_iload_n C dX11_section_10 rfl ?_
    refine u_iconst (v := 0) C dX11_section_11 (by decide) ?_
    refine u_sipush (v := 10000) C dX11_section_12 (by decide) ?_
    refine u_calliS3 C es_X11_isIn dX11_section_15 ml_RX11_109 (c_X11_isIn l D G _ _ _ _  ) (by decide) (Nat.le_of_ble_eq_true rfl) (fun r_15 M_15 q_15 => ?_)
    obtain ⟨rfl, e_15⟩ := q_15
    subst M_15
    refine u_if_eq (tgt := 48) C dX11_section_18 (by decide) (fun c_18 => ?_) (fun c_18 => ?_)
    · refine u_iconst (v := 0) C dX11_section_48 (by decide) ?_
      refine u_istore C dX11_section_49 (by decide) ?_
      refine u_aload_n C dX11_section_51 rfl ?_
      refine u_iload C dX11_section_52 rfl ?_
      refine u_if_ne (tgt := 61) C dX11_section_54 (by decide) (fun c_54 => ?_) (fun c_54 => ?_)
      · exact absurd c_54 (by decide)
      · refine u_iconst (v := 1) C dX11_section_57 (by decide) ?_
        refine u_goto (tgt := 82) C dX11_section_58 (by decide) ?_
        exact u_loc [0, 1, 2, 3, 4] rfl (J0 1 (by (try simp only [u_le, Decidable.not_not] at c_7 c_18 c_54); simp [-Int32.not_lt, -Int32.not_le, gk_sec, u_le, c_7, c_18, c_54]) (by decide))
    · refine u_iload_n C dX11_section_21 rfl ?_
      refine u_iconst (v := 0) C dX11_section_22 (by decide) ?_
      refine u_sipush (v := 10000) C dX11_section_23 (by decide) ?_
      refine u_calliS3 C es_X11_isIn dX11_section_26 ml_RX11_109 (c_X11_isIn l D G _ _ _ _  ) (by decide) (Nat.le_of_ble_eq_true rfl) (fun r_26 M_26 q_26 => ?_)
      obtain ⟨rfl, e_26⟩ := q_26
      subst M_26
      refine u_if_eq (tgt := 48) C dX11_section_29 (by decide) (fun c_29 => ?_) (fun c_29 => ?_)
      · refine u_iconst (v := 0) C dX11_section_48 (by decide) ?_
        refine u_istore C dX11_section_49 (by decide) ?_
        refine u_aload_n C dX11_section_51 rfl ?_
        refine u_iload C dX11_section_52 rfl ?_
        refine u_if_ne (tgt := 61) C dX11_section_54 (by decide) (fun c_54 => ?_) (fun c_54 => ?_)
        · exact absurd c_54 (by decide)
        · refine u_iconst (v := 1) C dX11_section_57 (by decide) ?_
          refine u_goto (tgt := 82) C dX11_section_58 (by decide) ?_
          exact u_loc [0, 1, 2, 3, 4] rfl (J0 1 (by (try simp only [u_le, Decidable.not_not] at c_7 c_18 c_29 c_54); simp [-Int32.not_lt, -Int32.not_le, gk_sec, u_le, c_7, c_18, c_29, c_54]) (by decide))
      · refine u_iload C dX11_section_32 rfl ?_
        refine u_iconst (v := 0) C dX11_section_34 (by decide) ?_
        refine u_sipush (v := 10000) C dX11_section_35 (by decide) ?_
        refine u_calliS3 C es_X11_isIn dX11_section_38 ml_RX11_109 (c_X11_isIn l D G _ _ _ _  ) (by decide) (Nat.le_of_ble_eq_true rfl) (fun r_38 M_38 q_38 => ?_)
        obtain ⟨rfl, e_38⟩ := q_38
        subst M_38
        refine u_if_eq (tgt := 48) C dX11_section_41 (by decide) (fun c_41 => ?_) (fun c_41 => ?_)
        · refine u_iconst (v := 0) C dX11_section_48 (by decide) ?_
          refine u_istore C dX11_section_49 (by decide) ?_
          refine u_aload_n C dX11_section_51 rfl ?_
          refine u_iload C dX11_section_52 rfl ?_
          refine u_if_ne (tgt := 61) C dX11_section_54 (by decide) (fun c_54 => ?_) (fun c_54 => ?_)
          · exact absurd c_54 (by decide)
          · refine u_iconst (v := 1) C dX11_section_57 (by decide) ?_
            refine u_goto (tgt := 82) C dX11_section_58 (by decide) ?_
            exact u_loc [0, 1, 2, 3, 4] rfl (J0 1 (by (try simp only [u_le, Decidable.not_not] at c_7 c_18 c_29 c_41 c_54); simp [-Int32.not_lt, -Int32.not_le, gk_sec, u_le, c_7, c_18, c_29, c_41, c_54]) (by decide))
        · refine u_iconst (v := 1) C dX11_section_44 (by decide) ?_
          refine u_goto (tgt := 49) C dX11_section_45 (by decide) ?_
          refine u_istore C dX11_section_49 (by decide) ?_
          refine u_aload_n C dX11_section_51 rfl ?_
          refine u_iload C dX11_section_52 rfl ?_
          refine u_if_ne (tgt := 61) C dX11_section_54 (by decide) (fun c_54 => ?_) (fun c_54 => ?_)
          · refine u_aload_n C dX11_section_61 rfl ?_
            refine u_getI C gX11_section_62 rfl (mdl_is hY) ?_
            refine u_bipush (v := 8) C dX11_section_65 (by decide) ?_
            refine u_icmp_eq (tgt := 77) C dX11_section_67 (by decide) (fun c_67 => ?_) (fun c_67 => ?_)
            · refine u_iconst (v := 2) C dX11_section_77 (by decide) ?_
              refine u_goto (tgt := 82) C dX11_section_78 (by decide) ?_
              exact u_loc [0, 1, 2, 3, 4] rfl (J0 2 (by (try simp only [u_le, Decidable.not_not] at c_7 c_18 c_29 c_41 c_54 c_67); simp [-Int32.not_lt, -Int32.not_le, gk_sec, u_le, c_7, c_18, c_29, c_41, c_54, c_67]) (by decide))
            · refine u_aload_n C dX11_section_70 rfl ?_
              refine u_getI C gX11_section_71 rfl (mdl_is hY) ?_
              refine u_if_le (tgt := 81) C dX11_section_74 (by decide) (fun c_74 => ?_) (fun c_74 => ?_)
              · refine u_iconst (v := 0) C dX11_section_81 (by decide) ?_
                exact u_loc [0, 1, 2, 3, 4] rfl (J0 0 (by (try simp only [u_le, Decidable.not_not] at c_7 c_18 c_29 c_41 c_54 c_67 c_74); simp [-Int32.not_lt, -Int32.not_le, gk_sec, u_le, c_7, c_18, c_29, c_41, c_54, c_67, c_74]) (by decide))
              · refine u_iconst (v := 2) C dX11_section_77 (by decide) ?_
                refine u_goto (tgt := 82) C dX11_section_78 (by decide) ?_
                exact u_loc [0, 1, 2, 3, 4] rfl (J0 2 (by (try simp only [u_le, Decidable.not_not] at c_7 c_18 c_29 c_41 c_54 c_67 c_74); simp [-Int32.not_lt, -Int32.not_le, gk_sec, u_le, c_7, c_18, c_29, c_41, c_54, c_67, c_74]) (by decide))
          · exact absurd c_54 (by decide)
set_option maxHeartbeats 1000000 in
set_option maxRecDepth 100000 in
theorem c_X11_intake (l : Launch) (D : va_G) (G : w_G) (M : w_M) (Y : Nat) (v : Int32) (a : Int32) (b : Int32) (c1 : Int32) (d1 : Int32) (hY : L_mdl G (Y)) (ok : okM M Y) : u_Mi l D G yX11_intake cX11_intake 7 (some .int) 2 43 [.ref (gP G Y), .int v, .int a, .int b, .int c1, .int d1] M (fun r M' => (¬ gk_int (g_has M Y v) a b c1 d1 (iv M Y 25) = 0 → M' = wi M Y 0 (nI (gk_int (g_has M Y v) a b c1 d1 (iv M Y 25)))) ∧ (gk_int (g_has M Y v) a b c1 d1 (iv M Y 25) = 0 → r = iv (gE_int (wi M Y 0 0) Y (cN (iv M Y 25)) v a b c1 d1) Y 25 - 1 ∧ M' = gE_int (wi M Y 0 0) Y (cN (iv M Y 25)) v a b c1 d1)) := by
  obtain ⟨okS9, o16, o25, o36, o12, o11, oA, oI, oO⟩ := id ok
  obtain ⟨o1, o3, o5, oT⟩ := id okS9
  obtain ⟨o1a, o1b⟩ := cB_le o1 (by decide)
  obtain ⟨o3a, o3b⟩ := cB_le o3 (by decide)
  obtain ⟨o5a, o5b⟩ := cB_le o5 (by decide)
  obtain ⟨o11a, o11b⟩ := cB_le o11 (by decide)
  obtain ⟨o12a, o12b⟩ := cB_le o12 (by decide)
  obtain ⟨o16a, o16b⟩ := cB_le o16 (by decide)
  obtain ⟨o25a, o25b⟩ := cB_le o25 (by decide)
  obtain ⟨o36a, o36b⟩ := cB_le o36 (by decide)
  refine u_bodyi (by decide +kernel) (Nat.le_of_ble_eq_true rfl) rfl (fun p e s m args below meth c A H0 Q C ret => ?_)
  have J0 : ∀ kq : Nat, kq = gk_int (g_has M Y v) a b c1 d1 (iv M Y 25) → kq < 4 → u_S p l e (u_rm 2 43) s m args below meth c 7 D A H0 0 0 Q 88 [(0, .ref (gP G Y)), (1, .int v), (2, .int a), (3, .int b), (4, .int c1), (5, .int d1)] [.int (nI kq), .ref (gP G Y)] G M := by
    intro kq hkq hk4
    refine u_calliV1 C ev_X11_holds dX11_intake_88 ml_RX11_116 (mdl_is hY) rfl (by decide) (c_X11_holds l D G _ _ _ hY ) (by decide) (Nat.le_of_ble_eq_true rfl) (fun r_88 M_88 q_88 => ?_)
    obtain ⟨rfl, e_88⟩ := q_88
    subst M_88
    refine u_if_ne (tgt := 96) C dX11_intake_91 (by decide) (fun c_91 => ?_) (fun c_91 => ?_)
    · obtain rfl : kq = 0 := by rcases Nat.eq_zero_or_pos kq with q | q; exact q; exact absurd (if_neg (nI_ne0 q (by omega))) c_91
      rw [show nI 0 = (0 : Int32) from rfl]
      have hlt : cN (iv M Y 25) < 6 := by rcases Nat.lt_or_ge (cN (iv M Y 25)) 6 with q | q; exact q; exact absurd hkq.symm (by have e6 : iv M Y 25 = 6 := (by rw [o25a, show cN (iv M Y 25) = 6 by omega]; rfl); rw [gk_int, e6]; first | (simp; done) | (simp; (repeat' split) <;> simp))
      refine u_aload_n C dX11_intake_96 rfl ?_
      refine u_getR (k2 := (Y + 26)) C gX11_intake_97 rfl (mdl_is hY) (mdl_f26 hY) ?_
      refine u_aload_n C dX11_intake_100 rfl ?_
      refine u_getIv (x := nI (cN (iv M Y 25))) C gX11_intake_101 rfl (mdl_is hY) (by first | exact o25a | (simp [iv_wi]; exact o25a)) ?_
      refine u_iload_n C dX11_intake_104 rfl ?_
      refine u_iastN (i := cN (iv M Y 25)) C dX11_intake_105 (a6_is (mdl_p26 hY)) (a6_n (mdl_p26 hY)) (by omega) (by decide) ?_
      refine u_aload_n C dX11_intake_106 rfl ?_
      refine u_getR (k2 := (Y + 27)) C gX11_intake_107 rfl (mdl_is hY) (mdl_f27 hY) ?_
      refine u_aload_n C dX11_intake_110 rfl ?_
      refine u_getIv (x := nI (cN (iv M Y 25))) C gX11_intake_111 rfl (mdl_is hY) (by first | exact o25a | (simp [iv_wi]; exact o25a)) ?_
      refine u_iload_n C dX11_intake_114 rfl ?_
      refine u_iastN (i := cN (iv M Y 25)) C dX11_intake_115 (a6_is (mdl_p27 hY)) (a6_n (mdl_p27 hY)) (by omega) (by decide) ?_
      refine u_aload_n C dX11_intake_116 rfl ?_
      refine u_getR (k2 := (Y + 28)) C gX11_intake_117 rfl (mdl_is hY) (mdl_f28 hY) ?_
      refine u_aload_n C dX11_intake_120 rfl ?_
      refine u_getIv (x := nI (cN (iv M Y 25))) C gX11_intake_121 rfl (mdl_is hY) (by first | exact o25a | (simp [iv_wi]; exact o25a)) ?_
      refine u_iload_n C dX11_intake_124 rfl ?_
      refine u_iastN (i := cN (iv M Y 25)) C dX11_intake_125 (a6_is (mdl_p28 hY)) (a6_n (mdl_p28 hY)) (by omega) (by decide) ?_
      refine u_aload_n C dX11_intake_126 rfl ?_
      refine u_getR (k2 := (Y + 29)) C gX11_intake_127 rfl (mdl_is hY) (mdl_f29 hY) ?_
      refine u_aload_n C dX11_intake_130 rfl ?_
      refine u_getIv (x := nI (cN (iv M Y 25))) C gX11_intake_131 rfl (mdl_is hY) (by first | exact o25a | (simp [iv_wi]; exact o25a)) ?_
      refine u_iload C dX11_intake_134 rfl ?_
      refine u_iastN (i := cN (iv M Y 25)) C dX11_intake_136 (a6_is (mdl_p29 hY)) (a6_n (mdl_p29 hY)) (by omega) (by decide) ?_
      refine u_aload_n C dX11_intake_137 rfl ?_
      refine u_getR (k2 := (Y + 30)) C gX11_intake_138 rfl (mdl_is hY) (mdl_f30 hY) ?_
      refine u_aload_n C dX11_intake_141 rfl ?_
      refine u_getIv (x := nI (cN (iv M Y 25))) C gX11_intake_142 rfl (mdl_is hY) (by first | exact o25a | (simp [iv_wi]; exact o25a)) ?_
      refine u_iload C dX11_intake_145 rfl ?_
      refine u_iastN (i := cN (iv M Y 25)) C dX11_intake_147 (a6_is (mdl_p30 hY)) (a6_n (mdl_p30 hY)) (by omega) (by decide) ?_
      refine u_aload_n C dX11_intake_148 rfl ?_
      refine u_dup C dX11_intake_149 rfl ?_
      refine u_getI C gX11_intake_150 rfl (mdl_is hY) ?_
      refine u_iconst (v := 1) C dX11_intake_153 (by decide) ?_
      refine u_iadd C dX11_intake_154 ?_
      refine u_putI C pX11_intake_155 rfl (mdl_is hY) ?_
      refine u_aload_n C dX11_intake_158 rfl ?_
      refine u_getI C gX11_intake_159 rfl (mdl_is hY) ?_
      refine u_iconst (v := 1) C dX11_intake_162 (by decide) ?_
      refine u_isub C dX11_intake_163 ?_
      exact ret _ _ _ _ dX11_intake_164  (by first | exact ⟨fun _ => by rw [← hkq], fun q => absurd (hkq.trans q) hk0⟩ | exact ⟨fun q => absurd hkq.symm q, fun _ => ⟨rfl, rfl⟩⟩)
    · have hk0 : ¬ kq = 0 := fun q => by rw [q, if_pos (show nI 0 = 0 from rfl)] at c_91; exact absurd c_91 (by decide)
      refine u_iconst (v := 0) C dX11_intake_94 (by decide) ?_
      exact ret _ _ _ _ dX11_intake_95  (by first | exact ⟨fun _ => by rw [← hkq], fun q => absurd (hkq.trans q) hk0⟩ | exact ⟨fun q => absurd hkq.symm q, fun _ => ⟨rfl, rfl⟩⟩)
  refine u_iload_n C dX11_intake_0 rfl ?_
  refine u_iconst (v := 1) C dX11_intake_1 (by decide) ?_
  refine u_sipush (v := 500) C dX11_intake_2 (by decide) ?_
  refine u_calliS3 C es_X11_isIn dX11_intake_5 ml_RX11_109 (c_X11_isIn l D G _ _ _ _  ) (by decide) (Nat.le_of_ble_eq_true rfl) (fun r_5 M_5 q_5 => ?_)
  obtain ⟨rfl, e_5⟩ := q_5
  subst M_5
  refine u_if_eq (tgt := 49) C dX11_intake_8 (by decide) (fun c_8 => ?_) (fun c_8 => ?_)
  · refine u_iconst (v := 0) C dX11_intake_49 (by decide) ?_
    refine u_istore C dX11_intake_50 (by decide) ?_
    refine u_aload_n C dX11_intake_52 rfl ?_
    refine u_aload_n C dX11_intake_53 rfl ?_
    refine u_iload_n C dX11_intake_54 rfl ?_
    refine u_calliV1 C ev_X11_isSection dX11_intake_55 ml_RX11_139 (mdl_is hY) rfl (by decide) (c_X11_isSection l D G _ _ _ hY ) (by decide) (Nat.le_of_ble_eq_true rfl) (fun r_55 M_55 q_55 => ?_)
    obtain ⟨rfl, e_55⟩ := q_55
    subst M_55
    refine u_if_ne (tgt := 65) C dX11_intake_58 (by decide) (fun c_58 => ?_) (fun c_58 => ?_)
    · refine u_iload C dX11_intake_65 rfl ?_
      refine u_if_ne (tgt := 74) C dX11_intake_67 (by decide) (fun c_67 => ?_) (fun c_67 => ?_)
      · exact absurd c_67 (by decide)
      · refine u_iconst (v := 2) C dX11_intake_70 (by decide) ?_
        refine u_goto (tgt := 88) C dX11_intake_71 (by decide) ?_
        exact u_loc [0, 1, 2, 3, 4, 5] rfl (J0 2 (by (try simp only [u_le, Decidable.not_not] at c_8 c_58 c_67); simp [-Int32.not_lt, -Int32.not_le, gk_int, u_le, g_has, c_8, c_58, c_67]) (by decide))
    · refine u_iconst (v := 1) C dX11_intake_61 (by decide) ?_
      refine u_goto (tgt := 88) C dX11_intake_62 (by decide) ?_
      exact u_loc [0, 1, 2, 3, 4, 5] rfl (J0 1 (by (try simp only [u_le, Decidable.not_not] at c_8 c_58); simp [-Int32.not_lt, -Int32.not_le, gk_int, u_le, g_has, c_8, c_58]) (by decide))
  · refine u_iload_n C dX11_intake_11 rfl ?_
    refine u_iconst (v := 0) C dX11_intake_12 (by decide) ?_
    refine u_bipush (v := 30) C dX11_intake_13 (by decide) ?_
    refine u_calliS3 C es_X11_isIn dX11_intake_15 ml_RX11_109 (c_X11_isIn l D G _ _ _ _  ) (by decide) (Nat.le_of_ble_eq_true rfl) (fun r_15 M_15 q_15 => ?_)
    obtain ⟨rfl, e_15⟩ := q_15
    subst M_15
    refine u_if_eq (tgt := 49) C dX11_intake_18 (by decide) (fun c_18 => ?_) (fun c_18 => ?_)
    · refine u_iconst (v := 0) C dX11_intake_49 (by decide) ?_
      refine u_istore C dX11_intake_50 (by decide) ?_
      refine u_aload_n C dX11_intake_52 rfl ?_
      refine u_aload_n C dX11_intake_53 rfl ?_
      refine u_iload_n C dX11_intake_54 rfl ?_
      refine u_calliV1 C ev_X11_isSection dX11_intake_55 ml_RX11_139 (mdl_is hY) rfl (by decide) (c_X11_isSection l D G _ _ _ hY ) (by decide) (Nat.le_of_ble_eq_true rfl) (fun r_55 M_55 q_55 => ?_)
      obtain ⟨rfl, e_55⟩ := q_55
      subst M_55
      refine u_if_ne (tgt := 65) C dX11_intake_58 (by decide) (fun c_58 => ?_) (fun c_58 => ?_)
      · refine u_iload C dX11_intake_65 rfl ?_
        refine u_if_ne (tgt := 74) C dX11_intake_67 (by decide) (fun c_67 => ?_) (fun c_67 => ?_)
        · exact absurd c_67 (by decide)
        · refine u_iconst (v := 2) C dX11_intake_70 (by decide) ?_
          refine u_goto (tgt := 88) C dX11_intake_71 (by decide) ?_
          exact u_loc [0, 1, 2, 3, 4, 5] rfl (J0 2 (by (try simp only [u_le, Decidable.not_not] at c_8 c_18 c_58 c_67); simp [-Int32.not_lt, -Int32.not_le, gk_int, u_le, g_has, c_8, c_18, c_58, c_67]) (by decide))
      · refine u_iconst (v := 1) C dX11_intake_61 (by decide) ?_
        refine u_goto (tgt := 88) C dX11_intake_62 (by decide) ?_
        exact u_loc [0, 1, 2, 3, 4, 5] rfl (J0 1 (by (try simp only [u_le, Decidable.not_not] at c_8 c_18 c_58); simp [-Int32.not_lt, -Int32.not_le, gk_int, u_le, g_has, c_8, c_18, c_58]) (by decide))
    · refine u_iload C dX11_intake_21 rfl ?_
      refine u_iconst (v := 1) C dX11_intake_23 (by decide) ?_
      refine u_sipush (v := 10000) C dX11_intake_24 (by decide) ?_
      refine u_calliS3 C es_X11_isIn dX11_intake_27 ml_RX11_109 (c_X11_isIn l D G _ _ _ _  ) (by decide) (Nat.le_of_ble_eq_true rfl) (fun r_27 M_27 q_27 => ?_)
      obtain ⟨rfl, e_27⟩ := q_27
      subst M_27
      refine u_if_eq (tgt := 49) C dX11_intake_30 (by decide) (fun c_30 => ?_) (fun c_30 => ?_)
      · refine u_iconst (v := 0) C dX11_intake_49 (by decide) ?_
        refine u_istore C dX11_intake_50 (by decide) ?_
        refine u_aload_n C dX11_intake_52 rfl ?_
        refine u_aload_n C dX11_intake_53 rfl ?_
        refine u_iload_n C dX11_intake_54 rfl ?_
        refine u_calliV1 C ev_X11_isSection dX11_intake_55 ml_RX11_139 (mdl_is hY) rfl (by decide) (c_X11_isSection l D G _ _ _ hY ) (by decide) (Nat.le_of_ble_eq_true rfl) (fun r_55 M_55 q_55 => ?_)
        obtain ⟨rfl, e_55⟩ := q_55
        subst M_55
        refine u_if_ne (tgt := 65) C dX11_intake_58 (by decide) (fun c_58 => ?_) (fun c_58 => ?_)
        · refine u_iload C dX11_intake_65 rfl ?_
          refine u_if_ne (tgt := 74) C dX11_intake_67 (by decide) (fun c_67 => ?_) (fun c_67 => ?_)
          · exact absurd c_67 (by decide)
          · refine u_iconst (v := 2) C dX11_intake_70 (by decide) ?_
            refine u_goto (tgt := 88) C dX11_intake_71 (by decide) ?_
            exact u_loc [0, 1, 2, 3, 4, 5] rfl (J0 2 (by (try simp only [u_le, Decidable.not_not] at c_8 c_18 c_30 c_58 c_67); simp [-Int32.not_lt, -Int32.not_le, gk_int, u_le, g_has, c_8, c_18, c_30, c_58, c_67]) (by decide))
        · refine u_iconst (v := 1) C dX11_intake_61 (by decide) ?_
          refine u_goto (tgt := 88) C dX11_intake_62 (by decide) ?_
          exact u_loc [0, 1, 2, 3, 4, 5] rfl (J0 1 (by (try simp only [u_le, Decidable.not_not] at c_8 c_18 c_30 c_58); simp [-Int32.not_lt, -Int32.not_le, gk_int, u_le, g_has, c_8, c_18, c_30, c_58]) (by decide))
      · refine u_iload C dX11_intake_33 rfl ?_
        refine u_iconst (v := 0) C dX11_intake_35 (by decide) ?_
        refine u_sipush (v := 500) C dX11_intake_36 (by decide) ?_
        refine u_calliS3 C es_X11_isIn dX11_intake_39 ml_RX11_109 (c_X11_isIn l D G _ _ _ _  ) (by decide) (Nat.le_of_ble_eq_true rfl) (fun r_39 M_39 q_39 => ?_)
        obtain ⟨rfl, e_39⟩ := q_39
        subst M_39
        refine u_if_eq (tgt := 49) C dX11_intake_42 (by decide) (fun c_42 => ?_) (fun c_42 => ?_)
        · refine u_iconst (v := 0) C dX11_intake_49 (by decide) ?_
          refine u_istore C dX11_intake_50 (by decide) ?_
          refine u_aload_n C dX11_intake_52 rfl ?_
          refine u_aload_n C dX11_intake_53 rfl ?_
          refine u_iload_n C dX11_intake_54 rfl ?_
          refine u_calliV1 C ev_X11_isSection dX11_intake_55 ml_RX11_139 (mdl_is hY) rfl (by decide) (c_X11_isSection l D G _ _ _ hY ) (by decide) (Nat.le_of_ble_eq_true rfl) (fun r_55 M_55 q_55 => ?_)
          obtain ⟨rfl, e_55⟩ := q_55
          subst M_55
          refine u_if_ne (tgt := 65) C dX11_intake_58 (by decide) (fun c_58 => ?_) (fun c_58 => ?_)
          · refine u_iload C dX11_intake_65 rfl ?_
            refine u_if_ne (tgt := 74) C dX11_intake_67 (by decide) (fun c_67 => ?_) (fun c_67 => ?_)
            · exact absurd c_67 (by decide)
            · refine u_iconst (v := 2) C dX11_intake_70 (by decide) ?_
              refine u_goto (tgt := 88) C dX11_intake_71 (by decide) ?_
              exact u_loc [0, 1, 2, 3, 4, 5] rfl (J0 2 (by (try simp only [u_le, Decidable.not_not] at c_8 c_18 c_30 c_42 c_58 c_67); simp [-Int32.not_lt, -Int32.not_le, gk_int, u_le, g_has, c_8, c_18, c_30, c_42, c_58, c_67]) (by decide))
          · refine u_iconst (v := 1) C dX11_intake_61 (by decide) ?_
            refine u_goto (tgt := 88) C dX11_intake_62 (by decide) ?_
            exact u_loc [0, 1, 2, 3, 4, 5] rfl (J0 1 (by (try simp only [u_le, Decidable.not_not] at c_8 c_18 c_30 c_42 c_58); simp [-Int32.not_lt, -Int32.not_le, gk_int, u_le, g_has, c_8, c_18, c_30, c_42, c_58]) (by decide))
        · refine u_iconst (v := 1) C dX11_intake_45 (by decide) ?_
          refine u_goto (tgt := 50) C dX11_intake_46 (by decide) ?_
          refine u_istore C dX11_intake_50 (by decide) ?_
          refine u_aload_n C dX11_intake_52 rfl ?_
          refine u_aload_n C dX11_intake_53 rfl ?_
          refine u_iload_n C dX11_intake_54 rfl ?_
          refine u_calliV1 C ev_X11_isSection dX11_intake_55 ml_RX11_139 (mdl_is hY) rfl (by decide) (c_X11_isSection l D G _ _ _ hY ) (by decide) (Nat.le_of_ble_eq_true rfl) (fun r_55 M_55 q_55 => ?_)
          obtain ⟨rfl, e_55⟩ := q_55
          subst M_55
          refine u_if_ne (tgt := 65) C dX11_intake_58 (by decide) (fun c_58 => ?_) (fun c_58 => ?_)
          · refine u_iload C dX11_intake_65 rfl ?_
            refine u_if_ne (tgt := 74) C dX11_intake_67 (by decide) (fun c_67 => ?_) (fun c_67 => ?_)
            · refine u_aload_n C dX11_intake_74 rfl ?_
              refine u_getI C gX11_intake_75 rfl (mdl_is hY) ?_
              refine u_bipush (v := 6) C dX11_intake_78 (by decide) ?_
              refine u_icmp_ne (tgt := 87) C dX11_intake_80 (by decide) (fun c_80 => ?_) (fun c_80 => ?_)
              · refine u_iconst (v := 0) C dX11_intake_87 (by decide) ?_
                exact u_loc [0, 1, 2, 3, 4, 5] rfl (J0 0 (by (try simp only [u_le, Decidable.not_not] at c_8 c_18 c_30 c_42 c_58 c_67 c_80); simp [-Int32.not_lt, -Int32.not_le, gk_int, u_le, g_has, c_8, c_18, c_30, c_42, c_58, c_67, c_80]) (by decide))
              · refine u_iconst (v := 3) C dX11_intake_83 (by decide) ?_
                refine u_goto (tgt := 88) C dX11_intake_84 (by decide) ?_
                exact u_loc [0, 1, 2, 3, 4, 5] rfl (J0 3 (by (try simp only [u_le, Decidable.not_not] at c_8 c_18 c_30 c_42 c_58 c_67 c_80); simp [-Int32.not_lt, -Int32.not_le, gk_int, u_le, g_has, c_8, c_18, c_30, c_42, c_58, c_67, c_80]) (by decide))
            · exact absurd c_67 (by decide)
          · refine u_iconst (v := 1) C dX11_intake_61 (by decide) ?_
            refine u_goto (tgt := 88) C dX11_intake_62 (by decide) ?_
            exact u_loc [0, 1, 2, 3, 4, 5] rfl (J0 1 (by (try simp only [u_le, Decidable.not_not] at c_8 c_18 c_30 c_42 c_58); simp [-Int32.not_lt, -Int32.not_le, gk_int, u_le, g_has, c_8, c_18, c_30, c_42, c_58]) (by decide))
set_option maxHeartbeats 1000000 in
set_option maxRecDepth 100000 in
theorem c_X11_oysters (l : Launch) (D : va_G) (G : w_G) (M : w_M) (Y : Nat) (v : Int32) (g9 : Int32) (h : Int32) (hY : L_mdl G (Y)) (ok : okM M Y) : u_Mi l D G yX11_oysters cX11_oysters 5 (some .int) 2 43 [.ref (gP G Y), .int v, .int g9, .int h] M (fun r M' => (¬ gk_oys (g_has M Y v) g9 h (iv M Y 36) = 0 → M' = wi M Y 0 (nI (gk_oys (g_has M Y v) g9 h (iv M Y 36)))) ∧ (gk_oys (g_has M Y v) g9 h (iv M Y 36) = 0 → r = iv (gE_oys (wi M Y 0 0) Y (cN (iv M Y 36)) v g9 h) Y 36 - 1 ∧ M' = gE_oys (wi M Y 0 0) Y (cN (iv M Y 36)) v g9 h)) := by
  obtain ⟨okS9, o16, o25, o36, o12, o11, oA, oI, oO⟩ := id ok
  obtain ⟨o1, o3, o5, oT⟩ := id okS9
  obtain ⟨o1a, o1b⟩ := cB_le o1 (by decide)
  obtain ⟨o3a, o3b⟩ := cB_le o3 (by decide)
  obtain ⟨o5a, o5b⟩ := cB_le o5 (by decide)
  obtain ⟨o11a, o11b⟩ := cB_le o11 (by decide)
  obtain ⟨o12a, o12b⟩ := cB_le o12 (by decide)
  obtain ⟨o16a, o16b⟩ := cB_le o16 (by decide)
  obtain ⟨o25a, o25b⟩ := cB_le o25 (by decide)
  obtain ⟨o36a, o36b⟩ := cB_le o36 (by decide)
  refine u_bodyi (by decide +kernel) (Nat.le_of_ble_eq_true rfl) rfl (fun p e s m args below meth c A H0 Q C ret => ?_)
  have J0 : ∀ kq : Nat, kq = gk_oys (g_has M Y v) g9 h (iv M Y 36) → kq < 4 → u_S p l e (u_rm 2 43) s m args below meth c 5 D A H0 0 0 Q 63 [(0, .ref (gP G Y)), (1, .int v), (2, .int g9), (3, .int h)] [.int (nI kq), .ref (gP G Y)] G M := by
    intro kq hkq hk4
    refine u_calliV1 C ev_X11_holds dX11_oysters_63 ml_RX11_116 (mdl_is hY) rfl (by decide) (c_X11_holds l D G _ _ _ hY ) (by decide) (Nat.le_of_ble_eq_true rfl) (fun r_63 M_63 q_63 => ?_)
    obtain ⟨rfl, e_63⟩ := q_63
    subst M_63
    refine u_if_ne (tgt := 71) C dX11_oysters_66 (by decide) (fun c_66 => ?_) (fun c_66 => ?_)
    · obtain rfl : kq = 0 := by rcases Nat.eq_zero_or_pos kq with q | q; exact q; exact absurd (if_neg (nI_ne0 q (by omega))) c_66
      rw [show nI 0 = (0 : Int32) from rfl]
      have hlt : cN (iv M Y 36) < 6 := by rcases Nat.lt_or_ge (cN (iv M Y 36)) 6 with q | q; exact q; exact absurd hkq.symm (by have e6 : iv M Y 36 = 6 := (by rw [o36a, show cN (iv M Y 36) = 6 by omega]; rfl); rw [gk_oys, e6]; first | (simp; done) | (simp; (repeat' split) <;> simp))
      refine u_aload_n C dX11_oysters_71 rfl ?_
      refine u_getR (k2 := (Y + 37)) C gX11_oysters_72 rfl (mdl_is hY) (mdl_f37 hY) ?_
      refine u_aload_n C dX11_oysters_75 rfl ?_
      refine u_getIv (x := nI (cN (iv M Y 36))) C gX11_oysters_76 rfl (mdl_is hY) (by first | exact o36a | (simp [iv_wi]; exact o36a)) ?_
      refine u_iload_n C dX11_oysters_79 rfl ?_
      refine u_iastN (i := cN (iv M Y 36)) C dX11_oysters_80 (a6_is (mdl_p37 hY)) (a6_n (mdl_p37 hY)) (by omega) (by decide) ?_
      refine u_aload_n C dX11_oysters_81 rfl ?_
      refine u_getR (k2 := (Y + 38)) C gX11_oysters_82 rfl (mdl_is hY) (mdl_f38 hY) ?_
      refine u_aload_n C dX11_oysters_85 rfl ?_
      refine u_getIv (x := nI (cN (iv M Y 36))) C gX11_oysters_86 rfl (mdl_is hY) (by first | exact o36a | (simp [iv_wi]; exact o36a)) ?_
      refine u_iload_n C dX11_oysters_89 rfl ?_
      refine u_iastN (i := cN (iv M Y 36)) C dX11_oysters_90 (a6_is (mdl_p38 hY)) (a6_n (mdl_p38 hY)) (by omega) (by decide) ?_
      refine u_aload_n C dX11_oysters_91 rfl ?_
      refine u_getR (k2 := (Y + 39)) C gX11_oysters_92 rfl (mdl_is hY) (mdl_f39 hY) ?_
      refine u_aload_n C dX11_oysters_95 rfl ?_
      refine u_getIv (x := nI (cN (iv M Y 36))) C gX11_oysters_96 rfl (mdl_is hY) (by first | exact o36a | (simp [iv_wi]; exact o36a)) ?_
      refine u_iload_n C dX11_oysters_99 rfl ?_
      refine u_iastN (i := cN (iv M Y 36)) C dX11_oysters_100 (a6_is (mdl_p39 hY)) (a6_n (mdl_p39 hY)) (by omega) (by decide) ?_
      refine u_aload_n C dX11_oysters_101 rfl ?_
      refine u_dup C dX11_oysters_102 rfl ?_
      refine u_getI C gX11_oysters_103 rfl (mdl_is hY) ?_
      refine u_iconst (v := 1) C dX11_oysters_106 (by decide) ?_
      refine u_iadd C dX11_oysters_107 ?_
      refine u_putI C pX11_oysters_108 rfl (mdl_is hY) ?_
      refine u_aload_n C dX11_oysters_111 rfl ?_
      refine u_getI C gX11_oysters_112 rfl (mdl_is hY) ?_
      refine u_iconst (v := 1) C dX11_oysters_115 (by decide) ?_
      refine u_isub C dX11_oysters_116 ?_
      exact ret _ _ _ _ dX11_oysters_117  (by first | exact ⟨fun _ => by rw [← hkq], fun q => absurd (hkq.trans q) hk0⟩ | exact ⟨fun q => absurd hkq.symm q, fun _ => ⟨rfl, rfl⟩⟩)
    · have hk0 : ¬ kq = 0 := fun q => by rw [q, if_pos (show nI 0 = 0 from rfl)] at c_66; exact absurd c_66 (by decide)
      refine u_iconst (v := 0) C dX11_oysters_69 (by decide) ?_
      exact ret _ _ _ _ dX11_oysters_70  (by first | exact ⟨fun _ => by rw [← hkq], fun q => absurd (hkq.trans q) hk0⟩ | exact ⟨fun q => absurd hkq.symm q, fun _ => ⟨rfl, rfl⟩⟩)
  refine u_iload_n C dX11_oysters_0 rfl ?_
  refine u_iconst (v := 0) C dX11_oysters_1 (by decide) ?_
  refine u_bipush (v := 30) C dX11_oysters_2 (by decide) ?_
  refine u_calliS3 C es_X11_isIn dX11_oysters_4 ml_RX11_109 (c_X11_isIn l D G _ _ _ _  ) (by decide) (Nat.le_of_ble_eq_true rfl) (fun r_4 M_4 q_4 => ?_)
  obtain ⟨rfl, e_4⟩ := q_4
  subst M_4
  refine u_if_eq (tgt := 24) C dX11_oysters_7 (by decide) (fun c_7 => ?_) (fun c_7 => ?_)
  · refine u_iconst (v := 0) C dX11_oysters_24 (by decide) ?_
    refine u_istore C dX11_oysters_25 (by decide) ?_
    refine u_aload_n C dX11_oysters_27 rfl ?_
    refine u_aload_n C dX11_oysters_28 rfl ?_
    refine u_iload_n C dX11_oysters_29 rfl ?_
    refine u_calliV1 C ev_X11_isSection dX11_oysters_30 ml_RX11_139 (mdl_is hY) rfl (by decide) (c_X11_isSection l D G _ _ _ hY ) (by decide) (Nat.le_of_ble_eq_true rfl) (fun r_30 M_30 q_30 => ?_)
    obtain ⟨rfl, e_30⟩ := q_30
    subst M_30
    refine u_if_ne (tgt := 40) C dX11_oysters_33 (by decide) (fun c_33 => ?_) (fun c_33 => ?_)
    · refine u_iload C dX11_oysters_40 rfl ?_
      refine u_if_ne (tgt := 49) C dX11_oysters_42 (by decide) (fun c_42 => ?_) (fun c_42 => ?_)
      · exact absurd c_42 (by decide)
      · refine u_iconst (v := 2) C dX11_oysters_45 (by decide) ?_
        refine u_goto (tgt := 63) C dX11_oysters_46 (by decide) ?_
        exact u_loc [0, 1, 2, 3] rfl (J0 2 (by (try simp only [u_le, Decidable.not_not] at c_7 c_33 c_42); simp [-Int32.not_lt, -Int32.not_le, gk_oys, u_le, g_has, c_7, c_33, c_42]) (by decide))
    · refine u_iconst (v := 1) C dX11_oysters_36 (by decide) ?_
      refine u_goto (tgt := 63) C dX11_oysters_37 (by decide) ?_
      exact u_loc [0, 1, 2, 3] rfl (J0 1 (by (try simp only [u_le, Decidable.not_not] at c_7 c_33); simp [-Int32.not_lt, -Int32.not_le, gk_oys, u_le, g_has, c_7, c_33]) (by decide))
  · refine u_iload_n C dX11_oysters_10 rfl ?_
    refine u_iconst (v := 1) C dX11_oysters_11 (by decide) ?_
    refine u_bipush (v := 24) C dX11_oysters_12 (by decide) ?_
    refine u_calliS3 C es_X11_isIn dX11_oysters_14 ml_RX11_109 (c_X11_isIn l D G _ _ _ _  ) (by decide) (Nat.le_of_ble_eq_true rfl) (fun r_14 M_14 q_14 => ?_)
    obtain ⟨rfl, e_14⟩ := q_14
    subst M_14
    refine u_if_eq (tgt := 24) C dX11_oysters_17 (by decide) (fun c_17 => ?_) (fun c_17 => ?_)
    · refine u_iconst (v := 0) C dX11_oysters_24 (by decide) ?_
      refine u_istore C dX11_oysters_25 (by decide) ?_
      refine u_aload_n C dX11_oysters_27 rfl ?_
      refine u_aload_n C dX11_oysters_28 rfl ?_
      refine u_iload_n C dX11_oysters_29 rfl ?_
      refine u_calliV1 C ev_X11_isSection dX11_oysters_30 ml_RX11_139 (mdl_is hY) rfl (by decide) (c_X11_isSection l D G _ _ _ hY ) (by decide) (Nat.le_of_ble_eq_true rfl) (fun r_30 M_30 q_30 => ?_)
      obtain ⟨rfl, e_30⟩ := q_30
      subst M_30
      refine u_if_ne (tgt := 40) C dX11_oysters_33 (by decide) (fun c_33 => ?_) (fun c_33 => ?_)
      · refine u_iload C dX11_oysters_40 rfl ?_
        refine u_if_ne (tgt := 49) C dX11_oysters_42 (by decide) (fun c_42 => ?_) (fun c_42 => ?_)
        · exact absurd c_42 (by decide)
        · refine u_iconst (v := 2) C dX11_oysters_45 (by decide) ?_
          refine u_goto (tgt := 63) C dX11_oysters_46 (by decide) ?_
          exact u_loc [0, 1, 2, 3] rfl (J0 2 (by (try simp only [u_le, Decidable.not_not] at c_7 c_17 c_33 c_42); simp [-Int32.not_lt, -Int32.not_le, gk_oys, u_le, g_has, c_7, c_17, c_33, c_42]) (by decide))
      · refine u_iconst (v := 1) C dX11_oysters_36 (by decide) ?_
        refine u_goto (tgt := 63) C dX11_oysters_37 (by decide) ?_
        exact u_loc [0, 1, 2, 3] rfl (J0 1 (by (try simp only [u_le, Decidable.not_not] at c_7 c_17 c_33); simp [-Int32.not_lt, -Int32.not_le, gk_oys, u_le, g_has, c_7, c_17, c_33]) (by decide))
    · refine u_iconst (v := 1) C dX11_oysters_20 (by decide) ?_
      refine u_goto (tgt := 25) C dX11_oysters_21 (by decide) ?_
      refine u_istore C dX11_oysters_25 (by decide) ?_
      refine u_aload_n C dX11_oysters_27 rfl ?_
      refine u_aload_n C dX11_oysters_28 rfl ?_
      refine u_iload_n C dX11_oysters_29 rfl ?_
      refine u_calliV1 C ev_X11_isSection dX11_oysters_30 ml_RX11_139 (mdl_is hY) rfl (by decide) (c_X11_isSection l D G _ _ _ hY ) (by decide) (Nat.le_of_ble_eq_true rfl) (fun r_30 M_30 q_30 => ?_)
      obtain ⟨rfl, e_30⟩ := q_30
      subst M_30
      refine u_if_ne (tgt := 40) C dX11_oysters_33 (by decide) (fun c_33 => ?_) (fun c_33 => ?_)
      · refine u_iload C dX11_oysters_40 rfl ?_
        refine u_if_ne (tgt := 49) C dX11_oysters_42 (by decide) (fun c_42 => ?_) (fun c_42 => ?_)
        · refine u_aload_n C dX11_oysters_49 rfl ?_
          refine u_getI C gX11_oysters_50 rfl (mdl_is hY) ?_
          refine u_bipush (v := 6) C dX11_oysters_53 (by decide) ?_
          refine u_icmp_ne (tgt := 62) C dX11_oysters_55 (by decide) (fun c_55 => ?_) (fun c_55 => ?_)
          · refine u_iconst (v := 0) C dX11_oysters_62 (by decide) ?_
            exact u_loc [0, 1, 2, 3] rfl (J0 0 (by (try simp only [u_le, Decidable.not_not] at c_7 c_17 c_33 c_42 c_55); simp [-Int32.not_lt, -Int32.not_le, gk_oys, u_le, g_has, c_7, c_17, c_33, c_42, c_55]) (by decide))
          · refine u_iconst (v := 3) C dX11_oysters_58 (by decide) ?_
            refine u_goto (tgt := 63) C dX11_oysters_59 (by decide) ?_
            exact u_loc [0, 1, 2, 3] rfl (J0 3 (by (try simp only [u_le, Decidable.not_not] at c_7 c_17 c_33 c_42 c_55); simp [-Int32.not_lt, -Int32.not_le, gk_oys, u_le, g_has, c_7, c_17, c_33, c_42, c_55]) (by decide))
        · exact absurd c_42 (by decide)
      · refine u_iconst (v := 1) C dX11_oysters_36 (by decide) ?_
        refine u_goto (tgt := 63) C dX11_oysters_37 (by decide) ?_
        exact u_loc [0, 1, 2, 3] rfl (J0 1 (by (try simp only [u_le, Decidable.not_not] at c_7 c_17 c_33); simp [-Int32.not_lt, -Int32.not_le, gk_oys, u_le, g_has, c_7, c_17, c_33]) (by decide))
set_option maxHeartbeats 1000000 in
set_option maxRecDepth 100000 in
theorem c_X11_permit (l : Launch) (D : va_G) (G : w_G) (M : w_M) (Y : Nat) (v : Int32) (a : Int32) (hY : L_mdl G (Y)) (ok : okM M Y) : u_Mi l D G yX11_permit cX11_permit 4 (some .int) 2 43 [.ref (gP G Y), .int v, .int a] M (fun r M' => (¬ kc_per (g_has M Y v) a = 0 → M' = wi M Y 0 (nI (kc_per (g_has M Y v) a))) ∧ (kc_per (g_has M Y v) a = 0 → r = iv (wi M Y 0 0) (Y + 21) (cN v) ∧ M' = wi (wi M Y 0 0) (Y + 21) (cN v) a)) := by
  obtain ⟨okS9, o16, o25, o36, o12, o11, oA, oI, oO⟩ := id ok
  obtain ⟨o1, o3, o5, oT⟩ := id okS9
  obtain ⟨o1a, o1b⟩ := cB_le o1 (by decide)
  obtain ⟨o3a, o3b⟩ := cB_le o3 (by decide)
  obtain ⟨o5a, o5b⟩ := cB_le o5 (by decide)
  obtain ⟨o11a, o11b⟩ := cB_le o11 (by decide)
  obtain ⟨o12a, o12b⟩ := cB_le o12 (by decide)
  obtain ⟨o16a, o16b⟩ := cB_le o16 (by decide)
  obtain ⟨o25a, o25b⟩ := cB_le o25 (by decide)
  obtain ⟨o36a, o36b⟩ := cB_le o36 (by decide)
  refine u_bodyi (by decide +kernel) (Nat.le_of_ble_eq_true rfl) rfl (fun p e s m args below meth c A H0 Q C ret => ?_)
  have J0 : ∀ kq : Nat, kq = kc_per (g_has M Y v) a → kq < 4 → u_S p l e (u_rm 2 43) s m args below meth c 4 D A H0 0 0 Q 29 [(0, .ref (gP G Y)), (1, .int v), (2, .int a)] [.int (nI kq), .ref (gP G Y)] G M := by
    intro kq hkq hk4
    refine u_calliV1 C ev_X11_holds dX11_permit_29 ml_RX11_116 (mdl_is hY) rfl (by decide) (c_X11_holds l D G _ _ _ hY ) (by decide) (Nat.le_of_ble_eq_true rfl) (fun r_29 M_29 q_29 => ?_)
    obtain ⟨rfl, e_29⟩ := q_29
    subst M_29
    refine u_if_ne (tgt := 37) C dX11_permit_32 (by decide) (fun c_32 => ?_) (fun c_32 => ?_)
    · obtain rfl : kq = 0 := by rcases Nat.eq_zero_or_pos kq with q | q; exact q; exact absurd (if_neg (nI_ne0 q (by omega))) c_32
      rw [show nI 0 = (0 : Int32) from rfl]
      have hs9 : ¬ g_has M Y v = 0 := fun q => absurd hkq.symm (by rw [kc_per]; simp [q])
      obtain ⟨i, hin, rfl⟩ := u_fWm (n := cN (iv M Y 16)) (by omega) (by rw [← o16a]; exact hs9)
      have ei : cN (nI i) = i := cN_nI (by omega)
      refine u_aload_n C dX11_permit_37 rfl ?_
      refine u_getR (k2 := (Y + 21)) C gX11_permit_38 rfl (mdl_is hY) (mdl_f21 hY) ?_
      refine u_iload_n C dX11_permit_41 rfl ?_
      refine u_ialdN (i := i) C dX11_permit_42 (a8_is (mdl_p21 hY)) (a8_n (mdl_p21 hY)) (by omega) (by decide) ?_
      refine u_istore_n C dX11_permit_43 (by decide) ?_
      refine u_aload_n C dX11_permit_44 rfl ?_
      refine u_getR (k2 := (Y + 21)) C gX11_permit_45 rfl (mdl_is hY) (mdl_f21 hY) ?_
      refine u_iload_n C dX11_permit_48 rfl ?_
      refine u_iload_n C dX11_permit_49 rfl ?_
      refine u_iastN (i := i) C dX11_permit_50 (a8_is (mdl_p21 hY)) (a8_n (mdl_p21 hY)) (by omega) (by decide) ?_
      refine u_iload_n C dX11_permit_51 rfl ?_
      exact ret _ _ _ _ dX11_permit_52  (by first | exact ⟨fun _ => by rw [← hkq], fun q => absurd (hkq.trans q) hk0⟩ | exact ⟨fun q => absurd hkq.symm q, fun _ => ⟨by first | (rw [ei]; done) | (rw [ei]; rfl), by first | (rw [ei]; done) | (rw [ei]; rfl)⟩⟩)
    · have hk0 : ¬ kq = 0 := fun q => by rw [q, if_pos (show nI 0 = 0 from rfl)] at c_32; exact absurd c_32 (by decide)
      refine u_iconst (v := 0) C dX11_permit_35 (by decide) ?_
      exact ret _ _ _ _ dX11_permit_36  (by first | exact ⟨fun _ => by rw [← hkq], fun q => absurd (hkq.trans q) hk0⟩ | exact ⟨fun q => absurd hkq.symm q, fun _ => ⟨by first | (rw [ei]; done) | (rw [ei]; rfl), by first | (rw [ei]; done) | (rw [ei]; rfl)⟩⟩)
  refine u_aload_n C dX11_permit_0 rfl ?_
  refine u_aload_n C dX11_permit_1 rfl ?_
  refine u_iload_n C dX11_permit_2 rfl ?_
  refine u_calliV1 C ev_X11_isSection dX11_permit_3 ml_RX11_139 (mdl_is hY) rfl (by decide) (c_X11_isSection l D G _ _ _ hY ) (by decide) (Nat.le_of_ble_eq_true rfl) (fun r_3 M_3 q_3 => ?_)
  obtain ⟨rfl, e_3⟩ := q_3
  subst M_3
  refine u_if_ne (tgt := 13) C dX11_permit_6 (by decide) (fun c_6 => ?_) (fun c_6 => ?_)
  · refine u_iload_n C dX11_permit_13 rfl ?_
    refine u_iconst (v := 0) C dX11_permit_14 (by decide) ?_
    refine u_sipush (v := 10000) C dX11_permit_15 (by decide) ?_
    refine u_calliS3 C es_X11_isIn dX11_permit_18 ml_RX11_109 (c_X11_isIn l D G _ _ _ _  ) (by decide) (Nat.le_of_ble_eq_true rfl) (fun r_18 M_18 q_18 => ?_)
    obtain ⟨rfl, e_18⟩ := q_18
    subst M_18
    refine u_if_eq (tgt := 28) C dX11_permit_21 (by decide) (fun c_21 => ?_) (fun c_21 => ?_)
    · refine u_iconst (v := 2) C dX11_permit_28 (by decide) ?_
      exact u_loc [0, 1, 2] rfl (J0 2 (by (try simp only [u_le, Decidable.not_not] at c_6 c_21); simp [-Int32.not_lt, -Int32.not_le, kc_per, u_le, g_has, c_6, c_21]) (by decide))
    · refine u_iconst (v := 0) C dX11_permit_24 (by decide) ?_
      refine u_goto (tgt := 29) C dX11_permit_25 (by decide) ?_
      exact u_loc [0, 1, 2] rfl (J0 0 (by (try simp only [u_le, Decidable.not_not] at c_6 c_21); simp [-Int32.not_lt, -Int32.not_le, kc_per, u_le, g_has, c_6, c_21]) (by decide))
  · refine u_iconst (v := 1) C dX11_permit_9 (by decide) ?_
    refine u_goto (tgt := 29) C dX11_permit_10 (by decide) ?_
    exact u_loc [0, 1, 2] rfl (J0 1 (by (try simp only [u_le, Decidable.not_not] at c_6); simp [-Int32.not_lt, -Int32.not_le, kc_per, u_le, g_has, c_6]) (by decide))
set_option maxHeartbeats 1000000 in
set_option maxRecDepth 100000 in
theorem c_X11_why (l : Launch) (D : va_G) (G : w_G) (M : w_M) (Y : Nat) (i : Nat) (a : Int32) (hY : L_mdl G (Y)) (hi : i < 8) : u_Mi l D G yX11_why cX11_why 3 (some .int) 0 0 [.ref (gP G Y), .int (nI i), .int a] M (fun r M' => r = g_why M Y i a ∧ M' = M) := by
  refine u_bodyi (by decide +kernel) (Nat.le_of_ble_eq_true rfl) rfl (fun p e s m args below meth c A H0 Q C ret => ?_)
  refine u_aload_n C dX11_why_0 rfl ?_
  refine u_getR (k2 := (Y + 21)) C gX11_why_1 rfl (mdl_is hY) (mdl_f21 hY) ?_
  refine u_iload_n C dX11_why_4 rfl ?_
  refine u_ialdN (i := i) C dX11_why_5 (a8_is (mdl_p21 hY)) (a8_n (mdl_p21 hY)) (by omega) (by decide) ?_
  refine u_if_ne (tgt := 11) C dX11_why_6 (by decide) (fun c_6 => ?_) (fun c_6 => ?_)
  · refine u_iload_n C dX11_why_11 rfl ?_
    refine u_aload_n C dX11_why_12 rfl ?_
    refine u_getR (k2 := (Y + 21)) C gX11_why_13 rfl (mdl_is hY) (mdl_f21 hY) ?_
    refine u_iload_n C dX11_why_16 rfl ?_
    refine u_ialdN (i := i) C dX11_why_17 (a8_is (mdl_p21 hY)) (a8_n (mdl_p21 hY)) (by omega) (by decide) ?_
    refine u_icmp_le (tgt := 25) C dX11_why_18 (by decide) (fun c_18 => ?_) (fun c_18 => ?_)
    · refine u_aload_n C dX11_why_25 rfl ?_
      refine u_getR (k2 := (Y + 18)) C gX11_why_26 rfl (mdl_is hY) (mdl_f18 hY) ?_
      refine u_iload_n C dX11_why_29 rfl ?_
      refine u_ialdN (i := i) C dX11_why_30 (a8_is (mdl_p18 hY)) (a8_n (mdl_p18 hY)) (by omega) (by decide) ?_
      refine u_iload_n C dX11_why_31 rfl ?_
      refine u_icmp_ge (tgt := 39) C dX11_why_32 (by decide) (fun c_32 => ?_) (fun c_32 => ?_)
      · refine u_iconst (v := 0) C dX11_why_39 (by decide) ?_
        exact ret _ _ _ _ dX11_why_40  (by (try simp only [u_le, Decidable.not_not] at c_6 c_18 c_32); refine ⟨?_, rfl⟩; simp [-Int32.not_lt, -Int32.not_le, g_why, u_le, c_6, c_18, c_32])
      · refine u_iconst (v := 3) C dX11_why_35 (by decide) ?_
        refine u_goto (tgt := 40) C dX11_why_36 (by decide) ?_
        exact ret _ _ _ _ dX11_why_40  (by (try simp only [u_le, Decidable.not_not] at c_6 c_18 c_32); refine ⟨?_, rfl⟩; simp [-Int32.not_lt, -Int32.not_le, g_why, u_le, c_6, c_18, c_32])
    · refine u_iconst (v := 2) C dX11_why_21 (by decide) ?_
      refine u_goto (tgt := 40) C dX11_why_22 (by decide) ?_
      exact ret _ _ _ _ dX11_why_40  (by (try simp only [u_le, Decidable.not_not] at c_6 c_18); refine ⟨?_, rfl⟩; simp [-Int32.not_lt, -Int32.not_le, g_why, u_le, c_6, c_18])
  · refine u_iconst (v := 1) C dX11_why_9 (by decide) ?_
    exact ret _ _ _ _ dX11_why_10  (by (try simp only [u_le, Decidable.not_not] at c_6); refine ⟨?_, rfl⟩; simp [-Int32.not_lt, -Int32.not_le, g_why, u_le, c_6])
set_option maxHeartbeats 1000000 in
set_option maxRecDepth 100000 in
theorem c_X11_whyNot (l : Launch) (D : va_G) (G : w_G) (M : w_M) (Y : Nat) (v : Int32) (a : Int32) (hY : L_mdl G (Y)) (ok : okM M Y) : u_Mi l D G yX11_whyNot cX11_whyNot 3 (some .int) 2 43 [.ref (gP G Y), .int v, .int a] M (fun r M' => (¬ kc_why (g_has M Y v) a = 0 → M' = wi M Y 0 (nI (kc_why (g_has M Y v) a))) ∧ (kc_why (g_has M Y v) a = 0 → r = g_why (wi M Y 0 0) Y (cN v) a ∧ M' = (wi M Y 0 0))) := by
  obtain ⟨okS9, o16, o25, o36, o12, o11, oA, oI, oO⟩ := id ok
  obtain ⟨o1, o3, o5, oT⟩ := id okS9
  obtain ⟨o1a, o1b⟩ := cB_le o1 (by decide)
  obtain ⟨o3a, o3b⟩ := cB_le o3 (by decide)
  obtain ⟨o5a, o5b⟩ := cB_le o5 (by decide)
  obtain ⟨o11a, o11b⟩ := cB_le o11 (by decide)
  obtain ⟨o12a, o12b⟩ := cB_le o12 (by decide)
  obtain ⟨o16a, o16b⟩ := cB_le o16 (by decide)
  obtain ⟨o25a, o25b⟩ := cB_le o25 (by decide)
  obtain ⟨o36a, o36b⟩ := cB_le o36 (by decide)
  refine u_bodyi (by decide +kernel) (Nat.le_of_ble_eq_true rfl) rfl (fun p e s m args below meth c A H0 Q C ret => ?_)
  have J0 : ∀ kq : Nat, kq = kc_why (g_has M Y v) a → kq < 4 → u_S p l e (u_rm 2 43) s m args below meth c 3 D A H0 0 0 Q 29 [(0, .ref (gP G Y)), (1, .int v), (2, .int a)] [.int (nI kq), .ref (gP G Y)] G M := by
    intro kq hkq hk4
    refine u_calliV1 C ev_X11_holds dX11_whyNot_29 ml_RX11_116 (mdl_is hY) rfl (by decide) (c_X11_holds l D G _ _ _ hY ) (by decide) (Nat.le_of_ble_eq_true rfl) (fun r_29 M_29 q_29 => ?_)
    obtain ⟨rfl, e_29⟩ := q_29
    subst M_29
    refine u_if_eq (tgt := 44) C dX11_whyNot_32 (by decide) (fun c_32 => ?_) (fun c_32 => ?_)
    · have hk0 : ¬ kq = 0 := fun q => by rw [q, if_pos (show nI 0 = 0 from rfl)] at c_32; exact absurd c_32 (by decide)
      refine u_iconst (v := 0) C dX11_whyNot_44 (by decide) ?_
      exact ret _ _ _ _ dX11_whyNot_45  (by first | exact ⟨fun _ => by rw [← hkq], fun q => absurd (hkq.trans q) hk0⟩ | exact ⟨fun q => absurd hkq.symm q, fun _ => ⟨by first | (rw [ei]; done) | (rw [ei]; rfl), rfl⟩⟩)
    · obtain rfl : kq = 0 := by rcases Nat.eq_zero_or_pos kq with q | q; exact q; exact absurd (if_neg (nI_ne0 q (by omega))) c_32
      rw [show nI 0 = (0 : Int32) from rfl]
      have hs9 : ¬ g_has M Y v = 0 := fun q => absurd hkq.symm (by rw [kc_why]; simp [q])
      obtain ⟨i, hin, rfl⟩ := u_fWm (n := cN (iv M Y 16)) (by omega) (by rw [← o16a]; exact hs9)
      have ei : cN (nI i) = i := cN_nI (by omega)
      refine u_aload_n C dX11_whyNot_35 rfl ?_
      refine u_iload_n C dX11_whyNot_36 rfl ?_
      refine u_iload_n C dX11_whyNot_37 rfl ?_
      refine u_calliV2 C ev_X11_why dX11_whyNot_38 ml_RX11_148 (mdl_is hY) rfl (by decide) (c_X11_why l D G _ _ _ _ hY (by omega)) (by decide) (Nat.le_of_ble_eq_true rfl) (fun r_38 M_38 q_38 => ?_)
      obtain ⟨rfl, e_38⟩ := q_38
      subst M_38
      refine u_goto (tgt := 45) C dX11_whyNot_41 (by decide) ?_
      exact ret _ _ _ _ dX11_whyNot_45  (by first | exact ⟨fun _ => by rw [← hkq], fun q => absurd (hkq.trans q) hk0⟩ | exact ⟨fun q => absurd hkq.symm q, fun _ => ⟨by first | (rw [ei]; done) | (rw [ei]; rfl), rfl⟩⟩)
  refine u_aload_n C dX11_whyNot_0 rfl ?_
  refine u_aload_n C dX11_whyNot_1 rfl ?_
  refine u_iload_n C dX11_whyNot_2 rfl ?_
  refine u_calliV1 C ev_X11_isSection dX11_whyNot_3 ml_RX11_139 (mdl_is hY) rfl (by decide) (c_X11_isSection l D G _ _ _ hY ) (by decide) (Nat.le_of_ble_eq_true rfl) (fun r_3 M_3 q_3 => ?_)
  obtain ⟨rfl, e_3⟩ := q_3
  subst M_3
  refine u_if_ne (tgt := 13) C dX11_whyNot_6 (by decide) (fun c_6 => ?_) (fun c_6 => ?_)
  · refine u_iload_n C dX11_whyNot_13 rfl ?_
    refine u_iconst (v := 1) C dX11_whyNot_14 (by decide) ?_
    refine u_sipush (v := 10000) C dX11_whyNot_15 (by decide) ?_
    refine u_calliS3 C es_X11_isIn dX11_whyNot_18 ml_RX11_109 (c_X11_isIn l D G _ _ _ _  ) (by decide) (Nat.le_of_ble_eq_true rfl) (fun r_18 M_18 q_18 => ?_)
    obtain ⟨rfl, e_18⟩ := q_18
    subst M_18
    refine u_if_eq (tgt := 28) C dX11_whyNot_21 (by decide) (fun c_21 => ?_) (fun c_21 => ?_)
    · refine u_iconst (v := 2) C dX11_whyNot_28 (by decide) ?_
      exact u_loc [0, 1, 2] rfl (J0 2 (by (try simp only [u_le, Decidable.not_not] at c_6 c_21); simp [-Int32.not_lt, -Int32.not_le, kc_why, u_le, g_has, c_6, c_21]) (by decide))
    · refine u_iconst (v := 0) C dX11_whyNot_24 (by decide) ?_
      refine u_goto (tgt := 29) C dX11_whyNot_25 (by decide) ?_
      exact u_loc [0, 1, 2] rfl (J0 0 (by (try simp only [u_le, Decidable.not_not] at c_6 c_21); simp [-Int32.not_lt, -Int32.not_le, kc_why, u_le, g_has, c_6, c_21]) (by decide))
  · refine u_iconst (v := 1) C dX11_whyNot_9 (by decide) ?_
    refine u_goto (tgt := 29) C dX11_whyNot_10 (by decide) ?_
    exact u_loc [0, 1, 2] rfl (J0 1 (by (try simp only [u_le, Decidable.not_not] at c_6); simp [-Int32.not_lt, -Int32.not_le, kc_why, u_le, g_has, c_6]) (by decide))
set_option maxHeartbeats 1000000 in
set_option maxRecDepth 100000 in
theorem c_X11_ofSection (l : Launch) (D : va_G) (G : w_G) (M : w_M) (Y : Nat) (v : Int32) (w : Int32) (hY : L_mdl G (Y)) (ok : okM M Y) : u_Mi l D G yX11_ofSection cX11_ofSection 4 (some .int) 2 43 [.ref (gP G Y), .int v, .int w] M (fun r M' => (¬ kc_of (g_has M Y v) w = 0 → M' = wi M Y 0 (nI (kc_of (g_has M Y v) w))) ∧ (kc_of (g_has M Y v) w = 0 → r = gR_of (wi M Y 0 0) Y (cN v) w ∧ M' = (wi M Y 0 0))) := by
  obtain ⟨okS9, o16, o25, o36, o12, o11, oA, oI, oO⟩ := id ok
  obtain ⟨o1, o3, o5, oT⟩ := id okS9
  obtain ⟨o1a, o1b⟩ := cB_le o1 (by decide)
  obtain ⟨o3a, o3b⟩ := cB_le o3 (by decide)
  obtain ⟨o5a, o5b⟩ := cB_le o5 (by decide)
  obtain ⟨o11a, o11b⟩ := cB_le o11 (by decide)
  obtain ⟨o12a, o12b⟩ := cB_le o12 (by decide)
  obtain ⟨o16a, o16b⟩ := cB_le o16 (by decide)
  obtain ⟨o25a, o25b⟩ := cB_le o25 (by decide)
  obtain ⟨o36a, o36b⟩ := cB_le o36 (by decide)
  refine u_bodyi (by decide +kernel) (Nat.le_of_ble_eq_true rfl) rfl (fun p e s m args below meth c A H0 Q C ret => ?_)
  have J0 : ∀ kq : Nat, kq = kc_of (g_has M Y v) w → kq < 4 → u_S p l e (u_rm 2 43) s m args below meth c 4 D A H0 0 0 Q 28 [(0, .ref (gP G Y)), (1, .int v), (2, .int w)] [.int (nI kq), .ref (gP G Y)] G M := by
    intro kq hkq hk4
    refine u_calliV1 C ev_X11_holds dX11_ofSection_28 ml_RX11_116 (mdl_is hY) rfl (by decide) (c_X11_holds l D G _ _ _ hY ) (by decide) (Nat.le_of_ble_eq_true rfl) (fun r_28 M_28 q_28 => ?_)
    obtain ⟨rfl, e_28⟩ := q_28
    subst M_28
    refine u_if_ne (tgt := 36) C dX11_ofSection_31 (by decide) (fun c_31 => ?_) (fun c_31 => ?_)
    · obtain rfl : kq = 0 := by rcases Nat.eq_zero_or_pos kq with q | q; exact q; exact absurd (if_neg (nI_ne0 q (by omega))) c_31
      rw [show nI 0 = (0 : Int32) from rfl]
      have hs9 : ¬ g_has M Y v = 0 := fun q => absurd hkq.symm (by rw [kc_of]; simp [q])
      obtain ⟨i, hin, rfl⟩ := u_fWm (n := cN (iv M Y 16)) (by omega) (by rw [← o16a]; exact hs9)
      have ei : cN (nI i) = i := cN_nI (by omega)
      refine u_iload_n C dX11_ofSection_36 rfl ?_
      refine u_iconst (v := 4) C dX11_ofSection_37 (by decide) ?_
      refine u_icmp_ge (tgt := 77) C dX11_ofSection_38 (by decide) (fun c_38 => ?_) (fun c_38 => ?_)
      · refine u_iload_n C dX11_ofSection_77 rfl ?_
        refine u_bipush (v := 7) C dX11_ofSection_78 (by decide) ?_
        refine u_icmp_ge (tgt := 117) C dX11_ofSection_80 (by decide) (fun c_80 => ?_) (fun c_80 => ?_)
        · refine u_iload_n C dX11_ofSection_117 rfl ?_
          refine u_bipush (v := 9) C dX11_ofSection_118 (by decide) ?_
          refine u_icmp_ne (tgt := 132) C dX11_ofSection_120 (by decide) (fun c_120 => ?_) (fun c_120 => ?_)
          · refine u_aload_n C dX11_ofSection_132 rfl ?_
            refine u_iload_n C dX11_ofSection_133 rfl ?_
            refine u_bipush (v := 7) C dX11_ofSection_134 (by decide) ?_
            refine u_icmp_ne (tgt := 143) C dX11_ofSection_136 (by decide) (fun c_136 => ?_) (fun c_136 => ?_)
            · refine u_iconst (v := (nI 1)) C dX11_ofSection_143 (by decide) ?_
              refine u_iload_n C dX11_ofSection_144 rfl ?_
              refine u_calliV2 C ev_X11_salinity dX11_ofSection_145 ml_RX11_182 (mdl_is hY) rfl (by decide) (c_X11_salinity l D G _ _ _ _ hY (by decide) (by omega)) (by decide) (Nat.le_of_ble_eq_true rfl) (fun r_145 M_145 q_145 => ?_)
              obtain ⟨rfl, e_145⟩ := q_145
              subst M_145
              exact ret _ _ _ _ dX11_ofSection_148  (by first | exact ⟨fun _ => by rw [← hkq], fun q => absurd (hkq.trans q) hk0⟩ | ((try simp only [u_le, Decidable.not_not] at c_31 c_38 c_80 c_120 c_136); exact ⟨fun q => absurd hkq.symm q, fun _ => ⟨by rw [ei]; unfold gR_of; simp [-Int32.not_lt, -Int32.not_le, c_31, c_38, c_80, c_120, c_136]; try rfl, rfl⟩⟩))
            · refine u_iconst (v := (nI 0)) C dX11_ofSection_139 (by decide) ?_
              refine u_goto (tgt := 144) C dX11_ofSection_140 (by decide) ?_
              refine u_iload_n C dX11_ofSection_144 rfl ?_
              refine u_calliV2 C ev_X11_salinity dX11_ofSection_145 ml_RX11_182 (mdl_is hY) rfl (by decide) (c_X11_salinity l D G _ _ _ _ hY (by decide) (by omega)) (by decide) (Nat.le_of_ble_eq_true rfl) (fun r_145 M_145 q_145 => ?_)
              obtain ⟨rfl, e_145⟩ := q_145
              subst M_145
              exact ret _ _ _ _ dX11_ofSection_148  (by first | exact ⟨fun _ => by rw [← hkq], fun q => absurd (hkq.trans q) hk0⟩ | ((try simp only [u_le, Decidable.not_not] at c_31 c_38 c_80 c_120 c_136); exact ⟨fun q => absurd hkq.symm q, fun _ => ⟨by rw [ei]; unfold gR_of; simp [-Int32.not_lt, -Int32.not_le, c_31, c_38, c_80, c_120, c_136]; try rfl, rfl⟩⟩))
          · refine u_aload_n C dX11_ofSection_123 rfl ?_
            refine u_getR (k2 := (Y + 20)) C gX11_ofSection_124 rfl (mdl_is hY) (mdl_f20 hY) ?_
            refine u_iload_n C dX11_ofSection_127 rfl ?_
            refine u_ialdN (i := i) C dX11_ofSection_128 (a8_is (mdl_p20 hY)) (a8_n (mdl_p20 hY)) (by omega) (by decide) ?_
            refine u_goto (tgt := 148) C dX11_ofSection_129 (by decide) ?_
            exact ret _ _ _ _ dX11_ofSection_148  (by first | exact ⟨fun _ => by rw [← hkq], fun q => absurd (hkq.trans q) hk0⟩ | ((try simp only [u_le, Decidable.not_not] at c_31 c_38 c_80 c_120); exact ⟨fun q => absurd hkq.symm q, fun _ => ⟨by rw [ei]; unfold gR_of; simp [-Int32.not_lt, -Int32.not_le, c_31, c_38, c_80, c_120]; try rfl, rfl⟩⟩))
        · refine u_iload_n C dX11_ofSection_83 rfl ?_
          refine u_iconst (v := 4) C dX11_ofSection_84 (by decide) ?_
          refine u_icmp_ne (tgt := 97) C dX11_ofSection_85 (by decide) (fun c_85 => ?_) (fun c_85 => ?_)
          · refine u_iload_n C dX11_ofSection_97 rfl ?_
            refine u_iconst (v := 5) C dX11_ofSection_98 (by decide) ?_
            refine u_icmp_ne (tgt := 111) C dX11_ofSection_99 (by decide) (fun c_99 => ?_) (fun c_99 => ?_)
            · refine u_aload_n C dX11_ofSection_111 rfl ?_
              refine u_iload_n C dX11_ofSection_112 rfl ?_
              refine u_calliV1 C ev_X11_level dX11_ofSection_113 ml_RX11_175 (mdl_is hY) rfl (by decide) (c_X11_level l D G _ _ _ hY (by omega) (by rw [kp_Z (Or.inl (by omega))]; exact oA i hin)) (by decide) (Nat.le_of_ble_eq_true rfl) (fun r_113 M_113 q_113 => ?_)
              obtain ⟨rfl, e_113⟩ := q_113
              subst M_113
              exact ret _ _ _ _ dX11_ofSection_116  (by first | exact ⟨fun _ => by rw [← hkq], fun q => absurd (hkq.trans q) hk0⟩ | ((try simp only [u_le, Decidable.not_not] at c_31 c_38 c_80 c_85 c_99); exact ⟨fun q => absurd hkq.symm q, fun _ => ⟨by rw [ei]; unfold gR_of; simp [-Int32.not_lt, -Int32.not_le, c_31, c_38, c_80, c_85, c_99]; try rfl, rfl⟩⟩))
            · refine u_aload_n C dX11_ofSection_102 rfl ?_
              refine u_getR (k2 := (Y + 18)) C gX11_ofSection_103 rfl (mdl_is hY) (mdl_f18 hY) ?_
              refine u_iload_n C dX11_ofSection_106 rfl ?_
              refine u_ialdN (i := i) C dX11_ofSection_107 (a8_is (mdl_p18 hY)) (a8_n (mdl_p18 hY)) (by omega) (by decide) ?_
              refine u_goto (tgt := 116) C dX11_ofSection_108 (by decide) ?_
              exact ret _ _ _ _ dX11_ofSection_116  (by first | exact ⟨fun _ => by rw [← hkq], fun q => absurd (hkq.trans q) hk0⟩ | ((try simp only [u_le, Decidable.not_not] at c_31 c_38 c_80 c_85 c_99); exact ⟨fun q => absurd hkq.symm q, fun _ => ⟨by rw [ei]; unfold gR_of; simp [-Int32.not_lt, -Int32.not_le, c_31, c_38, c_80, c_85, c_99]; try rfl, rfl⟩⟩))
          · refine u_aload_n C dX11_ofSection_88 rfl ?_
            refine u_getR (k2 := (Y + 19)) C gX11_ofSection_89 rfl (mdl_is hY) (mdl_f19 hY) ?_
            refine u_iload_n C dX11_ofSection_92 rfl ?_
            refine u_ialdN (i := i) C dX11_ofSection_93 (a8_is (mdl_p19 hY)) (a8_n (mdl_p19 hY)) (by omega) (by decide) ?_
            refine u_goto (tgt := 116) C dX11_ofSection_94 (by decide) ?_
            exact ret _ _ _ _ dX11_ofSection_116  (by first | exact ⟨fun _ => by rw [← hkq], fun q => absurd (hkq.trans q) hk0⟩ | ((try simp only [u_le, Decidable.not_not] at c_31 c_38 c_80 c_85); exact ⟨fun q => absurd hkq.symm q, fun _ => ⟨by rw [ei]; unfold gR_of; simp [-Int32.not_lt, -Int32.not_le, c_31, c_38, c_80, c_85]; try rfl, rfl⟩⟩))
      · refine u_iload_n C dX11_ofSection_41 rfl ?_
        refine u_iconst (v := 2) C dX11_ofSection_42 (by decide) ?_
        refine u_icmp_ge (tgt := 50) C dX11_ofSection_43 (by decide) (fun c_43 => ?_) (fun c_43 => ?_)
        · refine u_bipush (v := (nI 8)) C dX11_ofSection_50 (by decide) ?_
          refine u_iload_n C dX11_ofSection_52 rfl ?_
          refine u_iadd C dX11_ofSection_53 ?_
          rw [nI_add (8) (i)]
          refine u_istore_n C dX11_ofSection_54 (by decide) ?_
          refine u_iload_n C dX11_ofSection_55 rfl ?_
          refine u_iconst (v := 2) C dX11_ofSection_56 (by decide) ?_
          refine u_irem C dX11_ofSection_57 (by decide) ?_
          refine u_if_ne (tgt := 70) C dX11_ofSection_58 (by decide) (fun c_58 => ?_) (fun c_58 => ?_)
          · refine u_aload_n C dX11_ofSection_70 rfl ?_
            refine u_getR (k2 := (Y + 23)) C gX11_ofSection_71 rfl (mdl_is hY) (mdl_f23 hY) ?_
            refine u_iload_n C dX11_ofSection_74 rfl ?_
            refine u_ialdN (i := 8 + i) C dX11_ofSection_75 (a16_is (mdl_p23 hY)) (a16_n (mdl_p23 hY)) (by omega) (by decide) ?_
            exact ret _ _ _ _ dX11_ofSection_76  (by first | exact ⟨fun _ => by rw [← hkq], fun q => absurd (hkq.trans q) hk0⟩ | ((try simp only [u_le, Decidable.not_not] at c_31 c_38 c_43 c_58); exact ⟨fun q => absurd hkq.symm q, fun _ => ⟨by rw [ei]; unfold gR_of; simp [-Int32.not_lt, -Int32.not_le, c_31, c_38, c_43, c_58]; try rfl, rfl⟩⟩))
          · refine u_aload_n C dX11_ofSection_61 rfl ?_
            refine u_getR (k2 := (Y + 22)) C gX11_ofSection_62 rfl (mdl_is hY) (mdl_f22 hY) ?_
            refine u_iload_n C dX11_ofSection_65 rfl ?_
            refine u_ialdN (i := 8 + i) C dX11_ofSection_66 (a16_is (mdl_p22 hY)) (a16_n (mdl_p22 hY)) (by omega) (by decide) ?_
            refine u_goto (tgt := 76) C dX11_ofSection_67 (by decide) ?_
            exact ret _ _ _ _ dX11_ofSection_76  (by first | exact ⟨fun _ => by rw [← hkq], fun q => absurd (hkq.trans q) hk0⟩ | ((try simp only [u_le, Decidable.not_not] at c_31 c_38 c_43 c_58); exact ⟨fun q => absurd hkq.symm q, fun _ => ⟨by rw [ei]; unfold gR_of; simp [-Int32.not_lt, -Int32.not_le, c_31, c_38, c_43, c_58]; try rfl, rfl⟩⟩))
        · refine u_iload_n C dX11_ofSection_46 rfl ?_
          refine u_goto (tgt := 54) C dX11_ofSection_47 (by decide) ?_
          refine u_istore_n C dX11_ofSection_54 (by decide) ?_
          refine u_iload_n C dX11_ofSection_55 rfl ?_
          refine u_iconst (v := 2) C dX11_ofSection_56 (by decide) ?_
          refine u_irem C dX11_ofSection_57 (by decide) ?_
          refine u_if_ne (tgt := 70) C dX11_ofSection_58 (by decide) (fun c_58 => ?_) (fun c_58 => ?_)
          · refine u_aload_n C dX11_ofSection_70 rfl ?_
            refine u_getR (k2 := (Y + 23)) C gX11_ofSection_71 rfl (mdl_is hY) (mdl_f23 hY) ?_
            refine u_iload_n C dX11_ofSection_74 rfl ?_
            refine u_ialdN (i := i) C dX11_ofSection_75 (a16_is (mdl_p23 hY)) (a16_n (mdl_p23 hY)) (by omega) (by decide) ?_
            exact ret _ _ _ _ dX11_ofSection_76  (by first | exact ⟨fun _ => by rw [← hkq], fun q => absurd (hkq.trans q) hk0⟩ | ((try simp only [u_le, Decidable.not_not] at c_31 c_38 c_43 c_58); exact ⟨fun q => absurd hkq.symm q, fun _ => ⟨by rw [ei]; unfold gR_of; simp [-Int32.not_lt, -Int32.not_le, c_31, c_38, c_43, c_58]; try rfl, rfl⟩⟩))
          · refine u_aload_n C dX11_ofSection_61 rfl ?_
            refine u_getR (k2 := (Y + 22)) C gX11_ofSection_62 rfl (mdl_is hY) (mdl_f22 hY) ?_
            refine u_iload_n C dX11_ofSection_65 rfl ?_
            refine u_ialdN (i := i) C dX11_ofSection_66 (a16_is (mdl_p22 hY)) (a16_n (mdl_p22 hY)) (by omega) (by decide) ?_
            refine u_goto (tgt := 76) C dX11_ofSection_67 (by decide) ?_
            exact ret _ _ _ _ dX11_ofSection_76  (by first | exact ⟨fun _ => by rw [← hkq], fun q => absurd (hkq.trans q) hk0⟩ | ((try simp only [u_le, Decidable.not_not] at c_31 c_38 c_43 c_58); exact ⟨fun q => absurd hkq.symm q, fun _ => ⟨by rw [ei]; unfold gR_of; simp [-Int32.not_lt, -Int32.not_le, c_31, c_38, c_43, c_58]; try rfl, rfl⟩⟩))
    · have hk0 : ¬ kq = 0 := fun q => by rw [q, if_pos (show nI 0 = 0 from rfl)] at c_31; exact absurd c_31 (by decide)
      refine u_iconst (v := 0) C dX11_ofSection_34 (by decide) ?_
      exact ret _ _ _ _ dX11_ofSection_35  (by first | exact ⟨fun _ => by rw [← hkq], fun q => absurd (hkq.trans q) hk0⟩ | ((try simp only [u_le, Decidable.not_not] at c_31); exact ⟨fun q => absurd hkq.symm q, fun _ => ⟨by rw [ei]; unfold gR_of; simp [-Int32.not_lt, -Int32.not_le, c_31]; try rfl, rfl⟩⟩))
  refine u_aload_n C dX11_ofSection_0 rfl ?_
  refine u_aload_n C dX11_ofSection_1 rfl ?_
  refine u_iload_n C dX11_ofSection_2 rfl ?_
  refine u_calliV1 C ev_X11_isSection dX11_ofSection_3 ml_RX11_139 (mdl_is hY) rfl (by decide) (c_X11_isSection l D G _ _ _ hY ) (by decide) (Nat.le_of_ble_eq_true rfl) (fun r_3 M_3 q_3 => ?_)
  obtain ⟨rfl, e_3⟩ := q_3
  subst M_3
  refine u_if_ne (tgt := 13) C dX11_ofSection_6 (by decide) (fun c_6 => ?_) (fun c_6 => ?_)
  · refine u_iload_n C dX11_ofSection_13 rfl ?_
    refine u_iconst (v := 0) C dX11_ofSection_14 (by decide) ?_
    refine u_bipush (v := 9) C dX11_ofSection_15 (by decide) ?_
    refine u_calliS3 C es_X11_isIn dX11_ofSection_17 ml_RX11_109 (c_X11_isIn l D G _ _ _ _  ) (by decide) (Nat.le_of_ble_eq_true rfl) (fun r_17 M_17 q_17 => ?_)
    obtain ⟨rfl, e_17⟩ := q_17
    subst M_17
    refine u_if_eq (tgt := 27) C dX11_ofSection_20 (by decide) (fun c_20 => ?_) (fun c_20 => ?_)
    · refine u_iconst (v := 2) C dX11_ofSection_27 (by decide) ?_
      exact u_loc [0, 1, 2] rfl (J0 2 (by (try simp only [u_le, Decidable.not_not] at c_6 c_20); simp [-Int32.not_lt, -Int32.not_le, kc_of, u_le, g_has, c_6, c_20]) (by decide))
    · refine u_iconst (v := 0) C dX11_ofSection_23 (by decide) ?_
      refine u_goto (tgt := 28) C dX11_ofSection_24 (by decide) ?_
      exact u_loc [0, 1, 2] rfl (J0 0 (by (try simp only [u_le, Decidable.not_not] at c_6 c_20); simp [-Int32.not_lt, -Int32.not_le, kc_of, u_le, g_has, c_6, c_20]) (by decide))
  · refine u_iconst (v := 1) C dX11_ofSection_9 (by decide) ?_
    refine u_goto (tgt := 28) C dX11_ofSection_10 (by decide) ?_
    exact u_loc [0, 1, 2] rfl (J0 1 (by (try simp only [u_le, Decidable.not_not] at c_6); simp [-Int32.not_lt, -Int32.not_le, kc_of, u_le, g_has, c_6]) (by decide))
set_option maxHeartbeats 1000000 in
set_option maxRecDepth 100000 in
theorem c_X11_ofIntake (l : Launch) (D : va_G) (G : w_G) (M : w_M) (Y : Nat) (v : Int32) (w : Int32) (hY : L_mdl G (Y)) (ok : okM M Y) : u_Mi l D G yX11_ofIntake cX11_ofIntake 3 (some .int) 1 22 [.ref (gP G Y), .int v, .int w] M (fun r M' => (¬ gk_oin v (iv M Y 25) w = 0 → M' = wi M Y 0 (nI (gk_oin v (iv M Y 25) w))) ∧ (gk_oin v (iv M Y 25) w = 0 → r = gR_oi (wi M Y 0 0) Y (cN v) w ∧ M' = (wi M Y 0 0))) := by
  obtain ⟨okS9, o16, o25, o36, o12, o11, oA, oI, oO⟩ := id ok
  obtain ⟨o1, o3, o5, oT⟩ := id okS9
  obtain ⟨o1a, o1b⟩ := cB_le o1 (by decide)
  obtain ⟨o3a, o3b⟩ := cB_le o3 (by decide)
  obtain ⟨o5a, o5b⟩ := cB_le o5 (by decide)
  obtain ⟨o11a, o11b⟩ := cB_le o11 (by decide)
  obtain ⟨o12a, o12b⟩ := cB_le o12 (by decide)
  obtain ⟨o16a, o16b⟩ := cB_le o16 (by decide)
  obtain ⟨o25a, o25b⟩ := cB_le o25 (by decide)
  obtain ⟨o36a, o36b⟩ := cB_le o36 (by decide)
  refine u_bodyi (by decide +kernel) (Nat.le_of_ble_eq_true rfl) rfl (fun p e s m args below meth c A H0 Q C ret => ?_)
  have J0 : ∀ kq : Nat, kq = gk_oin v (iv M Y 25) w → kq < 4 → u_S p l e (u_rm 1 22) s m args below meth c 3 D A H0 0 0 Q 33 [(0, .ref (gP G Y)), (1, .int v), (2, .int w)] [.int (nI kq), .ref (gP G Y)] G M := by
    intro kq hkq hk4
    refine u_calliV1 C ev_X11_holds dX11_ofIntake_33 ml_RX11_116 (mdl_is hY) rfl (by decide) (c_X11_holds l D G _ _ _ hY ) (by decide) (Nat.le_of_ble_eq_true rfl) (fun r_33 M_33 q_33 => ?_)
    obtain ⟨rfl, e_33⟩ := q_33
    subst M_33
    refine u_if_ne (tgt := 41) C dX11_ofIntake_36 (by decide) (fun c_36 => ?_) (fun c_36 => ?_)
    · obtain rfl : kq = 0 := by rcases Nat.eq_zero_or_pos kq with q | q; exact q; exact absurd (if_neg (nI_ne0 q (by omega))) c_36
      rw [show nI 0 = (0 : Int32) from rfl]
      have hs9 : ¬ fW v 0 (iv M Y 25 - 1) = 0 := fun q => absurd hkq.symm (by rw [gk_oin]; simp [q])
      obtain ⟨i, hin, rfl⟩ := u_fWm (n := cN (iv M Y 25)) (by omega) (by rw [← o25a]; exact hs9)
      have ei : cN (nI i) = i := cN_nI (by omega)
      refine u_iload_n C dX11_ofIntake_41 rfl ?_
      refine u_iconst (v := 3) C dX11_ofIntake_42 (by decide) ?_
      refine u_icmp_ge (tgt := 80) C dX11_ofIntake_43 (by decide) (fun c_43 => ?_) (fun c_43 => ?_)
      · refine u_iload_n C dX11_ofIntake_80 rfl ?_
        refine u_iconst (v := 4) C dX11_ofIntake_81 (by decide) ?_
        refine u_icmp_ne (tgt := 94) C dX11_ofIntake_82 (by decide) (fun c_82 => ?_) (fun c_82 => ?_)
        · refine u_aload_n C dX11_ofIntake_94 rfl ?_
          refine u_getR (k2 := (Y + 35)) C gX11_ofIntake_95 rfl (mdl_is hY) (mdl_f35 hY) ?_
          refine u_iload_n C dX11_ofIntake_98 rfl ?_
          refine u_zaldN (i := i) C dX11_ofIntake_99 (z6_is (mdl_p35 hY)) (z6_n (mdl_p35 hY)) (by omega) (by decide) ?_
          refine u_if_eq (tgt := 107) C dX11_ofIntake_100 (by decide) (fun c_100 => ?_) (fun c_100 => ?_)
          · refine u_iconst (v := 0) C dX11_ofIntake_107 (by decide) ?_
            exact ret _ _ _ _ dX11_ofIntake_108  (by first | exact ⟨fun _ => by rw [← hkq], fun q => absurd (hkq.trans q) hk0⟩ | ((try simp only [u_le, Decidable.not_not] at c_36 c_43 c_82 c_100); exact ⟨fun q => absurd hkq.symm q, fun _ => ⟨by rw [ei]; unfold gR_oi; simp [-Int32.not_lt, -Int32.not_le, c_36, c_43, c_82, c_100]; try rfl, rfl⟩⟩))
          · refine u_iconst (v := 1) C dX11_ofIntake_103 (by decide) ?_
            refine u_goto (tgt := 108) C dX11_ofIntake_104 (by decide) ?_
            exact ret _ _ _ _ dX11_ofIntake_108  (by first | exact ⟨fun _ => by rw [← hkq], fun q => absurd (hkq.trans q) hk0⟩ | ((try simp only [u_le, Decidable.not_not] at c_36 c_43 c_82 c_100); exact ⟨fun q => absurd hkq.symm q, fun _ => ⟨by rw [ei]; unfold gR_oi; simp [-Int32.not_lt, -Int32.not_le, c_36, c_43, c_82, c_100]; try rfl, rfl⟩⟩))
        · refine u_aload_n C dX11_ofIntake_85 rfl ?_
          refine u_getR (k2 := (Y + 34)) C gX11_ofIntake_86 rfl (mdl_is hY) (mdl_f34 hY) ?_
          refine u_iload_n C dX11_ofIntake_89 rfl ?_
          refine u_ialdN (i := i) C dX11_ofIntake_90 (a6_is (mdl_p34 hY)) (a6_n (mdl_p34 hY)) (by omega) (by decide) ?_
          refine u_goto (tgt := 108) C dX11_ofIntake_91 (by decide) ?_
          exact ret _ _ _ _ dX11_ofIntake_108  (by first | exact ⟨fun _ => by rw [← hkq], fun q => absurd (hkq.trans q) hk0⟩ | ((try simp only [u_le, Decidable.not_not] at c_36 c_43 c_82); exact ⟨fun q => absurd hkq.symm q, fun _ => ⟨by rw [ei]; unfold gR_oi; simp [-Int32.not_lt, -Int32.not_le, c_36, c_43, c_82]; try rfl, rfl⟩⟩))
      · refine u_iload_n C dX11_ofIntake_46 rfl ?_
        refine u_if_ne (tgt := 59) C dX11_ofIntake_47 (by decide) (fun c_47 => ?_) (fun c_47 => ?_)
        · refine u_iload_n C dX11_ofIntake_59 rfl ?_
          refine u_iconst (v := 1) C dX11_ofIntake_60 (by decide) ?_
          refine u_icmp_ne (tgt := 73) C dX11_ofIntake_61 (by decide) (fun c_61 => ?_) (fun c_61 => ?_)
          · refine u_aload_n C dX11_ofIntake_73 rfl ?_
            refine u_getR (k2 := (Y + 33)) C gX11_ofIntake_74 rfl (mdl_is hY) (mdl_f33 hY) ?_
            refine u_iload_n C dX11_ofIntake_77 rfl ?_
            refine u_ialdN (i := i) C dX11_ofIntake_78 (a6_is (mdl_p33 hY)) (a6_n (mdl_p33 hY)) (by omega) (by decide) ?_
            exact ret _ _ _ _ dX11_ofIntake_79  (by first | exact ⟨fun _ => by rw [← hkq], fun q => absurd (hkq.trans q) hk0⟩ | ((try simp only [u_le, Decidable.not_not] at c_36 c_43 c_47 c_61); exact ⟨fun q => absurd hkq.symm q, fun _ => ⟨by rw [ei]; unfold gR_oi; simp [-Int32.not_lt, -Int32.not_le, c_36, c_43, c_47, c_61]; try rfl, rfl⟩⟩))
          · refine u_aload_n C dX11_ofIntake_64 rfl ?_
            refine u_getR (k2 := (Y + 32)) C gX11_ofIntake_65 rfl (mdl_is hY) (mdl_f32 hY) ?_
            refine u_iload_n C dX11_ofIntake_68 rfl ?_
            refine u_ialdN (i := i) C dX11_ofIntake_69 (a6_is (mdl_p32 hY)) (a6_n (mdl_p32 hY)) (by omega) (by decide) ?_
            refine u_goto (tgt := 79) C dX11_ofIntake_70 (by decide) ?_
            exact ret _ _ _ _ dX11_ofIntake_79  (by first | exact ⟨fun _ => by rw [← hkq], fun q => absurd (hkq.trans q) hk0⟩ | ((try simp only [u_le, Decidable.not_not] at c_36 c_43 c_47 c_61); exact ⟨fun q => absurd hkq.symm q, fun _ => ⟨by rw [ei]; unfold gR_oi; simp [-Int32.not_lt, -Int32.not_le, c_36, c_43, c_47, c_61]; try rfl, rfl⟩⟩))
        · refine u_aload_n C dX11_ofIntake_50 rfl ?_
          refine u_getR (k2 := (Y + 31)) C gX11_ofIntake_51 rfl (mdl_is hY) (mdl_f31 hY) ?_
          refine u_iload_n C dX11_ofIntake_54 rfl ?_
          refine u_ialdN (i := i) C dX11_ofIntake_55 (a6_is (mdl_p31 hY)) (a6_n (mdl_p31 hY)) (by omega) (by decide) ?_
          refine u_goto (tgt := 79) C dX11_ofIntake_56 (by decide) ?_
          exact ret _ _ _ _ dX11_ofIntake_79  (by first | exact ⟨fun _ => by rw [← hkq], fun q => absurd (hkq.trans q) hk0⟩ | ((try simp only [u_le, Decidable.not_not] at c_36 c_43 c_47); exact ⟨fun q => absurd hkq.symm q, fun _ => ⟨by rw [ei]; unfold gR_oi; simp [-Int32.not_lt, -Int32.not_le, c_36, c_43, c_47]; try rfl, rfl⟩⟩))
    · have hk0 : ¬ kq = 0 := fun q => by rw [q, if_pos (show nI 0 = 0 from rfl)] at c_36; exact absurd c_36 (by decide)
      refine u_iconst (v := 0) C dX11_ofIntake_39 (by decide) ?_
      exact ret _ _ _ _ dX11_ofIntake_40  (by first | exact ⟨fun _ => by rw [← hkq], fun q => absurd (hkq.trans q) hk0⟩ | ((try simp only [u_le, Decidable.not_not] at c_36); exact ⟨fun q => absurd hkq.symm q, fun _ => ⟨by rw [ei]; unfold gR_oi; simp [-Int32.not_lt, -Int32.not_le, c_36]; try rfl, rfl⟩⟩))
  refine u_aload_n C dX11_ofIntake_0 rfl ?_
  refine u_iload_n C dX11_ofIntake_1 rfl ?_
  refine u_iconst (v := 0) C dX11_ofIntake_2 (by decide) ?_
  refine u_aload_n C dX11_ofIntake_3 rfl ?_
  refine u_getI C gX11_ofIntake_4 rfl (mdl_is hY) ?_
  refine u_iconst (v := 1) C dX11_ofIntake_7 (by decide) ?_
  refine u_isub C dX11_ofIntake_8 ?_
  refine u_calliS3 C es_X11_isIn dX11_ofIntake_9 ml_RX11_109 (c_X11_isIn l D G _ _ _ _  ) (by decide) (Nat.le_of_ble_eq_true rfl) (fun r_9 M_9 q_9 => ?_)
  obtain ⟨rfl, e_9⟩ := q_9
  subst M_9
  refine u_if_ne (tgt := 19) C dX11_ofIntake_12 (by decide) (fun c_12 => ?_) (fun c_12 => ?_)
  · refine u_iload_n C dX11_ofIntake_19 rfl ?_
    refine u_iconst (v := 0) C dX11_ofIntake_20 (by decide) ?_
    refine u_iconst (v := 4) C dX11_ofIntake_21 (by decide) ?_
    refine u_calliS3 C es_X11_isIn dX11_ofIntake_22 ml_RX11_109 (c_X11_isIn l D G _ _ _ _  ) (by decide) (Nat.le_of_ble_eq_true rfl) (fun r_22 M_22 q_22 => ?_)
    obtain ⟨rfl, e_22⟩ := q_22
    subst M_22
    refine u_if_eq (tgt := 32) C dX11_ofIntake_25 (by decide) (fun c_25 => ?_) (fun c_25 => ?_)
    · refine u_iconst (v := 2) C dX11_ofIntake_32 (by decide) ?_
      exact u_loc [0, 1, 2] rfl (J0 2 (by (try simp only [u_le, Decidable.not_not] at c_12 c_25); simp [-Int32.not_lt, -Int32.not_le, gk_oin, u_le, c_12, c_25]) (by decide))
    · refine u_iconst (v := 0) C dX11_ofIntake_28 (by decide) ?_
      refine u_goto (tgt := 33) C dX11_ofIntake_29 (by decide) ?_
      exact u_loc [0, 1, 2] rfl (J0 0 (by (try simp only [u_le, Decidable.not_not] at c_12 c_25); simp [-Int32.not_lt, -Int32.not_le, gk_oin, u_le, c_12, c_25]) (by decide))
  · refine u_iconst (v := 1) C dX11_ofIntake_15 (by decide) ?_
    refine u_goto (tgt := 33) C dX11_ofIntake_16 (by decide) ?_
    exact u_loc [0, 1, 2] rfl (J0 1 (by (try simp only [u_le, Decidable.not_not] at c_12); simp [-Int32.not_lt, -Int32.not_le, gk_oin, u_le, c_12]) (by decide))
set_option maxHeartbeats 1000000 in
set_option maxRecDepth 100000 in
theorem c_X11_closure (l : Launch) (D : va_G) (G : w_G) (M : w_M) (Y : Nat) (v : Int32) (w : Int32) (hY : L_mdl G (Y)) (ok : okM M Y) : u_Mi l D G yX11_closure cX11_closure 3 (some .int) 1 22 [.ref (gP G Y), .int v, .int w] M (fun r M' => (¬ gk_clo v (iv M Y 12) w = 0 → M' = wi M Y 0 (nI (gk_clo v (iv M Y 12) w))) ∧ (gk_clo v (iv M Y 12) w = 0 → r = gR_cl (wi M Y 0 0) Y (cN v) w ∧ M' = (wi M Y 0 0))) := by
  obtain ⟨okS9, o16, o25, o36, o12, o11, oA, oI, oO⟩ := id ok
  obtain ⟨o1, o3, o5, oT⟩ := id okS9
  obtain ⟨o1a, o1b⟩ := cB_le o1 (by decide)
  obtain ⟨o3a, o3b⟩ := cB_le o3 (by decide)
  obtain ⟨o5a, o5b⟩ := cB_le o5 (by decide)
  obtain ⟨o11a, o11b⟩ := cB_le o11 (by decide)
  obtain ⟨o12a, o12b⟩ := cB_le o12 (by decide)
  obtain ⟨o16a, o16b⟩ := cB_le o16 (by decide)
  obtain ⟨o25a, o25b⟩ := cB_le o25 (by decide)
  obtain ⟨o36a, o36b⟩ := cB_le o36 (by decide)
  refine u_bodyi (by decide +kernel) (Nat.le_of_ble_eq_true rfl) rfl (fun p e s m args below meth c A H0 Q C ret => ?_)
  have J0 : ∀ kq : Nat, kq = gk_clo v (iv M Y 12) w → kq < 4 → u_S p l e (u_rm 1 22) s m args below meth c 3 D A H0 0 0 Q 33 [(0, .ref (gP G Y)), (1, .int v), (2, .int w)] [.int (nI kq), .ref (gP G Y)] G M := by
    intro kq hkq hk4
    refine u_calliV1 C ev_X11_holds dX11_closure_33 ml_RX11_116 (mdl_is hY) rfl (by decide) (c_X11_holds l D G _ _ _ hY ) (by decide) (Nat.le_of_ble_eq_true rfl) (fun r_33 M_33 q_33 => ?_)
    obtain ⟨rfl, e_33⟩ := q_33
    subst M_33
    refine u_if_ne (tgt := 41) C dX11_closure_36 (by decide) (fun c_36 => ?_) (fun c_36 => ?_)
    · obtain rfl : kq = 0 := by rcases Nat.eq_zero_or_pos kq with q | q; exact q; exact absurd (if_neg (nI_ne0 q (by omega))) c_36
      rw [show nI 0 = (0 : Int32) from rfl]
      have hs9 : ¬ fW v 0 (iv M Y 12 - 1) = 0 := fun q => absurd hkq.symm (by rw [gk_clo]; simp [q])
      obtain ⟨i, hin, rfl⟩ := u_fWm (n := cN (iv M Y 12)) (by omega) (by rw [← o12a]; exact hs9)
      have ei : cN (nI i) = i := cN_nI (by omega)
      refine u_iload_n C dX11_closure_41 rfl ?_
      refine u_if_ne (tgt := 54) C dX11_closure_42 (by decide) (fun c_42 => ?_) (fun c_42 => ?_)
      · refine u_iload_n C dX11_closure_54 rfl ?_
        refine u_iconst (v := 1) C dX11_closure_55 (by decide) ?_
        refine u_icmp_ne (tgt := 68) C dX11_closure_56 (by decide) (fun c_56 => ?_) (fun c_56 => ?_)
        · refine u_aload_n C dX11_closure_68 rfl ?_
          refine u_getR (k2 := (Y + 15)) C gX11_closure_69 rfl (mdl_is hY) (mdl_f15 hY) ?_
          refine u_iload_n C dX11_closure_72 rfl ?_
          refine u_zaldN (i := i) C dX11_closure_73 (z1001_is (mdl_p15 hY)) (z1001_n (mdl_p15 hY)) (by omega) (by decide) ?_
          refine u_if_eq (tgt := 81) C dX11_closure_74 (by decide) (fun c_74 => ?_) (fun c_74 => ?_)
          · refine u_iconst (v := 0) C dX11_closure_81 (by decide) ?_
            exact ret _ _ _ _ dX11_closure_82  (by first | exact ⟨fun _ => by rw [← hkq], fun q => absurd (hkq.trans q) hk0⟩ | ((try simp only [u_le, Decidable.not_not] at c_36 c_42 c_56 c_74); exact ⟨fun q => absurd hkq.symm q, fun _ => ⟨by rw [ei]; unfold gR_cl; simp [-Int32.not_lt, -Int32.not_le, c_36, c_42, c_56, c_74]; try rfl, rfl⟩⟩))
          · refine u_iconst (v := 1) C dX11_closure_77 (by decide) ?_
            refine u_goto (tgt := 82) C dX11_closure_78 (by decide) ?_
            exact ret _ _ _ _ dX11_closure_82  (by first | exact ⟨fun _ => by rw [← hkq], fun q => absurd (hkq.trans q) hk0⟩ | ((try simp only [u_le, Decidable.not_not] at c_36 c_42 c_56 c_74); exact ⟨fun q => absurd hkq.symm q, fun _ => ⟨by rw [ei]; unfold gR_cl; simp [-Int32.not_lt, -Int32.not_le, c_36, c_42, c_56, c_74]; try rfl, rfl⟩⟩))
        · refine u_aload_n C dX11_closure_59 rfl ?_
          refine u_getR (k2 := (Y + 14)) C gX11_closure_60 rfl (mdl_is hY) (mdl_f14 hY) ?_
          refine u_iload_n C dX11_closure_63 rfl ?_
          refine u_ialdN (i := i) C dX11_closure_64 (a1001_is (mdl_p14 hY)) (a1001_n (mdl_p14 hY)) (by omega) (by decide) ?_
          refine u_goto (tgt := 82) C dX11_closure_65 (by decide) ?_
          exact ret _ _ _ _ dX11_closure_82  (by first | exact ⟨fun _ => by rw [← hkq], fun q => absurd (hkq.trans q) hk0⟩ | ((try simp only [u_le, Decidable.not_not] at c_36 c_42 c_56); exact ⟨fun q => absurd hkq.symm q, fun _ => ⟨by rw [ei]; unfold gR_cl; simp [-Int32.not_lt, -Int32.not_le, c_36, c_42, c_56]; try rfl, rfl⟩⟩))
      · refine u_aload_n C dX11_closure_45 rfl ?_
        refine u_getR (k2 := (Y + 13)) C gX11_closure_46 rfl (mdl_is hY) (mdl_f13 hY) ?_
        refine u_iload_n C dX11_closure_49 rfl ?_
        refine u_ialdN (i := i) C dX11_closure_50 (a1001_is (mdl_p13 hY)) (a1001_n (mdl_p13 hY)) (by omega) (by decide) ?_
        refine u_goto (tgt := 82) C dX11_closure_51 (by decide) ?_
        exact ret _ _ _ _ dX11_closure_82  (by first | exact ⟨fun _ => by rw [← hkq], fun q => absurd (hkq.trans q) hk0⟩ | ((try simp only [u_le, Decidable.not_not] at c_36 c_42); exact ⟨fun q => absurd hkq.symm q, fun _ => ⟨by rw [ei]; unfold gR_cl; simp [-Int32.not_lt, -Int32.not_le, c_36, c_42]; try rfl, rfl⟩⟩))
    · have hk0 : ¬ kq = 0 := fun q => by rw [q, if_pos (show nI 0 = 0 from rfl)] at c_36; exact absurd c_36 (by decide)
      refine u_iconst (v := 0) C dX11_closure_39 (by decide) ?_
      exact ret _ _ _ _ dX11_closure_40  (by first | exact ⟨fun _ => by rw [← hkq], fun q => absurd (hkq.trans q) hk0⟩ | ((try simp only [u_le, Decidable.not_not] at c_36); exact ⟨fun q => absurd hkq.symm q, fun _ => ⟨by rw [ei]; unfold gR_cl; simp [-Int32.not_lt, -Int32.not_le, c_36]; try rfl, rfl⟩⟩))
  refine u_aload_n C dX11_closure_0 rfl ?_
  refine u_iload_n C dX11_closure_1 rfl ?_
  refine u_iconst (v := 0) C dX11_closure_2 (by decide) ?_
  refine u_aload_n C dX11_closure_3 rfl ?_
  refine u_getI C gX11_closure_4 rfl (mdl_is hY) ?_
  refine u_iconst (v := 1) C dX11_closure_7 (by decide) ?_
  refine u_isub C dX11_closure_8 ?_
  refine u_calliS3 C es_X11_isIn dX11_closure_9 ml_RX11_109 (c_X11_isIn l D G _ _ _ _  ) (by decide) (Nat.le_of_ble_eq_true rfl) (fun r_9 M_9 q_9 => ?_)
  obtain ⟨rfl, e_9⟩ := q_9
  subst M_9
  refine u_if_ne (tgt := 19) C dX11_closure_12 (by decide) (fun c_12 => ?_) (fun c_12 => ?_)
  · refine u_iload_n C dX11_closure_19 rfl ?_
    refine u_iconst (v := 0) C dX11_closure_20 (by decide) ?_
    refine u_iconst (v := 2) C dX11_closure_21 (by decide) ?_
    refine u_calliS3 C es_X11_isIn dX11_closure_22 ml_RX11_109 (c_X11_isIn l D G _ _ _ _  ) (by decide) (Nat.le_of_ble_eq_true rfl) (fun r_22 M_22 q_22 => ?_)
    obtain ⟨rfl, e_22⟩ := q_22
    subst M_22
    refine u_if_eq (tgt := 32) C dX11_closure_25 (by decide) (fun c_25 => ?_) (fun c_25 => ?_)
    · refine u_iconst (v := 2) C dX11_closure_32 (by decide) ?_
      exact u_loc [0, 1, 2] rfl (J0 2 (by (try simp only [u_le, Decidable.not_not] at c_12 c_25); simp [-Int32.not_lt, -Int32.not_le, gk_clo, u_le, c_12, c_25]) (by decide))
    · refine u_iconst (v := 0) C dX11_closure_28 (by decide) ?_
      refine u_goto (tgt := 33) C dX11_closure_29 (by decide) ?_
      exact u_loc [0, 1, 2] rfl (J0 0 (by (try simp only [u_le, Decidable.not_not] at c_12 c_25); simp [-Int32.not_lt, -Int32.not_le, gk_clo, u_le, c_12, c_25]) (by decide))
  · refine u_iconst (v := 1) C dX11_closure_15 (by decide) ?_
    refine u_goto (tgt := 33) C dX11_closure_16 (by decide) ?_
    exact u_loc [0, 1, 2] rfl (J0 1 (by (try simp only [u_le, Decidable.not_not] at c_12); simp [-Int32.not_lt, -Int32.not_le, gk_clo, u_le, c_12]) (by decide))
set_option maxHeartbeats 1000000 in
set_option maxRecDepth 100000 in
theorem c_X11_sum (l : Launch) (D : va_G) (G : w_G) (M : w_M) (Y : Nat) (w : Int32) (hY : L_mdl G (Y)) (ok : okM M Y) : u_Ml l D G yX11_sum cX11_sum 2 (some .long) 1 22 [.ref (gP G Y), .int w] M (fun r M' => (¬ kc_sum w = 0 → M' = wi M Y 0 (nI (kc_sum w))) ∧ (kc_sum w = 0 → r = jv (wi M Y 0 0) (Y + 40) (cN w) ∧ M' = (wi M Y 0 0))) := by
  obtain ⟨okS9, o16, o25, o36, o12, o11, oA, oI, oO⟩ := id ok
  obtain ⟨o1, o3, o5, oT⟩ := id okS9
  obtain ⟨o1a, o1b⟩ := cB_le o1 (by decide)
  obtain ⟨o3a, o3b⟩ := cB_le o3 (by decide)
  obtain ⟨o5a, o5b⟩ := cB_le o5 (by decide)
  obtain ⟨o11a, o11b⟩ := cB_le o11 (by decide)
  obtain ⟨o12a, o12b⟩ := cB_le o12 (by decide)
  obtain ⟨o16a, o16b⟩ := cB_le o16 (by decide)
  obtain ⟨o25a, o25b⟩ := cB_le o25 (by decide)
  obtain ⟨o36a, o36b⟩ := cB_le o36 (by decide)
  refine u_bodyl (by decide +kernel) (Nat.le_of_ble_eq_true rfl) rfl (fun p e s m args below meth c A H0 Q C ret => ?_)
  have J0 : ∀ kq : Nat, kq = kc_sum w → kq < 4 → u_S p l e (u_rm 1 22) s m args below meth c 2 D A H0 0 0 Q 16 [(0, .ref (gP G Y)), (1, .int w)] [.int (nI kq), .ref (gP G Y)] G M := by
    intro kq hkq hk4
    refine u_calliV1 C ev_X11_holds dX11_sum_16 ml_RX11_116 (mdl_is hY) rfl (by decide) (c_X11_holds l D G _ _ _ hY ) (by decide) (Nat.le_of_ble_eq_true rfl) (fun r_16 M_16 q_16 => ?_)
    obtain ⟨rfl, e_16⟩ := q_16
    subst M_16
    refine u_if_eq (tgt := 31) C dX11_sum_19 (by decide) (fun c_19 => ?_) (fun c_19 => ?_)
    · have hk0 : ¬ kq = 0 := fun q => by rw [q, if_pos (show nI 0 = 0 from rfl)] at c_19; exact absurd c_19 (by decide)
      refine u_lconst (v := 0) C dX11_sum_31 (by decide) ?_
      exact ret _ _ _ _ dX11_sum_32  (by first | exact ⟨fun _ => by rw [← hkq], fun q => absurd (hkq.trans q) hk0⟩ | exact ⟨fun q => absurd hkq.symm q, fun _ => ⟨by rw [cN_nI (by omega)], rfl⟩⟩)
    · obtain rfl : kq = 0 := by rcases Nat.eq_zero_or_pos kq with q | q; exact q; exact absurd (if_neg (nI_ne0 q (by omega))) c_19
      rw [show nI 0 = (0 : Int32) from rfl]
      have hw9 : ¬ fW w 0 9 = 0 := fun q => absurd hkq.symm (by rw [kc_sum, if_pos q]; decide)
      obtain ⟨t, ht2, rfl⟩ := u_fWn (n := 9) rfl hw9
      refine u_aload_n C dX11_sum_22 rfl ?_
      refine u_getR (k2 := (Y + 40)) C gX11_sum_23 rfl (mdl_is hY) (mdl_f40 hY) ?_
      refine u_iload_n C dX11_sum_26 rfl ?_
      refine u_laldN (i := t) C dX11_sum_27 (j10_is (mdl_p40 hY)) (j10_n (mdl_p40 hY)) (by omega) (by decide) ?_
      refine u_goto (tgt := 32) C dX11_sum_28 (by decide) ?_
      exact ret _ _ _ _ dX11_sum_32  (by first | exact ⟨fun _ => by rw [← hkq], fun q => absurd (hkq.trans q) hk0⟩ | exact ⟨fun q => absurd hkq.symm q, fun _ => ⟨by rw [cN_nI (by omega)], rfl⟩⟩)
  refine u_aload_n C dX11_sum_0 rfl ?_
  refine u_iload_n C dX11_sum_1 rfl ?_
  refine u_iconst (v := 0) C dX11_sum_2 (by decide) ?_
  refine u_bipush (v := 9) C dX11_sum_3 (by decide) ?_
  refine u_calliS3 C es_X11_isIn dX11_sum_5 ml_RX11_109 (c_X11_isIn l D G _ _ _ _  ) (by decide) (Nat.le_of_ble_eq_true rfl) (fun r_5 M_5 q_5 => ?_)
  obtain ⟨rfl, e_5⟩ := q_5
  subst M_5
  refine u_if_eq (tgt := 15) C dX11_sum_8 (by decide) (fun c_8 => ?_) (fun c_8 => ?_)
  · refine u_iconst (v := 1) C dX11_sum_15 (by decide) ?_
    exact u_loc [0, 1] rfl (J0 1 (by (try simp only [u_le, Decidable.not_not] at c_8); simp [-Int32.not_lt, -Int32.not_le, kc_sum, u_le, c_8]) (by decide))
  · refine u_iconst (v := 0) C dX11_sum_11 (by decide) ?_
    refine u_goto (tgt := 16) C dX11_sum_12 (by decide) ?_
    exact u_loc [0, 1] rfl (J0 0 (by (try simp only [u_le, Decidable.not_not] at c_8); simp [-Int32.not_lt, -Int32.not_le, kc_sum, u_le, c_8]) (by decide))
set_option maxHeartbeats 1000000 in
set_option maxRecDepth 100000 in
theorem c_X11_dredge (l : Launch) (D : va_G) (G : w_G) (M : w_M) (Y : Nat) (v : Int32) (a : Int32) (to : Int32) (hY : L_mdl G (Y)) (ok : okM M Y) : u_Mi l D G yX11_dredge cX11_dredge 5 (some .int) 2 43 [.ref (gP G Y), .int v, .int a, .int to] M (fun r M' => (¬ gk_dre (g_has M Y v) (g_has M Y to) v a to (g_why M Y (cN v) a) = 0 → M' = wi M Y 0 (nI (gk_dre (g_has M Y v) (g_has M Y to) v a to (g_why M Y (cN v) a)))) ∧ (gk_dre (g_has M Y v) (g_has M Y to) v a to (g_why M Y (cN v) a) = 0 → r = iv (gE_dre (wi M Y 0 0) Y (cN v) a to) (Y + 21) (cN v) ∧ M' = gE_dre (wi M Y 0 0) Y (cN v) a to)) := by
  obtain ⟨okS9, o16, o25, o36, o12, o11, oA, oI, oO⟩ := id ok
  obtain ⟨o1, o3, o5, oT⟩ := id okS9
  obtain ⟨o1a, o1b⟩ := cB_le o1 (by decide)
  obtain ⟨o3a, o3b⟩ := cB_le o3 (by decide)
  obtain ⟨o5a, o5b⟩ := cB_le o5 (by decide)
  obtain ⟨o11a, o11b⟩ := cB_le o11 (by decide)
  obtain ⟨o12a, o12b⟩ := cB_le o12 (by decide)
  obtain ⟨o16a, o16b⟩ := cB_le o16 (by decide)
  obtain ⟨o25a, o25b⟩ := cB_le o25 (by decide)
  obtain ⟨o36a, o36b⟩ := cB_le o36 (by decide)
  refine u_bodyi (by decide +kernel) (Nat.le_of_ble_eq_true rfl) rfl (fun p e s m args below meth c A H0 Q C ret => ?_)
  have J0 : ∀ kq : Nat, kq = gk_dre (g_has M Y v) (g_has M Y to) v a to (g_why M Y (cN v) a) → kq < 4 → u_S p l e (u_rm 2 43) s m args below meth c 5 D A H0 0 0 Q 72 [(0, .ref (gP G Y)), (1, .int v), (2, .int a), (3, .int to)] [.int (nI kq), .ref (gP G Y)] G M := by
    intro kq hkq hk4
    refine u_calliV1 C ev_X11_holds dX11_dredge_72 ml_RX11_116 (mdl_is hY) rfl (by decide) (c_X11_holds l D G _ _ _ hY ) (by decide) (Nat.le_of_ble_eq_true rfl) (fun r_72 M_72 q_72 => ?_)
    obtain ⟨rfl, e_72⟩ := q_72
    subst M_72
    refine u_if_ne (tgt := 80) C dX11_dredge_75 (by decide) (fun c_75 => ?_) (fun c_75 => ?_)
    · obtain rfl : kq = 0 := by rcases Nat.eq_zero_or_pos kq with q | q; exact q; exact absurd (if_neg (nI_ne0 q (by omega))) c_75
      rw [show nI 0 = (0 : Int32) from rfl]
      have hs9 : ¬ g_has M Y v = 0 := fun q => absurd hkq.symm (by rw [gk_dre]; simp [q])
      obtain ⟨i, hin, rfl⟩ := u_fWm (n := cN (iv M Y 16)) (by omega) (by rw [← o16a]; exact hs9)
      have ei : cN (nI i) = i := cN_nI (by omega)
      have hto : to = -1 ∨ ∃ j, j < cN (iv M Y 16) ∧ to = nI j := by by_cases q : to = -1; exact Or.inl q; exact Or.inr (u_fWm (n := cN (iv M Y 16)) (by omega) (fun z => absurd hkq.symm (by rw [← o16a] at z; rw [gk_dre, if_pos (Or.inr ⟨q, z⟩)]; decide)))
      refine u_aload_n C dX11_dredge_80 rfl ?_
      refine u_getR (k2 := (Y + 21)) C gX11_dredge_81 rfl (mdl_is hY) (mdl_f21 hY) ?_
      refine u_iload_n C dX11_dredge_84 rfl ?_
      refine u_dup2 C dX11_dredge_85 rfl rfl ?_
      refine u_ialdN (i := i) C dX11_dredge_86 (a8_is (mdl_p21 hY)) (a8_n (mdl_p21 hY)) (by omega) (by decide) ?_
      refine u_iload_n C dX11_dredge_87 rfl ?_
      refine u_isub C dX11_dredge_88 ?_
      refine u_iastN (i := i) C dX11_dredge_89 (a8_is (mdl_p21 hY)) (a8_n (mdl_p21 hY)) (by omega) (by decide) ?_
      refine u_aload_n C dX11_dredge_90 rfl ?_
      refine u_getR (k2 := (Y + 18)) C gX11_dredge_91 rfl (mdl_is hY) (mdl_f18 hY) ?_
      refine u_iload_n C dX11_dredge_94 rfl ?_
      refine u_dup2 C dX11_dredge_95 rfl rfl ?_
      refine u_ialdN (i := i) C dX11_dredge_96 (a8_is (mdl_p18 hY)) (a8_n (mdl_p18 hY)) (by omega) (by decide) ?_
      refine u_iload_n C dX11_dredge_97 rfl ?_
      refine u_isub C dX11_dredge_98 ?_
      refine u_iastN (i := i) C dX11_dredge_99 (a8_is (mdl_p18 hY)) (a8_n (mdl_p18 hY)) (by omega) (by decide) ?_
      refine u_iload_n C dX11_dredge_100 rfl ?_
      refine u_iconst (v := (-1)) C dX11_dredge_101 (by decide) ?_
      refine u_icmp_ne (tgt := 120) C dX11_dredge_102 (by decide) (fun c_102 => ?_) (fun c_102 => ?_)
      · obtain ⟨j, hjn, rfl⟩ : ∃ j, j < cN (iv M Y 16) ∧ to = nI j := by rcases hto with q | q; exact absurd q c_102; exact q
        have ej : cN (nI j) = j := cN_nI (by omega)
        refine u_aload_n C dX11_dredge_120 rfl ?_
        refine u_getR (k2 := (Y + 19)) C gX11_dredge_121 rfl (mdl_is hY) (mdl_f19 hY) ?_
        refine u_iload_n C dX11_dredge_124 rfl ?_
        refine u_dup2 C dX11_dredge_125 rfl rfl ?_
        refine u_ialdN (i := j) C dX11_dredge_126 (a8_is (mdl_p19 hY)) (a8_n (mdl_p19 hY)) (by omega) (by decide) ?_
        refine u_iload_n C dX11_dredge_127 rfl ?_
        refine u_iadd C dX11_dredge_128 ?_
        refine u_iastN (i := j) C dX11_dredge_129 (a8_is (mdl_p19 hY)) (a8_n (mdl_p19 hY)) (by omega) (by decide) ?_
        refine u_aload_n C dX11_dredge_130 rfl ?_
        refine u_getR (k2 := (Y + 21)) C gX11_dredge_131 rfl (mdl_is hY) (mdl_f21 hY) ?_
        refine u_iload_n C dX11_dredge_134 rfl ?_
        refine u_ialdN (i := i) C dX11_dredge_135 (a8_is (mdl_p21 hY)) (a8_n (mdl_p21 hY)) (by omega) (by decide) ?_
        exact ret _ _ _ _ dX11_dredge_136  (by first | exact ⟨fun _ => by rw [← hkq], fun q => absurd (hkq.trans q) hk0⟩ | ((try simp only [u_le, Decidable.not_not] at c_75 c_102); first | (exact ⟨fun q => absurd hkq.symm q, fun _ => ⟨by rw [ei]; unfold gE_dre; rw [if_pos c_102]; rfl, by rw [ei]; unfold gE_dre; rw [if_pos c_102]; rfl⟩⟩) | (exact ⟨fun q => absurd hkq.symm q, fun _ => ⟨by rw [ei]; unfold gE_dre; rw [if_neg c_102, ej]; rfl, by rw [ei]; unfold gE_dre; rw [if_neg c_102, ej]; rfl⟩⟩)))
      · refine u_aload_n C dX11_dredge_105 rfl ?_
        refine u_getR (k2 := (Y + 40)) C gX11_dredge_106 rfl (mdl_is hY) (mdl_f40 hY) ?_
        refine u_bipush (v := (nI 9)) C dX11_dredge_109 (by decide) ?_
        refine u_dup2 C dX11_dredge_111 rfl rfl ?_
        refine u_laldN (i := 9) C dX11_dredge_112 (j10_is (mdl_p40 hY)) (j10_n (mdl_p40 hY)) (by omega) (by decide) ?_
        refine u_iload_n C dX11_dredge_113 rfl ?_
        refine u_i2l C dX11_dredge_114 ?_
        refine u_ladd C dX11_dredge_115 ?_
        refine u_lastN (i := 9) C dX11_dredge_116 (j10_is (mdl_p40 hY)) (j10_n (mdl_p40 hY)) (by omega) (by decide) ?_
        refine u_goto (tgt := 130) C dX11_dredge_117 (by decide) ?_
        refine u_aload_n C dX11_dredge_130 rfl ?_
        refine u_getR (k2 := (Y + 21)) C gX11_dredge_131 rfl (mdl_is hY) (mdl_f21 hY) ?_
        refine u_iload_n C dX11_dredge_134 rfl ?_
        refine u_ialdN (i := i) C dX11_dredge_135 (a8_is (mdl_p21 hY)) (a8_n (mdl_p21 hY)) (by omega) (by decide) ?_
        exact ret _ _ _ _ dX11_dredge_136  (by first | exact ⟨fun _ => by rw [← hkq], fun q => absurd (hkq.trans q) hk0⟩ | ((try simp only [u_le, Decidable.not_not] at c_75 c_102); first | (exact ⟨fun q => absurd hkq.symm q, fun _ => ⟨by rw [ei]; unfold gE_dre; rw [if_pos c_102]; rfl, by rw [ei]; unfold gE_dre; rw [if_pos c_102]; rfl⟩⟩) | (exact ⟨fun q => absurd hkq.symm q, fun _ => ⟨by rw [ei]; unfold gE_dre; rw [if_neg c_102, ej]; rfl, by rw [ei]; unfold gE_dre; rw [if_neg c_102, ej]; rfl⟩⟩)))
    · have hk0 : ¬ kq = 0 := fun q => by rw [q, if_pos (show nI 0 = 0 from rfl)] at c_75; exact absurd c_75 (by decide)
      refine u_iconst (v := 0) C dX11_dredge_78 (by decide) ?_
      exact ret _ _ _ _ dX11_dredge_79  (by first | exact ⟨fun _ => by rw [← hkq], fun q => absurd (hkq.trans q) hk0⟩ | ((try simp only [u_le, Decidable.not_not] at c_75); first | (exact ⟨fun q => absurd hkq.symm q, fun _ => ⟨by rw [ei]; unfold gE_dre; rw [if_pos c_102]; rfl, by rw [ei]; unfold gE_dre; rw [if_pos c_102]; rfl⟩⟩) | (exact ⟨fun q => absurd hkq.symm q, fun _ => ⟨by rw [ei]; unfold gE_dre; rw [if_neg c_102, ej]; rfl, by rw [ei]; unfold gE_dre; rw [if_neg c_102, ej]; rfl⟩⟩)))
  refine u_aload_n C dX11_dredge_0 rfl ?_
  refine u_iload_n C dX11_dredge_1 rfl ?_
  refine u_calliV1 C ev_X11_isSection dX11_dredge_2 ml_RX11_139 (mdl_is hY) rfl (by decide) (c_X11_isSection l D G _ _ _ hY ) (by decide) (Nat.le_of_ble_eq_true rfl) (fun r_2 M_2 q_2 => ?_)
  obtain ⟨rfl, e_2⟩ := q_2
  subst M_2
  refine u_if_eq (tgt := 25) C dX11_dredge_5 (by decide) (fun c_5 => ?_) (fun c_5 => ?_)
  · refine u_iconst (v := 0) C dX11_dredge_25 (by decide) ?_
    refine u_istore C dX11_dredge_26 (by decide) ?_
    refine u_aload_n C dX11_dredge_28 rfl ?_
    refine u_iload C dX11_dredge_29 rfl ?_
    refine u_if_ne (tgt := 38) C dX11_dredge_31 (by decide) (fun c_31 => ?_) (fun c_31 => ?_)
    · exact absurd c_31 (by decide)
    · refine u_iconst (v := 1) C dX11_dredge_34 (by decide) ?_
      refine u_goto (tgt := 72) C dX11_dredge_35 (by decide) ?_
      exact u_loc [0, 1, 2, 3] rfl (J0 1 (by (try simp only [u_le, Decidable.not_not] at c_5 c_31); rw [gk_dre]; exact (if_pos (by first | exact Or.inl c_5 | exact Or.inr ⟨c_10, c_18⟩)).symm) (by decide))
  · refine u_iload_n C dX11_dredge_8 rfl ?_
    refine u_iconst (v := (-1)) C dX11_dredge_9 (by decide) ?_
    refine u_icmp_eq (tgt := 21) C dX11_dredge_10 (by decide) (fun c_10 => ?_) (fun c_10 => ?_)
    · refine u_iconst (v := 1) C dX11_dredge_21 (by decide) ?_
      refine u_goto (tgt := 26) C dX11_dredge_22 (by decide) ?_
      refine u_istore C dX11_dredge_26 (by decide) ?_
      refine u_aload_n C dX11_dredge_28 rfl ?_
      refine u_iload C dX11_dredge_29 rfl ?_
      refine u_if_ne (tgt := 38) C dX11_dredge_31 (by decide) (fun c_31 => ?_) (fun c_31 => ?_)
      · refine u_iload_n C dX11_dredge_38 rfl ?_
        refine u_iconst (v := 1) C dX11_dredge_39 (by decide) ?_
        refine u_sipush (v := 10000) C dX11_dredge_40 (by decide) ?_
        refine u_calliS3 C es_X11_isIn dX11_dredge_43 ml_RX11_109 (c_X11_isIn l D G _ _ _ _  ) (by decide) (Nat.le_of_ble_eq_true rfl) (fun r_43 M_43 q_43 => ?_)
        obtain ⟨rfl, e_43⟩ := q_43
        subst M_43
        refine u_if_eq (tgt := 54) C dX11_dredge_46 (by decide) (fun c_46 => ?_) (fun c_46 => ?_)
        · refine u_iconst (v := 2) C dX11_dredge_54 (by decide) ?_
          refine u_goto (tgt := 72) C dX11_dredge_55 (by decide) ?_
          exact u_loc [0, 1, 2, 3] rfl (J0 2 (by (try simp only [u_le, Decidable.not_not] at c_5 c_10 c_31 c_46); rw [gk_dre]; exact ((if_neg (by rintro (z | z); exact c_5 z; first | exact z.1 c_10 | exact c_18 z.2)).trans (if_pos (by first | exact Or.inl c_46 | exact Or.inr c_51))).symm) (by decide))
        · refine u_iload_n C dX11_dredge_49 rfl ?_
          refine u_iload_n C dX11_dredge_50 rfl ?_
          refine u_icmp_ne (tgt := 58) C dX11_dredge_51 (by decide) (fun c_51 => ?_) (fun c_51 => ?_)
          · obtain ⟨i0, hin0, hi0⟩ := u_fWm (n := cN (iv M Y 16)) (by omega) (by rw [← o16a]; exact c_5)
            subst hi0
            refine u_aload_n C dX11_dredge_58 rfl ?_
            refine u_iload_n C dX11_dredge_59 rfl ?_
            refine u_iload_n C dX11_dredge_60 rfl ?_
            refine u_calliV2 C ev_X11_why dX11_dredge_61 ml_RX11_148 (mdl_is hY) rfl (by decide) (c_X11_why l D G _ _ _ _ hY (by omega)) (by decide) (Nat.le_of_ble_eq_true rfl) (fun r_61 M_61 q_61 => ?_)
            obtain ⟨rfl, e_61⟩ := q_61
            subst M_61
            refine u_if_le (tgt := 71) C dX11_dredge_64 (by decide) (fun c_64 => ?_) (fun c_64 => ?_)
            · refine u_iconst (v := 0) C dX11_dredge_71 (by decide) ?_
              exact u_loc [0, 1, 2, 3] rfl (J0 0 (by (try simp only [u_le, Decidable.not_not] at c_5 c_10 c_31 c_46 c_51 c_64); rw [gk_dre, show cN (nI i0) = i0 from cN_nI (by omega)]; exact ((if_neg (by rintro (z | z); exact c_5 z; first | exact z.1 c_10 | exact c_18 z.2)).trans ((if_neg (by rintro (z | z); exact c_46 z; exact c_51 z)).trans (if_neg c_64))).symm) (by decide))
            · refine u_iconst (v := 3) C dX11_dredge_67 (by decide) ?_
              refine u_goto (tgt := 72) C dX11_dredge_68 (by decide) ?_
              exact u_loc [0, 1, 2, 3] rfl (J0 3 (by (try simp only [u_le, Decidable.not_not] at c_5 c_10 c_31 c_46 c_51 c_64); rw [gk_dre, show cN (nI i0) = i0 from cN_nI (by omega)]; exact ((if_neg (by rintro (z | z); exact c_5 z; first | exact z.1 c_10 | exact c_18 z.2)).trans ((if_neg (by rintro (z | z); exact c_46 z; exact c_51 z)).trans (if_pos c_64))).symm) (by decide))
          · refine u_iconst (v := 2) C dX11_dredge_54 (by decide) ?_
            refine u_goto (tgt := 72) C dX11_dredge_55 (by decide) ?_
            exact u_loc [0, 1, 2, 3] rfl (J0 2 (by (try simp only [u_le, Decidable.not_not] at c_5 c_10 c_31 c_46 c_51); rw [gk_dre]; exact ((if_neg (by rintro (z | z); exact c_5 z; first | exact z.1 c_10 | exact c_18 z.2)).trans (if_pos (by first | exact Or.inl c_46 | exact Or.inr c_51))).symm) (by decide))
      · exact absurd c_31 (by decide)
    · refine u_aload_n C dX11_dredge_13 rfl ?_
      refine u_iload_n C dX11_dredge_14 rfl ?_
      refine u_calliV1 C ev_X11_isSection dX11_dredge_15 ml_RX11_139 (mdl_is hY) rfl (by decide) (c_X11_isSection l D G _ _ _ hY ) (by decide) (Nat.le_of_ble_eq_true rfl) (fun r_15 M_15 q_15 => ?_)
      obtain ⟨rfl, e_15⟩ := q_15
      subst M_15
      refine u_if_eq (tgt := 25) C dX11_dredge_18 (by decide) (fun c_18 => ?_) (fun c_18 => ?_)
      · refine u_iconst (v := 0) C dX11_dredge_25 (by decide) ?_
        refine u_istore C dX11_dredge_26 (by decide) ?_
        refine u_aload_n C dX11_dredge_28 rfl ?_
        refine u_iload C dX11_dredge_29 rfl ?_
        refine u_if_ne (tgt := 38) C dX11_dredge_31 (by decide) (fun c_31 => ?_) (fun c_31 => ?_)
        · exact absurd c_31 (by decide)
        · refine u_iconst (v := 1) C dX11_dredge_34 (by decide) ?_
          refine u_goto (tgt := 72) C dX11_dredge_35 (by decide) ?_
          exact u_loc [0, 1, 2, 3] rfl (J0 1 (by (try simp only [u_le, Decidable.not_not] at c_5 c_10 c_18 c_31); rw [gk_dre]; exact (if_pos (by first | exact Or.inl c_5 | exact Or.inr ⟨c_10, c_18⟩)).symm) (by decide))
      · refine u_iconst (v := 1) C dX11_dredge_21 (by decide) ?_
        refine u_goto (tgt := 26) C dX11_dredge_22 (by decide) ?_
        refine u_istore C dX11_dredge_26 (by decide) ?_
        refine u_aload_n C dX11_dredge_28 rfl ?_
        refine u_iload C dX11_dredge_29 rfl ?_
        refine u_if_ne (tgt := 38) C dX11_dredge_31 (by decide) (fun c_31 => ?_) (fun c_31 => ?_)
        · refine u_iload_n C dX11_dredge_38 rfl ?_
          refine u_iconst (v := 1) C dX11_dredge_39 (by decide) ?_
          refine u_sipush (v := 10000) C dX11_dredge_40 (by decide) ?_
          refine u_calliS3 C es_X11_isIn dX11_dredge_43 ml_RX11_109 (c_X11_isIn l D G _ _ _ _  ) (by decide) (Nat.le_of_ble_eq_true rfl) (fun r_43 M_43 q_43 => ?_)
          obtain ⟨rfl, e_43⟩ := q_43
          subst M_43
          refine u_if_eq (tgt := 54) C dX11_dredge_46 (by decide) (fun c_46 => ?_) (fun c_46 => ?_)
          · refine u_iconst (v := 2) C dX11_dredge_54 (by decide) ?_
            refine u_goto (tgt := 72) C dX11_dredge_55 (by decide) ?_
            exact u_loc [0, 1, 2, 3] rfl (J0 2 (by (try simp only [u_le, Decidable.not_not] at c_5 c_10 c_18 c_31 c_46); rw [gk_dre]; exact ((if_neg (by rintro (z | z); exact c_5 z; first | exact z.1 c_10 | exact c_18 z.2)).trans (if_pos (by first | exact Or.inl c_46 | exact Or.inr c_51))).symm) (by decide))
          · refine u_iload_n C dX11_dredge_49 rfl ?_
            refine u_iload_n C dX11_dredge_50 rfl ?_
            refine u_icmp_ne (tgt := 58) C dX11_dredge_51 (by decide) (fun c_51 => ?_) (fun c_51 => ?_)
            · obtain ⟨i0, hin0, hi0⟩ := u_fWm (n := cN (iv M Y 16)) (by omega) (by rw [← o16a]; exact c_5)
              subst hi0
              refine u_aload_n C dX11_dredge_58 rfl ?_
              refine u_iload_n C dX11_dredge_59 rfl ?_
              refine u_iload_n C dX11_dredge_60 rfl ?_
              refine u_calliV2 C ev_X11_why dX11_dredge_61 ml_RX11_148 (mdl_is hY) rfl (by decide) (c_X11_why l D G _ _ _ _ hY (by omega)) (by decide) (Nat.le_of_ble_eq_true rfl) (fun r_61 M_61 q_61 => ?_)
              obtain ⟨rfl, e_61⟩ := q_61
              subst M_61
              refine u_if_le (tgt := 71) C dX11_dredge_64 (by decide) (fun c_64 => ?_) (fun c_64 => ?_)
              · refine u_iconst (v := 0) C dX11_dredge_71 (by decide) ?_
                exact u_loc [0, 1, 2, 3] rfl (J0 0 (by (try simp only [u_le, Decidable.not_not] at c_5 c_10 c_18 c_31 c_46 c_51 c_64); rw [gk_dre, show cN (nI i0) = i0 from cN_nI (by omega)]; exact ((if_neg (by rintro (z | z); exact c_5 z; first | exact z.1 c_10 | exact c_18 z.2)).trans ((if_neg (by rintro (z | z); exact c_46 z; exact c_51 z)).trans (if_neg c_64))).symm) (by decide))
              · refine u_iconst (v := 3) C dX11_dredge_67 (by decide) ?_
                refine u_goto (tgt := 72) C dX11_dredge_68 (by decide) ?_
                exact u_loc [0, 1, 2, 3] rfl (J0 3 (by (try simp only [u_le, Decidable.not_not] at c_5 c_10 c_18 c_31 c_46 c_51 c_64); rw [gk_dre, show cN (nI i0) = i0 from cN_nI (by omega)]; exact ((if_neg (by rintro (z | z); exact c_5 z; first | exact z.1 c_10 | exact c_18 z.2)).trans ((if_neg (by rintro (z | z); exact c_46 z; exact c_51 z)).trans (if_pos c_64))).symm) (by decide))
            · refine u_iconst (v := 2) C dX11_dredge_54 (by decide) ?_
              refine u_goto (tgt := 72) C dX11_dredge_55 (by decide) ?_
              exact u_loc [0, 1, 2, 3] rfl (J0 2 (by (try simp only [u_le, Decidable.not_not] at c_5 c_10 c_18 c_31 c_46 c_51); rw [gk_dre]; exact ((if_neg (by rintro (z | z); exact c_5 z; first | exact z.1 c_10 | exact c_18 z.2)).trans (if_pos (by first | exact Or.inl c_46 | exact Or.inr c_51))).symm) (by decide))
        · exact absurd c_31 (by decide)
set_option maxHeartbeats 1000000 in
set_option maxRecDepth 100000 in
theorem c_X11_pass (l : Launch) (D : va_G) (G : w_G) (M : w_M) (Y : Nat) (h : Int32) (hY : L_mdl G (Y)) (ok2 : okM2 M Y) : u_Mi l D G yX11_pass cX11_pass 3 (some .int) 5 119 [.ref (gP G Y), .int h] M (fun r M' => (¬ kc_pass h (iv M Y 1) = 0 → M' = wi M Y 0 (nI (kc_pass h (iv M Y 1)))) ∧ (kc_pass h (iv M Y 1) = 0 → r = iv (g_gos (wi M Y 0 0) Y (cN h)) Y 1 ∧ M' = g_gos (wi M Y 0 0) Y (cN h))) := by
  obtain ⟨ok, ok12⟩ := id ok2
  obtain ⟨okS9, o16, o25, o36, o12, o11, oA, oI, oO⟩ := id ok
  obtain ⟨o1, o3, o5, oT⟩ := id okS9
  obtain ⟨o1a, o1b⟩ := cB_le o1 (by decide)
  obtain ⟨o3a, o3b⟩ := cB_le o3 (by decide)
  obtain ⟨o5a, o5b⟩ := cB_le o5 (by decide)
  obtain ⟨o11a, o11b⟩ := cB_le o11 (by decide)
  obtain ⟨o12a, o12b⟩ := cB_le o12 (by decide)
  obtain ⟨o16a, o16b⟩ := cB_le o16 (by decide)
  obtain ⟨o25a, o25b⟩ := cB_le o25 (by decide)
  obtain ⟨o36a, o36b⟩ := cB_le o36 (by decide)
  refine u_bodyi (by decide +kernel) (Nat.le_of_ble_eq_true rfl) rfl (fun p e s m args below meth c A H0 Q C ret => ?_)
  have loop1 : ∀ (t : Nat), h = nI t → 0 = kc_pass h (iv M Y 1) → t ≤ 48 → ∀ (d i : Nat) (x2 : Int32) (M1 : w_M), okM2 M1 Y → cN (iv M1 Y 1) + (t - i) ≤ 1000 → g_gos (wi M Y 0 0) Y t = g_gos M1 Y (t - i) → i ≤ t → t - i < d → x2 = nI i → u_S p l e (u_rm 5 119) s m args below meth c 3 D A H0 0 0 Q 42 [(0, .ref (gP G Y)), (1, .int (nI t)), (2, .int x2)] [] G M1 := by
    intro t hh hgk ht48 d
    induction d with
    | zero => intro i x2 M1 k1 k2 k3 hj hd; omega
    | succ d ih =>
      intro i x2 M1 k1 k2 k3 hj hd h2
      subst h2
      refine u_iload_n C dX11_pass_42 rfl ?_
      refine u_iload_n C dX11_pass_43 rfl ?_
      refine u_icmp_ge (tgt := 57) C dX11_pass_44 (by decide) (fun c_44 => ?_) (fun c_44 => ?_)
      · obtain rfl : t = i := by have := u_gei c_44 (by omega) (by omega); omega
        refine u_aload_n C dX11_pass_57 rfl ?_
        refine u_getI C gX11_pass_58 rfl (mdl_is hY) ?_
        exact ret _ _ _ _ dX11_pass_61  (⟨fun q => absurd hgk.symm q, fun _ => by rw [hh, cN_nI (by omega), k3, Nat.sub_self]; exact ⟨rfl, rfl⟩⟩)
      · have hi : i < t := u_lt c_44 (by omega)
        refine u_aload_n C dX11_pass_47 rfl ?_
        refine u_callvV0 C ev_X11_hour dX11_pass_48 ml_RX11_208 (mdl_is hY) rfl (by decide) (c_X11_hour l D G _ _ hY k1.1 (by omega)) (by decide) (Nat.le_of_ble_eq_true rfl) (fun M_48 q_48 => ?_)
        obtain rfl := q_48
        refine u_iinc C dX11_pass_51 (by decide) rfl ?_
        refine u_goto (tgt := 42) C dX11_pass_54 (by decide) ?_
        exact u_loc [0, 1, 2] rfl (ih (i + 1) _ _ (hour_okM k1 (by omega)) (by rw [show iv (g_hour M1 Y) Y 1 = nI (cN (iv M1 Y 1) + 1) from hrn_1, cN_nI (by omega)]; omega) (by rw [k3, show t - i = (t - (i + 1)) + 1 by omega]; rfl) (by omega) (by omega) (nI_1 i))
  have J0 : ∀ kq : Nat, kq = kc_pass h (iv M Y 1) → kq < 4 → u_S p l e (u_rm 5 119) s m args below meth c 3 D A H0 0 0 Q 32 [(0, .ref (gP G Y)), (1, .int h)] [.int (nI kq), .ref (gP G Y)] G M := by
    intro kq hkq hk4
    refine u_calliV1 C ev_X11_holds dX11_pass_32 ml_RX11_116 (mdl_is hY) rfl (by decide) (c_X11_holds l D G _ _ _ hY ) (by decide) (Nat.le_of_ble_eq_true rfl) (fun r_32 M_32 q_32 => ?_)
    obtain ⟨rfl, e_32⟩ := q_32
    subst M_32
    refine u_if_ne (tgt := 40) C dX11_pass_35 (by decide) (fun c_35 => ?_) (fun c_35 => ?_)
    · obtain rfl : kq = 0 := by rcases Nat.eq_zero_or_pos kq with q | q; exact q; exact absurd (if_neg (nI_ne0 q (by omega))) c_35
      rw [show nI 0 = (0 : Int32) from rfl]
      have hw9 : ¬ fW h 1 48 = 0 := fun q => absurd hkq.symm (by rw [kc_pass, if_pos q]; decide)
      obtain ⟨t, ht48, ht0, rfl⟩ := u_fW1n (n := 48) rfl hw9
      have hle : cN (iv M Y 1) + t ≤ 1000 := (nI_leI (by omega) (by decide)).mp (by have z : iv M Y 1 + nI t ≤ 1000 := (by by_cases z : iv M Y 1 + nI t ≤ 1000; exact z; exact absurd hkq.symm (by rw [kc_pass, if_neg hw9, if_neg z]; decide)); rw [o1a, nI_add] at z; exact z)
      refine u_iconst (v := 0) C dX11_pass_40 (by decide) ?_
      refine u_istore_n C dX11_pass_41 (by decide) ?_
      exact u_loc [0, 1, 2] rfl (loop1 t rfl hkq ht48 (t + 1) 0 _ _ ⟨okM_Z ok, by rw [kp_Z (Or.inr (by decide)), kp_Z (Or.inr (by decide))]; exact ok12⟩ (by rw [kp_Z (Or.inr (by decide))]; omega) rfl (by omega) (by omega) nI_0.symm)
    · have hk0 : ¬ kq = 0 := fun q => by rw [q, if_pos (show nI 0 = 0 from rfl)] at c_35; exact absurd c_35 (by decide)
      refine u_iconst (v := 0) C dX11_pass_38 (by decide) ?_
      exact ret _ _ _ _ dX11_pass_39  (by first | exact ⟨fun _ => by rw [← hkq], fun q => absurd (hkq.trans q) hk0⟩ | exact ⟨fun q => absurd hkq.symm q, fun _ => ⟨rfl, rfl⟩⟩)
  refine u_aload_n C dX11_pass_0 rfl ?_
  refine u_iload_n C dX11_pass_1 rfl ?_
  refine u_iconst (v := 1) C dX11_pass_2 (by decide) ?_
  refine u_bipush (v := 48) C dX11_pass_3 (by decide) ?_
  refine u_calliS3 C es_X11_isIn dX11_pass_5 ml_RX11_109 (c_X11_isIn l D G _ _ _ _  ) (by decide) (Nat.le_of_ble_eq_true rfl) (fun r_5 M_5 q_5 => ?_)
  obtain ⟨rfl, e_5⟩ := q_5
  subst M_5
  refine u_if_ne (tgt := 15) C dX11_pass_8 (by decide) (fun c_8 => ?_) (fun c_8 => ?_)
  · refine u_aload_n C dX11_pass_15 rfl ?_
    refine u_getI C gX11_pass_16 rfl (mdl_is hY) ?_
    refine u_iload_n C dX11_pass_19 rfl ?_
    refine u_iadd C dX11_pass_20 ?_
    refine u_sipush (v := 1000) C dX11_pass_21 (by decide) ?_
    refine u_icmp_le (tgt := 31) C dX11_pass_24 (by decide) (fun c_24 => ?_) (fun c_24 => ?_)
    · refine u_iconst (v := 0) C dX11_pass_31 (by decide) ?_
      exact u_loc [0, 1] rfl (J0 0 (by (try simp only [u_le, Decidable.not_not] at c_8 c_24); simp [-Int32.not_lt, -Int32.not_le, kc_pass, u_le, c_8, c_24]) (by decide))
    · refine u_iconst (v := 2) C dX11_pass_27 (by decide) ?_
      refine u_goto (tgt := 32) C dX11_pass_28 (by decide) ?_
      exact u_loc [0, 1] rfl (J0 2 (by (try simp only [u_le, Decidable.not_not] at c_8 c_24); simp [-Int32.not_lt, -Int32.not_le, kc_pass, u_le, c_8, c_24]) (by decide))
  · refine u_iconst (v := 1) C dX11_pass_11 (by decide) ?_
    refine u_goto (tgt := 32) C dX11_pass_12 (by decide) ?_
    exact u_loc [0, 1] rfl (J0 1 (by (try simp only [u_le, Decidable.not_not] at c_8); simp [-Int32.not_lt, -Int32.not_le, kc_pass, u_le, c_8]) (by decide))
set_option maxHeartbeats 1000000 in
set_option maxRecDepth 100000 in
theorem c_X11_now (l : Launch) (D : va_G) (G : w_G) (M : w_M) (Y : Nat) (hY : L_mdl G (Y))  : u_Mi l D G yX11_now cX11_now 1 (some .int) 0 0 [.ref (gP G Y)] M (fun r M' => r = iv (wi M Y 0 0) Y 1 ∧ M' = (wi M Y 0 0)) := by
  refine u_bodyi (by decide +kernel) (Nat.le_of_ble_eq_true rfl) rfl (fun p e s m args below meth c A H0 Q C ret => ?_)
  refine u_aload_n C dX11_now_0 rfl ?_
  refine u_iconst (v := 0) C dX11_now_1 (by decide) ?_
  refine u_putI C pX11_now_2 rfl (mdl_is hY) ?_
  refine u_aload_n C dX11_now_5 rfl ?_
  refine u_getI C gX11_now_6 rfl (mdl_is hY) ?_
  exact ret _ _ _ _ dX11_now_9  (⟨rfl, rfl⟩)
set_option maxHeartbeats 1000000 in
set_option maxRecDepth 100000 in
theorem c_X11_closures (l : Launch) (D : va_G) (G : w_G) (M : w_M) (Y : Nat) (hY : L_mdl G (Y))  : u_Mi l D G yX11_closures cX11_closures 1 (some .int) 0 0 [.ref (gP G Y)] M (fun r M' => r = iv (wi M Y 0 0) Y 12 ∧ M' = (wi M Y 0 0)) := by
  refine u_bodyi (by decide +kernel) (Nat.le_of_ble_eq_true rfl) rfl (fun p e s m args below meth c A H0 Q C ret => ?_)
  refine u_aload_n C dX11_closures_0 rfl ?_
  refine u_iconst (v := 0) C dX11_closures_1 (by decide) ?_
  refine u_putI C pX11_closures_2 rfl (mdl_is hY) ?_
  refine u_aload_n C dX11_closures_5 rfl ?_
  refine u_getI C gX11_closures_6 rfl (mdl_is hY) ?_
  exact ret _ _ _ _ dX11_closures_9  (⟨rfl, rfl⟩)
set_option maxHeartbeats 1000000 in
set_option maxRecDepth 100000 in
theorem c_X11_thrown (l : Launch) (D : va_G) (G : w_G) (M : w_M) (Y : Nat) (hY : L_mdl G (Y))  : u_Mi l D G yX11_thrown cX11_thrown 1 (some .int) 0 0 [.ref (gP G Y)] M (fun r M' => r = iv M Y 0 ∧ M' = M) := by
  refine u_bodyi (by decide +kernel) (Nat.le_of_ble_eq_true rfl) rfl (fun p e s m args below meth c A H0 Q C ret => ?_)
  refine u_aload_n C dX11_thrown_0 rfl ?_
  refine u_getI C gX11_thrown_1 rfl (mdl_is hY) ?_
  exact ret _ _ _ _ dX11_thrown_4  (⟨rfl, rfl⟩)
