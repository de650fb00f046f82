/-! from the law's entry to its end -/
def g00 (cy : Nat → ClassId) : w_G := (cy, fun _ => 0, fun _ => 0, fun _ => 0, fun _ _ => none, [])
def m00 : w_M := (fun _ _ => 0, fun _ _ => 0)
theorem m_c10_far (M : w_M) (q j : Nat) (h : 5000 ≤ q) : iv (m_c10 M 0) q j = iv M q j ∧ jv (m_c10 M 0) q j = jv M q j := by
  have h1 := m_c3_kp (M := m_c3 M (0 + 1000)) (k := 0 + 2000) (q := q) (by unfold e_mou; omega) j
  have h2 := m_c3_kp (M := M) (k := 0 + 1000) (q := q) (by unfold e_mou; omega) j
  exact ⟨h1.1.trans h2.1, h1.2.trans h2.2⟩
theorem sal_gx (G G2 : w_G) (R : Nat → Prop) (k : Nat) (hx : gx G G2 R) (hR : ∀ q, e_sal k q → ¬ R q) (h : L_sal G k) : L_sal G2 k := by
  obtain ⟨h0, ⟨f0, r0⟩, ⟨f1, r1⟩, ⟨f2, r2⟩, ⟨f3, r3⟩⟩ := h
  have k0 : ¬ R k := hR k ⟨by omega, by omega⟩
  have k3 : ¬ R (k + 3) := hR _ ⟨by omega, by omega⟩
  refine ⟨hx.is h0, ⟨hx.f1 k0 f0, mou_gx G G2 R _ hx (fun q hq => hR q ?_) r0⟩, ⟨hx.f1 k0 f1, mou_gx G G2 R _ hx (fun q hq => hR q ?_) r1⟩, ⟨hx.f1 k0 f2, tld_gx G G2 R _ hx (fun q hq => hR q ?_) r2⟩, ⟨hx.f1 k0 f3, hx.is r3.1, (hx.N r3.1).trans r3.2.1, fun i hi => ⟨hx.f1 k3 (r3.2.2 i hi).1, hx.is (r3.2.2 i hi).2⟩⟩⟩
  · unfold e_mou at hq; unfold e_sal; omega
  · unfold e_mou at hq; unfold e_sal; omega
  · unfold e_tld at hq; unfold e_sal; omega
/-- the invariant at the start -/
theorem JJ_0 : JJ 0 5000 9000 (m_c10 m00 0) (gN0 5000) 0 0 0 0 0 0 0 0 0 0 0 := by
  have lowc : ∀ (M : w_M) (k q j : Nat), q < k + 100 → iv (m_c3 M k) q j = iv (m_c0 (m_c5 M (k + 1)) (k + 2)) q j := fun M k q j hq =>
    (f_it_kp (M := m_c0 (m_c5 M (k + 1)) (k + 2)) (b := k + 3 + 97) m_c6_kp 8 q (fun j hj => by omega) j).1
  have lowj : ∀ (M : w_M) (k q j : Nat), q < k + 100 → jv (m_c3 M k) q j = jv M q j := fun M k q j hq =>
    (f_it_kp (M := m_c0 (m_c5 M (k + 1)) (k + 2)) (b := k + 3 + 97) m_c6_kp 8 q (fun j hj => by omega) j).2
  have L : ∀ q j, q < 1100 → iv (m_c10 m00 0) q j = iv (m_c0 (m_c5 m00 1001) 1002) q j := fun q j h1 => by
    unfold m_c10
    rw [lowc _ _ _ _ (by omega)]; unfold m_c0 m_c5
    rw [iv_n (by omega), iv_n (by omega), lowc _ _ _ _ (by omega)]; unfold m_c0 m_c5; rfl
  have L0 : ∀ q j, q < 1100 → (q ≠ 1002 ∨ j ≠ 4) → (q ≠ 1001 ∨ j ≠ 5) → iv (m_c10 m00 0) q j = 0 := fun q j h1 h2 h3 => by
    rw [L q j h1]; unfold m_c0 m_c5; rw [iv_n (by omega), iv_n (by omega)]; rfl
  have Lj : ∀ q j, q < 1100 → jv (m_c10 m00 0) q j = 0 := fun q j h1 => by
    unfold m_c10
    rw [lowj _ _ _ _ (by omega), lowj _ _ _ _ (by omega)]; rfl
  have s5 : iv (m_c10 m00 0) 1001 5 = 50 := by rw [L _ _ (by omega)]; unfold m_c0 m_c5; rw [iv_n (by omega), iv_s]; rfl
  have b4 : iv (m_c10 m00 0) 1002 4 = -1 := by rw [L _ _ (by omega)]; unfold m_c0; rw [iv_s]
  have H : ∀ j, iv (m_c10 m00 0) 9000 j = nI 0 := fun j => (m_c10_far m00 9000 j (by omega)).1
  have R : RR (m_c10 m00 0) (0 + 1000) (gN0 5000) 5000 0 0 0 :=
    RR_0 (L0 _ _ (by omega) (by omega) (by omega)) (L0 _ _ (by omega) (by omega) (by omega)) (L0 _ _ (by omega) (by omega) (by omega)) (L0 _ _ (by omega) (by omega) (by omega)) (L0 _ _ (by omega) (by omega) (by omega)) (L0 _ _ (by omega) (by omega) (by omega)) (L0 _ _ (by omega) (by omega) (by omega)) s5 (L0 _ _ (by omega) (by omega) (by omega)) b4 (L0 _ _ (by omega) (by omega) (by omega)) (L0 _ _ (by omega) (by omega) (by omega)) (fun i hi => Lj _ _ (by omega)) (fun a j h1 h2 => rfl) (fun i hi => rfl)
  have g1 : cN (iv (gN0 5000) 5000 1) = 0 := by decide
  have g5 : cN (iv (gN0 5000) 5000 5) = 0 := by decide
  refine ⟨⟨R, (L0 (0 + 1) 1 (by omega) (by omega) (by omega)).trans (by decide), fun i hi => absurd hi (by omega), ?_, ?_, (L0 0 4 (by omega) (by omega) (by omega)).trans (by decide), by omega, fun i hi => absurd hi (by omega)⟩, ⟨⟨fun i hi => ?_, ?_, ?_, ?_, ?_, ?_, fun i hi => ?_⟩, ?_, fun k hk => absurd hk (by omega), fun j hj => ?_, fun s hs => absurd hs (by omega), fun s hs => absurd hs (by omega)⟩, ⟨rfl, by omega, fun i hi => absurd hi (by omega)⟩, ⟨H 0, H 1, H 2, H 3, H 4, H 5, H 6, H 7, H 8, fun k hk => absurd hk (by omega), fun z => absurd z (by omega)⟩, rfl, rfl, by omega, by omega, by omega, by omega, by decide +kernel⟩
  · show cN (iv (gN0 5000) 5000 1) ≤ 0
    rw [g1]; exact Nat.le_refl _
  · show gN0 5000 = g_gos (gN0 5000) 5000 (0 - cN (iv (gN0 5000) 5000 1))
    rw [g1]; rfl
  · unfold ly at hi; omega
  · decide +kernel
  · decide +kernel
  · decide +kernel
  · decide +kernel
  · decide +kernel
  · show 0 ≤ (0 : Int64).toInt ∧ (0 : Int64).toInt ≤ _
    decide +kernel
  · decide +kernel
  · rw [g5] at hj; omega
theorem sea50 : g_sea (gN0 5000) 5000 0 = nI 50 := by decide +kernel
section LWR
variable {p : Program} {l : Launch} {e : Env} {R : Room} {s : State} {m : MethodId} {args : Array Value} {below : List Frame} {meth : Method} {c8 : Code} {Q : State → Prop} {cells slots : Nat}
variable {cc : ByteArray} {nL : Nat} {D : va_G} {A : Nat → Prop} {H0 : Heap} {G : w_G} {M N : w_M} {pc : Nat} {lv : List (Nat × Value)} {st : List Value} {b L : Nat} {xs : Nat → Int32} {X Y ic τ c9 oc : Nat}
theorem k_in (C : u_C p R s m args c8 cc RL nL D A H0 cells slots G) (C1 : u_C p R s m args c8 cc RL nL D A H0 (cells + 1) (slots + 6) G) (E : u_E l R s A H0 G X) (h : JV X Y M N 0 ic τ c9 oc) (hd : decode cc pc = .ok (.invokevirtual 126, 3)) (hcat : (st.map fun v => v.category).sum ≤ 8) (kk : u_S p l e R s m args below meth c8 nL D A H0 (cells + 1) (slots + 6) Q (pc + 3) lv (.int (nI 0) :: st) G M) : u_S p l e R s m args below meth c8 nL D A H0 cells slots Q pc lv (.int (nI 1) :: .ref (gP G X) :: st) G M := by
  obtain ⟨hXT, hXH, hF, hst, hX⟩ := E
  have kc : kc_itr (nI 1) = 0 := by decide
  refine u_callXi C hXT hXH ev_X10_intrusion hd ml_RL_126 (sal_is hX) rfl (by decide) (As := [.int (nI 1)]) (c_X10_intrusion l D G M X (nI 1) hX hst h.okx) ⟨by omega, by omega⟩ rfl rfl hcat C1.2.2.2 (fun E M2 q => ?_) (fun r M2 q => ?_)
  · rw [kc] at q; exact absurd q.2.1 (by decide)
  · obtain ⟨_, rfl, rfl⟩ := q
    rw [h.rr.Mn, show cN (nI 0) = 0 by decide]; exact kk

set_option maxHeartbeats 4000000 in
set_option maxRecDepth 100000 in
theorem law_loop {steps : Nat} (CC : ∀ cells slots, cells ≤ 20000 → slots ≤ 200000 → u_C p R s m args c8 cL_law RL 6 D A H0 cells slots G) (E : u_E l R s A H0 G 0) (hO : u_is G 9000 12 ∧ gN G 9000 = 28) (hR : 11 ≤ R.frames ∧ 300 ≤ R.locals) (hsc : va_X b L xs s H0) (hbl : b < H0.size) (hbA : ¬ A b) (hL : L ≤ 3072) (h3 : 3 * steps ≤ L) (h80 : steps ≤ 80) (kret : ∀ (pc : Nat) (lv : List (Nat × Value)) (G : w_G) (M : w_M) (cells slots : Nat), cells ≤ 20000 → slots ≤ 200000 → decode cL_law pc = .ok (.ireturn, 1) → u_S p l e R s m args below meth c8 6 D A H0 cells slots Q pc lv [.int 1] G M) : ∀ (v t : Nat) (M : w_M), t + v = steps → JE 0 5000 9000 t M → u_S p l e R s m args below meth c8 6 D A H0 (166 + 200 * t) (9671 + 1200 * t) Q 84 [(0, .ref b), (1, .ref (gP G 0)), (2, .ref (gP G 9000)), (3, .int (nI 1)), (4, .int (nI steps)), (5, .int (nI t))] [] G M := by
  intro v
  induction v with
  | zero =>
    intro t M ht hJ
    have C0 := CC (166 + 200 * t) (9671 + 1200 * t) (by omega) (by omega)
    refine u_iload C0 dL_law_84 rfl ?_
    refine u_iload C0 dL_law_86 rfl ?_
    refine u_icmp_geK (tgt := 151) C0 dL_law_88 (by decide) (by omega) (by omega) (fun c_88 => ?_) (fun c_88 => ?_)
    · refine u_iload_n C0 dL_law_151 rfl ?_
      exact kret _ _ _ _ _ _ (by omega) (by omega) dL_law_152
    · exfalso; omega
  | succ v ih =>
    intro t M ht hJ
    have C0 := CC (166 + 200 * t) (9671 + 1200 * t) (by omega) (by omega)
    obtain ⟨N, n, ic, τ, c, oc, tc, sc, w0, m0, q, cc, h, hc, hq⟩ := hJ
    refine u_iload C0 dL_law_84 rfl ?_
    refine u_iload C0 dL_law_86 rfl ?_
    refine u_icmp_geK (tgt := 151) C0 dL_law_88 (by decide) (by omega) (by omega) (fun c_88 => ?_) (fun c_88 => ?_)
    · exfalso; omega
    · refine u_iload_n C0 dL_law_91 rfl ?_
      refine u_if_eqK (tgt := 151) C0 dL_law_92 (by decide) (by omega) (fun c_92 => ?_) (fun c_92 => ?_)
      · exfalso; omega
      · refine u_aload_n C0 dL_law_95 rfl ?_
        refine u_aload_n C0 dL_law_96 rfl ?_
        refine u_aload_n C0 dL_law_97 rfl ?_
        refine u_iconst (v := nI 3) C0 dL_law_98 (by decide) ?_
        refine u_iload C0 dL_law_99 rfl ?_
        refine u_imulK C0 dL_law_101 ?_
        refine u_callD C0 hsc hbl hbA dL_law_102 (by omega) hL ⟨by omega, by omega⟩ (Nat.le_of_ble_eq_true rfl) (fun wh hwh => ?_)
        refine u_aload_n C0 dL_law_105 rfl ?_
        refine u_iconst (v := nI 3) C0 dL_law_106 (by decide) ?_
        refine u_iload C0 dL_law_107 rfl ?_
        refine u_imulK C0 dL_law_109 ?_
        refine u_iconst (v := nI 1) C0 dL_law_110 (by decide) ?_
        refine u_iaddK C0 dL_law_111 ?_
        refine u_callD C0 hsc hbl hbA dL_law_112 (by omega) hL ⟨by omega, by omega⟩ (Nat.le_of_ble_eq_true rfl) (fun a9 ha9 => ?_)
        refine u_aload_n C0 dL_law_115 rfl ?_
        refine u_iconst (v := nI 3) C0 dL_law_116 (by decide) ?_
        refine u_iload C0 dL_law_117 rfl ?_
        refine u_imulK C0 dL_law_119 ?_
        refine u_iconst (v := nI 2) C0 dL_law_120 (by decide) ?_
        refine u_iaddK C0 dL_law_121 ?_
        refine u_callD C0 hsc hbl hbA dL_law_122 (by omega) hL ⟨by omega, by omega⟩ (Nat.le_of_ble_eq_true rfl) (fun b9 hb9 => ?_)
        have C1 := CC (166 + 200 * t + 60) (9671 + 1200 * t + 360) (by omega) (by omega)
        refine u_callGm (na := 5) C0 E.1 E.2.1 es_L_step dL_law_125 ml_RL_133 (As := [.ref (gP G 0), .ref (gP G 9000), .int (nI wh), .int (nI a9), .int (nI b9)]) (c_step l D G M N 0 5000 9000 wh a9 b9 t E.2.2.2.2 hO E.2.2.2.1 h (by omega) (by omega) hc hq hwh ha9 hb9) ⟨hR.1, by show 8 + (19 + 11) + 260 ≤ R.locals; omega⟩ rfl rfl (Nat.le_of_ble_eq_true rfl) C1.2.2.2 (fun r M2 q9 => ?_)
        obtain ⟨rfl, N2, n2, ic2, τ2, c2, oc2, tc2, sc2, w2, m2, q2, cc2, h2, hc2, hq2⟩ := q9
        refine u_if_eq (tgt := 143) C1 dL_law_128 (by decide) (fun c_128 => ?_) (fun c_128 => ?_)
        · exact absurd c_128 (by decide)
        · refine u_aload_n C1 dL_law_131 rfl ?_
          refine u_aload_n C1 dL_law_132 rfl ?_
          have C2 := CC (166 + 200 * t + 60 + 140) (9671 + 1200 * t + 360 + 840) (by omega) (by omega)
          refine u_callGm (na := 2) C1 E.1 E.2.1 es_L_isKept dL_law_133 ml_RL_137 (As := [.ref (gP G 0), .ref (gP G 9000)]) (c_isKept l D G M2 N2 0 5000 9000 E.2.2.2.2 hO E.2.2.2.1 h2 (by omega)) ⟨by omega, by show 8 + (12 + 11) + 200 ≤ R.locals; omega⟩ rfl rfl (Nat.le_of_ble_eq_true rfl) C2.2.2.2 (fun r M3 q9 => ?_)
          obtain ⟨rfl, rfl⟩ := q9
          refine u_if_eq (tgt := 143) C2 dL_law_136 (by decide) (fun c_136 => ?_) (fun c_136 => ?_)
          · exact absurd c_136 (by decide)
          · refine u_iconst (v := nI 1) C2 dL_law_139 (by decide) ?_
            refine u_goto (tgt := 144) C2 dL_law_140 (by decide) ?_
            refine u_istore_n C2 dL_law_144 (by decide) ?_
            refine u_iincK (b := 1) C2 dL_law_145 (by decide) rfl ?_
            refine u_goto (tgt := 84) C2 dL_law_148 (by decide) ?_
            have k9 := ih (t + 1) M3 (by omega) ⟨N2, n2, ic2, τ2, c2, oc2, tc2, sc2, w2, m2, q2, cc2, h2, hc2, hq2⟩
            rw [show 166 + 200 * (t + 1) = 166 + 200 * t + 60 + 140 by omega, show 9671 + 1200 * (t + 1) = 9671 + 1200 * t + 360 + 840 by omega] at k9
            exact u_loc [0, 1, 2, 3, 4, 5] rfl k9
set_option maxHeartbeats 4000000 in
set_option maxRecDepth 100000 in
theorem law_run {cy : Nat → ClassId} (C : u_C p R s m args c8 cL_law RL 6 D A H0 0 0 (g00 cy)) (hXT : u_XT s) (hXH : u_XH A s H0) (hst : l.stackTraces = false) (hsc : va_X b L xs s H0) (hbl : b < H0.size) (hbA : ¬ A b) (hL : L ≤ 3072) (hR : 11 ≤ R.frames ∧ 300 ≤ R.locals) (hRc : 20000 ≤ R.cells ∧ 200000 ≤ R.slots) (kret : ∀ (pc : Nat) (lv : List (Nat × Value)) (G : w_G) (M : w_M) (cells slots : Nat), cells ≤ 20000 → slots ≤ 200000 → decode cL_law pc = .ok (.ireturn, 1) → u_S p l e R s m args below meth c8 6 D A H0 cells slots Q pc lv [.int 1] G M) : u_S p l e R s m args below meth c8 6 D A H0 0 0 Q 0 [(0, .ref b)] [] (g00 cy) m00 := by
  have hok0 : g_ok (g00 cy) := fun b hb => absurd hb List.not_mem_nil
  have hz0 : ∀ q, z_ok (g00 cy) m00 q := fun q => ⟨List.not_mem_nil, fun j => ⟨rfl, rfl⟩⟩
  refine u_mk C (k := 0) (K_X10 l D) (fun q _ => hz0 q) (by unfold e_sal; omega) hok0 dL_law_0 dL_law_3 dL_law_4 nw_RL_11 e_X10_init rfl wv_X10_init (Or.inl ml_RL_125) ⟨by omega, by omega⟩ (Nat.le_of_ble_eq_true rfl) (cells2 := 162) (slots2 := 9625) ⟨rfl, rfl, by omega, by omega⟩ (fun G1 hx1 hX1 hL1 => ?_)
  have C1 := C.to (G2 := G1) (cells2 := 162) (slots2 := 9625) hx1.c (by omega) (by omega)
  refine u_astore_n C1 (n := 1) dL_law_7 (by decide) ?_
  have hz1 : z_ok G1 (m_c10 m00 0) 9000 := by
    have h0 := (hz0 9000).gx hx1 (by unfold e_sal; omega)
    exact ⟨h0.1, fun j => m_c10_far m00 9000 j (by omega)⟩
  refine u_bipush C1 dL_law_8 (v := nI 28) rfl ?_
  refine u_newA C1 (k := 9000) (n := 28) 12 (Or.inl ⟨rfl, rfl⟩) dL_law_10 aw_int hz1.1 (hx1.ok hok0) hz1.2 (by omega) rfl (cells2 := 163) (slots2 := 9653) ⟨rfl, rfl, by omega, by omega⟩ (fun G hx2 hO2 hn2 => ?_)
  have CC : ∀ cells slots, cells ≤ 20000 → slots ≤ 200000 → u_C p R s m args c8 cL_law RL 6 D A H0 cells slots G := fun cells slots h1 h2 => C1.to (G2 := G) hx2.c (by omega) (by omega)
  have C0 := CC 163 9653 (by omega) (by omega)
  refine u_astore_n C0 (n := 2) dL_law_12 (by decide) ?_
  have E : u_E l R s A H0 G 0 := ⟨hXT, hXH, ⟨by omega, by omega⟩, hst, sal_gx _ _ _ _ hx2 (by unfold e_sal; omega) hL1⟩
  have J := JJ_0
  refine u_loc [0, 1, 2] (lv2 := [(0, .ref b), (1, .ref (gP G 0)), (2, .ref (gP G 9000))]) ?_ ?_
  · rw [hx2.P hX1]; rfl
  have k79 : ∀ steps : Nat, 3 * steps ≤ L → steps ≤ 80 → u_S p l e R s m args below meth c8 6 D A H0 (163 + 1 + 1 + 1) (9653 + 6 + 6 + 6) Q 79 [(0, .ref b), (1, .ref (gP G 0)), (2, .ref (gP G 9000)), (3, .int (nI 1))] [.int (nI steps)] G (m_c10 m00 0) := by
    intro steps h3 h80
    have C3 := CC (163 + 1 + 1 + 1) (9653 + 6 + 6 + 6) (by omega) (by omega)
    refine u_istore C3 dL_law_79 (by decide) ?_
    refine u_iconst (v := nI 0) C3 dL_law_81 (by decide) ?_
    refine u_istore C3 dL_law_82 (by decide) ?_
    exact u_loc [0, 1, 2, 3, 4, 5] rfl (law_loop CC E ⟨hO2, hn2⟩ hR hsc hbl hbA hL h3 h80 kret steps 0 (m_c10 m00 0) (by omega) ⟨_, _, _, _, _, _, _, _, _, _, _, _, J, by omega, by omega⟩)
  refine u_aload_n C0 dL_law_13 rfl ?_
  refine k_now C0 E J.v dL_law_14 (Nat.le_of_ble_eq_true rfl) ?_
  refine u_if_neK (tgt := 59) C0 dL_law_17 (by decide) (by omega) (fun c_17 => ?_) (fun c_17 => ?_)
  · exfalso; omega
  · refine u_aload_n C0 dL_law_20 rfl ?_
    refine u_iconst (v := nI 0) C0 dL_law_21 (by decide) ?_
    have C1 := CC (163 + 1) (9653 + 6) (by omega) (by omega)
    refine k_sea C0 C1 E J.v (k := 0) (x := nI 50) (by omega) dL_law_22 (Nat.le_of_ble_eq_true rfl) sea50 ?_
    refine u_bipush (v := nI 50) C1 dL_law_25 (by decide) ?_
    refine u_icmp_neK (tgt := 59) C1 dL_law_27 (by decide) (by omega) (by omega) (fun c_27 => ?_) (fun c_27 => ?_)
    · exfalso; omega
    · refine u_aload_n C1 dL_law_30 rfl ?_
      refine k_clos C1 E J.v (x := nI 0) dL_law_31 (Nat.le_of_ble_eq_true rfl) J.kc.1 ?_
      refine u_if_neK (tgt := 59) C1 dL_law_34 (by decide) (by omega) (fun c_34 => ?_) (fun c_34 => ?_)
      · exfalso; omega
      · refine u_aload_n C1 dL_law_37 rfl ?_
        refine u_iconst (v := nI 1) C1 dL_law_38 (by decide) ?_
        have C2 := CC (163 + 1 + 1) (9653 + 6 + 6) (by omega) (by omega)
        refine k_in C1 C2 E J.v dL_law_39 (Nat.le_of_ble_eq_true rfl) ?_
        refine u_if_neK (tgt := 59) C2 dL_law_42 (by decide) (by omega) (fun c_42 => ?_) (fun c_42 => ?_)
        · exfalso; omega
        · refine u_aload_n C2 dL_law_45 rfl ?_
          refine u_iconst (v := nI 0) C2 dL_law_46 (by decide) ?_
          have C3 := CC (163 + 1 + 1 + 1) (9653 + 6 + 6 + 6) (by omega) (by omega)
          refine k_sum C2 C3 E J.v (w := 0) (by omega) dL_law_47 (Nat.le_of_ble_eq_true rfl) ?_
          refine u_lconst (v := 0) C3 dL_law_50 (by decide) ?_
          refine u_lcmp C3 dL_law_51 ?_
          refine u_if_ne (tgt := 59) C3 dL_law_52 (by decide) (fun c_52 => ?_) (fun c_52 => ?_)
          · exact absurd (lg_c9 rfl) c_52
          · refine u_iconst (v := nI 1) C3 dL_law_55 (by decide) ?_
            refine u_goto (tgt := 60) C3 dL_law_56 (by decide) ?_
            refine u_istore_n C3 dL_law_60 (by decide) ?_
            refine u_aload_n C3 dL_law_61 rfl ?_
            refine u_slen C3 hsc hbl hbA dL_law_62 ?_
            refine u_iconst (v := nI 3) C3 dL_law_63 (by decide) ?_
            refine u_idivK C3 dL_law_64 (by omega) (by omega) (by omega) ?_
            refine u_bipush (v := nI 80) C3 dL_law_65 (by decide) ?_
            refine u_icmp_leK (tgt := 75) C3 dL_law_67 (by decide) (by omega) (by omega) (fun c_67 => ?_) (fun c_67 => ?_)
            · refine u_aload_n C3 dL_law_75 rfl ?_
              refine u_slen C3 hsc hbl hbA dL_law_76 ?_
              refine u_iconst (v := nI 3) C3 dL_law_77 (by decide) ?_
              refine u_idivK C3 dL_law_78 (by omega) (by omega) (by omega) ?_
              exact u_loc [0, 1, 2, 3] rfl (k79 (L / 3) (by omega) (by omega))
            · refine u_bipush (v := nI 80) C3 dL_law_70 (by decide) ?_
              refine u_goto (tgt := 79) C3 dL_law_72 (by decide) ?_
              exact u_loc [0, 1, 2, 3] rfl (k79 (80) (by omega) (by omega))
end LWR
