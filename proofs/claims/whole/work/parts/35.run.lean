/-! from the law's entry to its end, for an invariant -/
def g00 (cy : Nat → ClassId) : w_G := (cy, fun _ => 0, fun _ => 0, fun _ => 0, fun _ _ => none, [])
def m00 : w_M := (fun _ _ => 0, fun _ _ => 0)
def m_start : w_M := m_c11 (m_c10 m00 0) 5000
theorem m_c10_far (M : w_M) (q j : Nat) (h : 5000 ≤ q) : iv (m_c10 M 0) q j = iv M q j ∧ jv (m_c10 M 0) q j = jv M q j := by
  have h1 := m_c3_kp (M := m_c3 M (0 + 1000)) (k := 0 + 2000) (q := q) (by unfold e_mou; omega) j
  have h2 := m_c3_kp (M := M) (k := 0 + 1000) (q := q) (by unfold e_mou; omega) j
  exact ⟨h1.1.trans h2.1, h1.2.trans h2.2⟩
theorem m_c11_far (M : w_M) (q j : Nat) (h : ¬ q = 5000) : iv (m_c11 M 5000) q j = iv M q j ∧ jv (m_c11 M 5000) q j = jv M q j := by
  refine ⟨?_, rfl⟩
  unfold m_c11
  rw [iv_wi, if_neg (fun z => h z.1), iv_wi, if_neg (fun z => h z.1)]
theorem sal_gx (G G2 : w_G) (R : Nat → Prop) (k : Nat) (hx : gx G G2 R) (hR : ∀ q, e_sal k q → ¬ R q) (h : L_sal G k) : L_sal G2 k := by
  obtain ⟨h0, ⟨f0, r0⟩, ⟨f1, r1⟩, ⟨f2, r2⟩, ⟨f3, r3⟩⟩ := h
  have k0 : ¬ R k := hR k ⟨by omega, by omega⟩
  have k3 : ¬ R (k + 3) := hR _ ⟨by omega, by omega⟩
  refine ⟨hx.is h0, ⟨hx.f1 k0 f0, mou_gx G G2 R _ hx (fun q hq => hR q ?_) r0⟩, ⟨hx.f1 k0 f1, mou_gx G G2 R _ hx (fun q hq => hR q ?_) r1⟩, ⟨hx.f1 k0 f2, tld_gx G G2 R _ hx (fun q hq => hR q ?_) r2⟩, ⟨hx.f1 k0 f3, hx.is r3.1, (hx.N r3.1).trans r3.2.1, fun i hi => ⟨hx.f1 k3 (r3.2.2 i hi).1, hx.is (r3.2.2 i hi).2⟩⟩⟩
  · unfold e_mou at hq; unfold e_sal; omega
  · unfold e_mou at hq; unfold e_sal; omega
  · unfold e_tld at hq; unfold e_sal; omega
theorem law_run {p : Program} {l : Launch} {e : Env} {R : Room} {s : State} {m : MethodId} {args : Array Value} {below : List Frame} {meth : Method} {c : Code} {Q : State → Prop} {D : va_G} {A : Nat → Prop} {H0 : Heap} {cy : Nat → ClassId} {b L : Nat} {xs : Nat → Int32} {Inv : Nat → w_M → Prop}
    (C : u_C p R s m args c cL_law RL 8 D A H0 0 0 (g00 cy)) (hXT : u_XT s) (hXH : u_XH A s H0) (hsc : va_X b L xs s H0) (hbl : b < H0.size) (hbA : ¬ A b) (hL : L ≤ 3072) (hR : 8 ≤ R.frames ∧ 300 ≤ R.locals) (hRc : 192 + 512 ≤ R.cells ∧ 21925 + 3072 ≤ R.slots) (hH : ∀ G, L_sal G 0 → L_mdl G 5000 → L_j1 G 9000 → H_all l D G 0 5000 9000 Inv) (hI : Inv 0 m_start)
    (kret : ∀ (pc : Nat) (lv : List (Nat × Value)) (G : w_G) (M : w_M) (cells slots : Nat), cells ≤ 192 + 512 → slots ≤ 21925 + 3072 → decode cL_law pc = .ok (.ireturn, 1) → u_S p l e R s m args below meth c 8 D A H0 cells slots Q pc lv [.int 1] G M) :
    u_S p l e R s m args below meth c 8 D A H0 0 0 Q 0 [(0, .ref b)] [] (g00 cy) m00 := by
  have hok0 : g_ok (g00 cy) := fun b hb => absurd hb List.not_mem_nil
  have hz0 : ∀ q, z_ok (g00 cy) m00 q := fun q => ⟨List.not_mem_nil, fun j => ⟨rfl, rfl⟩⟩
  refine u_mk C (k := 0) (K_X10 l D) (fun q _ => hz0 q) (by unfold e_sal; omega) hok0 dL_law_0 dL_law_3 dL_law_4 nw_RL_8 e_X10_init rfl wv_X10_init (Or.inl ml_RL_85) ⟨by omega, by omega⟩ (Nat.le_of_ble_eq_true rfl) (cells2 := 162) (slots2 := 9625) ⟨rfl, rfl, by omega, by omega⟩ (fun G1 hx1 hX1 hL1 => ?_)
  have C1 := C.to (G2 := G1) (cells2 := 162) (slots2 := 9625) hx1.c (by omega) (by omega)
  refine u_astore_n C1 (n := 1) dL_law_7 (by decide) ?_
  have hz1 : ∀ q, 5000 ≤ q → z_ok G1 (m_c10 m00 0) q := fun q hq => by
    have h0 := (hz0 q).gx hx1 (by unfold e_sal; omega)
    exact ⟨h0.1, fun j => m_c10_far m00 q j hq⟩
  refine u_mk C1 (k := 5000) (K_X11 l D) (fun q hq => hz1 q (by unfold e_mdl at hq; omega)) (by unfold e_mdl; omega) (hx1.ok hok0) dL_law_8 dL_law_11 dL_law_12 nw_RL_86 e_X11_init rfl wv_X11_init (Or.inl ml_RL_88) ⟨by omega, by omega⟩ (Nat.le_of_ble_eq_true rfl) (cells2 := 191) (slots2 := 21924) ⟨rfl, rfl, by omega, by omega⟩ (fun G2 hx2 hY2 hL2 => ?_)
  have C2 := C1.to (G2 := G2) (cells2 := 191) (slots2 := 21924) hx2.c (by omega) (by omega)
  refine u_astore_n C2 (n := 2) dL_law_15 (by decide) ?_
  have hz2 : z_ok G2 (m_c11 (m_c10 m00 0) 5000) 9000 := by
    have h0 := (hz1 9000 (by omega)).gx hx2 (by unfold e_mdl; omega)
    exact ⟨h0.1, fun j => ⟨(m_c11_far _ 9000 j (by omega)).1.trans (h0.2 j).1, (m_c11_far _ 9000 j (by omega)).2.trans (h0.2 j).2⟩⟩
  refine u_iconst C2 dL_law_16 (v := nI 1) rfl ?_
  refine u_newA C2 (k := 9000) (n := 1) 13 (Or.inr (Or.inl ⟨rfl, rfl⟩)) dL_law_17 aw_long hz2.1 (hx2.ok (hx1.ok hok0)) hz2.2 (by omega) rfl (cells2 := 192) (slots2 := 21925) ⟨rfl, rfl, by omega, by omega⟩ (fun G3 hx3 hO3 hn3 => ?_)
  have C3 := C2.to (G2 := G3) (cells2 := 192) (slots2 := 21925) hx3.c (by omega) (by omega)
  refine u_astore_n C3 (n := 3) dL_law_19 (by decide) ?_
  refine u_iconst C3 dL_law_20 (v := nI 0) rfl ?_
  refine u_istore C3 (i := 4) dL_law_21 (by decide) ?_
  have hX3 := hx3.is (hx2.is hX1)
  have hY3 := hx3.is hY2
  have hS3 : L_sal G3 0 := sal_gx _ _ _ _ hx3 (by unfold e_sal; omega) (sal_gx _ _ _ _ hx2 (by unfold e_sal e_mdl; omega) hL1)
  have hM3 : L_mdl G3 5000 := by
    have hR : ¬ (5000 : Nat) = 9000 := by omega
    unfold L_mdl at hL2 ⊢
    have tr : ∀ {j t kd n : Nat}, (gF G2 5000 j = some t ∧ (u_is G2 t kd ∧ gN G2 t = n)) → (gF G3 5000 j = some t ∧ (u_is G3 t kd ∧ gN G3 t = n)) := fun h => ⟨hx3.f1 hR h.1, hx3.ar h.2⟩
    refine ⟨hx3.is hL2.1, ?_⟩
    have h := hL2.2
    repeat' first
      | exact tr h
      | refine ⟨tr h.1, ?_⟩
        replace h := h.2
  have key := law_loop (c0 := 192) (s0 := 21925) (G := G3) (X := 0) (Y := 5000) (O := 9000) (Inv := Inv) (Q := Q) (e := e) (below := below) (meth := meth) (fun cells slots h1 h2 => C3.to rfl h1 h2) hXT hXH hsc hbl hbA hL hX3 hY3 ⟨hO3, hn3⟩ hR (by omega) (hH G3 hS3 hM3 ⟨hO3, hn3⟩) (fun M t i ht => by
    have C4 : u_C p R s m args c cL_law RL 8 D A H0 (192 + t) (21925 + 6 * t) G3 := C3.to rfl (by omega) (by omega)
    refine u_iconst C4 dL_law_1662 (v := 1) rfl ?_
    exact kret _ _ _ _ _ _ (by omega) (by omega) dL_law_1663) 512 0 m_start rfl hI
  refine u_loc [0, 1, 2, 3, 4] (lv2 := law_lv b G3 0 5000 9000 (6 * 0)) ?_ key
  unfold law_lv
  rw [hx3.P hY2, hx3.P (hx2.is hX1), hx2.P hX1]
  rfl
