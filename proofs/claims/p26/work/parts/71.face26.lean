/-! the face, called by the law's methods where it doesn't throw -/
theorem fW_in {a lo hi : Nat} (h1 : lo ≤ a) (h2 : a ≤ hi) (h3 : hi < 2 ^ 31) : fW (nI a) (nI lo) (nI hi) = 1 := by
  unfold fW
  rw [if_pos ⟨by rw [i_le, i_N (by omega), i_N (by omega)]; omega, by rw [i_le, i_N (by omega), i_N h3]; omega⟩]
theorem fW_n {a lo hi : Nat} (h1 : lo ≤ a) (h2 : a ≤ hi) (h3 : hi < 2 ^ 31) : ¬ fW (nI a) (nI lo) (nI hi) = 0 := by rw [fW_in h1 h2 h3]; decide
theorem has_1 {M : w_M} {B k n : Nat} (hn : iv M B 5 = nI n) (n8 : n ≤ 8) (hk : k < n) : s_has M B (nI k) = 1 := by
  unfold s_has
  rw [if_neg (nI_pos (by omega)), hn, if_neg (by rw [i_le, i_N (by omega), i_N (by omega)]; omega)]
def m_tell (M : w_M) (X : Nat) (kd a b c d e : Int32) : w_M := m_hk (m_keep M (X + 1) (iv M (X + 1000) 9) kd a b c d e) (X + 1000) kd a b c d e
theorem of_0 {N : w_M} {Y k : Nat} : gR_of N Y k (nI 0) = iv N (Y + 22) k := by unfold gR_of; rw [if_pos (by decide), if_pos (by decide), if_pos (by decide)]
theorem of_1 {N : w_M} {Y k : Nat} : gR_of N Y k (nI 1) = iv N (Y + 23) k := by unfold gR_of; rw [if_pos (by decide), if_neg (by decide), if_pos (by decide)]
theorem of_2 {N : w_M} {Y k : Nat} : gR_of N Y k (nI 2) = iv N (Y + 22) (8 + k) := by unfold gR_of; rw [if_pos (by decide), if_pos (by decide), if_neg (by decide)]
theorem of_3 {N : w_M} {Y k : Nat} : gR_of N Y k (nI 3) = iv N (Y + 23) (8 + k) := by unfold gR_of; rw [if_pos (by decide), if_neg (by decide), if_neg (by decide)]
theorem of_4 {N : w_M} {Y k : Nat} : gR_of N Y k (nI 4) = iv N (Y + 19) k := by unfold gR_of; rw [if_neg (by decide), if_pos (by decide), if_pos (by decide)]
theorem of_5 {N : w_M} {Y k : Nat} : gR_of N Y k (nI 5) = iv N (Y + 18) k := by unfold gR_of; rw [if_neg (by decide), if_pos (by decide), if_neg (by decide), if_pos (by decide)]
theorem of_6 {N : w_M} {Y k : Nat} : gR_of N Y k (nI 6) = g_lev N Y k := by unfold gR_of; rw [if_neg (by decide), if_pos (by decide), if_neg (by decide), if_neg (by decide)]
theorem of_7 {N : w_M} {Y k : Nat} : gR_of N Y k (nI 7) = g_sal N Y 0 k := by unfold gR_of; rw [if_neg (by decide), if_neg (by decide), if_neg (by decide), if_pos (by decide)]
theorem of_8 {N : w_M} {Y k : Nat} : gR_of N Y k (nI 8) = g_sal N Y 1 k := by unfold gR_of; rw [if_neg (by decide), if_neg (by decide), if_neg (by decide), if_neg (by decide)]
theorem oi_0 {N : w_M} {Y k : Nat} : gR_oi N Y k (nI 0) = iv N (Y + 31) k := by unfold gR_oi; rw [if_pos (by decide), if_pos (by decide)]
theorem oi_1 {N : w_M} {Y k : Nat} : gR_oi N Y k (nI 1) = iv N (Y + 32) k := by unfold gR_oi; rw [if_pos (by decide), if_neg (by decide), if_pos (by decide)]
theorem oi_2 {N : w_M} {Y k : Nat} : gR_oi N Y k (nI 2) = iv N (Y + 33) k := by unfold gR_oi; rw [if_pos (by decide), if_neg (by decide), if_neg (by decide)]
theorem oi_3 {N : w_M} {Y k : Nat} : gR_oi N Y k (nI 3) = if iv N (Y + 35) k = 0 then 0 else 1 := by unfold gR_oi; rw [if_neg (by decide), if_neg (by decide)]
theorem oi_4 {N : w_M} {Y k : Nat} : gR_oi N Y k (nI 4) = iv N (Y + 34) k := by unfold gR_oi; rw [if_neg (by decide), if_pos (by decide)]
theorem cl_0 {N : w_M} {Y k : Nat} : gR_cl N Y k (nI 0) = iv N (Y + 13) k := by unfold gR_cl; rw [if_pos (by decide)]
theorem cl_1 {N : w_M} {Y k : Nat} : gR_cl N Y k (nI 1) = iv N (Y + 14) k := by unfold gR_cl; rw [if_neg (by decide), if_pos (by decide)]
theorem sea_e {M : w_M} {B : Nat} {N : w_M} {Y n ic t h : Nat} (r : RR M B N Y n ic t) : s_sea M B h = g_sea N Y h := by
  have t1 := r.t1
  have e1 : cN (iv M B 9) = t := by rw [r.Mt]; exact cN_nI (by omega)
  have e2 : cN (iv N Y 1) = t := by rw [r.Nt]; exact cN_nI (by omega)
  unfold s_sea g_sea
  rw [e1, e2]
  by_cases q : h < t
  · rw [if_pos q, if_pos q]; exact r.pa h q
  · rw [if_neg q, if_neg q]; exact for_e _ r.rt r.gt
theorem sea_f {M : w_M} {B : Nat} {N : w_M} {Y n ic t h : Nat} (r : RR M B N Y n ic t) (hh : t ≤ h) : g_sea N Y h = g_for N Y (nI h) := by
  have t1 := r.t1
  have e2 : cN (iv N Y 1) = t := by rw [r.Nt]; exact cN_nI (by omega)
  unfold g_sea; rw [e2, if_neg (by omega)]
section UK
variable {p : Program} {l : Launch} {e : Env} {R : Room} {s : State} {m : MethodId} {args : Array Value} {below : List Frame} {meth : Method} {c : Code} {Q : State → Prop} {cells slots : Nat}
variable {cc : ByteArray} {nL : Nat} {D : va_G} {A : Nat → Prop} {H0 : Heap} {G : w_G} {M N : w_M} {pc : Nat} {lv : List (Nat × Value)} {st : List Value}
variable {X Y n ic τ c9 oc : Nat}
/-- what a method of the law has about it -/
def u_E (l : Launch) (R : Room) (s : State) (A : Nat → Prop) (H0 : Heap) (G : w_G) (X : Nat) : Prop := u_XT s ∧ u_XH A s H0 ∧ (8 ≤ R.frames ∧ 185 ≤ R.locals) ∧ l.stackTraces = false ∧ L_sal G X
theorem k_of (C : u_C p R s m args c cc RL nL D A H0 cells slots G) (C1 : u_C p R s m args c cc RL nL D A H0 (cells + 1) (slots + 6) G) (E : u_E l R s A H0 G X) (h : JV X Y M N n ic τ c9 oc) {k w : Nat} {x : Int32} (hk : k < n) (hw : w ≤ 9) (hd : decode cc pc = .ok (.invokevirtual 52, 3)) (hcat : (st.map fun v => v.category).sum ≤ 8) (hx : gR_of N Y k (nI w) = x) (kk : u_S p l e R s m args below meth c nL D A H0 (cells + 1) (slots + 6) Q (pc + 3) lv (.int x :: st) G M) : u_S p l e R s m args below meth c nL D A H0 cells slots Q pc lv (.int (nI w) :: .int (nI k) :: .ref (gP G X) :: st) G M := by
  obtain ⟨hXT, hXH, hF, hst, hX⟩ := E
  have n8 := h.rr.n8
  have kc : kc_of (s_has M (X + 1000) (nI k)) (nI w) = 0 := by
    unfold kc_of; rw [has_1 h.rr.Mn n8 hk, if_neg (by decide)]; exact if_neg (fW_n (lo := 0) (hi := 9) (by omega) hw (by omega))
  refine u_callXi C hXT hXH ev_X10_ofSection hd ml_RL_52 (sal_is hX) rfl (by decide) (As := [.int (nI k), .int (nI w)]) (c_X10_ofSection l D G M X (nI k) (nI w) hX hst h.okx) ⟨by omega, by omega⟩ rfl rfl hcat C1.2.2.2 (fun E M2 q => ?_) (fun r M2 q => ?_)
  · rcases q.2 with z | z <;> rw [kc] at z <;> exact absurd z.1 (by decide)
  · obtain ⟨_, rfl, rfl⟩ := q
    rw [cN_nI (by omega), cN_nI (by omega), ans_e h.rr.rc h.rr.b hk hw, hx]
    exact kk
theorem k_sea (C : u_C p R s m args c cc RL nL D A H0 cells slots G) (C1 : u_C p R s m args c cc RL nL D A H0 (cells + 1) (slots + 6) G) (E : u_E l R s A H0 G X) (h : JV X Y M N n ic τ c9 oc) {k : Nat} {x : Int32} (hk : k ≤ 2000) (hd : decode cc pc = .ok (.invokevirtual 64, 3)) (hcat : (st.map fun v => v.category).sum ≤ 8) (hx : g_sea N Y k = x) (kk : u_S p l e R s m args below meth c nL D A H0 (cells + 1) (slots + 6) Q (pc + 3) lv (.int x :: st) G M) : u_S p l e R s m args below meth c nL D A H0 cells slots Q pc lv (.int (nI k) :: .ref (gP G X) :: st) G M := by
  obtain ⟨hXT, hXH, hF, hst, hX⟩ := E
  have kc : kc_sea (nI k) = 0 := by unfold kc_sea; exact if_neg (fW_n (lo := 0) (hi := 2000) (by omega) hk (by omega))
  refine u_callXi C hXT hXH ev_X10_sea hd ml_RL_64 (sal_is hX) rfl (by decide) (As := [.int (nI k)]) (c_X10_sea l D G M X (nI k) hX hst h.okx) ⟨by omega, by omega⟩ rfl rfl hcat C1.2.2.2 (fun E M2 q => ?_) (fun r M2 q => ?_)
  · rw [kc] at q; exact absurd q.2.1 (by decide)
  · obtain ⟨_, rfl, rfl⟩ := q
    rw [cN_nI (by omega), sea_e h.rr, hx]
    exact kk
theorem k_sum (C : u_C p R s m args c cc RL nL D A H0 cells slots G) (C1 : u_C p R s m args c cc RL nL D A H0 (cells + 1) (slots + 6) G) (E : u_E l R s A H0 G X) (h : JV X Y M N n ic τ c9 oc) {w : Nat} (hw : w ≤ 9) (hd : decode cc pc = .ok (.invokevirtual 109, 3)) (hcat : (st.map fun v => v.category).sum ≤ 8) (kk : u_S p l e R s m args below meth c nL D A H0 (cells + 1) (slots + 6) Q (pc + 3) lv (.long (jv N (Y + 40) w) :: st) G M) : u_S p l e R s m args below meth c nL D A H0 cells slots Q pc lv (.int (nI w) :: .ref (gP G X) :: st) G M := by
  obtain ⟨hXT, hXH, hF, hst, hX⟩ := E
  have kc : kc_sum (nI w) = 0 := by unfold kc_sum; exact if_neg (fW_n (lo := 0) (hi := 9) (by omega) hw (by omega))
  refine u_callXl C hXT hXH ev_X10_sum hd ml_RL_109 (sal_is hX) rfl (by decide) (As := [.int (nI w)]) (c_X10_sum l D G M X (nI w) hX hst h.okx) ⟨by omega, by omega⟩ rfl rfl hcat C1.2.2.2 (fun E M2 q => ?_) (fun r M2 q => ?_)
  · rw [kc] at q; exact absurd q.2.1 (by decide)
  · obtain ⟨_, rfl, rfl⟩ := q
    have e := h.rr.rc.sm w (by omega)
    rw [cN_nI (by omega), show X + 1005 = X + 1000 + 5 by omega, e]
    exact kk
theorem k_oin (C : u_C p R s m args c cc RL nL D A H0 cells slots G) (C1 : u_C p R s m args c cc RL nL D A H0 (cells + 1) (slots + 6) G) (E : u_E l R s A H0 G X) (h : JV X Y M N n ic τ c9 oc) {k w : Nat} {x : Int32} (hk : k < ic) (hw : w ≤ 4) (hd : decode cc pc = .ok (.invokevirtual 79, 3)) (hcat : (st.map fun v => v.category).sum ≤ 8) (hx : gR_oi N Y k (nI w) = x) (kk : u_S p l e R s m args below meth c nL D A H0 (cells + 1) (slots + 6) Q (pc + 3) lv (.int x :: st) G M) : u_S p l e R s m args below meth c nL D A H0 cells slots Q pc lv (.int (nI w) :: .int (nI k) :: .ref (gP G X) :: st) G M := by
  obtain ⟨hXT, hXH, hF, hst, hX⟩ := E
  have i6 := h.rr.i6
  have kc : kc_oin (nI k) (iv M (X + 1000) 6) (nI w) = 0 := by
    unfold kc_oin; rw [h.rr.Mi, if_neg (by rintro (z | z); exact nI_pos (by omega) z; exact z (nI_lt hk (by omega)))]; exact if_neg (fW_n (lo := 0) (hi := 4) (by omega) hw (by omega))
  refine u_callXi C hXT hXH ev_X10_ofIntake hd ml_RL_79 (sal_is hX) rfl (by decide) (As := [.int (nI k), .int (nI w)]) (c_X10_ofIntake l D G M X (nI k) (nI w) hX hst h.okx) ⟨by omega, by omega⟩ rfl rfl hcat C1.2.2.2 (fun E M2 q => ?_) (fun r M2 q => ?_)
  · rcases q.2 with z | z <;> rw [kc] at z <;> exact absurd z.1 (by decide)
  · obtain ⟨_, rfl, rfl⟩ := q
    rw [cN_nI (by omega), cN_nI (by omega), ians_e h.rr.rc hk hw, hx]
    exact kk
theorem k_why (C : u_C p R s m args c cc RL nL D A H0 cells slots G) (C1 : u_C p R s m args c cc RL nL D A H0 (cells + 1) (slots + 6) G) (E : u_E l R s A H0 G X) (h : JV X Y M N n ic τ c9 oc) {k a : Nat} {x : Int32} (hk : k < n) (ha : 1 ≤ a) (ha2 : a ≤ 10000) (hd : decode cc pc = .ok (.invokevirtual 92, 3)) (hcat : (st.map fun v => v.category).sum ≤ 8) (hx : f_ref (nI a) (iv N (Y + 21) k) (iv N (Y + 18) k) = x) (kk : u_S p l e R s m args below meth c nL D A H0 (cells + 1) (slots + 6) Q (pc + 3) lv (.int x :: st) G M) : u_S p l e R s m args below meth c nL D A H0 cells slots Q pc lv (.int (nI a) :: .int (nI k) :: .ref (gP G X) :: st) G M := by
  obtain ⟨hXT, hXH, hF, hst, hX⟩ := E
  have n8 := h.rr.n8
  have kc : kc_why (s_has M (X + 1000) (nI k)) (nI a) = 0 := by
    unfold kc_why; rw [has_1 h.rr.Mn n8 hk, if_neg (by decide)]; exact if_neg (fW_n (lo := 1) (hi := 10000) ha ha2 (by omega))
  refine u_callXi C hXT hXH ev_X10_whyNot hd ml_RL_92 (sal_is hX) rfl (by decide) (As := [.int (nI k), .int (nI a)]) (c_X10_whyNot l D G M X (nI k) (nI a) hX hst h.okx) ⟨by omega, by omega⟩ rfl rfl hcat C1.2.2.2 (fun E M2 q => ?_) (fun r M2 q => ?_)
  · rcases q.2 with z | z <;> rw [kc] at z <;> exact absurd z.1 (by decide)
  · obtain ⟨_, rfl, rfl⟩ := q
    rw [cN_nI (by omega), h.rr.rc.pe k hk, h.rr.rc.mu k hk, hx]
    exact kk
theorem k_now (C : u_C p R s m args c cc RL nL D A H0 cells slots G) (E : u_E l R s A H0 G X) (h : JV X Y M N n ic τ c9 oc) (hd : decode cc pc = .ok (.invokevirtual 117, 3)) (hcat : (st.map fun v => v.category).sum ≤ 8) (kk : u_S p l e R s m args below meth c nL D A H0 cells slots Q (pc + 3) lv (.int (nI τ) :: st) G M) : u_S p l e R s m args below meth c nL D A H0 cells slots Q pc lv (.ref (gP G X) :: st) G M := by
  obtain ⟨hXT, hXH, hF, hst, hX⟩ := E
  refine u_calliV0 C ev_X10_now hd ml_RL_117 (sal_is hX) rfl (by decide) (c_X10_now l D G M X hX) ⟨by omega, by omega⟩ hcat (fun r M2 q => ?_)
  obtain ⟨rfl, rfl⟩ := q
  rw [h.rr.Mt]; exact kk
theorem k_clos (C : u_C p R s m args c cc RL nL D A H0 cells slots G) (E : u_E l R s A H0 G X) (h : JV X Y M N n ic τ c9 oc) {x : Int32} (hd : decode cc pc = .ok (.invokevirtual 113, 3)) (hcat : (st.map fun v => v.category).sum ≤ 8) (hx : iv N Y 12 = x) (kk : u_S p l e R s m args below meth c nL D A H0 cells slots Q (pc + 3) lv (.int x :: st) G M) : u_S p l e R s m args below meth c nL D A H0 cells slots Q pc lv (.ref (gP G X) :: st) G M := by
  obtain ⟨hXT, hXH, hF, hst, hX⟩ := E
  refine u_calliV0 C ev_X10_closures hd ml_RL_113 (sal_is hX) rfl (by decide) (c_X10_closures l D G M X hX) ⟨by omega, by omega⟩ hcat (fun r M2 q => ?_)
  obtain ⟨rfl, rfl⟩ := q
  have e := h.rr.rb.cc
  rw [show X + 1002 = X + 1000 + 2 by omega, e, hx]; exact kk
theorem k_clo (C : u_C p R s m args c cc RL nL D A H0 cells slots G) (C1 : u_C p R s m args c cc RL nL D A H0 (cells + 1) (slots + 6) G) (E : u_E l R s A H0 G X) (h : JV X Y M N n ic τ c9 oc) {k w q9 : Nat} {x : Int32} (hc : iv N Y 12 = nI q9) (hk : k < q9) (hw : w ≤ 2) (hd : decode cc pc = .ok (.invokevirtual 120, 3)) (hcat : (st.map fun v => v.category).sum ≤ 8) (hx : gR_cl N Y k (nI w) = x) (kk : u_S p l e R s m args below meth c nL D A H0 (cells + 1) (slots + 6) Q (pc + 3) lv (.int x :: st) G M) (h5 : q9 ≤ 1000) : u_S p l e R s m args below meth c nL D A H0 cells slots Q pc lv (.int (nI w) :: .int (nI k) :: .ref (gP G X) :: st) G M := by
  obtain ⟨hXT, hXH, hF, hst, hX⟩ := E
  have e0 : iv M (X + 1002) 3 = nI q9 := h.rr.rb.cc.trans hc
  have kc : kc_clo (nI k) (iv M (X + 1002) 3) (nI w) = 0 := by
    unfold kc_clo; rw [e0, if_neg (by rintro (z | z); exact nI_pos (by omega) z; exact z (nI_lt hk (by omega)))]; exact if_neg (fW_n (lo := 0) (hi := 2) (by omega) hw (by omega))
  refine u_callXi C hXT hXH ev_X10_closure hd ml_RL_120 (sal_is hX) rfl (by decide) (As := [.int (nI k), .int (nI w)]) (c_X10_closure l D G M X (nI k) (nI w) hX hst h.okx) ⟨by omega, by omega⟩ rfl rfl hcat C1.2.2.2 (fun E M2 q => ?_) (fun r M2 q => ?_)
  · rcases q.2 with z | z <;> rw [kc] at z <;> exact absurd z.1 (by decide)
  · obtain ⟨_, rfl, rfl⟩ := q
    rw [cN_nI (by omega), cN_nI (by omega), show X + 1002 = X + 1000 + 2 by omega, bans_e h.rr.rb (by rw [hc, cN_nI (by omega)]; exact hk) hw, hx]
    exact kk
theorem k_isC (C : u_C p R s m args c cc RL nL D A H0 cells slots G) (C1 : u_C p R s m args c cc RL nL D A H0 (cells + 1) (slots + 6) G) (E : u_E l R s A H0 G X) (h : JV X Y M N n ic τ c9 oc) {k : Nat} (hk : k < oc) (hd : decode cc pc = .ok (.invokevirtual 85, 3)) (hcat : (st.map fun v => v.category).sum ≤ 8) (hx : ∀ s9 hs : Nat, s9 < n → hs ≤ 24 → iv M (X + 10 + k) 0 = nI s9 → iv M (X + 10 + k) 2 = nI hs → s_fr M (X + 1000 + 100 + s9) (iv M (X + 10 + k) 1) (τ - (τ - hs)) (τ - hs) = false) (kk : u_S p l e R s m args below meth c nL D A H0 (cells + 1) (slots + 6) Q (pc + 3) lv (.int (nI 0) :: st) G M) : u_S p l e R s m args below meth c nL D A H0 cells slots Q pc lv (.int (nI k) :: .ref (gP G X) :: st) G M := by
  obtain ⟨hXT, hXH, hF, hst, hX⟩ := E
  have o6 := h.o6
  have t1 := h.rr.t1
  have n8 := h.rr.n8
  obtain ⟨⟨s9, hs9, es9⟩, hs, hs24, ehs⟩ := h.oy k hk
  have kc : kc_cls (nI k) (iv M X 4) = 0 := by
    unfold kc_cls; rw [h.oM, if_neg (by rintro (z | z); exact nI_pos (by omega) z; exact z (nI_lt hk (by omega)))]
  refine u_callXi C hXT hXH ev_X10_isClosed hd ml_RL_85 (sal_is hX) rfl (by decide) (As := [.int (nI k)]) (c_X10_isClosed l D G M X (nI k) hX hst h.okx) ⟨by omega, by omega⟩ rfl rfl hcat C1.2.2.2 (fun E M2 q => ?_) (fun r M2 q => ?_)
  · rw [kc] at q; exact absurd q.2.1 (by decide)
  · obtain ⟨_, rfl, rfl⟩ := q
    have key := hx s9 hs hs9 hs24 es9 ehs
    rw [cN_nI (n := k) (by omega), es9, ehs, cN_nI (n := s9) (by omega), cN_nI (n := hs) (by omega), h.rr.Mt, cN_nI (n := τ) (by omega), key, if_neg (by decide)]
    exact kk
theorem k_mean (C : u_C p R s m args c cc RL nL D A H0 cells slots G) (C1 : u_C p R s m args c cc RL nL D A H0 (cells + 1) (slots + 6) G) (E : u_E l R s A H0 G X) (h : JV X Y M N n ic τ c9 oc) (hc : c9 < 512) {v : Nat} (hv : v ≤ 100) (hd : decode cc pc = .ok (.invokevirtual 61, 3)) (hcat : (st.map fun v => v.category).sum ≤ 8) (kk : u_S p l e R s m args below meth c nL D A H0 (cells + 1) (slots + 6) Q (pc + 3) lv (.int (iv N Y 2) :: st) G (m_tell M X 1 (nI v) 0 0 0 0)) : u_S p l e R s m args below meth c nL D A H0 cells slots Q pc lv (.int (nI v) :: .ref (gP G X) :: st) G M := by
  obtain ⟨hXT, hXH, hF, hst, hX⟩ := E
  have kc : kc_mean (nI v) = 0 := by unfold kc_mean; exact if_neg (fW_n (lo := 0) (hi := 100) (by omega) hv (by omega))
  refine u_callXi C hXT hXH ev_X10_mean hd ml_RL_61 (sal_is hX) rfl (by decide) (As := [.int (nI v)]) (c_X10_mean l D G M X (nI v) hX hst h.okx (h.hk hc)) ⟨by omega, by omega⟩ rfl rfl hcat C1.2.2.2 (fun E M2 q => ?_) (fun r M2 q => ?_)
  · rw [kc] at q; exact absurd q.2.1 (by decide)
  · obtain ⟨_, rfl, rfl⟩ := q
    have e := h.rr.rt.me
    rw [show X + 1001 = X + 1000 + 1 by omega, e]
    exact kk
theorem k_river (C : u_C p R s m args c cc RL nL D A H0 cells slots G) (C1 : u_C p R s m args c cc RL nL D A H0 (cells + 1) (slots + 6) G) (E : u_E l R s A H0 G X) (h : JV X Y M N n ic τ c9 oc) (hc : c9 < 512) {v w : Nat} (hv : v ≤ 500) (hw : w ≤ 500) (hd : decode cc pc = .ok (.invokevirtual 70, 3)) (hcat : (st.map fun v => v.category).sum ≤ 8) (kk : u_S p l e R s m args below meth c nL D A H0 (cells + 1) (slots + 6) Q (pc + 3) lv (.int (iv N Y 8) :: st) G (m_tell M X 3 (nI v) (nI w) 0 0 0)) : u_S p l e R s m args below meth c nL D A H0 cells slots Q pc lv (.int (nI w) :: .int (nI v) :: .ref (gP G X) :: st) G M := by
  obtain ⟨hXT, hXH, hF, hst, hX⟩ := E
  have kc : kc_river (nI v) (nI w) = 0 := by unfold kc_river; rw [if_neg (by rintro (z | z); exact fW_n (lo := 0) (hi := 500) (by omega) hv (by omega) z; exact fW_n (lo := 0) (hi := 500) (by omega) hw (by omega) z)]
  refine u_callXi C hXT hXH ev_X10_river hd ml_RL_70 (sal_is hX) rfl (by decide) (As := [.int (nI v), .int (nI w)]) (c_X10_river l D G M X (nI v) (nI w) hX hst h.okx (h.hk hc)) ⟨by omega, by omega⟩ rfl rfl hcat C1.2.2.2 (fun E M2 q => ?_) (fun r M2 q => ?_)
  · rw [kc] at q; exact absurd q.2.1 (by decide)
  · obtain ⟨_, rfl, rfl⟩ := q
    have e := h.rr.rc.rw
    rw [e]
    exact kk
theorem k_bar (C : u_C p R s m args c cc RL nL D A H0 cells slots G) (C1 : u_C p R s m args c cc RL nL D A H0 (cells + 1) (slots + 6) G) (E : u_E l R s A H0 G X) (h : JV X Y M N n ic τ c9 oc) (hc : c9 < 512) {v : Int32} {w : Nat} (hv : v = -1 ∨ ∃ a, a ≤ 500 ∧ v = nI a) (hw : w ≤ 12) (hd : decode cc pc = .ok (.invokevirtual 73, 3)) (hcat : (st.map fun v => v.category).sum ≤ 8) (kk : u_S p l e R s m args below meth c nL D A H0 (cells + 1) (slots + 6) Q (pc + 3) lv (.int (iv N Y 10) :: st) G (m_tell M X 4 v (nI w) 0 0 0)) : u_S p l e R s m args below meth c nL D A H0 cells slots Q pc lv (.int (nI w) :: .int v :: .ref (gP G X) :: st) G M := by
  obtain ⟨hXT, hXH, hF, hst, hX⟩ := E
  have kc : kc_bar v (nI w) = 0 := by
    unfold kc_bar
    rw [if_neg]
    rintro (⟨z1, z2⟩ | z)
    · rcases hv with rfl | ⟨a, ha, rfl⟩
      · exact z1 rfl
      · exact fW_n (lo := 0) (hi := 500) (by omega) ha (by omega) z2
    · exact fW_n (lo := 0) (hi := 12) (by omega) hw (by omega) z
  refine u_callXi C hXT hXH ev_X10_barrier hd ml_RL_73 (sal_is hX) rfl (by decide) (As := [.int v, .int (nI w)]) (c_X10_barrier l D G M X v (nI w) hX hst h.okx (h.hk hc)) ⟨by omega, by omega⟩ rfl rfl hcat C1.2.2.2 (fun E M2 q => ?_) (fun r M2 q => ?_)
  · rw [kc] at q; exact absurd q.2.1 (by decide)
  · obtain ⟨_, rfl, rfl⟩ := q
    have e := h.rr.rb.mk9
    rw [show X + 1002 = X + 1000 + 2 by omega, e]
    exact kk
theorem k_per (C : u_C p R s m args c cc RL nL D A H0 cells slots G) (C1 : u_C p R s m args c cc RL nL D A H0 (cells + 1) (slots + 6) G) (E : u_E l R s A H0 G X) (h : JV X Y M N n ic τ c9 oc) (hc : c9 < 512) {k v : Nat} (hk : k < n) (hv : v ≤ 10000) (hd : decode cc pc = .ok (.invokevirtual 89, 3)) (hcat : (st.map fun v => v.category).sum ≤ 8) (kk : u_S p l e R s m args below meth c nL D A H0 (cells + 1) (slots + 6) Q (pc + 3) lv (.int (iv N (Y + 21) k) :: st) G (m_tell M X 7 (nI k) (nI v) 0 0 0)) : u_S p l e R s m args below meth c nL D A H0 cells slots Q pc lv (.int (nI v) :: .int (nI k) :: .ref (gP G X) :: st) G M := by
  obtain ⟨hXT, hXH, hF, hst, hX⟩ := E
  have n8 := h.rr.n8
  have kc : kc_per (s_has M (X + 1000) (nI k)) (nI v) = 0 := by
    unfold kc_per; rw [has_1 h.rr.Mn n8 hk, if_neg (by decide)]; exact if_neg (fW_n (lo := 0) (hi := 10000) (by omega) hv (by omega))
  refine u_callXi C hXT hXH ev_X10_permit hd ml_RL_89 (sal_is hX) rfl (by decide) (As := [.int (nI k), .int (nI v)]) (c_X10_permit l D G M X (nI k) (nI v) hX hst h.okx (h.hk hc)) ⟨by omega, by omega⟩ rfl rfl hcat C1.2.2.2 (fun E M2 q => ?_) (fun r M2 q => ?_)
  · rcases q.2 with z | z <;> rw [kc] at z <;> exact absurd z.1 (by decide)
  · obtain ⟨_, rfl, rfl⟩ := q
    rw [cN_nI (by omega), h.rr.rc.pe k hk] at *
    have e : m_tell M X 7 (nI k) (nI v) 0 0 0 = wi (m_keep M (X + 1) (iv M (X + 1000) 9) 7 (nI k) (nI v) 0 0 0) (X + 1000 + 100 + k) 7 (nI v) := by
      show wi (m_keep M (X + 1) (iv M (X + 1000) 9) 7 (nI k) (nI v) 0 0 0) (X + 1000 + 100 + cN (nI k)) 7 (nI v) = _
      rw [cN_nI (by omega)]
    rw [← e]
    exact kk
theorem k_anew (C : u_C p R s m args c cc RL nL D A H0 cells slots G) (C1 : u_C p R s m args c cc RL nL D A H0 (cells + 1) (slots + 6) G) (E : u_E l R s A H0 G X) (h : JV X Y M N n ic τ c9 oc) (hc : c9 < 512) {k w : Nat} (hk : k < n) (hw : w ≤ 9) (hd : decode cc pc = .ok (.invokevirtual 103, 3)) (hcat : (st.map fun v => v.category).sum ≤ 8) (kk : ∀ M2, fr (X + 2000) M M2 → u_S p l e R s m args below meth c nL D A H0 (cells + 1) (slots + 6) Q (pc + 3) lv (.int (gR_of N Y k (nI w)) :: st) G M2) : u_S p l e R s m args below meth c nL D A H0 cells slots Q pc lv (.int (nI w) :: .int (nI k) :: .ref (gP G X) :: st) G M := by
  obtain ⟨hXT, hXH, hF, hst, hX⟩ := E
  have n8 := h.rr.n8
  have kc : kc_of (s_has M (X + 1000) (nI k)) (nI w) = 0 := by
    unfold kc_of; rw [has_1 h.rr.Mn n8 hk, if_neg (by decide)]; exact if_neg (fW_n (lo := 0) (hi := 9) (by omega) hw (by omega))
  obtain ⟨r2, f2, f3⟩ := anew_e h
  refine u_callXi C hXT hXH ev_X10_ofSectionAnew hd ml_RL_103 (sal_is hX) rfl (by decide) (As := [.int (nI k), .int (nI w)]) (c_X10_ofSectionAnew l D G M X (nI k) (nI w) hX hst h.okx c9 (by omega) (vA_of h) ((f3 (X + 1000) (by omega) 9).1)) ⟨by omega, by omega⟩ rfl rfl hcat C1.2.2.2 (fun E M2 q => ?_) (fun r M2 q => ?_)
  · rcases q.2 with z | z <;> rw [kc] at z <;> exact absurd z.1 (by decide)
  · obtain ⟨_, rfl, rfl⟩ := q
    rw [← h.eN] at r2
    rw [cN_nI (by omega), cN_nI (by omega), ans_e r2.rc r2.b hk hw]
    exact kk _ f2
end UK
