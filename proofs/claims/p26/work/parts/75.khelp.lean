/-! the helpers that catch, called by the law's methods -/
section UKH
variable {p : Program} {l : Launch} {e : Env} {R : Room} {s : State} {m : MethodId} {args : Array Value} {below : List Frame} {meth : Method} {c : Code} {Q : State → Prop} {cells slots : Nat}
variable {cc : ByteArray} {nL : Nat} {D : va_G} {A : Nat → Prop} {H0 : Heap} {G : w_G} {M N : w_M} {pc : Nat} {lv : List (Nat × Value)} {st : List Value}
variable {X Y n ic τ c9 oc : Nat}
theorem k_section (C : u_C p R s m args c cc RL nL D A H0 cells slots G) (C1 : u_C p R s m args c cc RL nL D A H0 (cells + 1) (slots + 6) G) (E : u_E l R s A H0 G X) (h : JV X Y M N n ic τ c9 oc) (hc : c9 < 512) {a u w d : Nat} (a0 : 1 ≤ a) (a1 : a ≤ 100) (hu : u ≤ 10000) (hw : w ≤ 10000) (hd9 : d ≤ 10000) (hd : decode cc pc = .ok (.invokestatic 47, 3)) (hcat : (st.map fun v => v.category).sum ≤ 8) (k1 : n < 8 → τ = 0 → u_S p l e R s m args below meth c nL D A H0 (cells + 1) (slots + 6) Q (pc + 3) lv (.int (nI n) :: st) G (m_tell M X 5 (nI a) (nI u) (nI w) (nI d) 0)) (k2 : (n = 8 ∨ 0 < τ) → u_S p l e R s m args below meth c nL D A H0 (cells + 1) (slots + 6) Q (pc + 3) lv (.int (-200) :: st) G M) : u_S p l e R s m args below meth c nL D A H0 cells slots Q pc lv (.int (nI d) :: .int (nI w) :: .int (nI u) :: .int (nI a) :: .ref (gP G X) :: st) G M := by
  obtain ⟨hXT, hXH, hF, hst, hX⟩ := E
  have n8 := h.rr.n8
  have t1 := h.rr.t1
  have f0 : ¬ (fW (nI a) 1 100 = 0 ∨ fW (nI d) 0 10000 = 0 ∨ fW (nI u) 0 10000 = 0 ∨ fW (nI w) 0 10000 = 0) := by
    rintro (z | z | z | z)
    · exact fW_n (lo := 1) (hi := 100) a0 a1 (by omega) z
    · exact fW_n (lo := 0) (hi := 10000) (by omega) hd9 (by omega) z
    · exact fW_n (lo := 0) (hi := 10000) (by omega) hu (by omega) z
    · exact fW_n (lo := 0) (hi := 10000) (by omega) hw (by omega) z
  have kc : kc_sec (nI a) (nI u) (nI w) (nI d) (iv M (X + 1000) 5) (iv M (X + 1000) 9) = if n < 8 ∧ τ = 0 then 0 else 2 := by
    unfold kc_sec; rw [if_neg f0, h.rr.Mn, h.rr.Mt]
    by_cases z : n < 8 ∧ τ = 0
    · rw [if_pos z, if_pos]; rw [show (8 : Int32) = nI 8 from rfl, nI_leI (by omega) (by omega), i_le, i_N (by omega), i_0]; omega
    · rw [if_neg z, if_neg]; rw [show (8 : Int32) = nI 8 from rfl, nI_leI (by omega) (by omega), i_le, i_N (by omega), i_0]; omega
  refine u_callHm (na := 5) C hXT hXH hw_L_section hs_L_section hi_L ⟨by decide, by decide, by decide +kernel⟩ hd ml_RL_47 (As := [.ref (gP G X), .int (nI a), .int (nI u), .int (nI w), .int (nI d)]) (h_section l D G M X (nI a) (nI u) (nI w) (nI d) _ _ (sal_is hX) (c_X10_section l D G M X (nI a) (nI u) (nI w) (nI d) hX hst h.okx (h.hk hc)) (fun E M2 q => by rcases q.2 with z | z; exact absurd z.1 (by rw [kc]; split <;> omega); exact z.2)) ⟨by omega, by omega⟩ rfl rfl hcat C1.2.2.2 (fun r M2 q => ?_)
  rcases q with q | q
  · obtain ⟨z, rfl, rfl⟩ := q
    rw [kc] at z
    split at z
    · rename_i y; rw [h.rr.Mn]; exact k1 y.1 y.2
    · exact absurd z (by decide)
  · obtain ⟨rfl, rfl, z⟩ := q
    rw [kc] at z
    split at z
    · rcases z with z | z <;> exact absurd z.1 (by decide)
    · exact k2 (by omega)
theorem k_turn (C : u_C p R s m args c cc RL nL D A H0 cells slots G) (C1 : u_C p R s m args c cc RL nL D A H0 (cells + 1) (slots + 6) G) (E : u_E l R s A H0 G X) (h : JV X Y M N n ic τ c9 oc) (hc : c9 < 512) {a u w d tc : Nat} (ht : iv N Y 3 = nI tc) (t6 : tc ≤ 6) (a0 : 2 ≤ a) (a1 : a ≤ 60) (u0 : 1 ≤ u) (hu : u ≤ a - 1) (hw : w ≤ 50) (hd9 : d ≤ 59) (hd : decode cc pc = .ok (.invokestatic 55, 3)) (hcat : (st.map fun v => v.category).sum ≤ 8) (k1 : tc < 6 → u_S p l e R s m args below meth c nL D A H0 (cells + 1) (slots + 6) Q (pc + 3) lv (.int (nI tc) :: st) G (m_tell M X 0 (nI a) (nI u) (nI w) (nI d) 0)) (k2 : tc = 6 → u_S p l e R s m args below meth c nL D A H0 (cells + 1) (slots + 6) Q (pc + 3) lv (.int (-200) :: st) G M) : u_S p l e R s m args below meth c nL D A H0 cells slots Q pc lv (.int (nI d) :: .int (nI w) :: .int (nI u) :: .int (nI a) :: .ref (gP G X) :: st) G M := by
  obtain ⟨hXT, hXH, hF, hst, hX⟩ := E
  have e3 : iv M (X + 1001) 3 = nI tc := (h.rr.rt.tc).trans ht
  have f0 : ¬ (fW (nI a) 2 60 = 0 ∨ fW (nI u) 1 (nI a - 1) = 0 ∨ fW (nI w) 0 50 = 0 ∨ fW (nI d) 0 59 = 0) := by
    rintro (z | z | z | z)
    · exact fW_n (lo := 2) (hi := 60) a0 a1 (by omega) z
    · rw [show nI a - 1 = nI (a - 1) from nI_sb (b := 1) (by omega) (by omega)] at z; exact fW_n (lo := 1) (hi := a - 1) u0 hu (by omega) z
    · exact fW_n (lo := 0) (hi := 50) (by omega) hw (by omega) z
    · exact fW_n (lo := 0) (hi := 59) (by omega) hd9 (by omega) z
  have kc : kc_turn (nI a) (nI u) (nI w) (nI d) (iv M (X + 1001) 3) = if tc < 6 then 0 else 2 := by
    unfold kc_turn; rw [if_neg f0, e3]
    by_cases z : tc < 6
    · rw [if_pos z, if_pos]; rw [show (6 : Int32) = nI 6 from rfl, i_lt, i_N (by omega), i_N (by omega)]; omega
    · rw [if_neg z, if_neg]; rw [show (6 : Int32) = nI 6 from rfl, i_lt, i_N (by omega), i_N (by omega)]; omega
  refine u_callHm (na := 5) C hXT hXH hw_L_turn hs_L_turn hi_L ⟨by decide, by decide, by decide +kernel⟩ hd ml_RL_55 (As := [.ref (gP G X), .int (nI a), .int (nI u), .int (nI w), .int (nI d)]) (h_turn l D G M X (nI a) (nI u) (nI w) (nI d) _ _ (sal_is hX) (c_X10_turn l D G M X (nI a) (nI u) (nI w) (nI d) hX hst h.okx (h.hk hc)) (fun E M2 q => by rcases q.2 with z | z; exact absurd z.1 (by rw [kc]; split <;> omega); exact z.2)) ⟨by omega, by omega⟩ rfl rfl hcat C1.2.2.2 (fun r M2 q => ?_)
  rcases q with q | q
  · obtain ⟨z, rfl, rfl⟩ := q
    rw [kc] at z
    split at z
    · rename_i y; rw [e3]; exact k1 y
    · exact absurd z (by decide)
  · obtain ⟨rfl, rfl, z⟩ := q
    rw [kc] at z
    split at z
    · rcases z with z | z <;> exact absurd z.1 (by decide)
    · exact k2 (by omega)
theorem k_intake (C : u_C p R s m args c cc RL nL D A H0 cells slots G) (C1 : u_C p R s m args c cc RL nL D A H0 (cells + 1) (slots + 6) G) (E : u_E l R s A H0 G X) (h : JV X Y M N n ic τ c9 oc) (hc : c9 < 512) {v a u w d : Nat} (hv : v < n) (a0 : 1 ≤ a) (a1 : a ≤ 500) (hu : u ≤ 30) (w0 : 1 ≤ w) (hw : w ≤ 10000) (hd9 : d ≤ 500) (hd : decode cc pc = .ok (.invokestatic 76, 3)) (hcat : (st.map fun v => v.category).sum ≤ 8) (k1 : ic < 6 → u_S p l e R s m args below meth c nL D A H0 (cells + 1) (slots + 6) Q (pc + 3) lv (.int (nI ic) :: st) G (m_tell M X 6 (nI v) (nI a) (nI u) (nI w) (nI d))) (k2 : ic = 6 → u_S p l e R s m args below meth c nL D A H0 (cells + 1) (slots + 6) Q (pc + 3) lv (.int (-200) :: st) G M) : u_S p l e R s m args below meth c nL D A H0 cells slots Q pc lv (.int (nI d) :: .int (nI w) :: .int (nI u) :: .int (nI a) :: .int (nI v) :: .ref (gP G X) :: st) G M := by
  obtain ⟨hXT, hXH, hF, hst, hX⟩ := E
  have n8 := h.rr.n8
  have i6 := h.rr.i6
  have f0 : ¬ (fW (nI a) 1 500 = 0 ∨ fW (nI u) 0 30 = 0 ∨ fW (nI w) 1 10000 = 0 ∨ fW (nI d) 0 500 = 0) := by
    rintro (z | z | z | z)
    · exact fW_n (lo := 1) (hi := 500) a0 a1 (by omega) z
    · exact fW_n (lo := 0) (hi := 30) (by omega) hu (by omega) z
    · exact fW_n (lo := 1) (hi := 10000) w0 hw (by omega) z
    · exact fW_n (lo := 0) (hi := 500) (by omega) hd9 (by omega) z
  have kc : kc_int (s_has M (X + 1000) (nI v)) (nI a) (nI u) (nI w) (nI d) (iv M (X + 1000) 6) = if ic < 6 then 0 else 3 := by
    unfold kc_int; rw [has_1 h.rr.Mn n8 hv, if_neg (by decide), if_neg f0, h.rr.Mi]
    by_cases z : ic < 6
    · rw [if_pos z, if_pos]; rw [show (6 : Int32) = nI 6 from rfl, i_lt, i_N (by omega), i_N (by omega)]; omega
    · rw [if_neg z, if_neg]; rw [show (6 : Int32) = nI 6 from rfl, i_lt, i_N (by omega), i_N (by omega)]; omega
  refine u_callHm (na := 6) C hXT hXH hw_L_intake hs_L_intake hi_L ⟨by decide, by decide, by decide +kernel⟩ hd ml_RL_76 (As := [.ref (gP G X), .int (nI v), .int (nI a), .int (nI u), .int (nI w), .int (nI d)]) (h_intake l D G M X (nI v) (nI a) (nI u) (nI w) (nI d) _ _ (sal_is hX) (c_X10_intake l D G M X (nI v) (nI a) (nI u) (nI w) (nI d) hX hst h.okx (h.hk hc)) (fun E M2 q => by rcases q.2 with z | z | z; exact absurd z.1 (by rw [kc]; split <;> omega); exact absurd z.1 (by rw [kc]; split <;> omega); exact z.2)) ⟨by omega, by omega⟩ rfl rfl hcat C1.2.2.2 (fun r M2 q => ?_)
  rcases q with q | q
  · obtain ⟨z, rfl, rfl⟩ := q
    rw [kc] at z
    split at z
    · rename_i y; rw [h.rr.Mi]; exact k1 y
    · exact absurd z (by decide)
  · obtain ⟨rfl, rfl, z⟩ := q
    rw [kc] at z
    split at z
    · rcases z with z | z | z <;> exact absurd z.1 (by decide)
    · exact k2 (by omega)
theorem k_oysters (C : u_C p R s m args c cc RL nL D A H0 cells slots G) (C1 : u_C p R s m args c cc RL nL D A H0 (cells + 1) (slots + 6) G) (E : u_E l R s A H0 G X) (h : JV X Y M N n ic τ c9 oc) {v g w : Nat} (hv : v < n) (hg : g ≤ 30) (w0 : 1 ≤ w) (hw : w ≤ 24) (hd : decode cc pc = .ok (.invokestatic 82, 3)) (hcat : (st.map fun v => v.category).sum ≤ 8) (k1 : oc < 6 → u_S p l e R s m args below meth c nL D A H0 (cells + 1) (slots + 6) Q (pc + 3) lv (.int (nI oc) :: st) G (wi (wi (wi (wi M (X + 10 + oc) 0 (nI v)) (X + 10 + oc) 1 (nI g)) (X + 10 + oc) 2 (nI w)) X 4 (nI (oc + 1)))) (k2 : oc = 6 → u_S p l e R s m args below meth c nL D A H0 (cells + 1) (slots + 6) Q (pc + 3) lv (.int (-200) :: st) G M) : u_S p l e R s m args below meth c nL D A H0 cells slots Q pc lv (.int (nI w) :: .int (nI g) :: .int (nI v) :: .ref (gP G X) :: st) G M := by
  obtain ⟨hXT, hXH, hF, hst, hX⟩ := E
  have n8 := h.rr.n8
  have o6 := h.o6
  have f0 : ¬ (fW (nI g) 0 30 = 0 ∨ fW (nI w) 1 24 = 0) := by
    rintro (z | z)
    · exact fW_n (lo := 0) (hi := 30) (by omega) hg (by omega) z
    · exact fW_n (lo := 1) (hi := 24) w0 hw (by omega) z
  have kc : kc_oys (s_has M (X + 1000) (nI v)) (nI g) (nI w) (iv M X 4) = if oc < 6 then 0 else 3 := by
    unfold kc_oys; rw [has_1 h.rr.Mn n8 hv, if_neg (by decide), if_neg f0, h.oM]
    by_cases z : oc < 6
    · rw [if_pos z, if_pos]; rw [show (6 : Int32) = nI 6 from rfl, i_lt, i_N (by omega), i_N (by omega)]; omega
    · rw [if_neg z, if_neg]; rw [show (6 : Int32) = nI 6 from rfl, i_lt, i_N (by omega), i_N (by omega)]; omega
  refine u_callHm (na := 4) C hXT hXH hw_L_oysters hs_L_oysters hi_L ⟨by decide, by decide, by decide +kernel⟩ hd ml_RL_82 (As := [.ref (gP G X), .int (nI v), .int (nI g), .int (nI w)]) (h_oysters l D G M X (nI v) (nI g) (nI w) _ _ (sal_is hX) (c_X10_oysters l D G M X (nI v) (nI g) (nI w) hX hst h.okx) (fun E M2 q => by rcases q.2 with z | z | z; exact absurd z.1 (by rw [kc]; split <;> omega); exact absurd z.1 (by rw [kc]; split <;> omega); exact z.2)) ⟨by omega, by omega⟩ rfl rfl hcat C1.2.2.2 (fun r M2 q => ?_)
  rcases q with q | q
  · obtain ⟨z, rfl, rfl⟩ := q
    rw [kc] at z
    split at z
    · rename_i y; rw [h.oM, cN_nI (by omega), nI_1]; exact k1 y
    · exact absurd z (by decide)
  · obtain ⟨rfl, rfl, z⟩ := q
    rw [kc] at z
    split at z
    · rcases z with z | z | z <;> exact absurd z.1 (by decide)
    · exact k2 (by omega)
theorem k_surge (C : u_C p R s m args c cc RL nL D A H0 cells slots G) (C1 : u_C p R s m args c cc RL nL D A H0 (cells + 1) (slots + 6) G) (E : u_E l R s A H0 G X) (h : JV X Y M N n ic τ c9 oc) (hc : c9 < 512) {a b sc : Nat} {x : Int32} (hs : iv N Y 5 = nI sc) (s20 : sc ≤ 20) (a0 : τ ≤ a) (ab : a ≤ b) (b1 : b ≤ 2000) (x0 : -50 ≤ x.toInt) (x1 : x.toInt ≤ 100) (hd : decode cc pc = .ok (.invokestatic 67, 3)) (hcat : (st.map fun v => v.category).sum ≤ 8) (k1 : sc < 20 → u_S p l e R s m args below meth c nL D A H0 (cells + 1) (slots + 6) Q (pc + 3) lv (.int (nI (sc + 1)) :: st) G (m_tell M X 2 (nI a) (nI b) x 0 0)) (k2 : sc = 20 → u_S p l e R s m args below meth c nL D A H0 (cells + 1) (slots + 6) Q (pc + 3) lv (.int (-200) :: st) G M) : u_S p l e R s m args below meth c nL D A H0 cells slots Q pc lv (.int (nI 3) :: .int x :: .int (nI b) :: .int (nI a) :: .ref (gP G X) :: st) G M := by
  obtain ⟨hXT, hXH, hF, hst, hX⟩ := E
  have t1 := h.rr.t1
  have e4 : iv M (X + 1001) 4 = nI sc := (h.rr.rt.sc).trans hs
  have f0 : ¬ (fW (nI a) (nI τ) 2000 = 0 ∨ fW (nI b) (nI a) 2000 = 0 ∨ fW x (-50) 100 = 0) := by
    rintro (z | z | z)
    · exact fW_n (lo := τ) (hi := 2000) a0 (by omega) (by omega) z
    · exact fW_n (lo := a) (hi := 2000) ab b1 (by omega) z
    · exact (fW_0.mp z) ⟨x0, x1⟩
  have kc : kc_surge (nI a) (nI b) x (iv M (X + 1000) 9) (iv M (X + 1001) 4) = if sc < 20 then 0 else 2 := by
    unfold kc_surge; rw [h.rr.Mt, if_neg f0, e4]
    by_cases z : sc < 20
    · rw [if_pos z, if_pos]; rw [show (20 : Int32) = nI 20 from rfl, i_lt, i_N (by omega), i_N (by omega)]; omega
    · rw [if_neg z, if_neg]; rw [show (20 : Int32) = nI 20 from rfl, i_lt, i_N (by omega), i_N (by omega)]; omega
  refine u_callHm (na := 5) C hXT hXH hw_L_acts hs_L_acts hi_L ⟨by decide, by decide, by decide +kernel⟩ hd ml_RL_67 (As := [.ref (gP G X), .int (nI a), .int (nI b), .int x, .int (nI 3)]) (h_surge l D G M X (nI a) (nI b) x _ _ (sal_is hX) (c_X10_surge l D G M X (nI a) (nI b) x hX hst h.okx (h.hk hc)) (fun E M2 q => by rcases q.2 with z | z; exact absurd z.1 (by rw [kc]; split <;> omega); exact z.2)) ⟨by omega, by omega⟩ rfl rfl hcat C1.2.2.2 (fun r M2 q => ?_)
  rcases q with q | q
  · obtain ⟨z, rfl, rfl⟩ := q
    rw [kc] at z
    split at z
    · rename_i y
      have ev : iv (m_addS (m_keep M (X + 1) (iv M (X + 1000) 9) 2 (nI a) (nI b) x 0 0) (X + 1001) (nI a) (nI b) x) (X + 1001) 4 = nI (sc + 1) := by
        have kp4 : iv (m_keep M (X + 1) (iv M (X + 1000) 9) 2 (nI a) (nI b) x 0 0) (X + 1001) 4 = nI sc := by rw [keep_o (by omega) (by omega)]; exact e4
        unfold m_addS
        rw [kp4, cN_nI (by omega), if_pos y, iv_s]
        exact nI_1 sc
      rw [ev]; exact k1 y
    · exact absurd z (by decide)
  · obtain ⟨rfl, rfl, z⟩ := q
    rw [kc] at z
    split at z
    · rcases z with z | z <;> exact absurd z.1 (by decide)
    · exact k2 (by omega)
theorem k_pass (C : u_C p R s m args c cc RL nL D A H0 cells slots G) (C1 : u_C p R s m args c cc RL nL D A H0 (cells + 1) (slots + 6) G) (E : u_E l R s A H0 G X) (h : JV X Y M N n ic τ c9 oc) {a : Nat} (a0 : 1 ≤ a) (a1 : a ≤ 48) {x y : Int32} (hd : decode cc pc = .ok (.invokestatic 67, 3)) (hcat : (st.map fun v => v.category).sum ≤ 8) (k1 : τ + a ≤ 1000 → u_S p l e R s m args below meth c nL D A H0 (cells + 1) (slots + 6) Q (pc + 3) lv (.int (nI (τ + a)) :: st) G (m_go M (X + 1000) a)) (k2 : 1000 < τ + a → u_S p l e R s m args below meth c nL D A H0 (cells + 1) (slots + 6) Q (pc + 3) lv (.int (-200) :: st) G M) : u_S p l e R s m args below meth c nL D A H0 cells slots Q pc lv (.int (nI 2) :: .int y :: .int x :: .int (nI a) :: .ref (gP G X) :: st) G M := by
  obtain ⟨hXT, hXH, hF, hst, hX⟩ := E
  have t1 := h.rr.t1
  have kc : kc_pass (nI a) (iv M (X + 1000) 9) = if τ + a ≤ 1000 then 0 else 2 := by
    unfold kc_pass; rw [if_neg (show ¬ fW (nI a) 1 48 = 0 from fW_n (lo := 1) (hi := 48) a0 a1 (by omega)), h.rr.Mt, nI_add]
    by_cases z : τ + a ≤ 1000
    · rw [if_pos z, if_pos]; rw [show (1000 : Int32) = nI 1000 from rfl, nI_leI (by omega) (by omega)]; exact z
    · rw [if_neg z, if_neg]; rw [show (1000 : Int32) = nI 1000 from rfl, nI_leI (by omega) (by omega)]; exact z
  refine u_callHm (na := 5) C hXT hXH hw_L_acts hs_L_acts hi_L ⟨by decide, by decide, by decide +kernel⟩ hd ml_RL_67 (As := [.ref (gP G X), .int (nI a), .int x, .int y, .int (nI 2)]) (h_pass l D G M X (nI a) x y _ _ (sal_is hX) (c_X10_pass l D G M X (nI a) hX hst h.okx) (fun E M2 q => by rcases q.2 with z | z; exact absurd z.1 (by rw [kc]; split <;> omega); exact z.2)) ⟨by omega, by omega⟩ rfl rfl hcat C1.2.2.2 (fun r M2 q => ?_)
  rcases q with q | q
  · obtain ⟨z, rfl, rfl⟩ := q
    rw [kc] at z
    split at z
    · rename_i y9
      rw [cN_nI (by omega), (h.pass y9).rr.Mt]; exact k1 y9
    · exact absurd z (by decide)
  · obtain ⟨rfl, rfl, z⟩ := q
    rw [kc] at z
    split at z
    · rcases z with z | z <;> exact absurd z.1 (by decide)
    · exact k2 (by omega)
theorem k_window (C : u_C p R s m args c cc RL nL D A H0 cells slots G) (C1 : u_C p R s m args c cc RL nL D A H0 (cells + 1) (slots + 6) G) (E : u_E l R s A H0 G X) (h : JV X Y M N n ic τ c9 oc) (hn : 0 < n) {a b : Nat} (a0 : 1 ≤ a) (a1 : a ≤ 200) (b0 : 1 ≤ b) (b1 : b ≤ 24) {y : Int32} (hd : decode cc pc = .ok (.invokestatic 67, 3)) (hcat : (st.map fun v => v.category).sum ≤ 8) (k1 : u_S p l e R s m args below meth c nL D A H0 (cells + 1) (slots + 6) Q (pc + 3) lv (.int (s_win M (X + 1001) (f_bed (iv M (X + 1100) 3) (iv M (X + 1100) 4) + nI a) (nI b) (100 + b) τ 0) :: st) G (M))  : u_S p l e R s m args below meth c nL D A H0 cells slots Q pc lv (.int (nI 1) :: .int y :: .int (nI b) :: .int (nI a) :: .ref (gP G X) :: st) G M := by
  obtain ⟨hXT, hXH, hF, hst, hX⟩ := E
  have n8 := h.rr.n8
  have t1 := h.rr.t1
  have kc : kc_win (nI a) (nI b) (iv M (X + 1000) 5) = 0 := by
    unfold kc_win; rw [if_neg (by rintro (z | z); exact fW_n (lo := 1) (hi := 200) a0 a1 (by omega) z; exact fW_n (lo := 1) (hi := 24) b0 b1 (by omega) z), h.rr.Mn, if_neg (nI_ne0 hn (by omega))]
  refine u_callHm (na := 5) C hXT hXH hw_L_acts hs_L_acts hi_L ⟨by decide, by decide, by decide +kernel⟩ hd ml_RL_67 (As := [.ref (gP G X), .int (nI a), .int (nI b), .int y, .int (nI 1)]) (h_window l D G M X (nI a) (nI b) y _ _ (sal_is hX) (c_X10_window l D G M X (nI a) (nI b) hX hst h.okx) (fun E M2 q => by rcases q.2 with z | z <;> exact absurd z.1 (by rw [kc]; decide))) ⟨by omega, by omega⟩ rfl rfl hcat C1.2.2.2 (fun r M2 q => ?_)
  rcases q with q | q
  · obtain ⟨z, rfl, rfl⟩ := q
    rw [cN_nI (n := b) (by omega), h.rr.Mt, cN_nI (n := τ) (by omega)]; exact k1
  · obtain ⟨rfl, rfl, z⟩ := q
    rcases z with z | z <;> exact absurd z.1 (by rw [kc]; decide)
theorem k_dredge (C : u_C p R s m args c cc RL nL D A H0 cells slots G) (C1 : u_C p R s m args c cc RL nL D A H0 (cells + 1) (slots + 6) G) (E : u_E l R s A H0 G X) (h : JV X Y M N n ic τ c9 oc) (hc : c9 < 512) {v a : Nat} {to : Int32} (hv : v < n) (a0 : 1 ≤ a) (a1 : a ≤ 10000) (hto : to = -1 ∨ ∃ j, j < n ∧ j ≠ v ∧ to = nI j) (hd : decode cc pc = .ok (.invokestatic 67, 3)) (hcat : (st.map fun v => v.category).sum ≤ 8) (k1 : f_ref (nI a) (iv N (Y + 21) v) (iv N (Y + 18) v) = 0 → u_S p l e R s m args below meth c nL D A H0 (cells + 1) (slots + 6) Q (pc + 3) lv (.int (iv (m_tell M X 8 (nI v) (nI a) to 0 0) (X + 1000 + 100 + v) 7) :: st) G (m_tell M X 8 (nI v) (nI a) to 0 0)) (k2 : ¬ f_ref (nI a) (iv N (Y + 21) v) (iv N (Y + 18) v) = 0 → u_S p l e R s m args below meth c nL D A H0 (cells + 1) (slots + 6) Q (pc + 3) lv (.int (-200) :: st) G M) : u_S p l e R s m args below meth c nL D A H0 cells slots Q pc lv (.int (nI 0) :: .int to :: .int (nI a) :: .int (nI v) :: .ref (gP G X) :: st) G M := by
  obtain ⟨hXT, hXH, hF, hst, hX⟩ := E
  have n8 := h.rr.n8
  have e7 := h.rr.rc.pe v hv
  have e4 := h.rr.rc.mu v hv
  have f0 : ¬ (s_has M (X + 1000) (nI v) = 0 ∨ ¬ to = -1 ∧ s_has M (X + 1000) to = 0) := by
    rintro (z | ⟨z1, z2⟩)
    · rw [has_1 h.rr.Mn n8 hv] at z; exact absurd z (by decide)
    · rcases hto with rfl | ⟨j, hj, hjv, rfl⟩
      · exact z1 rfl
      · rw [has_1 h.rr.Mn n8 hj] at z2; exact absurd z2 (by decide)
  have f1 : ¬ (fW (nI a) 1 10000 = 0 ∨ nI v = to) := by
    rintro (z | z)
    · exact fW_n (lo := 1) (hi := 10000) a0 a1 (by omega) z
    · rcases hto with rfl | ⟨j, hj, hjv, rfl⟩
      · exact absurd (show nI v < 0 by rw [z]; decide) (nI_pos (by omega))
      · exact hjv ((nI_eq (by omega) (by omega)).mp z).symm
  have kc : kc_dre (s_has M (X + 1000) (nI v)) (s_has M (X + 1000) to) (nI v) (nI a) to (f_ref (nI a) (iv M (X + 1000 + 100 + cN (nI v)) 7) (iv M (X + 1000 + 100 + cN (nI v)) 4)) = if f_ref (nI a) (iv N (Y + 21) v) (iv N (Y + 18) v) = 0 then 0 else 3 := by
    unfold kc_dre; rw [if_neg f0, if_neg f1, cN_nI (by omega), e7, e4]
  refine u_callHm (na := 5) C hXT hXH hw_L_acts hs_L_acts hi_L ⟨by decide, by decide, by decide +kernel⟩ hd ml_RL_67 (As := [.ref (gP G X), .int (nI v), .int (nI a), .int to, .int (nI 0)]) (h_dredge l D G M X (nI v) (nI a) to _ _ (sal_is hX) (c_X10_dredge l D G M X (nI v) (nI a) to hX hst h.okx (h.hk hc)) (fun E M2 q => by rcases q.2 with z | z | z; exact absurd z.1 (by rw [kc]; split <;> omega); exact absurd z.1 (by rw [kc]; split <;> omega); exact z.2)) ⟨by omega, by omega⟩ rfl rfl hcat C1.2.2.2 (fun r M2 q => ?_)
  rcases q with q | q
  · obtain ⟨z, e1, e2⟩ := q
    rw [kc] at z
    split at z
    · rename_i y
      have e : m_tell M X 8 (nI v) (nI a) to 0 0 = M2 := e2.symm
      rw [← e2, cN_nI (by omega)] at e1
      subst e1
      have k := k1 y
      rw [e] at k
      exact k
    · exact absurd z (by decide)
  · obtain ⟨rfl, rfl, z⟩ := q
    rw [kc] at z
    split at z
    · rcases z with z | z | z <;> exact absurd z.1 (by decide)
    · rename_i y; exact k2 y
end UKH
