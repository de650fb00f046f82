/-! the law's helpers -/
def h_postZ (O : Nat) (kd : List String) (P : Int32 → w_M → Prop) (px : String → w_M → Prop) : Int32 → w_M → Prop := fun r M' => (r = nI 0 ∧ ∃ v M2, P v M2 ∧ M' = wj M2 O 0 (if v = 0 then 0 else 1)) ∨ ∃ E i, px E M' ∧ kd[i]? = some E ∧ r = nI (i + 1)
theorem h_L_turn (l : Launch) (D : va_G) (G : w_G) (M : w_M) (X O : Nat) (a1 : Int32) (a2 : Int32) (a3 : Int32) (a4 : Int32) (P : Int32 → w_M → Prop) (px : String → w_M → Prop) (hX : u_is G X 10) (hO : L_j1 G O) (hc : u_XMi l D G yX10_turn cX10_turn 6 (some .int) 6 121 (.ref (gP G X) :: [.int a1, .int a2, .int a3, .int a4]) M P px) (hpx : ∀ E M2, px E M2 → E ∈ [x_IA, x_IS]) : u_Hm l D G yL_turn cL_turn 7 [(0, 14, 17, 13), (0, 14, 21, 15)] 7 146 [.ref (gP G X), .int a1, .int a2, .int a3, .int a4, .ref (gP G O)] M (h_post O [x_IA, x_IS] P px) := by
  refine u_bodyH (by decide) (Nat.le_of_ble_eq_true rfl) (fun p e s m args below meth c A H0 Q C htab hXT hXH kret => ?_)
  have C1 : u_C p (u_rx 7 146) s m args c cL_turn RL 7 D A H0 1 6 G := C.to rfl (by decide) (by decide)
  refine u_aload C (i := 5) dL_turn_0 rfl ?_
  refine u_iconst C dL_turn_2 (v := nI 0) rfl ?_
  refine u_aload_n C (n := 0) dL_turn_3 rfl ?_
  refine u_iload_n C (n := 1) dL_turn_4 rfl ?_
  refine u_iload_n C (n := 2) dL_turn_5 rfl ?_
  refine u_iload_n C (n := 3) dL_turn_6 rfl ?_
  refine u_iload C (i := 4) dL_turn_7 rfl ?_
  refine u_callXi C hXT hXH ev_X10_turn dL_turn_9 ml_RL_7 hX rfl (by decide) (As := [.int a1, .int a2, .int a3, .int a4]) hc ⟨by decide, by decide⟩ rfl rfl (Nat.le_of_ble_eq_true rfl) ⟨by decide, by decide⟩ (fun E M2 he => ?_) (fun r M2 hr => ?_)
  · have hE := hpx E M2 he
    simp only [List.mem_cons, List.not_mem_nil, or_false] at hE
    rcases hE with rfl | rfl
    · refine ⟨[], ⟨0, 14, 17, 13⟩, [⟨0, 14, 21, 15⟩], htab.trans rfl, ?_, rfl, by decide, ⟨x_IA, hl_13, (hXT.2.1 (41, x_IA) (by simp [x_cls])).2⟩, fun q => ?_⟩
      · intro z hz; exact absurd hz List.not_mem_nil
      · refine u_astore C1 (i := 6) dL_turn_17 (by decide) ?_
        refine u_iconst C1 dL_turn_19 (v := nI 1) rfl ?_
        exact kret _ _ _ M2 dL_turn_20 (Or.inr ⟨x_IA, 0, he, rfl, rfl⟩)
    · refine ⟨[⟨0, 14, 17, 13⟩], ⟨0, 14, 21, 15⟩, [], htab.trans rfl, ?_, rfl, by decide, ⟨x_IS, hl_15, (hXT.2.1 (60, x_IS) (by simp [x_cls])).2⟩, fun q => ?_⟩
      · intro z hz
        simp only [List.mem_cons, List.not_mem_nil, or_false] at hz
        rcases hz with rfl
        · exact Or.inr ⟨by decide, x_IA, hl_13, hXT.2.2 (x_IS, x_IA) (by simp [x_nc])⟩
      · refine u_astore C1 (i := 6) dL_turn_21 (by decide) ?_
        refine u_iconst C1 dL_turn_23 (v := nI 2) rfl ?_
        exact kret _ _ _ M2 dL_turn_24 (Or.inr ⟨x_IS, 1, he, rfl, rfl⟩)
  · refine u_i2l C1 dL_turn_12 ?_
    refine u_lastN C1 dL_turn_13 (i := 0) hO.1 hO.2 (by decide) (by decide) ?_
    refine u_goto C1 dL_turn_14 (tgt := 25) (by decide) ?_
    refine u_iconst C1 dL_turn_25 (v := nI 0) rfl ?_
    exact kret _ _ _ _ dL_turn_26 (Or.inl ⟨rfl, r, M2, hr, rfl⟩)
theorem h_L_mean (l : Launch) (D : va_G) (G : w_G) (M : w_M) (X O : Nat) (a1 : Int32) (P : Int32 → w_M → Prop) (px : String → w_M → Prop) (hX : u_is G X 10) (hO : L_j1 G O) (hc : u_XMi l D G yX10_mean cX10_mean 3 (some .int) 6 121 (.ref (gP G X) :: [.int a1]) M P px) (hpx : ∀ E M2, px E M2 → E ∈ [x_IA]) : u_Hm l D G yL_mean cL_mean 4 [(0, 9, 12, 13)] 7 143 [.ref (gP G X), .int a1, .ref (gP G O)] M (h_post O [x_IA] P px) := by
  refine u_bodyH (by decide) (Nat.le_of_ble_eq_true rfl) (fun p e s m args below meth c A H0 Q C htab hXT hXH kret => ?_)
  have C1 : u_C p (u_rx 7 143) s m args c cL_mean RL 4 D A H0 1 6 G := C.to rfl (by decide) (by decide)
  refine u_aload_n C (n := 2) dL_mean_0 rfl ?_
  refine u_iconst C dL_mean_1 (v := nI 0) rfl ?_
  refine u_aload_n C (n := 0) dL_mean_2 rfl ?_
  refine u_iload_n C (n := 1) dL_mean_3 rfl ?_
  refine u_callXi C hXT hXH ev_X10_mean dL_mean_4 ml_RL_17 hX rfl (by decide) (As := [.int a1]) hc ⟨by decide, by decide⟩ rfl rfl (Nat.le_of_ble_eq_true rfl) ⟨by decide, by decide⟩ (fun E M2 he => ?_) (fun r M2 hr => ?_)
  · have hE := hpx E M2 he
    simp only [List.mem_cons, List.not_mem_nil, or_false] at hE
    rcases hE with rfl
    · refine ⟨[], ⟨0, 9, 12, 13⟩, [], htab.trans rfl, ?_, rfl, by decide, ⟨x_IA, hl_13, (hXT.2.1 (41, x_IA) (by simp [x_cls])).2⟩, fun q => ?_⟩
      · intro z hz; exact absurd hz List.not_mem_nil
      · refine u_astore_n C1 (n := 3) dL_mean_12 (by decide) ?_
        refine u_iconst C1 dL_mean_13 (v := nI 1) rfl ?_
        exact kret _ _ _ M2 dL_mean_14 (Or.inr ⟨x_IA, 0, he, rfl, rfl⟩)
  · refine u_i2l C1 dL_mean_7 ?_
    refine u_lastN C1 dL_mean_8 (i := 0) hO.1 hO.2 (by decide) (by decide) ?_
    refine u_goto C1 dL_mean_9 (tgt := 15) (by decide) ?_
    refine u_iconst C1 dL_mean_15 (v := nI 0) rfl ?_
    exact kret _ _ _ _ dL_mean_16 (Or.inl ⟨rfl, r, M2, hr, rfl⟩)
theorem h_L_surge (l : Launch) (D : va_G) (G : w_G) (M : w_M) (X O : Nat) (a1 : Int32) (a2 : Int32) (a3 : Int32) (P : Int32 → w_M → Prop) (px : String → w_M → Prop) (hX : u_is G X 10) (hO : L_j1 G O) (hc : u_XMi l D G yX10_surge cX10_surge 4 (some .int) 6 121 (.ref (gP G X) :: [.int a1, .int a2, .int a3]) M P px) (hpx : ∀ E M2, px E M2 → E ∈ [x_IA, x_IS]) : u_Hm l D G yL_surge cL_surge 6 [(0, 12, 15, 13), (0, 12, 19, 15)] 7 144 [.ref (gP G X), .int a1, .int a2, .int a3, .ref (gP G O)] M (h_post O [x_IA, x_IS] P px) := by
  refine u_bodyH (by decide) (Nat.le_of_ble_eq_true rfl) (fun p e s m args below meth c A H0 Q C htab hXT hXH kret => ?_)
  have C1 : u_C p (u_rx 7 144) s m args c cL_surge RL 6 D A H0 1 6 G := C.to rfl (by decide) (by decide)
  refine u_aload C (i := 4) dL_surge_0 rfl ?_
  refine u_iconst C dL_surge_2 (v := nI 0) rfl ?_
  refine u_aload_n C (n := 0) dL_surge_3 rfl ?_
  refine u_iload_n C (n := 1) dL_surge_4 rfl ?_
  refine u_iload_n C (n := 2) dL_surge_5 rfl ?_
  refine u_iload_n C (n := 3) dL_surge_6 rfl ?_
  refine u_callXi C hXT hXH ev_X10_surge dL_surge_7 ml_RL_21 hX rfl (by decide) (As := [.int a1, .int a2, .int a3]) hc ⟨by decide, by decide⟩ rfl rfl (Nat.le_of_ble_eq_true rfl) ⟨by decide, by decide⟩ (fun E M2 he => ?_) (fun r M2 hr => ?_)
  · have hE := hpx E M2 he
    simp only [List.mem_cons, List.not_mem_nil, or_false] at hE
    rcases hE with rfl | rfl
    · refine ⟨[], ⟨0, 12, 15, 13⟩, [⟨0, 12, 19, 15⟩], htab.trans rfl, ?_, rfl, by decide, ⟨x_IA, hl_13, (hXT.2.1 (41, x_IA) (by simp [x_cls])).2⟩, fun q => ?_⟩
      · intro z hz; exact absurd hz List.not_mem_nil
      · refine u_astore C1 (i := 5) dL_surge_15 (by decide) ?_
        refine u_iconst C1 dL_surge_17 (v := nI 1) rfl ?_
        exact kret _ _ _ M2 dL_surge_18 (Or.inr ⟨x_IA, 0, he, rfl, rfl⟩)
    · refine ⟨[⟨0, 12, 15, 13⟩], ⟨0, 12, 19, 15⟩, [], htab.trans rfl, ?_, rfl, by decide, ⟨x_IS, hl_15, (hXT.2.1 (60, x_IS) (by simp [x_cls])).2⟩, fun q => ?_⟩
      · intro z hz
        simp only [List.mem_cons, List.not_mem_nil, or_false] at hz
        rcases hz with rfl
        · exact Or.inr ⟨by decide, x_IA, hl_13, hXT.2.2 (x_IS, x_IA) (by simp [x_nc])⟩
      · refine u_astore C1 (i := 5) dL_surge_19 (by decide) ?_
        refine u_iconst C1 dL_surge_21 (v := nI 2) rfl ?_
        exact kret _ _ _ M2 dL_surge_22 (Or.inr ⟨x_IS, 1, he, rfl, rfl⟩)
  · refine u_i2l C1 dL_surge_10 ?_
    refine u_lastN C1 dL_surge_11 (i := 0) hO.1 hO.2 (by decide) (by decide) ?_
    refine u_goto C1 dL_surge_12 (tgt := 23) (by decide) ?_
    refine u_iconst C1 dL_surge_23 (v := nI 0) rfl ?_
    exact kret _ _ _ _ dL_surge_24 (Or.inl ⟨rfl, r, M2, hr, rfl⟩)
theorem h_L_river (l : Launch) (D : va_G) (G : w_G) (M : w_M) (X O : Nat) (a1 : Int32) (a2 : Int32) (P : Int32 → w_M → Prop) (px : String → w_M → Prop) (hX : u_is G X 10) (hO : L_j1 G O) (hc : u_XMi l D G yX10_river cX10_river 4 (some .int) 6 121 (.ref (gP G X) :: [.int a1, .int a2]) M P px) (hpx : ∀ E M2, px E M2 → E ∈ [x_IA]) : u_Hm l D G yL_river cL_river 5 [(0, 10, 13, 13)] 7 144 [.ref (gP G X), .int a1, .int a2, .ref (gP G O)] M (h_post O [x_IA] P px) := by
  refine u_bodyH (by decide) (Nat.le_of_ble_eq_true rfl) (fun p e s m args below meth c A H0 Q C htab hXT hXH kret => ?_)
  have C1 : u_C p (u_rx 7 144) s m args c cL_river RL 5 D A H0 1 6 G := C.to rfl (by decide) (by decide)
  refine u_aload_n C (n := 3) dL_river_0 rfl ?_
  refine u_iconst C dL_river_1 (v := nI 0) rfl ?_
  refine u_aload_n C (n := 0) dL_river_2 rfl ?_
  refine u_iload_n C (n := 1) dL_river_3 rfl ?_
  refine u_iload_n C (n := 2) dL_river_4 rfl ?_
  refine u_callXi C hXT hXH ev_X10_river dL_river_5 ml_RL_25 hX rfl (by decide) (As := [.int a1, .int a2]) hc ⟨by decide, by decide⟩ rfl rfl (Nat.le_of_ble_eq_true rfl) ⟨by decide, by decide⟩ (fun E M2 he => ?_) (fun r M2 hr => ?_)
  · have hE := hpx E M2 he
    simp only [List.mem_cons, List.not_mem_nil, or_false] at hE
    rcases hE with rfl
    · refine ⟨[], ⟨0, 10, 13, 13⟩, [], htab.trans rfl, ?_, rfl, by decide, ⟨x_IA, hl_13, (hXT.2.1 (41, x_IA) (by simp [x_cls])).2⟩, fun q => ?_⟩
      · intro z hz; exact absurd hz List.not_mem_nil
      · refine u_astore C1 (i := 4) dL_river_13 (by decide) ?_
        refine u_iconst C1 dL_river_15 (v := nI 1) rfl ?_
        exact kret _ _ _ M2 dL_river_16 (Or.inr ⟨x_IA, 0, he, rfl, rfl⟩)
  · refine u_i2l C1 dL_river_8 ?_
    refine u_lastN C1 dL_river_9 (i := 0) hO.1 hO.2 (by decide) (by decide) ?_
    refine u_goto C1 dL_river_10 (tgt := 17) (by decide) ?_
    refine u_iconst C1 dL_river_17 (v := nI 0) rfl ?_
    exact kret _ _ _ _ dL_river_18 (Or.inl ⟨rfl, r, M2, hr, rfl⟩)
theorem h_L_barrier (l : Launch) (D : va_G) (G : w_G) (M : w_M) (X O : Nat) (a1 : Int32) (a2 : Int32) (P : Int32 → w_M → Prop) (px : String → w_M → Prop) (hX : u_is G X 10) (hO : L_j1 G O) (hc : u_XMi l D G yX10_barrier cX10_barrier 4 (some .int) 6 121 (.ref (gP G X) :: [.int a1, .int a2]) M P px) (hpx : ∀ E M2, px E M2 → E ∈ [x_IA]) : u_Hm l D G yL_barrier cL_barrier 5 [(0, 10, 13, 13)] 7 144 [.ref (gP G X), .int a1, .int a2, .ref (gP G O)] M (h_post O [x_IA] P px) := by
  refine u_bodyH (by decide) (Nat.le_of_ble_eq_true rfl) (fun p e s m args below meth c A H0 Q C htab hXT hXH kret => ?_)
  have C1 : u_C p (u_rx 7 144) s m args c cL_barrier RL 5 D A H0 1 6 G := C.to rfl (by decide) (by decide)
  refine u_aload_n C (n := 3) dL_barrier_0 rfl ?_
  refine u_iconst C dL_barrier_1 (v := nI 0) rfl ?_
  refine u_aload_n C (n := 0) dL_barrier_2 rfl ?_
  refine u_iload_n C (n := 1) dL_barrier_3 rfl ?_
  refine u_iload_n C (n := 2) dL_barrier_4 rfl ?_
  refine u_callXi C hXT hXH ev_X10_barrier dL_barrier_5 ml_RL_29 hX rfl (by decide) (As := [.int a1, .int a2]) hc ⟨by decide, by decide⟩ rfl rfl (Nat.le_of_ble_eq_true rfl) ⟨by decide, by decide⟩ (fun E M2 he => ?_) (fun r M2 hr => ?_)
  · have hE := hpx E M2 he
    simp only [List.mem_cons, List.not_mem_nil, or_false] at hE
    rcases hE with rfl
    · refine ⟨[], ⟨0, 10, 13, 13⟩, [], htab.trans rfl, ?_, rfl, by decide, ⟨x_IA, hl_13, (hXT.2.1 (41, x_IA) (by simp [x_cls])).2⟩, fun q => ?_⟩
      · intro z hz; exact absurd hz List.not_mem_nil
      · refine u_astore C1 (i := 4) dL_barrier_13 (by decide) ?_
        refine u_iconst C1 dL_barrier_15 (v := nI 1) rfl ?_
        exact kret _ _ _ M2 dL_barrier_16 (Or.inr ⟨x_IA, 0, he, rfl, rfl⟩)
  · refine u_i2l C1 dL_barrier_8 ?_
    refine u_lastN C1 dL_barrier_9 (i := 0) hO.1 hO.2 (by decide) (by decide) ?_
    refine u_goto C1 dL_barrier_10 (tgt := 17) (by decide) ?_
    refine u_iconst C1 dL_barrier_17 (v := nI 0) rfl ?_
    exact kret _ _ _ _ dL_barrier_18 (Or.inl ⟨rfl, r, M2, hr, rfl⟩)
theorem h_L_section (l : Launch) (D : va_G) (G : w_G) (M : w_M) (X O : Nat) (a1 : Int32) (a2 : Int32) (a3 : Int32) (a4 : Int32) (P : Int32 → w_M → Prop) (px : String → w_M → Prop) (hX : u_is G X 10) (hO : L_j1 G O) (hc : u_XMi l D G yX10_section cX10_section 6 (some .int) 6 121 (.ref (gP G X) :: [.int a1, .int a2, .int a3, .int a4]) M P px) (hpx : ∀ E M2, px E M2 → E ∈ [x_IA, x_IS]) : u_Hm l D G yL_section cL_section 7 [(0, 14, 17, 13), (0, 14, 21, 15)] 7 146 [.ref (gP G X), .int a1, .int a2, .int a3, .int a4, .ref (gP G O)] M (h_post O [x_IA, x_IS] P px) := by
  refine u_bodyH (by decide) (Nat.le_of_ble_eq_true rfl) (fun p e s m args below meth c A H0 Q C htab hXT hXH kret => ?_)
  have C1 : u_C p (u_rx 7 146) s m args c cL_section RL 7 D A H0 1 6 G := C.to rfl (by decide) (by decide)
  refine u_aload C (i := 5) dL_section_0 rfl ?_
  refine u_iconst C dL_section_2 (v := nI 0) rfl ?_
  refine u_aload_n C (n := 0) dL_section_3 rfl ?_
  refine u_iload_n C (n := 1) dL_section_4 rfl ?_
  refine u_iload_n C (n := 2) dL_section_5 rfl ?_
  refine u_iload_n C (n := 3) dL_section_6 rfl ?_
  refine u_iload C (i := 4) dL_section_7 rfl ?_
  refine u_callXi C hXT hXH ev_X10_section dL_section_9 ml_RL_32 hX rfl (by decide) (As := [.int a1, .int a2, .int a3, .int a4]) hc ⟨by decide, by decide⟩ rfl rfl (Nat.le_of_ble_eq_true rfl) ⟨by decide, by decide⟩ (fun E M2 he => ?_) (fun r M2 hr => ?_)
  · have hE := hpx E M2 he
    simp only [List.mem_cons, List.not_mem_nil, or_false] at hE
    rcases hE with rfl | rfl
    · refine ⟨[], ⟨0, 14, 17, 13⟩, [⟨0, 14, 21, 15⟩], htab.trans rfl, ?_, rfl, by decide, ⟨x_IA, hl_13, (hXT.2.1 (41, x_IA) (by simp [x_cls])).2⟩, fun q => ?_⟩
      · intro z hz; exact absurd hz List.not_mem_nil
      · refine u_astore C1 (i := 6) dL_section_17 (by decide) ?_
        refine u_iconst C1 dL_section_19 (v := nI 1) rfl ?_
        exact kret _ _ _ M2 dL_section_20 (Or.inr ⟨x_IA, 0, he, rfl, rfl⟩)
    · refine ⟨[⟨0, 14, 17, 13⟩], ⟨0, 14, 21, 15⟩, [], htab.trans rfl, ?_, rfl, by decide, ⟨x_IS, hl_15, (hXT.2.1 (60, x_IS) (by simp [x_cls])).2⟩, fun q => ?_⟩
      · intro z hz
        simp only [List.mem_cons, List.not_mem_nil, or_false] at hz
        rcases hz with rfl
        · exact Or.inr ⟨by decide, x_IA, hl_13, hXT.2.2 (x_IS, x_IA) (by simp [x_nc])⟩
      · refine u_astore C1 (i := 6) dL_section_21 (by decide) ?_
        refine u_iconst C1 dL_section_23 (v := nI 2) rfl ?_
        exact kret _ _ _ M2 dL_section_24 (Or.inr ⟨x_IS, 1, he, rfl, rfl⟩)
  · refine u_i2l C1 dL_section_12 ?_
    refine u_lastN C1 dL_section_13 (i := 0) hO.1 hO.2 (by decide) (by decide) ?_
    refine u_goto C1 dL_section_14 (tgt := 25) (by decide) ?_
    refine u_iconst C1 dL_section_25 (v := nI 0) rfl ?_
    exact kret _ _ _ _ dL_section_26 (Or.inl ⟨rfl, r, M2, hr, rfl⟩)
theorem h_L_intake (l : Launch) (D : va_G) (G : w_G) (M : w_M) (X O : Nat) (a1 : Int32) (a2 : Int32) (a3 : Int32) (a4 : Int32) (a5 : Int32) (P : Int32 → w_M → Prop) (px : String → w_M → Prop) (hX : u_is G X 10) (hO : L_j1 G O) (hc : u_XMi l D G yX10_intake cX10_intake 7 (some .int) 6 121 (.ref (gP G X) :: [.int a1, .int a2, .int a3, .int a4, .int a5]) M P px) (hpx : ∀ E M2, px E M2 → E ∈ [x_IX, x_IA, x_IS]) : u_Hm l D G yL_intake cL_intake 8 [(0, 16, 19, 39), (0, 16, 23, 13), (0, 16, 27, 15)] 7 147 [.ref (gP G X), .int a1, .int a2, .int a3, .int a4, .int a5, .ref (gP G O)] M (h_post O [x_IX, x_IA, x_IS] P px) := by
  refine u_bodyH (by decide) (Nat.le_of_ble_eq_true rfl) (fun p e s m args below meth c A H0 Q C htab hXT hXH kret => ?_)
  have C1 : u_C p (u_rx 7 147) s m args c cL_intake RL 8 D A H0 1 6 G := C.to rfl (by decide) (by decide)
  refine u_aload C (i := 6) dL_intake_0 rfl ?_
  refine u_iconst C dL_intake_2 (v := nI 0) rfl ?_
  refine u_aload_n C (n := 0) dL_intake_3 rfl ?_
  refine u_iload_n C (n := 1) dL_intake_4 rfl ?_
  refine u_iload_n C (n := 2) dL_intake_5 rfl ?_
  refine u_iload_n C (n := 3) dL_intake_6 rfl ?_
  refine u_iload C (i := 4) dL_intake_7 rfl ?_
  refine u_iload C (i := 5) dL_intake_9 rfl ?_
  refine u_callXi C hXT hXH ev_X10_intake dL_intake_11 ml_RL_35 hX rfl (by decide) (As := [.int a1, .int a2, .int a3, .int a4, .int a5]) hc ⟨by decide, by decide⟩ rfl rfl (Nat.le_of_ble_eq_true rfl) ⟨by decide, by decide⟩ (fun E M2 he => ?_) (fun r M2 hr => ?_)
  · have hE := hpx E M2 he
    simp only [List.mem_cons, List.not_mem_nil, or_false] at hE
    rcases hE with rfl | rfl | rfl
    · refine ⟨[], ⟨0, 16, 19, 39⟩, [⟨0, 16, 23, 13⟩, ⟨0, 16, 27, 15⟩], htab.trans rfl, ?_, rfl, by decide, ⟨x_IX, hl_39, (hXT.2.1 (113, x_IX) (by simp [x_cls])).2⟩, fun q => ?_⟩
      · intro z hz; exact absurd hz List.not_mem_nil
      · refine u_astore C1 (i := 7) dL_intake_19 (by decide) ?_
        refine u_iconst C1 dL_intake_21 (v := nI 1) rfl ?_
        exact kret _ _ _ M2 dL_intake_22 (Or.inr ⟨x_IX, 0, he, rfl, rfl⟩)
    · refine ⟨[⟨0, 16, 19, 39⟩], ⟨0, 16, 23, 13⟩, [⟨0, 16, 27, 15⟩], htab.trans rfl, ?_, rfl, by decide, ⟨x_IA, hl_13, (hXT.2.1 (41, x_IA) (by simp [x_cls])).2⟩, fun q => ?_⟩
      · intro z hz
        simp only [List.mem_cons, List.not_mem_nil, or_false] at hz
        rcases hz with rfl
        · exact Or.inr ⟨by decide, x_IX, hl_39, hXT.2.2 (x_IA, x_IX) (by simp [x_nc])⟩
      · refine u_astore C1 (i := 7) dL_intake_23 (by decide) ?_
        refine u_iconst C1 dL_intake_25 (v := nI 2) rfl ?_
        exact kret _ _ _ M2 dL_intake_26 (Or.inr ⟨x_IA, 1, he, rfl, rfl⟩)
    · refine ⟨[⟨0, 16, 19, 39⟩, ⟨0, 16, 23, 13⟩], ⟨0, 16, 27, 15⟩, [], htab.trans rfl, ?_, rfl, by decide, ⟨x_IS, hl_15, (hXT.2.1 (60, x_IS) (by simp [x_cls])).2⟩, fun q => ?_⟩
      · intro z hz
        simp only [List.mem_cons, List.not_mem_nil, or_false] at hz
        rcases hz with rfl | rfl
        · exact Or.inr ⟨by decide, x_IX, hl_39, hXT.2.2 (x_IS, x_IX) (by simp [x_nc])⟩
        · exact Or.inr ⟨by decide, x_IA, hl_13, hXT.2.2 (x_IS, x_IA) (by simp [x_nc])⟩
      · refine u_astore C1 (i := 7) dL_intake_27 (by decide) ?_
        refine u_iconst C1 dL_intake_29 (v := nI 3) rfl ?_
        exact kret _ _ _ M2 dL_intake_30 (Or.inr ⟨x_IS, 2, he, rfl, rfl⟩)
  · refine u_i2l C1 dL_intake_14 ?_
    refine u_lastN C1 dL_intake_15 (i := 0) hO.1 hO.2 (by decide) (by decide) ?_
    refine u_goto C1 dL_intake_16 (tgt := 31) (by decide) ?_
    refine u_iconst C1 dL_intake_31 (v := nI 0) rfl ?_
    exact kret _ _ _ _ dL_intake_32 (Or.inl ⟨rfl, r, M2, hr, rfl⟩)
theorem h_L_oysters (l : Launch) (D : va_G) (G : w_G) (M : w_M) (X O : Nat) (a1 : Int32) (a2 : Int32) (a3 : Int32) (P : Int32 → w_M → Prop) (px : String → w_M → Prop) (hX : u_is G X 10) (hO : L_j1 G O) (hc : u_XMi l D G yX10_oysters cX10_oysters 5 (some .int) 6 90 (.ref (gP G X) :: [.int a1, .int a2, .int a3]) M P px) (hpx : ∀ E M2, px E M2 → E ∈ [x_IX, x_IA, x_IS]) : u_Hm l D G yL_oysters cL_oysters 6 [(0, 12, 15, 39), (0, 12, 19, 13), (0, 12, 23, 15)] 7 114 [.ref (gP G X), .int a1, .int a2, .int a3, .ref (gP G O)] M (h_post O [x_IX, x_IA, x_IS] P px) := by
  refine u_bodyH (by decide) (Nat.le_of_ble_eq_true rfl) (fun p e s m args below meth c A H0 Q C htab hXT hXH kret => ?_)
  have C1 : u_C p (u_rx 7 114) s m args c cL_oysters RL 6 D A H0 1 6 G := C.to rfl (by decide) (by decide)
  refine u_aload C (i := 4) dL_oysters_0 rfl ?_
  refine u_iconst C dL_oysters_2 (v := nI 0) rfl ?_
  refine u_aload_n C (n := 0) dL_oysters_3 rfl ?_
  refine u_iload_n C (n := 1) dL_oysters_4 rfl ?_
  refine u_iload_n C (n := 2) dL_oysters_5 rfl ?_
  refine u_iload_n C (n := 3) dL_oysters_6 rfl ?_
  refine u_callXi C hXT hXH ev_X10_oysters dL_oysters_7 ml_RL_41 hX rfl (by decide) (As := [.int a1, .int a2, .int a3]) hc ⟨by decide, by decide⟩ rfl rfl (Nat.le_of_ble_eq_true rfl) ⟨by decide, by decide⟩ (fun E M2 he => ?_) (fun r M2 hr => ?_)
  · have hE := hpx E M2 he
    simp only [List.mem_cons, List.not_mem_nil, or_false] at hE
    rcases hE with rfl | rfl | rfl
    · refine ⟨[], ⟨0, 12, 15, 39⟩, [⟨0, 12, 19, 13⟩, ⟨0, 12, 23, 15⟩], htab.trans rfl, ?_, rfl, by decide, ⟨x_IX, hl_39, (hXT.2.1 (113, x_IX) (by simp [x_cls])).2⟩, fun q => ?_⟩
      · intro z hz; exact absurd hz List.not_mem_nil
      · refine u_astore C1 (i := 5) dL_oysters_15 (by decide) ?_
        refine u_iconst C1 dL_oysters_17 (v := nI 1) rfl ?_
        exact kret _ _ _ M2 dL_oysters_18 (Or.inr ⟨x_IX, 0, he, rfl, rfl⟩)
    · refine ⟨[⟨0, 12, 15, 39⟩], ⟨0, 12, 19, 13⟩, [⟨0, 12, 23, 15⟩], htab.trans rfl, ?_, rfl, by decide, ⟨x_IA, hl_13, (hXT.2.1 (41, x_IA) (by simp [x_cls])).2⟩, fun q => ?_⟩
      · intro z hz
        simp only [List.mem_cons, List.not_mem_nil, or_false] at hz
        rcases hz with rfl
        · exact Or.inr ⟨by decide, x_IX, hl_39, hXT.2.2 (x_IA, x_IX) (by simp [x_nc])⟩
      · refine u_astore C1 (i := 5) dL_oysters_19 (by decide) ?_
        refine u_iconst C1 dL_oysters_21 (v := nI 2) rfl ?_
        exact kret _ _ _ M2 dL_oysters_22 (Or.inr ⟨x_IA, 1, he, rfl, rfl⟩)
    · refine ⟨[⟨0, 12, 15, 39⟩, ⟨0, 12, 19, 13⟩], ⟨0, 12, 23, 15⟩, [], htab.trans rfl, ?_, rfl, by decide, ⟨x_IS, hl_15, (hXT.2.1 (60, x_IS) (by simp [x_cls])).2⟩, fun q => ?_⟩
      · intro z hz
        simp only [List.mem_cons, List.not_mem_nil, or_false] at hz
        rcases hz with rfl | rfl
        · exact Or.inr ⟨by decide, x_IX, hl_39, hXT.2.2 (x_IS, x_IX) (by simp [x_nc])⟩
        · exact Or.inr ⟨by decide, x_IA, hl_13, hXT.2.2 (x_IS, x_IA) (by simp [x_nc])⟩
      · refine u_astore C1 (i := 5) dL_oysters_23 (by decide) ?_
        refine u_iconst C1 dL_oysters_25 (v := nI 3) rfl ?_
        exact kret _ _ _ M2 dL_oysters_26 (Or.inr ⟨x_IS, 2, he, rfl, rfl⟩)
  · refine u_i2l C1 dL_oysters_10 ?_
    refine u_lastN C1 dL_oysters_11 (i := 0) hO.1 hO.2 (by decide) (by decide) ?_
    refine u_goto C1 dL_oysters_12 (tgt := 27) (by decide) ?_
    refine u_iconst C1 dL_oysters_27 (v := nI 0) rfl ?_
    exact kret _ _ _ _ dL_oysters_28 (Or.inl ⟨rfl, r, M2, hr, rfl⟩)
theorem h_L_permit (l : Launch) (D : va_G) (G : w_G) (M : w_M) (X O : Nat) (a1 : Int32) (a2 : Int32) (P : Int32 → w_M → Prop) (px : String → w_M → Prop) (hX : u_is G X 10) (hO : L_j1 G O) (hc : u_XMi l D G yX10_permit cX10_permit 4 (some .int) 6 121 (.ref (gP G X) :: [.int a1, .int a2]) M P px) (hpx : ∀ E M2, px E M2 → E ∈ [x_IX, x_IA]) : u_Hm l D G yL_permit cL_permit 5 [(0, 10, 13, 39), (0, 10, 17, 13)] 7 144 [.ref (gP G X), .int a1, .int a2, .ref (gP G O)] M (h_post O [x_IX, x_IA] P px) := by
  refine u_bodyH (by decide) (Nat.le_of_ble_eq_true rfl) (fun p e s m args below meth c A H0 Q C htab hXT hXH kret => ?_)
  have C1 : u_C p (u_rx 7 144) s m args c cL_permit RL 5 D A H0 1 6 G := C.to rfl (by decide) (by decide)
  refine u_aload_n C (n := 3) dL_permit_0 rfl ?_
  refine u_iconst C dL_permit_1 (v := nI 0) rfl ?_
  refine u_aload_n C (n := 0) dL_permit_2 rfl ?_
  refine u_iload_n C (n := 1) dL_permit_3 rfl ?_
  refine u_iload_n C (n := 2) dL_permit_4 rfl ?_
  refine u_callXi C hXT hXH ev_X10_permit dL_permit_5 ml_RL_44 hX rfl (by decide) (As := [.int a1, .int a2]) hc ⟨by decide, by decide⟩ rfl rfl (Nat.le_of_ble_eq_true rfl) ⟨by decide, by decide⟩ (fun E M2 he => ?_) (fun r M2 hr => ?_)
  · have hE := hpx E M2 he
    simp only [List.mem_cons, List.not_mem_nil, or_false] at hE
    rcases hE with rfl | rfl
    · refine ⟨[], ⟨0, 10, 13, 39⟩, [⟨0, 10, 17, 13⟩], htab.trans rfl, ?_, rfl, by decide, ⟨x_IX, hl_39, (hXT.2.1 (113, x_IX) (by simp [x_cls])).2⟩, fun q => ?_⟩
      · intro z hz; exact absurd hz List.not_mem_nil
      · refine u_astore C1 (i := 4) dL_permit_13 (by decide) ?_
        refine u_iconst C1 dL_permit_15 (v := nI 1) rfl ?_
        exact kret _ _ _ M2 dL_permit_16 (Or.inr ⟨x_IX, 0, he, rfl, rfl⟩)
    · refine ⟨[⟨0, 10, 13, 39⟩], ⟨0, 10, 17, 13⟩, [], htab.trans rfl, ?_, rfl, by decide, ⟨x_IA, hl_13, (hXT.2.1 (41, x_IA) (by simp [x_cls])).2⟩, fun q => ?_⟩
      · intro z hz
        simp only [List.mem_cons, List.not_mem_nil, or_false] at hz
        rcases hz with rfl
        · exact Or.inr ⟨by decide, x_IX, hl_39, hXT.2.2 (x_IA, x_IX) (by simp [x_nc])⟩
      · refine u_astore C1 (i := 4) dL_permit_17 (by decide) ?_
        refine u_iconst C1 dL_permit_19 (v := nI 2) rfl ?_
        exact kret _ _ _ M2 dL_permit_20 (Or.inr ⟨x_IA, 1, he, rfl, rfl⟩)
  · refine u_i2l C1 dL_permit_8 ?_
    refine u_lastN C1 dL_permit_9 (i := 0) hO.1 hO.2 (by decide) (by decide) ?_
    refine u_goto C1 dL_permit_10 (tgt := 21) (by decide) ?_
    refine u_iconst C1 dL_permit_21 (v := nI 0) rfl ?_
    exact kret _ _ _ _ dL_permit_22 (Or.inl ⟨rfl, r, M2, hr, rfl⟩)
theorem h_L_whyNot (l : Launch) (D : va_G) (G : w_G) (M : w_M) (X O : Nat) (a1 : Int32) (a2 : Int32) (P : Int32 → w_M → Prop) (px : String → w_M → Prop) (hX : u_is G X 10) (hO : L_j1 G O) (hc : u_XMi l D G yX10_whyNot cX10_whyNot 3 (some .int) 6 90 (.ref (gP G X) :: [.int a1, .int a2]) M P px) (hpx : ∀ E M2, px E M2 → E ∈ [x_IX, x_IA]) : u_Hm l D G yL_whyNot cL_whyNot 5 [(0, 10, 13, 39), (0, 10, 17, 13)] 7 112 [.ref (gP G X), .int a1, .int a2, .ref (gP G O)] M (h_post O [x_IX, x_IA] P px) := by
  refine u_bodyH (by decide) (Nat.le_of_ble_eq_true rfl) (fun p e s m args below meth c A H0 Q C htab hXT hXH kret => ?_)
  have C1 : u_C p (u_rx 7 112) s m args c cL_whyNot RL 5 D A H0 1 6 G := C.to rfl (by decide) (by decide)
  refine u_aload_n C (n := 3) dL_whyNot_0 rfl ?_
  refine u_iconst C dL_whyNot_1 (v := nI 0) rfl ?_
  refine u_aload_n C (n := 0) dL_whyNot_2 rfl ?_
  refine u_iload_n C (n := 1) dL_whyNot_3 rfl ?_
  refine u_iload_n C (n := 2) dL_whyNot_4 rfl ?_
  refine u_callXi C hXT hXH ev_X10_whyNot dL_whyNot_5 ml_RL_47 hX rfl (by decide) (As := [.int a1, .int a2]) hc ⟨by decide, by decide⟩ rfl rfl (Nat.le_of_ble_eq_true rfl) ⟨by decide, by decide⟩ (fun E M2 he => ?_) (fun r M2 hr => ?_)
  · have hE := hpx E M2 he
    simp only [List.mem_cons, List.not_mem_nil, or_false] at hE
    rcases hE with rfl | rfl
    · refine ⟨[], ⟨0, 10, 13, 39⟩, [⟨0, 10, 17, 13⟩], htab.trans rfl, ?_, rfl, by decide, ⟨x_IX, hl_39, (hXT.2.1 (113, x_IX) (by simp [x_cls])).2⟩, fun q => ?_⟩
      · intro z hz; exact absurd hz List.not_mem_nil
      · refine u_astore C1 (i := 4) dL_whyNot_13 (by decide) ?_
        refine u_iconst C1 dL_whyNot_15 (v := nI 1) rfl ?_
        exact kret _ _ _ M2 dL_whyNot_16 (Or.inr ⟨x_IX, 0, he, rfl, rfl⟩)
    · refine ⟨[⟨0, 10, 13, 39⟩], ⟨0, 10, 17, 13⟩, [], htab.trans rfl, ?_, rfl, by decide, ⟨x_IA, hl_13, (hXT.2.1 (41, x_IA) (by simp [x_cls])).2⟩, fun q => ?_⟩
      · intro z hz
        simp only [List.mem_cons, List.not_mem_nil, or_false] at hz
        rcases hz with rfl
        · exact Or.inr ⟨by decide, x_IX, hl_39, hXT.2.2 (x_IA, x_IX) (by simp [x_nc])⟩
      · refine u_astore C1 (i := 4) dL_whyNot_17 (by decide) ?_
        refine u_iconst C1 dL_whyNot_19 (v := nI 2) rfl ?_
        exact kret _ _ _ M2 dL_whyNot_20 (Or.inr ⟨x_IA, 1, he, rfl, rfl⟩)
  · refine u_i2l C1 dL_whyNot_8 ?_
    refine u_lastN C1 dL_whyNot_9 (i := 0) hO.1 hO.2 (by decide) (by decide) ?_
    refine u_goto C1 dL_whyNot_10 (tgt := 21) (by decide) ?_
    refine u_iconst C1 dL_whyNot_21 (v := nI 0) rfl ?_
    exact kret _ _ _ _ dL_whyNot_22 (Or.inl ⟨rfl, r, M2, hr, rfl⟩)
theorem h_L_dredge (l : Launch) (D : va_G) (G : w_G) (M : w_M) (X O : Nat) (a1 : Int32) (a2 : Int32) (a3 : Int32) (P : Int32 → w_M → Prop) (px : String → w_M → Prop) (hX : u_is G X 10) (hO : L_j1 G O) (hc : u_XMi l D G yX10_dredge cX10_dredge 4 (some .int) 6 121 (.ref (gP G X) :: [.int a1, .int a2, .int a3]) M P px) (hpx : ∀ E M2, px E M2 → E ∈ [x_IX, x_IA, x_IS]) : u_Hm l D G yL_dredge cL_dredge 6 [(0, 12, 15, 39), (0, 12, 19, 13), (0, 12, 23, 15)] 7 144 [.ref (gP G X), .int a1, .int a2, .int a3, .ref (gP G O)] M (h_post O [x_IX, x_IA, x_IS] P px) := by
  refine u_bodyH (by decide) (Nat.le_of_ble_eq_true rfl) (fun p e s m args below meth c A H0 Q C htab hXT hXH kret => ?_)
  have C1 : u_C p (u_rx 7 144) s m args c cL_dredge RL 6 D A H0 1 6 G := C.to rfl (by decide) (by decide)
  refine u_aload C (i := 4) dL_dredge_0 rfl ?_
  refine u_iconst C dL_dredge_2 (v := nI 0) rfl ?_
  refine u_aload_n C (n := 0) dL_dredge_3 rfl ?_
  refine u_iload_n C (n := 1) dL_dredge_4 rfl ?_
  refine u_iload_n C (n := 2) dL_dredge_5 rfl ?_
  refine u_iload_n C (n := 3) dL_dredge_6 rfl ?_
  refine u_callXi C hXT hXH ev_X10_dredge dL_dredge_7 ml_RL_50 hX rfl (by decide) (As := [.int a1, .int a2, .int a3]) hc ⟨by decide, by decide⟩ rfl rfl (Nat.le_of_ble_eq_true rfl) ⟨by decide, by decide⟩ (fun E M2 he => ?_) (fun r M2 hr => ?_)
  · have hE := hpx E M2 he
    simp only [List.mem_cons, List.not_mem_nil, or_false] at hE
    rcases hE with rfl | rfl | rfl
    · refine ⟨[], ⟨0, 12, 15, 39⟩, [⟨0, 12, 19, 13⟩, ⟨0, 12, 23, 15⟩], htab.trans rfl, ?_, rfl, by decide, ⟨x_IX, hl_39, (hXT.2.1 (113, x_IX) (by simp [x_cls])).2⟩, fun q => ?_⟩
      · intro z hz; exact absurd hz List.not_mem_nil
      · refine u_astore C1 (i := 5) dL_dredge_15 (by decide) ?_
        refine u_iconst C1 dL_dredge_17 (v := nI 1) rfl ?_
        exact kret _ _ _ M2 dL_dredge_18 (Or.inr ⟨x_IX, 0, he, rfl, rfl⟩)
    · refine ⟨[⟨0, 12, 15, 39⟩], ⟨0, 12, 19, 13⟩, [⟨0, 12, 23, 15⟩], htab.trans rfl, ?_, rfl, by decide, ⟨x_IA, hl_13, (hXT.2.1 (41, x_IA) (by simp [x_cls])).2⟩, fun q => ?_⟩
      · intro z hz
        simp only [List.mem_cons, List.not_mem_nil, or_false] at hz
        rcases hz with rfl
        · exact Or.inr ⟨by decide, x_IX, hl_39, hXT.2.2 (x_IA, x_IX) (by simp [x_nc])⟩
      · refine u_astore C1 (i := 5) dL_dredge_19 (by decide) ?_
        refine u_iconst C1 dL_dredge_21 (v := nI 2) rfl ?_
        exact kret _ _ _ M2 dL_dredge_22 (Or.inr ⟨x_IA, 1, he, rfl, rfl⟩)
    · refine ⟨[⟨0, 12, 15, 39⟩, ⟨0, 12, 19, 13⟩], ⟨0, 12, 23, 15⟩, [], htab.trans rfl, ?_, rfl, by decide, ⟨x_IS, hl_15, (hXT.2.1 (60, x_IS) (by simp [x_cls])).2⟩, fun q => ?_⟩
      · intro z hz
        simp only [List.mem_cons, List.not_mem_nil, or_false] at hz
        rcases hz with rfl | rfl
        · exact Or.inr ⟨by decide, x_IX, hl_39, hXT.2.2 (x_IS, x_IX) (by simp [x_nc])⟩
        · exact Or.inr ⟨by decide, x_IA, hl_13, hXT.2.2 (x_IS, x_IA) (by simp [x_nc])⟩
      · refine u_astore C1 (i := 5) dL_dredge_23 (by decide) ?_
        refine u_iconst C1 dL_dredge_25 (v := nI 3) rfl ?_
        exact kret _ _ _ M2 dL_dredge_26 (Or.inr ⟨x_IS, 2, he, rfl, rfl⟩)
  · refine u_i2l C1 dL_dredge_10 ?_
    refine u_lastN C1 dL_dredge_11 (i := 0) hO.1 hO.2 (by decide) (by decide) ?_
    refine u_goto C1 dL_dredge_12 (tgt := 27) (by decide) ?_
    refine u_iconst C1 dL_dredge_27 (v := nI 0) rfl ?_
    exact kret _ _ _ _ dL_dredge_28 (Or.inl ⟨rfl, r, M2, hr, rfl⟩)
theorem h_L_pass (l : Launch) (D : va_G) (G : w_G) (M : w_M) (X O : Nat) (a1 : Int32) (P : Int32 → w_M → Prop) (px : String → w_M → Prop) (hX : u_is G X 10) (hO : L_j1 G O) (hc : u_XMi l D G yX10_pass cX10_pass 2 (some .int) 6 139 (.ref (gP G X) :: [.int a1]) M P px) (hpx : ∀ E M2, px E M2 → E ∈ [x_IA, x_IS]) : u_Hm l D G yL_pass cL_pass 4 [(0, 9, 12, 13), (0, 9, 15, 15)] 7 160 [.ref (gP G X), .int a1, .ref (gP G O)] M (h_post O [x_IA, x_IS] P px) := by
  refine u_bodyH (by decide) (Nat.le_of_ble_eq_true rfl) (fun p e s m args below meth c A H0 Q C htab hXT hXH kret => ?_)
  have C1 : u_C p (u_rx 7 160) s m args c cL_pass RL 4 D A H0 1 6 G := C.to rfl (by decide) (by decide)
  refine u_aload_n C (n := 2) dL_pass_0 rfl ?_
  refine u_iconst C dL_pass_1 (v := nI 0) rfl ?_
  refine u_aload_n C (n := 0) dL_pass_2 rfl ?_
  refine u_iload_n C (n := 1) dL_pass_3 rfl ?_
  refine u_callXi C hXT hXH ev_X10_pass dL_pass_4 ml_RL_53 hX rfl (by decide) (As := [.int a1]) hc ⟨by decide, by decide⟩ rfl rfl (Nat.le_of_ble_eq_true rfl) ⟨by decide, by decide⟩ (fun E M2 he => ?_) (fun r M2 hr => ?_)
  · have hE := hpx E M2 he
    simp only [List.mem_cons, List.not_mem_nil, or_false] at hE
    rcases hE with rfl | rfl
    · refine ⟨[], ⟨0, 9, 12, 13⟩, [⟨0, 9, 15, 15⟩], htab.trans rfl, ?_, rfl, by decide, ⟨x_IA, hl_13, (hXT.2.1 (41, x_IA) (by simp [x_cls])).2⟩, fun q => ?_⟩
      · intro z hz; exact absurd hz List.not_mem_nil
      · refine u_astore_n C1 (n := 3) dL_pass_12 (by decide) ?_
        refine u_iconst C1 dL_pass_13 (v := nI 1) rfl ?_
        exact kret _ _ _ M2 dL_pass_14 (Or.inr ⟨x_IA, 0, he, rfl, rfl⟩)
    · refine ⟨[⟨0, 9, 12, 13⟩], ⟨0, 9, 15, 15⟩, [], htab.trans rfl, ?_, rfl, by decide, ⟨x_IS, hl_15, (hXT.2.1 (60, x_IS) (by simp [x_cls])).2⟩, fun q => ?_⟩
      · intro z hz
        simp only [List.mem_cons, List.not_mem_nil, or_false] at hz
        rcases hz with rfl
        · exact Or.inr ⟨by decide, x_IA, hl_13, hXT.2.2 (x_IS, x_IA) (by simp [x_nc])⟩
      · refine u_astore_n C1 (n := 3) dL_pass_15 (by decide) ?_
        refine u_iconst C1 dL_pass_16 (v := nI 2) rfl ?_
        exact kret _ _ _ M2 dL_pass_17 (Or.inr ⟨x_IS, 1, he, rfl, rfl⟩)
  · refine u_i2l C1 dL_pass_7 ?_
    refine u_lastN C1 dL_pass_8 (i := 0) hO.1 hO.2 (by decide) (by decide) ?_
    refine u_goto C1 dL_pass_9 (tgt := 18) (by decide) ?_
    refine u_iconst C1 dL_pass_18 (v := nI 0) rfl ?_
    exact kret _ _ _ _ dL_pass_19 (Or.inl ⟨rfl, r, M2, hr, rfl⟩)
theorem h_L_sea (l : Launch) (D : va_G) (G : w_G) (M : w_M) (X O : Nat) (a1 : Int32) (P : Int32 → w_M → Prop) (px : String → w_M → Prop) (hX : u_is G X 10) (hO : L_j1 G O) (hc : u_XMi l D G yX10_sea cX10_sea 2 (some .int) 6 90 (.ref (gP G X) :: [.int a1]) M P px) (hpx : ∀ E M2, px E M2 → E ∈ [x_IA]) : u_Hm l D G yL_sea cL_sea 4 [(0, 9, 12, 13)] 7 111 [.ref (gP G X), .int a1, .ref (gP G O)] M (h_post O [x_IA] P px) := by
  refine u_bodyH (by decide) (Nat.le_of_ble_eq_true rfl) (fun p e s m args below meth c A H0 Q C htab hXT hXH kret => ?_)
  have C1 : u_C p (u_rx 7 111) s m args c cL_sea RL 4 D A H0 1 6 G := C.to rfl (by decide) (by decide)
  refine u_aload_n C (n := 2) dL_sea_0 rfl ?_
  refine u_iconst C dL_sea_1 (v := nI 0) rfl ?_
  refine u_aload_n C (n := 0) dL_sea_2 rfl ?_
  refine u_iload_n C (n := 1) dL_sea_3 rfl ?_
  refine u_callXi C hXT hXH ev_X10_sea dL_sea_4 ml_RL_56 hX rfl (by decide) (As := [.int a1]) hc ⟨by decide, by decide⟩ rfl rfl (Nat.le_of_ble_eq_true rfl) ⟨by decide, by decide⟩ (fun E M2 he => ?_) (fun r M2 hr => ?_)
  · have hE := hpx E M2 he
    simp only [List.mem_cons, List.not_mem_nil, or_false] at hE
    rcases hE with rfl
    · refine ⟨[], ⟨0, 9, 12, 13⟩, [], htab.trans rfl, ?_, rfl, by decide, ⟨x_IA, hl_13, (hXT.2.1 (41, x_IA) (by simp [x_cls])).2⟩, fun q => ?_⟩
      · intro z hz; exact absurd hz List.not_mem_nil
      · refine u_astore_n C1 (n := 3) dL_sea_12 (by decide) ?_
        refine u_iconst C1 dL_sea_13 (v := nI 1) rfl ?_
        exact kret _ _ _ M2 dL_sea_14 (Or.inr ⟨x_IA, 0, he, rfl, rfl⟩)
  · refine u_i2l C1 dL_sea_7 ?_
    refine u_lastN C1 dL_sea_8 (i := 0) hO.1 hO.2 (by decide) (by decide) ?_
    refine u_goto C1 dL_sea_9 (tgt := 15) (by decide) ?_
    refine u_iconst C1 dL_sea_15 (v := nI 0) rfl ?_
    exact kret _ _ _ _ dL_sea_16 (Or.inl ⟨rfl, r, M2, hr, rfl⟩)
theorem h_L_ofSection (l : Launch) (D : va_G) (G : w_G) (M : w_M) (X O : Nat) (a1 : Int32) (a2 : Int32) (P : Int32 → w_M → Prop) (px : String → w_M → Prop) (hX : u_is G X 10) (hO : L_j1 G O) (hc : u_XMi l D G yX10_ofSection cX10_ofSection 3 (some .int) 6 90 (.ref (gP G X) :: [.int a1, .int a2]) M P px) (hpx : ∀ E M2, px E M2 → E ∈ [x_IX, x_IA]) : u_Hm l D G yL_ofSection cL_ofSection 5 [(0, 10, 13, 39), (0, 10, 17, 13)] 7 112 [.ref (gP G X), .int a1, .int a2, .ref (gP G O)] M (h_post O [x_IX, x_IA] P px) := by
  refine u_bodyH (by decide) (Nat.le_of_ble_eq_true rfl) (fun p e s m args below meth c A H0 Q C htab hXT hXH kret => ?_)
  have C1 : u_C p (u_rx 7 112) s m args c cL_ofSection RL 5 D A H0 1 6 G := C.to rfl (by decide) (by decide)
  refine u_aload_n C (n := 3) dL_ofSection_0 rfl ?_
  refine u_iconst C dL_ofSection_1 (v := nI 0) rfl ?_
  refine u_aload_n C (n := 0) dL_ofSection_2 rfl ?_
  refine u_iload_n C (n := 1) dL_ofSection_3 rfl ?_
  refine u_iload_n C (n := 2) dL_ofSection_4 rfl ?_
  refine u_callXi C hXT hXH ev_X10_ofSection dL_ofSection_5 ml_RL_59 hX rfl (by decide) (As := [.int a1, .int a2]) hc ⟨by decide, by decide⟩ rfl rfl (Nat.le_of_ble_eq_true rfl) ⟨by decide, by decide⟩ (fun E M2 he => ?_) (fun r M2 hr => ?_)
  · have hE := hpx E M2 he
    simp only [List.mem_cons, List.not_mem_nil, or_false] at hE
    rcases hE with rfl | rfl
    · refine ⟨[], ⟨0, 10, 13, 39⟩, [⟨0, 10, 17, 13⟩], htab.trans rfl, ?_, rfl, by decide, ⟨x_IX, hl_39, (hXT.2.1 (113, x_IX) (by simp [x_cls])).2⟩, fun q => ?_⟩
      · intro z hz; exact absurd hz List.not_mem_nil
      · refine u_astore C1 (i := 4) dL_ofSection_13 (by decide) ?_
        refine u_iconst C1 dL_ofSection_15 (v := nI 1) rfl ?_
        exact kret _ _ _ M2 dL_ofSection_16 (Or.inr ⟨x_IX, 0, he, rfl, rfl⟩)
    · refine ⟨[⟨0, 10, 13, 39⟩], ⟨0, 10, 17, 13⟩, [], htab.trans rfl, ?_, rfl, by decide, ⟨x_IA, hl_13, (hXT.2.1 (41, x_IA) (by simp [x_cls])).2⟩, fun q => ?_⟩
      · intro z hz
        simp only [List.mem_cons, List.not_mem_nil, or_false] at hz
        rcases hz with rfl
        · exact Or.inr ⟨by decide, x_IX, hl_39, hXT.2.2 (x_IA, x_IX) (by simp [x_nc])⟩
      · refine u_astore C1 (i := 4) dL_ofSection_17 (by decide) ?_
        refine u_iconst C1 dL_ofSection_19 (v := nI 2) rfl ?_
        exact kret _ _ _ M2 dL_ofSection_20 (Or.inr ⟨x_IA, 1, he, rfl, rfl⟩)
  · refine u_i2l C1 dL_ofSection_8 ?_
    refine u_lastN C1 dL_ofSection_9 (i := 0) hO.1 hO.2 (by decide) (by decide) ?_
    refine u_goto C1 dL_ofSection_10 (tgt := 21) (by decide) ?_
    refine u_iconst C1 dL_ofSection_21 (v := nI 0) rfl ?_
    exact kret _ _ _ _ dL_ofSection_22 (Or.inl ⟨rfl, r, M2, hr, rfl⟩)
theorem h_L_ofSectionAnew (l : Launch) (D : va_G) (G : w_G) (M : w_M) (X O : Nat) (a1 : Int32) (a2 : Int32) (P : Int32 → w_M → Prop) (px : String → w_M → Prop) (hX : u_is G X 10) (hO : L_j1 G O) (hc : u_XMi l D G yX10_ofSectionAnew cX10_ofSectionAnew 4 (some .int) 6 139 (.ref (gP G X) :: [.int a1, .int a2]) M P px) (hpx : ∀ E M2, px E M2 → E ∈ [x_IX, x_IA]) : u_Hm l D G yL_ofSectionAnew cL_ofSectionAnew 5 [(0, 10, 13, 39), (0, 10, 17, 13)] 7 162 [.ref (gP G X), .int a1, .int a2, .ref (gP G O)] M (h_post O [x_IX, x_IA] P px) := by
  refine u_bodyH (by decide) (Nat.le_of_ble_eq_true rfl) (fun p e s m args below meth c A H0 Q C htab hXT hXH kret => ?_)
  have C1 : u_C p (u_rx 7 162) s m args c cL_ofSectionAnew RL 5 D A H0 1 6 G := C.to rfl (by decide) (by decide)
  refine u_aload_n C (n := 3) dL_ofSectionAnew_0 rfl ?_
  refine u_iconst C dL_ofSectionAnew_1 (v := nI 0) rfl ?_
  refine u_aload_n C (n := 0) dL_ofSectionAnew_2 rfl ?_
  refine u_iload_n C (n := 1) dL_ofSectionAnew_3 rfl ?_
  refine u_iload_n C (n := 2) dL_ofSectionAnew_4 rfl ?_
  refine u_callXi C hXT hXH ev_X10_ofSectionAnew dL_ofSectionAnew_5 ml_RL_62 hX rfl (by decide) (As := [.int a1, .int a2]) hc ⟨by decide, by decide⟩ rfl rfl (Nat.le_of_ble_eq_true rfl) ⟨by decide, by decide⟩ (fun E M2 he => ?_) (fun r M2 hr => ?_)
  · have hE := hpx E M2 he
    simp only [List.mem_cons, List.not_mem_nil, or_false] at hE
    rcases hE with rfl | rfl
    · refine ⟨[], ⟨0, 10, 13, 39⟩, [⟨0, 10, 17, 13⟩], htab.trans rfl, ?_, rfl, by decide, ⟨x_IX, hl_39, (hXT.2.1 (113, x_IX) (by simp [x_cls])).2⟩, fun q => ?_⟩
      · intro z hz; exact absurd hz List.not_mem_nil
      · refine u_astore C1 (i := 4) dL_ofSectionAnew_13 (by decide) ?_
        refine u_iconst C1 dL_ofSectionAnew_15 (v := nI 1) rfl ?_
        exact kret _ _ _ M2 dL_ofSectionAnew_16 (Or.inr ⟨x_IX, 0, he, rfl, rfl⟩)
    · refine ⟨[⟨0, 10, 13, 39⟩], ⟨0, 10, 17, 13⟩, [], htab.trans rfl, ?_, rfl, by decide, ⟨x_IA, hl_13, (hXT.2.1 (41, x_IA) (by simp [x_cls])).2⟩, fun q => ?_⟩
      · intro z hz
        simp only [List.mem_cons, List.not_mem_nil, or_false] at hz
        rcases hz with rfl
        · exact Or.inr ⟨by decide, x_IX, hl_39, hXT.2.2 (x_IA, x_IX) (by simp [x_nc])⟩
      · refine u_astore C1 (i := 4) dL_ofSectionAnew_17 (by decide) ?_
        refine u_iconst C1 dL_ofSectionAnew_19 (v := nI 2) rfl ?_
        exact kret _ _ _ M2 dL_ofSectionAnew_20 (Or.inr ⟨x_IA, 1, he, rfl, rfl⟩)
  · refine u_i2l C1 dL_ofSectionAnew_8 ?_
    refine u_lastN C1 dL_ofSectionAnew_9 (i := 0) hO.1 hO.2 (by decide) (by decide) ?_
    refine u_goto C1 dL_ofSectionAnew_10 (tgt := 21) (by decide) ?_
    refine u_iconst C1 dL_ofSectionAnew_21 (v := nI 0) rfl ?_
    exact kret _ _ _ _ dL_ofSectionAnew_22 (Or.inl ⟨rfl, r, M2, hr, rfl⟩)
theorem h_L_ofIntake (l : Launch) (D : va_G) (G : w_G) (M : w_M) (X O : Nat) (a1 : Int32) (a2 : Int32) (P : Int32 → w_M → Prop) (px : String → w_M → Prop) (hX : u_is G X 10) (hO : L_j1 G O) (hc : u_XMi l D G yX10_ofIntake cX10_ofIntake 3 (some .int) 6 90 (.ref (gP G X) :: [.int a1, .int a2]) M P px) (hpx : ∀ E M2, px E M2 → E ∈ [x_IX, x_IA]) : u_Hm l D G yL_ofIntake cL_ofIntake 5 [(0, 10, 13, 39), (0, 10, 17, 13)] 7 112 [.ref (gP G X), .int a1, .int a2, .ref (gP G O)] M (h_post O [x_IX, x_IA] P px) := by
  refine u_bodyH (by decide) (Nat.le_of_ble_eq_true rfl) (fun p e s m args below meth c A H0 Q C htab hXT hXH kret => ?_)
  have C1 : u_C p (u_rx 7 112) s m args c cL_ofIntake RL 5 D A H0 1 6 G := C.to rfl (by decide) (by decide)
  refine u_aload_n C (n := 3) dL_ofIntake_0 rfl ?_
  refine u_iconst C dL_ofIntake_1 (v := nI 0) rfl ?_
  refine u_aload_n C (n := 0) dL_ofIntake_2 rfl ?_
  refine u_iload_n C (n := 1) dL_ofIntake_3 rfl ?_
  refine u_iload_n C (n := 2) dL_ofIntake_4 rfl ?_
  refine u_callXi C hXT hXH ev_X10_ofIntake dL_ofIntake_5 ml_RL_65 hX rfl (by decide) (As := [.int a1, .int a2]) hc ⟨by decide, by decide⟩ rfl rfl (Nat.le_of_ble_eq_true rfl) ⟨by decide, by decide⟩ (fun E M2 he => ?_) (fun r M2 hr => ?_)
  · have hE := hpx E M2 he
    simp only [List.mem_cons, List.not_mem_nil, or_false] at hE
    rcases hE with rfl | rfl
    · refine ⟨[], ⟨0, 10, 13, 39⟩, [⟨0, 10, 17, 13⟩], htab.trans rfl, ?_, rfl, by decide, ⟨x_IX, hl_39, (hXT.2.1 (113, x_IX) (by simp [x_cls])).2⟩, fun q => ?_⟩
      · intro z hz; exact absurd hz List.not_mem_nil
      · refine u_astore C1 (i := 4) dL_ofIntake_13 (by decide) ?_
        refine u_iconst C1 dL_ofIntake_15 (v := nI 1) rfl ?_
        exact kret _ _ _ M2 dL_ofIntake_16 (Or.inr ⟨x_IX, 0, he, rfl, rfl⟩)
    · refine ⟨[⟨0, 10, 13, 39⟩], ⟨0, 10, 17, 13⟩, [], htab.trans rfl, ?_, rfl, by decide, ⟨x_IA, hl_13, (hXT.2.1 (41, x_IA) (by simp [x_cls])).2⟩, fun q => ?_⟩
      · intro z hz
        simp only [List.mem_cons, List.not_mem_nil, or_false] at hz
        rcases hz with rfl
        · exact Or.inr ⟨by decide, x_IX, hl_39, hXT.2.2 (x_IA, x_IX) (by simp [x_nc])⟩
      · refine u_astore C1 (i := 4) dL_ofIntake_17 (by decide) ?_
        refine u_iconst C1 dL_ofIntake_19 (v := nI 2) rfl ?_
        exact kret _ _ _ M2 dL_ofIntake_20 (Or.inr ⟨x_IA, 1, he, rfl, rfl⟩)
  · refine u_i2l C1 dL_ofIntake_8 ?_
    refine u_lastN C1 dL_ofIntake_9 (i := 0) hO.1 hO.2 (by decide) (by decide) ?_
    refine u_goto C1 dL_ofIntake_10 (tgt := 21) (by decide) ?_
    refine u_iconst C1 dL_ofIntake_21 (v := nI 0) rfl ?_
    exact kret _ _ _ _ dL_ofIntake_22 (Or.inl ⟨rfl, r, M2, hr, rfl⟩)
theorem h_L_isClosed (l : Launch) (D : va_G) (G : w_G) (M : w_M) (X O : Nat) (a1 : Int32) (P : Int32 → w_M → Prop) (px : String → w_M → Prop) (hX : u_is G X 10) (hO : L_j1 G O) (hc : u_XMi l D G yX10_isClosed cX10_isClosed 3 (some .boolean) 6 90 (.ref (gP G X) :: [.int a1]) M P px) (hpx : ∀ E M2, px E M2 → E ∈ [x_IX]) : u_Hm l D G yL_isClosed cL_isClosed 4 [(0, 16, 19, 39)] 7 112 [.ref (gP G X), .int a1, .ref (gP G O)] M (h_postZ O [x_IX] P px) := by
  refine u_bodyH (by decide) (Nat.le_of_ble_eq_true rfl) (fun p e s m args below meth c A H0 Q C htab hXT hXH kret => ?_)
  have C1 : u_C p (u_rx 7 112) s m args c cL_isClosed RL 4 D A H0 1 6 G := C.to rfl (by decide) (by decide)
  refine u_aload_n C (n := 2) dL_isClosed_0 rfl ?_
  refine u_iconst C dL_isClosed_1 (v := nI 0) rfl ?_
  refine u_aload_n C (n := 0) dL_isClosed_2 rfl ?_
  refine u_iload_n C (n := 1) dL_isClosed_3 rfl ?_
  refine u_callXi C hXT hXH ev_X10_isClosed dL_isClosed_4 ml_RL_68 hX rfl (by decide) (As := [.int a1]) hc ⟨by decide, by decide⟩ rfl rfl (Nat.le_of_ble_eq_true rfl) ⟨by decide, by decide⟩ (fun E M2 he => ?_) (fun r M2 hr => ?_)
  · have hE := hpx E M2 he
    simp only [List.mem_cons, List.not_mem_nil, or_false] at hE
    rcases hE with rfl
    · refine ⟨[], ⟨0, 16, 19, 39⟩, [], htab.trans rfl, ?_, rfl, by decide, ⟨x_IX, hl_39, (hXT.2.1 (113, x_IX) (by simp [x_cls])).2⟩, fun q => ?_⟩
      · intro z hz; exact absurd hz List.not_mem_nil
      · refine u_astore_n C1 (n := 3) dL_isClosed_19 (by decide) ?_
        refine u_iconst C1 dL_isClosed_20 (v := nI 1) rfl ?_
        exact kret _ _ _ M2 dL_isClosed_21 (Or.inr ⟨x_IX, 0, he, rfl, rfl⟩)
  · refine u_if_eq C1 dL_isClosed_7 (tgt := 14) (by decide) (fun h0 => ?_) (fun h0 => ?_)
    · refine u_lconst C1 dL_isClosed_14 (v := 0) rfl ?_
      refine u_lastN C1 dL_isClosed_15 (i := 0) hO.1 hO.2 (by decide) (by decide) ?_
      refine u_goto C1 dL_isClosed_16 (tgt := 22) (by decide) ?_
      refine u_iconst C1 dL_isClosed_22 (v := nI 0) rfl ?_
      exact kret _ _ _ _ dL_isClosed_23 (Or.inl ⟨rfl, r, M2, hr, by rw [if_pos h0]⟩)
    · refine u_lconst C1 dL_isClosed_10 (v := 1) rfl ?_
      refine u_goto C1 dL_isClosed_11 (tgt := 15) (by decide) ?_
      refine u_lastN C1 dL_isClosed_15 (i := 0) hO.1 hO.2 (by decide) (by decide) ?_
      refine u_goto C1 dL_isClosed_16 (tgt := 22) (by decide) ?_
      refine u_iconst C1 dL_isClosed_22 (v := nI 0) rfl ?_
      exact kret _ _ _ _ dL_isClosed_23 (Or.inl ⟨rfl, r, M2, hr, by rw [if_neg h0]⟩)
theorem h_L_closure (l : Launch) (D : va_G) (G : w_G) (M : w_M) (X O : Nat) (a1 : Int32) (a2 : Int32) (P : Int32 → w_M → Prop) (px : String → w_M → Prop) (hX : u_is G X 10) (hO : L_j1 G O) (hc : u_XMi l D G yX10_closure cX10_closure 3 (some .int) 6 90 (.ref (gP G X) :: [.int a1, .int a2]) M P px) (hpx : ∀ E M2, px E M2 → E ∈ [x_IX, x_IA]) : u_Hm l D G yL_closure cL_closure 5 [(0, 10, 13, 39), (0, 10, 17, 13)] 7 112 [.ref (gP G X), .int a1, .int a2, .ref (gP G O)] M (h_post O [x_IX, x_IA] P px) := by
  refine u_bodyH (by decide) (Nat.le_of_ble_eq_true rfl) (fun p e s m args below meth c A H0 Q C htab hXT hXH kret => ?_)
  have C1 : u_C p (u_rx 7 112) s m args c cL_closure RL 5 D A H0 1 6 G := C.to rfl (by decide) (by decide)
  refine u_aload_n C (n := 3) dL_closure_0 rfl ?_
  refine u_iconst C dL_closure_1 (v := nI 0) rfl ?_
  refine u_aload_n C (n := 0) dL_closure_2 rfl ?_
  refine u_iload_n C (n := 1) dL_closure_3 rfl ?_
  refine u_iload_n C (n := 2) dL_closure_4 rfl ?_
  refine u_callXi C hXT hXH ev_X10_closure dL_closure_5 ml_RL_72 hX rfl (by decide) (As := [.int a1, .int a2]) hc ⟨by decide, by decide⟩ rfl rfl (Nat.le_of_ble_eq_true rfl) ⟨by decide, by decide⟩ (fun E M2 he => ?_) (fun r M2 hr => ?_)
  · have hE := hpx E M2 he
    simp only [List.mem_cons, List.not_mem_nil, or_false] at hE
    rcases hE with rfl | rfl
    · refine ⟨[], ⟨0, 10, 13, 39⟩, [⟨0, 10, 17, 13⟩], htab.trans rfl, ?_, rfl, by decide, ⟨x_IX, hl_39, (hXT.2.1 (113, x_IX) (by simp [x_cls])).2⟩, fun q => ?_⟩
      · intro z hz; exact absurd hz List.not_mem_nil
      · refine u_astore C1 (i := 4) dL_closure_13 (by decide) ?_
        refine u_iconst C1 dL_closure_15 (v := nI 1) rfl ?_
        exact kret _ _ _ M2 dL_closure_16 (Or.inr ⟨x_IX, 0, he, rfl, rfl⟩)
    · refine ⟨[⟨0, 10, 13, 39⟩], ⟨0, 10, 17, 13⟩, [], htab.trans rfl, ?_, rfl, by decide, ⟨x_IA, hl_13, (hXT.2.1 (41, x_IA) (by simp [x_cls])).2⟩, fun q => ?_⟩
      · intro z hz
        simp only [List.mem_cons, List.not_mem_nil, or_false] at hz
        rcases hz with rfl
        · exact Or.inr ⟨by decide, x_IX, hl_39, hXT.2.2 (x_IA, x_IX) (by simp [x_nc])⟩
      · refine u_astore C1 (i := 4) dL_closure_17 (by decide) ?_
        refine u_iconst C1 dL_closure_19 (v := nI 2) rfl ?_
        exact kret _ _ _ M2 dL_closure_20 (Or.inr ⟨x_IA, 1, he, rfl, rfl⟩)
  · refine u_i2l C1 dL_closure_8 ?_
    refine u_lastN C1 dL_closure_9 (i := 0) hO.1 hO.2 (by decide) (by decide) ?_
    refine u_goto C1 dL_closure_10 (tgt := 21) (by decide) ?_
    refine u_iconst C1 dL_closure_21 (v := nI 0) rfl ?_
    exact kret _ _ _ _ dL_closure_22 (Or.inl ⟨rfl, r, M2, hr, rfl⟩)
theorem h_L_intrusion (l : Launch) (D : va_G) (G : w_G) (M : w_M) (X O : Nat) (a1 : Int32) (P : Int32 → w_M → Prop) (px : String → w_M → Prop) (hX : u_is G X 10) (hO : L_j1 G O) (hc : u_XMi l D G yX10_intrusion cX10_intrusion 3 (some .int) 6 90 (.ref (gP G X) :: [.int a1]) M P px) (hpx : ∀ E M2, px E M2 → E ∈ [x_IA]) : u_Hm l D G yL_intrusion cL_intrusion 4 [(0, 9, 12, 13)] 7 112 [.ref (gP G X), .int a1, .ref (gP G O)] M (h_post O [x_IA] P px) := by
  refine u_bodyH (by decide) (Nat.le_of_ble_eq_true rfl) (fun p e s m args below meth c A H0 Q C htab hXT hXH kret => ?_)
  have C1 : u_C p (u_rx 7 112) s m args c cL_intrusion RL 4 D A H0 1 6 G := C.to rfl (by decide) (by decide)
  refine u_aload_n C (n := 2) dL_intrusion_0 rfl ?_
  refine u_iconst C dL_intrusion_1 (v := nI 0) rfl ?_
  refine u_aload_n C (n := 0) dL_intrusion_2 rfl ?_
  refine u_iload_n C (n := 1) dL_intrusion_3 rfl ?_
  refine u_callXi C hXT hXH ev_X10_intrusion dL_intrusion_4 ml_RL_75 hX rfl (by decide) (As := [.int a1]) hc ⟨by decide, by decide⟩ rfl rfl (Nat.le_of_ble_eq_true rfl) ⟨by decide, by decide⟩ (fun E M2 he => ?_) (fun r M2 hr => ?_)
  · have hE := hpx E M2 he
    simp only [List.mem_cons, List.not_mem_nil, or_false] at hE
    rcases hE with rfl
    · refine ⟨[], ⟨0, 9, 12, 13⟩, [], htab.trans rfl, ?_, rfl, by decide, ⟨x_IA, hl_13, (hXT.2.1 (41, x_IA) (by simp [x_cls])).2⟩, fun q => ?_⟩
      · intro z hz; exact absurd hz List.not_mem_nil
      · refine u_astore_n C1 (n := 3) dL_intrusion_12 (by decide) ?_
        refine u_iconst C1 dL_intrusion_13 (v := nI 1) rfl ?_
        exact kret _ _ _ M2 dL_intrusion_14 (Or.inr ⟨x_IA, 0, he, rfl, rfl⟩)
  · refine u_i2l C1 dL_intrusion_7 ?_
    refine u_lastN C1 dL_intrusion_8 (i := 0) hO.1 hO.2 (by decide) (by decide) ?_
    refine u_goto C1 dL_intrusion_9 (tgt := 15) (by decide) ?_
    refine u_iconst C1 dL_intrusion_15 (v := nI 0) rfl ?_
    exact kret _ _ _ _ dL_intrusion_16 (Or.inl ⟨rfl, r, M2, hr, rfl⟩)
theorem h_L_window (l : Launch) (D : va_G) (G : w_G) (M : w_M) (X O : Nat) (a1 : Int32) (a2 : Int32) (P : Int32 → w_M → Prop) (px : String → w_M → Prop) (hX : u_is G X 10) (hO : L_j1 G O) (hc : u_XMi l D G yX10_window cX10_window 3 (some .int) 6 90 (.ref (gP G X) :: [.int a1, .int a2]) M P px) (hpx : ∀ E M2, px E M2 → E ∈ [x_IA, x_IS]) : u_Hm l D G yL_window cL_window 5 [(0, 10, 13, 13), (0, 10, 17, 15)] 7 112 [.ref (gP G X), .int a1, .int a2, .ref (gP G O)] M (h_post O [x_IA, x_IS] P px) := by
  refine u_bodyH (by decide) (Nat.le_of_ble_eq_true rfl) (fun p e s m args below meth c A H0 Q C htab hXT hXH kret => ?_)
  have C1 : u_C p (u_rx 7 112) s m args c cL_window RL 5 D A H0 1 6 G := C.to rfl (by decide) (by decide)
  refine u_aload_n C (n := 3) dL_window_0 rfl ?_
  refine u_iconst C dL_window_1 (v := nI 0) rfl ?_
  refine u_aload_n C (n := 0) dL_window_2 rfl ?_
  refine u_iload_n C (n := 1) dL_window_3 rfl ?_
  refine u_iload_n C (n := 2) dL_window_4 rfl ?_
  refine u_callXi C hXT hXH ev_X10_window dL_window_5 ml_RL_78 hX rfl (by decide) (As := [.int a1, .int a2]) hc ⟨by decide, by decide⟩ rfl rfl (Nat.le_of_ble_eq_true rfl) ⟨by decide, by decide⟩ (fun E M2 he => ?_) (fun r M2 hr => ?_)
  · have hE := hpx E M2 he
    simp only [List.mem_cons, List.not_mem_nil, or_false] at hE
    rcases hE with rfl | rfl
    · refine ⟨[], ⟨0, 10, 13, 13⟩, [⟨0, 10, 17, 15⟩], htab.trans rfl, ?_, rfl, by decide, ⟨x_IA, hl_13, (hXT.2.1 (41, x_IA) (by simp [x_cls])).2⟩, fun q => ?_⟩
      · intro z hz; exact absurd hz List.not_mem_nil
      · refine u_astore C1 (i := 4) dL_window_13 (by decide) ?_
        refine u_iconst C1 dL_window_15 (v := nI 1) rfl ?_
        exact kret _ _ _ M2 dL_window_16 (Or.inr ⟨x_IA, 0, he, rfl, rfl⟩)
    · refine ⟨[⟨0, 10, 13, 13⟩], ⟨0, 10, 17, 15⟩, [], htab.trans rfl, ?_, rfl, by decide, ⟨x_IS, hl_15, (hXT.2.1 (60, x_IS) (by simp [x_cls])).2⟩, fun q => ?_⟩
      · intro z hz
        simp only [List.mem_cons, List.not_mem_nil, or_false] at hz
        rcases hz with rfl
        · exact Or.inr ⟨by decide, x_IA, hl_13, hXT.2.2 (x_IS, x_IA) (by simp [x_nc])⟩
      · refine u_astore C1 (i := 4) dL_window_17 (by decide) ?_
        refine u_iconst C1 dL_window_19 (v := nI 2) rfl ?_
        exact kret _ _ _ M2 dL_window_20 (Or.inr ⟨x_IS, 1, he, rfl, rfl⟩)
  · refine u_i2l C1 dL_window_8 ?_
    refine u_lastN C1 dL_window_9 (i := 0) hO.1 hO.2 (by decide) (by decide) ?_
    refine u_goto C1 dL_window_10 (tgt := 21) (by decide) ?_
    refine u_iconst C1 dL_window_21 (v := nI 0) rfl ?_
    exact kret _ _ _ _ dL_window_22 (Or.inl ⟨rfl, r, M2, hr, rfl⟩)
theorem h_L_sum (l : Launch) (D : va_G) (G : w_G) (M : w_M) (X O : Nat) (a1 : Int32) (P : Int64 → w_M → Prop) (px : String → w_M → Prop) (hX : u_is G X 10) (hO : L_j1 G O) (hc : u_XMl l D G yX10_sum cX10_sum 2 (some .long) 6 90 (.ref (gP G X) :: [.int a1]) M P px) (hpx : ∀ E M2, px E M2 → E ∈ [x_IA]) : u_Hm l D G yL_sum cL_sum 4 [(0, 8, 11, 13)] 7 111 [.ref (gP G X), .int a1, .ref (gP G O)] M (h_postL O [x_IA] P px) := by
  refine u_bodyH (by decide) (Nat.le_of_ble_eq_true rfl) (fun p e s m args below meth c A H0 Q C htab hXT hXH kret => ?_)
  have C1 : u_C p (u_rx 7 111) s m args c cL_sum RL 4 D A H0 1 6 G := C.to rfl (by decide) (by decide)
  refine u_aload_n C (n := 2) dL_sum_0 rfl ?_
  refine u_iconst C dL_sum_1 (v := nI 0) rfl ?_
  refine u_aload_n C (n := 0) dL_sum_2 rfl ?_
  refine u_iload_n C (n := 1) dL_sum_3 rfl ?_
  refine u_callXl C hXT hXH ev_X10_sum dL_sum_4 ml_RL_81 hX rfl (by decide) (As := [.int a1]) hc ⟨by decide, by decide⟩ rfl rfl (Nat.le_of_ble_eq_true rfl) ⟨by decide, by decide⟩ (fun E M2 he => ?_) (fun r M2 hr => ?_)
  · have hE := hpx E M2 he
    simp only [List.mem_cons, List.not_mem_nil, or_false] at hE
    rcases hE with rfl
    · refine ⟨[], ⟨0, 8, 11, 13⟩, [], htab.trans rfl, ?_, rfl, by decide, ⟨x_IA, hl_13, (hXT.2.1 (41, x_IA) (by simp [x_cls])).2⟩, fun q => ?_⟩
      · intro z hz; exact absurd hz List.not_mem_nil
      · refine u_astore_n C1 (n := 3) dL_sum_11 (by decide) ?_
        refine u_iconst C1 dL_sum_12 (v := nI 1) rfl ?_
        exact kret _ _ _ M2 dL_sum_13 (Or.inr ⟨x_IA, 0, he, rfl, rfl⟩)
  · refine u_lastN C1 dL_sum_7 (i := 0) hO.1 hO.2 (by decide) (by decide) ?_
    refine u_goto C1 dL_sum_8 (tgt := 14) (by decide) ?_
    refine u_iconst C1 dL_sum_14 (v := nI 0) rfl ?_
    exact kret _ _ _ _ dL_sum_15 (Or.inl ⟨rfl, r, M2, hr, rfl⟩)
