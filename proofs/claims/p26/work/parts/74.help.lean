/-! the law's helpers that catch -/
theorem h_section (l : Launch) (D : va_G) (G : w_G) (M : w_M) (X : Nat) (a1 : Int32) (a2 : Int32) (a3 : Int32) (a4 : Int32) (P : Int32 → w_M → Prop) (px : String → w_M → Prop) (hX : u_is G X 10) (hc : u_XMi l D G yX10_section cX10_section 6 (some .int) 6 121 (.ref (gP G X) :: [.int a1, .int a2, .int a3, .int a4]) M P px) (hpx : ∀ E M2, px E M2 → E = x_IS) : u_Hm l D G yL_section cL_section 6 [(0, 9, 10, 16)] 7 146 [.ref (gP G X), .int a1, .int a2, .int a3, .int a4] M (fun r M2 => P r M2 ∨ (r = -200 ∧ px x_IS M2)) := by
  refine u_bodyH (by decide) (Nat.le_of_ble_eq_true rfl) (fun p e s m args below meth c A H0 Q C htab hXT hXH kret => ?_)
  have C1 : u_C p (u_rx 7 146) s m args c cL_section RL 6 D A H0 1 6 G := C.to rfl (by decide) (by decide)
  refine u_aload_n C dL_section_0 rfl ?_
  refine u_iload_n C dL_section_1 rfl ?_
  refine u_iload_n C dL_section_2 rfl ?_
  refine u_iload_n C dL_section_3 rfl ?_
  refine u_iload C dL_section_4 rfl ?_
  refine u_callXi C hXT hXH ev_X10_section dL_section_6 ml_RL_10 hX rfl (by decide) (As := [.int a1, .int a2, .int a3, .int a4]) hc ⟨by decide, by decide⟩ rfl rfl (Nat.le_of_ble_eq_true rfl) ⟨by decide, by decide⟩ (fun E M2 he => ?_) (fun r M2 hr => ?_)
  · obtain rfl := hpx E M2 he
    refine ⟨[], ⟨0, 9, 10, 16⟩, [], htab.trans rfl, ?_, rfl, by decide, ⟨x_IS, hl_16, (hXT.2.1 (60, x_IS) (by simp [x_cls])).2⟩, fun q => ?_⟩
    · intro z hz; exact absurd hz List.not_mem_nil
    · refine u_astore C1 (i := 5) dL_section_10 (by decide) ?_
      refine u_sipush C1 dL_section_12 (v := -200) (by decide) ?_
      exact kret _ _ _ M2 dL_section_15 (Or.inr ⟨rfl, he⟩)
  · exact kret _ _ _ _ dL_section_9 (Or.inl hr)
theorem h_turn (l : Launch) (D : va_G) (G : w_G) (M : w_M) (X : Nat) (a1 : Int32) (a2 : Int32) (a3 : Int32) (a4 : Int32) (P : Int32 → w_M → Prop) (px : String → w_M → Prop) (hX : u_is G X 10) (hc : u_XMi l D G yX10_turn cX10_turn 6 (some .int) 6 121 (.ref (gP G X) :: [.int a1, .int a2, .int a3, .int a4]) M P px) (hpx : ∀ E M2, px E M2 → E = x_IS) : u_Hm l D G yL_turn cL_turn 6 [(0, 9, 10, 16)] 7 146 [.ref (gP G X), .int a1, .int a2, .int a3, .int a4] M (fun r M2 => P r M2 ∨ (r = -200 ∧ px x_IS M2)) := by
  refine u_bodyH (by decide) (Nat.le_of_ble_eq_true rfl) (fun p e s m args below meth c A H0 Q C htab hXT hXH kret => ?_)
  have C1 : u_C p (u_rx 7 146) s m args c cL_turn RL 6 D A H0 1 6 G := C.to rfl (by decide) (by decide)
  refine u_aload_n C dL_turn_0 rfl ?_
  refine u_iload_n C dL_turn_1 rfl ?_
  refine u_iload_n C dL_turn_2 rfl ?_
  refine u_iload_n C dL_turn_3 rfl ?_
  refine u_iload C dL_turn_4 rfl ?_
  refine u_callXi C hXT hXH ev_X10_turn dL_turn_6 ml_RL_37 hX rfl (by decide) (As := [.int a1, .int a2, .int a3, .int a4]) hc ⟨by decide, by decide⟩ rfl rfl (Nat.le_of_ble_eq_true rfl) ⟨by decide, by decide⟩ (fun E M2 he => ?_) (fun r M2 hr => ?_)
  · obtain rfl := hpx E M2 he
    refine ⟨[], ⟨0, 9, 10, 16⟩, [], htab.trans rfl, ?_, rfl, by decide, ⟨x_IS, hl_16, (hXT.2.1 (60, x_IS) (by simp [x_cls])).2⟩, fun q => ?_⟩
    · intro z hz; exact absurd hz List.not_mem_nil
    · refine u_astore C1 (i := 5) dL_turn_10 (by decide) ?_
      refine u_sipush C1 dL_turn_12 (v := -200) (by decide) ?_
      exact kret _ _ _ M2 dL_turn_15 (Or.inr ⟨rfl, he⟩)
  · exact kret _ _ _ _ dL_turn_9 (Or.inl hr)
theorem h_intake (l : Launch) (D : va_G) (G : w_G) (M : w_M) (X : Nat) (a1 : Int32) (a2 : Int32) (a3 : Int32) (a4 : Int32) (a5 : Int32) (P : Int32 → w_M → Prop) (px : String → w_M → Prop) (hX : u_is G X 10) (hc : u_XMi l D G yX10_intake cX10_intake 7 (some .int) 6 121 (.ref (gP G X) :: [.int a1, .int a2, .int a3, .int a4, .int a5]) M P px) (hpx : ∀ E M2, px E M2 → E = x_IS) : u_Hm l D G yL_intake cL_intake 7 [(0, 11, 12, 16)] 7 147 [.ref (gP G X), .int a1, .int a2, .int a3, .int a4, .int a5] M (fun r M2 => P r M2 ∨ (r = -200 ∧ px x_IS M2)) := by
  refine u_bodyH (by decide) (Nat.le_of_ble_eq_true rfl) (fun p e s m args below meth c A H0 Q C htab hXT hXH kret => ?_)
  have C1 : u_C p (u_rx 7 147) s m args c cL_intake RL 7 D A H0 1 6 G := C.to rfl (by decide) (by decide)
  refine u_aload_n C dL_intake_0 rfl ?_
  refine u_iload_n C dL_intake_1 rfl ?_
  refine u_iload_n C dL_intake_2 rfl ?_
  refine u_iload_n C dL_intake_3 rfl ?_
  refine u_iload C dL_intake_4 rfl ?_
  refine u_iload C dL_intake_6 rfl ?_
  refine u_callXi C hXT hXH ev_X10_intake dL_intake_8 ml_RL_40 hX rfl (by decide) (As := [.int a1, .int a2, .int a3, .int a4, .int a5]) hc ⟨by decide, by decide⟩ rfl rfl (Nat.le_of_ble_eq_true rfl) ⟨by decide, by decide⟩ (fun E M2 he => ?_) (fun r M2 hr => ?_)
  · obtain rfl := hpx E M2 he
    refine ⟨[], ⟨0, 11, 12, 16⟩, [], htab.trans rfl, ?_, rfl, by decide, ⟨x_IS, hl_16, (hXT.2.1 (60, x_IS) (by simp [x_cls])).2⟩, fun q => ?_⟩
    · intro z hz; exact absurd hz List.not_mem_nil
    · refine u_astore C1 (i := 6) dL_intake_12 (by decide) ?_
      refine u_sipush C1 dL_intake_14 (v := -200) (by decide) ?_
      exact kret _ _ _ M2 dL_intake_17 (Or.inr ⟨rfl, he⟩)
  · exact kret _ _ _ _ dL_intake_11 (Or.inl hr)
theorem h_oysters (l : Launch) (D : va_G) (G : w_G) (M : w_M) (X : Nat) (a1 : Int32) (a2 : Int32) (a3 : Int32) (P : Int32 → w_M → Prop) (px : String → w_M → Prop) (hX : u_is G X 10) (hc : u_XMi l D G yX10_oysters cX10_oysters 5 (some .int) 6 90 (.ref (gP G X) :: [.int a1, .int a2, .int a3]) M P px) (hpx : ∀ E M2, px E M2 → E = x_IS) : u_Hm l D G yL_oysters cL_oysters 5 [(0, 7, 8, 16)] 7 114 [.ref (gP G X), .int a1, .int a2, .int a3] M (fun r M2 => P r M2 ∨ (r = -200 ∧ px x_IS M2)) := by
  refine u_bodyH (by decide) (Nat.le_of_ble_eq_true rfl) (fun p e s m args below meth c A H0 Q C htab hXT hXH kret => ?_)
  have C1 : u_C p (u_rx 7 114) s m args c cL_oysters RL 5 D A H0 1 6 G := C.to rfl (by decide) (by decide)
  refine u_aload_n C dL_oysters_0 rfl ?_
  refine u_iload_n C dL_oysters_1 rfl ?_
  refine u_iload_n C dL_oysters_2 rfl ?_
  refine u_iload_n C dL_oysters_3 rfl ?_
  refine u_callXi C hXT hXH ev_X10_oysters dL_oysters_4 ml_RL_44 hX rfl (by decide) (As := [.int a1, .int a2, .int a3]) hc ⟨by decide, by decide⟩ rfl rfl (Nat.le_of_ble_eq_true rfl) ⟨by decide, by decide⟩ (fun E M2 he => ?_) (fun r M2 hr => ?_)
  · obtain rfl := hpx E M2 he
    refine ⟨[], ⟨0, 7, 8, 16⟩, [], htab.trans rfl, ?_, rfl, by decide, ⟨x_IS, hl_16, (hXT.2.1 (60, x_IS) (by simp [x_cls])).2⟩, fun q => ?_⟩
    · intro z hz; exact absurd hz List.not_mem_nil
    · refine u_astore C1 (i := 4) dL_oysters_8 (by decide) ?_
      refine u_sipush C1 dL_oysters_10 (v := -200) (by decide) ?_
      exact kret _ _ _ M2 dL_oysters_13 (Or.inr ⟨rfl, he⟩)
  · exact kret _ _ _ _ dL_oysters_7 (Or.inl hr)
theorem h_dredge (l : Launch) (D : va_G) (G : w_G) (M : w_M) (X : Nat) (a1 : Int32) (a2 : Int32) (a3 : Int32) (P : Int32 → w_M → Prop) (px : String → w_M → Prop) (hX : u_is G X 10) (hc : u_XMi l D G yX10_dredge cX10_dredge 4 (some .int) 6 121 (.ref (gP G X) :: [.int a1, .int a2, .int a3]) M P px) (hpx : ∀ E M2, px E M2 → E = x_IS) : u_Hm l D G yL_acts cL_acts 6 [(0, 51, 52, 16), (0, 51, 58, 33), (0, 51, 64, 35)] 7 160 [.ref (gP G X), .int a1, .int a2, .int a3, .int (nI 0)] M (fun r M2 => P r M2 ∨ (r = -200 ∧ px x_IS M2)) := by
  refine u_bodyH (by decide) (Nat.le_of_ble_eq_true rfl) (fun p e s m args below meth c A H0 Q C htab hXT hXH kret => ?_)
  have C1 : u_C p (u_rx 7 160) s m args c cL_acts RL 6 D A H0 1 6 G := C.to rfl (by decide) (by decide)
  refine u_iload C dL_acts_0 rfl ?_
  refine u_if_neK (a := 0) C dL_acts_2 (tgt := 15) (by decide) (by omega) (fun z => absurd rfl z) (fun _ => ?_)
  refine u_aload_n C dL_acts_5 rfl ?_
  refine u_iload_n C dL_acts_6 rfl ?_
  refine u_iload_n C dL_acts_7 rfl ?_
  refine u_iload_n C dL_acts_8 rfl ?_
  refine u_callXi C hXT hXH ev_X10_dredge dL_acts_9 ml_RL_18 hX rfl (by decide) (As := [.int a1, .int a2, .int a3]) hc ⟨by decide, by decide⟩ rfl rfl (Nat.le_of_ble_eq_true rfl) ⟨by decide, by decide⟩ (fun E M2 he => ?_) (fun r M2 hr => ?_)
  · obtain rfl := hpx E M2 he
    refine ⟨[], ⟨0, 51, 52, 16⟩, [⟨0, 51, 58, 33⟩, ⟨0, 51, 64, 35⟩], htab.trans rfl, ?_, rfl, by decide, ⟨x_IS, hl_16, (hXT.2.1 (60, x_IS) (by simp [x_cls])).2⟩, fun q => ?_⟩
    · intro z hz; exact absurd hz List.not_mem_nil
    · refine u_astore C1 (i := 5) dL_acts_52 (by decide) ?_
      refine u_sipush C1 dL_acts_54 (v := -200) (by decide) ?_
      exact kret _ _ _ M2 dL_acts_57 (Or.inr ⟨rfl, he⟩)
  · refine u_goto C1 dL_acts_12 (tgt := 51) (by decide) ?_
    exact kret _ _ _ _ dL_acts_51 (Or.inl hr)
theorem h_window (l : Launch) (D : va_G) (G : w_G) (M : w_M) (X : Nat) (a1 : Int32) (a2 : Int32) (b3 : Int32) (P : Int32 → w_M → Prop) (px : String → w_M → Prop) (hX : u_is G X 10) (hc : u_XMi l D G yX10_window cX10_window 3 (some .int) 6 90 (.ref (gP G X) :: [.int a1, .int a2]) M P px) (hpx : ∀ E M2, px E M2 → E = x_IS) : u_Hm l D G yL_acts cL_acts 6 [(0, 51, 52, 16), (0, 51, 58, 33), (0, 51, 64, 35)] 7 160 [.ref (gP G X), .int a1, .int a2, .int b3, .int (nI 1)] M (fun r M2 => P r M2 ∨ (r = -200 ∧ px x_IS M2)) := by
  refine u_bodyH (by decide) (Nat.le_of_ble_eq_true rfl) (fun p e s m args below meth c A H0 Q C htab hXT hXH kret => ?_)
  have C1 : u_C p (u_rx 7 160) s m args c cL_acts RL 6 D A H0 1 6 G := C.to rfl (by decide) (by decide)
  refine u_iload C dL_acts_0 rfl ?_
  refine u_if_neK (a := 1) C dL_acts_2 (tgt := 15) (by decide) (by omega) (fun _ => ?_) (fun z => absurd z (by omega))
  refine u_iload C dL_acts_15 rfl ?_
  refine u_iconst (v := nI 1) C dL_acts_17 (by decide) ?_
  refine u_icmp_neK (a := 1) C dL_acts_18 (tgt := 30) (by decide) (by omega) (by omega) (fun z => absurd rfl z) (fun _ => ?_)
  refine u_aload_n C dL_acts_21 rfl ?_
  refine u_iload_n C dL_acts_22 rfl ?_
  refine u_iload_n C dL_acts_23 rfl ?_
  refine u_callXi C hXT hXH ev_X10_window dL_acts_24 ml_RL_22 hX rfl (by decide) (As := [.int a1, .int a2]) hc ⟨by decide, by decide⟩ rfl rfl (Nat.le_of_ble_eq_true rfl) ⟨by decide, by decide⟩ (fun E M2 he => ?_) (fun r M2 hr => ?_)
  · obtain rfl := hpx E M2 he
    refine ⟨[], ⟨0, 51, 52, 16⟩, [⟨0, 51, 58, 33⟩, ⟨0, 51, 64, 35⟩], htab.trans rfl, ?_, rfl, by decide, ⟨x_IS, hl_16, (hXT.2.1 (60, x_IS) (by simp [x_cls])).2⟩, fun q => ?_⟩
    · intro z hz; exact absurd hz List.not_mem_nil
    · refine u_astore C1 (i := 5) dL_acts_52 (by decide) ?_
      refine u_sipush C1 dL_acts_54 (v := -200) (by decide) ?_
      exact kret _ _ _ M2 dL_acts_57 (Or.inr ⟨rfl, he⟩)
  · refine u_goto C1 dL_acts_27 (tgt := 51) (by decide) ?_
    exact kret _ _ _ _ dL_acts_51 (Or.inl hr)
theorem h_pass (l : Launch) (D : va_G) (G : w_G) (M : w_M) (X : Nat) (a1 : Int32) (b2 : Int32) (b3 : Int32) (P : Int32 → w_M → Prop) (px : String → w_M → Prop) (hX : u_is G X 10) (hc : u_XMi l D G yX10_pass cX10_pass 2 (some .int) 6 139 (.ref (gP G X) :: [.int a1]) M P px) (hpx : ∀ E M2, px E M2 → E = x_IS) : u_Hm l D G yL_acts cL_acts 6 [(0, 51, 52, 16), (0, 51, 58, 33), (0, 51, 64, 35)] 7 160 [.ref (gP G X), .int a1, .int b2, .int b3, .int (nI 2)] M (fun r M2 => P r M2 ∨ (r = -200 ∧ px x_IS M2)) := by
  refine u_bodyH (by decide) (Nat.le_of_ble_eq_true rfl) (fun p e s m args below meth c A H0 Q C htab hXT hXH kret => ?_)
  have C1 : u_C p (u_rx 7 160) s m args c cL_acts RL 6 D A H0 1 6 G := C.to rfl (by decide) (by decide)
  refine u_iload C dL_acts_0 rfl ?_
  refine u_if_neK (a := 2) C dL_acts_2 (tgt := 15) (by decide) (by omega) (fun _ => ?_) (fun z => absurd z (by omega))
  refine u_iload C dL_acts_15 rfl ?_
  refine u_iconst (v := nI 1) C dL_acts_17 (by decide) ?_
  refine u_icmp_neK (a := 2) C dL_acts_18 (tgt := 30) (by decide) (by omega) (by omega) (fun _ => ?_) (fun z => absurd z (by omega))
  refine u_iload C dL_acts_30 rfl ?_
  refine u_iconst (v := nI 2) C dL_acts_32 (by decide) ?_
  refine u_icmp_neK (a := 2) C dL_acts_33 (tgt := 44) (by decide) (by omega) (by omega) (fun z => absurd rfl z) (fun _ => ?_)
  refine u_aload_n C dL_acts_36 rfl ?_
  refine u_iload_n C dL_acts_37 rfl ?_
  refine u_callXi C hXT hXH ev_X10_pass dL_acts_38 ml_RL_26 hX rfl (by decide) (As := [.int a1]) hc ⟨by decide, by decide⟩ rfl rfl (Nat.le_of_ble_eq_true rfl) ⟨by decide, by decide⟩ (fun E M2 he => ?_) (fun r M2 hr => ?_)
  · obtain rfl := hpx E M2 he
    refine ⟨[], ⟨0, 51, 52, 16⟩, [⟨0, 51, 58, 33⟩, ⟨0, 51, 64, 35⟩], htab.trans rfl, ?_, rfl, by decide, ⟨x_IS, hl_16, (hXT.2.1 (60, x_IS) (by simp [x_cls])).2⟩, fun q => ?_⟩
    · intro z hz; exact absurd hz List.not_mem_nil
    · refine u_astore C1 (i := 5) dL_acts_52 (by decide) ?_
      refine u_sipush C1 dL_acts_54 (v := -200) (by decide) ?_
      exact kret _ _ _ M2 dL_acts_57 (Or.inr ⟨rfl, he⟩)
  · refine u_goto C1 dL_acts_41 (tgt := 51) (by decide) ?_
    exact kret _ _ _ _ dL_acts_51 (Or.inl hr)
theorem h_surge (l : Launch) (D : va_G) (G : w_G) (M : w_M) (X : Nat) (a1 : Int32) (a2 : Int32) (a3 : Int32) (P : Int32 → w_M → Prop) (px : String → w_M → Prop) (hX : u_is G X 10) (hc : u_XMi l D G yX10_surge cX10_surge 4 (some .int) 6 121 (.ref (gP G X) :: [.int a1, .int a2, .int a3]) M P px) (hpx : ∀ E M2, px E M2 → E = x_IS) : u_Hm l D G yL_acts cL_acts 6 [(0, 51, 52, 16), (0, 51, 58, 33), (0, 51, 64, 35)] 7 160 [.ref (gP G X), .int a1, .int a2, .int a3, .int (nI 3)] M (fun r M2 => P r M2 ∨ (r = -200 ∧ px x_IS M2)) := by
  refine u_bodyH (by decide) (Nat.le_of_ble_eq_true rfl) (fun p e s m args below meth c A H0 Q C htab hXT hXH kret => ?_)
  have C1 : u_C p (u_rx 7 160) s m args c cL_acts RL 6 D A H0 1 6 G := C.to rfl (by decide) (by decide)
  refine u_iload C dL_acts_0 rfl ?_
  refine u_if_neK (a := 3) C dL_acts_2 (tgt := 15) (by decide) (by omega) (fun _ => ?_) (fun z => absurd z (by omega))
  refine u_iload C dL_acts_15 rfl ?_
  refine u_iconst (v := nI 1) C dL_acts_17 (by decide) ?_
  refine u_icmp_neK (a := 3) C dL_acts_18 (tgt := 30) (by decide) (by omega) (by omega) (fun _ => ?_) (fun z => absurd z (by omega))
  refine u_iload C dL_acts_30 rfl ?_
  refine u_iconst (v := nI 2) C dL_acts_32 (by decide) ?_
  refine u_icmp_neK (a := 3) C dL_acts_33 (tgt := 44) (by decide) (by omega) (by omega) (fun _ => ?_) (fun z => absurd z (by omega))
  refine u_aload_n C dL_acts_44 rfl ?_
  refine u_iload_n C dL_acts_45 rfl ?_
  refine u_iload_n C dL_acts_46 rfl ?_
  refine u_iload_n C dL_acts_47 rfl ?_
  refine u_callXi C hXT hXH ev_X10_surge dL_acts_48 ml_RL_30 hX rfl (by decide) (As := [.int a1, .int a2, .int a3]) hc ⟨by decide, by decide⟩ rfl rfl (Nat.le_of_ble_eq_true rfl) ⟨by decide, by decide⟩ (fun E M2 he => ?_) (fun r M2 hr => ?_)
  · obtain rfl := hpx E M2 he
    refine ⟨[], ⟨0, 51, 52, 16⟩, [⟨0, 51, 58, 33⟩, ⟨0, 51, 64, 35⟩], htab.trans rfl, ?_, rfl, by decide, ⟨x_IS, hl_16, (hXT.2.1 (60, x_IS) (by simp [x_cls])).2⟩, fun q => ?_⟩
    · intro z hz; exact absurd hz List.not_mem_nil
    · refine u_astore C1 (i := 5) dL_acts_52 (by decide) ?_
      refine u_sipush C1 dL_acts_54 (v := -200) (by decide) ?_
      exact kret _ _ _ M2 dL_acts_57 (Or.inr ⟨rfl, he⟩)
  · exact kret _ _ _ _ dL_acts_51 (Or.inl hr)
