theorem xk_37 : Cond.classLink RX10 37 x_IA ∈ wsL_law := u_r5 _ (List.mem_of_getElem? (i := 9) rfl)
theorem xi_41 : Cond.initialized x_IA ∈ wsL_law := u_r5 _ (List.mem_of_getElem? (i := 10) rfl)
theorem tX10_turn_21 : u_tf cX10_turn 21 x_IA := ⟨37, 39, 41, "period or rise is out of range", dX10_turn_21, dX10_turn_24, dX10_turn_25, dX10_turn_27, dX10_turn_30, List.mem_of_getElem? (i := 0) rfl, List.mem_of_getElem? (i := 0) rfl, xk_37, xi_41⟩
theorem tX10_turn_52 : u_tf cX10_turn 52 x_IA := ⟨37, 44, 41, "range or phase is out of range", dX10_turn_52, dX10_turn_55, dX10_turn_56, dX10_turn_58, dX10_turn_61, List.mem_of_getElem? (i := 1) rfl, List.mem_of_getElem? (i := 0) rfl, xk_37, xi_41⟩
theorem xk_56 : Cond.classLink RX10 56 x_IS ∈ wsL_law := u_r8 _ (List.mem_of_getElem? (i := 7) rfl)
theorem xi_60 : Cond.initialized x_IS ∈ wsL_law := u_r8 _ (List.mem_of_getElem? (i := 8) rfl)
theorem tX10_turn_77 : u_tf cX10_turn 77 x_IS := ⟨56, 58, 60, "there are 6 turns", dX10_turn_77, dX10_turn_80, dX10_turn_81, dX10_turn_83, dX10_turn_86, List.mem_of_getElem? (i := 2) rfl, List.mem_of_getElem? (i := 1) rfl, xk_56, xi_60⟩
theorem tX10_mean_10 : u_tf cX10_mean 10 x_IA := ⟨37, 65, 41, "level is out of range", dX10_mean_10, dX10_mean_13, dX10_mean_14, dX10_mean_16, dX10_mean_19, List.mem_of_getElem? (i := 3) rfl, List.mem_of_getElem? (i := 0) rfl, xk_37, xi_41⟩
theorem tX10_surge_39 : u_tf cX10_surge 39 x_IA := ⟨37, 73, 41, "from, to or height is out of range", dX10_surge_39, dX10_surge_42, dX10_surge_43, dX10_surge_45, dX10_surge_48, List.mem_of_getElem? (i := 4) rfl, List.mem_of_getElem? (i := 0) rfl, xk_37, xi_41⟩
theorem tX10_surge_64 : u_tf cX10_surge 64 x_IS := ⟨56, 78, 60, "20 surges were told", dX10_surge_64, dX10_surge_67, dX10_surge_68, dX10_surge_70, dX10_surge_73, List.mem_of_getElem? (i := 5) rfl, List.mem_of_getElem? (i := 1) rfl, xk_56, xi_60⟩
theorem tX10_river_22 : u_tf cX10_river 22 x_IA := ⟨37, 80, 41, "water or silt is out of range", dX10_river_22, dX10_river_25, dX10_river_26, dX10_river_28, dX10_river_31, List.mem_of_getElem? (i := 6) rfl, List.mem_of_getElem? (i := 0) rfl, xk_37, xi_41⟩
theorem tX10_barrier_26 : u_tf cX10_barrier 26 x_IA := ⟨37, 85, 41, "mark or lead is out of range", dX10_barrier_26, dX10_barrier_29, dX10_barrier_30, dX10_barrier_32, dX10_barrier_35, List.mem_of_getElem? (i := 7) rfl, List.mem_of_getElem? (i := 0) rfl, xk_37, xi_41⟩
theorem tX10_section_22 : u_tf cX10_section 22 x_IA := ⟨37, 96, 41, "area or mud is out of range", dX10_section_22, dX10_section_25, dX10_section_26, dX10_section_28, dX10_section_31, List.mem_of_getElem? (i := 8) rfl, List.mem_of_getElem? (i := 0) rfl, xk_37, xi_41⟩
theorem tX10_section_54 : u_tf cX10_section 54 x_IA := ⟨37, 98, 41, "up or low is out of range", dX10_section_54, dX10_section_57, dX10_section_58, dX10_section_60, dX10_section_63, List.mem_of_getElem? (i := 9) rfl, List.mem_of_getElem? (i := 0) rfl, xk_37, xi_41⟩
theorem tX10_section_86 : u_tf cX10_section 86 x_IS := ⟨56, 103, 60, "there are 8 sections, or an hour went by", dX10_section_86, dX10_section_89, dX10_section_90, dX10_section_92, dX10_section_95, List.mem_of_getElem? (i := 10) rfl, List.mem_of_getElem? (i := 1) rfl, xk_56, xi_60⟩
theorem xk_109 : Cond.classLink RX10 109 x_IX ∈ wsL_law := u_r11 _ (List.mem_of_getElem? (i := 22) rfl)
theorem xi_113 : Cond.initialized x_IX ∈ wsL_law := u_r11 _ (List.mem_of_getElem? (i := 23) rfl)
theorem tX10_intake_11 : u_tf cX10_intake 11 x_IX := ⟨109, 111, 113, "there is no such section", dX10_intake_11, dX10_intake_14, dX10_intake_15, dX10_intake_17, dX10_intake_20, List.mem_of_getElem? (i := 11) rfl, List.mem_of_getElem? (i := 2) rfl, xk_109, xi_113⟩
theorem tX10_intake_42 : u_tf cX10_intake 42 x_IA := ⟨37, 114, 41, "rate or grain is out of range", dX10_intake_42, dX10_intake_45, dX10_intake_46, dX10_intake_48, dX10_intake_51, List.mem_of_getElem? (i := 12) rfl, List.mem_of_getElem? (i := 0) rfl, xk_37, xi_41⟩
theorem tX10_intake_76 : u_tf cX10_intake 76 x_IA := ⟨37, 116, 41, "room or use is out of range", dX10_intake_76, dX10_intake_79, dX10_intake_80, dX10_intake_82, dX10_intake_85, List.mem_of_getElem? (i := 13) rfl, List.mem_of_getElem? (i := 0) rfl, xk_37, xi_41⟩
theorem tX10_intake_98 : u_tf cX10_intake 98 x_IS := ⟨56, 121, 60, "there are 6 intakes", dX10_intake_98, dX10_intake_101, dX10_intake_102, dX10_intake_104, dX10_intake_107, List.mem_of_getElem? (i := 14) rfl, List.mem_of_getElem? (i := 1) rfl, xk_56, xi_60⟩
theorem tX10_oysters_11 : u_tf cX10_oysters 11 x_IX := ⟨109, 111, 113, "there is no such section", dX10_oysters_11, dX10_oysters_14, dX10_oysters_15, dX10_oysters_17, dX10_oysters_20, List.mem_of_getElem? (i := 11) rfl, List.mem_of_getElem? (i := 2) rfl, xk_109, xi_113⟩
theorem tX10_oysters_41 : u_tf cX10_oysters 41 x_IA := ⟨37, 123, 41, "grain or hours is out of range", dX10_oysters_41, dX10_oysters_44, dX10_oysters_45, dX10_oysters_47, dX10_oysters_50, List.mem_of_getElem? (i := 15) rfl, List.mem_of_getElem? (i := 0) rfl, xk_37, xi_41⟩
theorem tX10_oysters_60 : u_tf cX10_oysters 60 x_IS := ⟨56, 128, 60, "there are 6 oysters", dX10_oysters_60, dX10_oysters_63, dX10_oysters_64, dX10_oysters_66, dX10_oysters_69, List.mem_of_getElem? (i := 16) rfl, List.mem_of_getElem? (i := 1) rfl, xk_56, xi_60⟩
theorem tX10_permit_11 : u_tf cX10_permit 11 x_IX := ⟨109, 111, 113, "there is no such section", dX10_permit_11, dX10_permit_14, dX10_permit_15, dX10_permit_17, dX10_permit_20, List.mem_of_getElem? (i := 11) rfl, List.mem_of_getElem? (i := 2) rfl, xk_109, xi_113⟩
theorem tX10_permit_32 : u_tf cX10_permit 32 x_IA := ⟨37, 139, 41, "amount is out of range", dX10_permit_32, dX10_permit_35, dX10_permit_36, dX10_permit_38, dX10_permit_41, List.mem_of_getElem? (i := 17) rfl, List.mem_of_getElem? (i := 0) rfl, xk_37, xi_41⟩
theorem tX10_whyNot_11 : u_tf cX10_whyNot 11 x_IX := ⟨109, 111, 113, "there is no such section", dX10_whyNot_11, dX10_whyNot_14, dX10_whyNot_15, dX10_whyNot_17, dX10_whyNot_20, List.mem_of_getElem? (i := 11) rfl, List.mem_of_getElem? (i := 2) rfl, xk_109, xi_113⟩
theorem tX10_whyNot_32 : u_tf cX10_whyNot 32 x_IA := ⟨37, 139, 41, "amount is out of range", dX10_whyNot_32, dX10_whyNot_35, dX10_whyNot_36, dX10_whyNot_38, dX10_whyNot_41, List.mem_of_getElem? (i := 17) rfl, List.mem_of_getElem? (i := 0) rfl, xk_37, xi_41⟩
theorem tX10_dredge_27 : u_tf cX10_dredge 27 x_IX := ⟨109, 111, 113, "there is no such section", dX10_dredge_27, dX10_dredge_30, dX10_dredge_31, dX10_dredge_33, dX10_dredge_36, List.mem_of_getElem? (i := 11) rfl, List.mem_of_getElem? (i := 2) rfl, xk_109, xi_113⟩
theorem tX10_dredge_53 : u_tf cX10_dredge 53 x_IA := ⟨37, 154, 41, "amount is out of range, or both sections are the same", dX10_dredge_53, dX10_dredge_56, dX10_dredge_57, dX10_dredge_59, dX10_dredge_62, List.mem_of_getElem? (i := 18) rfl, List.mem_of_getElem? (i := 0) rfl, xk_37, xi_41⟩
theorem tX10_dredge_79 : u_tf cX10_dredge 79 x_IS := ⟨56, 156, 60, "the dredging is refused", dX10_dredge_79, dX10_dredge_82, dX10_dredge_83, dX10_dredge_85, dX10_dredge_88, List.mem_of_getElem? (i := 19) rfl, List.mem_of_getElem? (i := 1) rfl, xk_56, xi_60⟩
theorem tX10_pass_10 : u_tf cX10_pass 10 x_IA := ⟨37, 158, 41, "hours is out of range", dX10_pass_10, dX10_pass_13, dX10_pass_14, dX10_pass_16, dX10_pass_19, List.mem_of_getElem? (i := 20) rfl, List.mem_of_getElem? (i := 0) rfl, xk_37, xi_41⟩
theorem tX10_pass_35 : u_tf cX10_pass 35 x_IS := ⟨56, 160, 60, "now would be above 1000", dX10_pass_35, dX10_pass_38, dX10_pass_39, dX10_pass_41, dX10_pass_44, List.mem_of_getElem? (i := 21) rfl, List.mem_of_getElem? (i := 1) rfl, xk_56, xi_60⟩
theorem tX10_sea_11 : u_tf cX10_sea 11 x_IA := ⟨37, 166, 41, "hour is out of range", dX10_sea_11, dX10_sea_14, dX10_sea_15, dX10_sea_17, dX10_sea_20, List.mem_of_getElem? (i := 22) rfl, List.mem_of_getElem? (i := 0) rfl, xk_37, xi_41⟩
theorem tX10_ofSection_11 : u_tf cX10_ofSection 11 x_IX := ⟨109, 111, 113, "there is no such section", dX10_ofSection_11, dX10_ofSection_14, dX10_ofSection_15, dX10_ofSection_17, dX10_ofSection_20, List.mem_of_getElem? (i := 11) rfl, List.mem_of_getElem? (i := 2) rfl, xk_109, xi_113⟩
theorem tX10_ofSection_31 : u_tf cX10_ofSection 31 x_IA := ⟨37, 171, 41, "what is out of range", dX10_ofSection_31, dX10_ofSection_34, dX10_ofSection_35, dX10_ofSection_37, dX10_ofSection_40, List.mem_of_getElem? (i := 23) rfl, List.mem_of_getElem? (i := 0) rfl, xk_37, xi_41⟩
theorem tX10_ofSectionAnew_11 : u_tf cX10_ofSectionAnew 11 x_IX := ⟨109, 111, 113, "there is no such section", dX10_ofSectionAnew_11, dX10_ofSectionAnew_14, dX10_ofSectionAnew_15, dX10_ofSectionAnew_17, dX10_ofSectionAnew_20, List.mem_of_getElem? (i := 11) rfl, List.mem_of_getElem? (i := 2) rfl, xk_109, xi_113⟩
theorem tX10_ofSectionAnew_31 : u_tf cX10_ofSectionAnew 31 x_IA := ⟨37, 171, 41, "what is out of range", dX10_ofSectionAnew_31, dX10_ofSectionAnew_34, dX10_ofSectionAnew_35, dX10_ofSectionAnew_37, dX10_ofSectionAnew_40, List.mem_of_getElem? (i := 23) rfl, List.mem_of_getElem? (i := 0) rfl, xk_37, xi_41⟩
theorem tX10_ofIntake_15 : u_tf cX10_ofIntake 15 x_IX := ⟨109, 189, 113, "there is no such intake", dX10_ofIntake_15, dX10_ofIntake_18, dX10_ofIntake_19, dX10_ofIntake_21, dX10_ofIntake_24, List.mem_of_getElem? (i := 24) rfl, List.mem_of_getElem? (i := 2) rfl, xk_109, xi_113⟩
theorem tX10_ofIntake_34 : u_tf cX10_ofIntake 34 x_IA := ⟨37, 171, 41, "what is out of range", dX10_ofIntake_34, dX10_ofIntake_37, dX10_ofIntake_38, dX10_ofIntake_40, dX10_ofIntake_43, List.mem_of_getElem? (i := 23) rfl, List.mem_of_getElem? (i := 0) rfl, xk_37, xi_41⟩
theorem tX10_isClosed_12 : u_tf cX10_isClosed 12 x_IX := ⟨109, 198, 113, "there are no such oysters", dX10_isClosed_12, dX10_isClosed_15, dX10_isClosed_16, dX10_isClosed_18, dX10_isClosed_21, List.mem_of_getElem? (i := 25) rfl, List.mem_of_getElem? (i := 2) rfl, xk_109, xi_113⟩
theorem tX10_closure_18 : u_tf cX10_closure 18 x_IX := ⟨109, 206, 113, "there is no such closure", dX10_closure_18, dX10_closure_21, dX10_closure_22, dX10_closure_24, dX10_closure_27, List.mem_of_getElem? (i := 26) rfl, List.mem_of_getElem? (i := 2) rfl, xk_109, xi_113⟩
theorem tX10_closure_37 : u_tf cX10_closure 37 x_IA := ⟨37, 171, 41, "what is out of range", dX10_closure_37, dX10_closure_40, dX10_closure_41, dX10_closure_43, dX10_closure_46, List.mem_of_getElem? (i := 23) rfl, List.mem_of_getElem? (i := 0) rfl, xk_37, xi_41⟩
theorem tX10_intrusion_10 : u_tf cX10_intrusion 10 x_IA := ⟨37, 210, 41, "grain is out of range", dX10_intrusion_10, dX10_intrusion_13, dX10_intrusion_14, dX10_intrusion_16, dX10_intrusion_19, List.mem_of_getElem? (i := 27) rfl, List.mem_of_getElem? (i := 0) rfl, xk_37, xi_41⟩
theorem tX10_window_21 : u_tf cX10_window 21 x_IA := ⟨37, 222, 41, "keel or hours is out of range", dX10_window_21, dX10_window_24, dX10_window_25, dX10_window_27, dX10_window_30, List.mem_of_getElem? (i := 28) rfl, List.mem_of_getElem? (i := 0) rfl, xk_37, xi_41⟩
theorem tX10_window_41 : u_tf cX10_window 41 x_IS := ⟨56, 224, 60, "there are no sections", dX10_window_41, dX10_window_44, dX10_window_45, dX10_window_47, dX10_window_50, List.mem_of_getElem? (i := 29) rfl, List.mem_of_getElem? (i := 1) rfl, xk_56, xi_60⟩
theorem tX10_sum_10 : u_tf cX10_sum 10 x_IA := ⟨37, 171, 41, "what is out of range", dX10_sum_10, dX10_sum_13, dX10_sum_14, dX10_sum_16, dX10_sum_19, List.mem_of_getElem? (i := 23) rfl, List.mem_of_getElem? (i := 0) rfl, xk_37, xi_41⟩
def kc_turn (p r g f cnt : Int32) : Nat := if fW p 2 60 = 0 ∨ fW r 1 (p - 1) = 0 ∨ fW g 0 50 = 0 ∨ fW f 0 59 = 0 then 1 else if cnt < 6 then 0 else 2
def kc_mean (lv : Int32) : Nat := if fW lv 0 100 = 0 then 1 else 0
def kc_surge (a b h now cnt : Int32) : Nat := if fW a now 2000 = 0 ∨ fW b a 2000 = 0 ∨ fW h (-50) 100 = 0 then 1 else if cnt < 20 then 0 else 2
def kc_river (w s : Int32) : Nat := if fW w 0 500 = 0 ∨ fW s 0 500 = 0 then 1 else 0
def kc_bar (m ld : Int32) : Nat := if (¬ m = -1 ∧ fW m 0 500 = 0) ∨ fW ld 0 12 = 0 then 1 else 0
def kc_sec (ar up low mud cnt now : Int32) : Nat := if fW ar 1 100 = 0 ∨ fW mud 0 10000 = 0 ∨ fW up 0 10000 = 0 ∨ fW low 0 10000 = 0 then 1 else if ¬ 8 ≤ cnt ∧ now ≤ 0 then 0 else 2
def kc_int (has rate grain room use cnt : Int32) : Nat := if has = 0 then 1 else if fW rate 1 500 = 0 ∨ fW grain 0 30 = 0 ∨ fW room 1 10000 = 0 ∨ fW use 0 500 = 0 then 2 else if cnt < 6 then 0 else 3
def kc_oys (has grain hours cnt : Int32) : Nat := if has = 0 then 1 else if fW grain 0 30 = 0 ∨ fW hours 1 24 = 0 then 2 else if cnt < 6 then 0 else 3
def kc_per (has a : Int32) : Nat := if has = 0 then 1 else if fW a 0 10000 = 0 then 2 else 0
def kc_why (has a : Int32) : Nat := if has = 0 then 1 else if fW a 1 10000 = 0 then 2 else 0
def kc_dre (has1 has2 s a to ref : Int32) : Nat := if has1 = 0 ∨ (¬ to = -1 ∧ has2 = 0) then 1 else if fW a 1 10000 = 0 ∨ s = to then 2 else if ref = 0 then 0 else 3
def kc_pass (h now : Int32) : Nat := if fW h 1 48 = 0 then 1 else if now + h ≤ 1000 then 0 else 2
def kc_sea (h : Int32) : Nat := if fW h 0 2000 = 0 then 1 else 0
def kc_of (has w : Int32) : Nat := if has = 0 then 1 else if fW w 0 9 = 0 then 2 else 0
def kc_oin (v cnt w : Int32) : Nat := if v < 0 ∨ ¬ v < cnt then 1 else if fW w 0 4 = 0 then 2 else 0
def kc_cls (v cnt : Int32) : Nat := if v < 0 ∨ ¬ v < cnt then 1 else 0
def kc_clo (v cnt w : Int32) : Nat := if v < 0 ∨ ¬ v < cnt then 1 else if fW w 0 2 = 0 then 2 else 0
def kc_itr (g : Int32) : Nat := if fW g 1 30 = 0 then 1 else 0
def kc_win (k h sc : Int32) : Nat := if fW k 1 200 = 0 ∨ fW h 1 24 = 0 then 1 else if sc = 0 then 2 else 0
def kc_sum (w : Int32) : Nat := if fW w 0 9 = 0 then 1 else 0
/-- the class is in order: counts in bounds, oysters at sections that are there -/
def okX (M : w_M) (X : Nat) : Prop := okC M (X + 1000) ∧ cB (iv M X 4) 6 ∧ ∀ i, i < cN (iv M X 4) → (∃ j, j < cN (iv M (X + 1000) 5) ∧ iv M (X + 10 + i) 0 = nI j) ∧ cB (iv M (X + 10 + i) 2) 24
theorem u_fWn {v M : Int32} {n : Nat} (hM : M.toInt = n) (h : ¬ fW v 0 M = 0) : ∃ t, t ≤ n ∧ v = nI t := by
  unfold fW at h
  by_cases q : 0 ≤ v ∧ v ≤ M
  · exact nI_of2 hM (fun z => absurd q.1 (Int32.not_le.mpr z)) q.2
  · rw [if_neg q] at h; exact absurd rfl h
theorem u_fW1n {v M : Int32} {n : Nat} (hM : M.toInt = n) (h : ¬ fW v 1 M = 0) : ∃ t, t ≤ n ∧ 0 < t ∧ v = nI t := by
  unfold fW at h
  by_cases q : 1 ≤ v ∧ v ≤ M
  · obtain ⟨t, h1, h2⟩ := nI_of2 hM (fun z => by
      have q1 := q.1
      rw [Int32.le_iff_toInt_le] at q1
      rw [Int32.lt_iff_toInt_lt] at z
      have e1 : (1 : Int32).toInt = 1 := rfl
      have e0 : (0 : Int32).toInt = 0 := rfl
      omega) q.2
    refine ⟨t, h1, ?_, h2⟩
    rcases t with _ | t
    · have q1 := q.1
      rw [h2] at q1
      exact absurd q1 (by decide)
    · omega
  · rw [if_neg q] at h; exact absurd rfl h
theorem u_ltN {v : Int32} {n : Nat} (h1 : ¬ v < 0) (h2 : v < nI n) (hn : n < 2 ^ 31) : ∃ i, i < n ∧ v = nI i := by
  obtain ⟨j, hj, rfl⟩ := nI_of h1
  exact ⟨j, u_ltI h2 hn hj, rfl⟩
def s_itr (M : w_M) (B : Nat) (g : Int32) : Nat → Nat → Nat
  | 0, j => j
  | c + 1, j => if f_sal (iv M (B + 100 + j + 30) 0) (iv M (B + 100 + j + 30) 1) < g then j else s_itr M B g c (j + 1)
set_option maxHeartbeats 4000000 in
set_option maxRecDepth 100000 in
theorem c_X10_turn (l : Launch) (D : va_G) (G : w_G) (M : w_M) (X : Nat) (p : Int32) (r0 : Int32) (g : Int32) (f : Int32) (hX : L_sal G (X)) (hst : l.stackTraces = false) (ok : okX M X) (hk : ∃ n9 : Nat, n9 < 512 ∧ iv M (X + 1) 1 = nI n9) : u_XMi l D G yX10_turn cX10_turn 6 (some .int) 6 121 [.ref (gP G X), .int p, .int r0, .int g, .int f] M (fun r M' => kc_turn p r0 g f (iv M (X + 1001) 3) = 0 ∧ r = iv M (X + 1001) 3 ∧ M' = m_addT (m_keep M (X + 1) (iv M (X + 1000) 9) 0 p r0 g f 0) (X + 1001) p r0 g f) (fun E M' => M' = M ∧ ((kc_turn p r0 g f (iv M (X + 1001) 3) = 1 ∧ E = x_IA) ∨ (kc_turn p r0 g f (iv M (X + 1001) 3) = 2 ∧ E = x_IS))) := by
  obtain ⟨okc, ok4, oko⟩ := id ok
  obtain ⟨o1, o2, o3, o4, o5, o6, o7⟩ := id okc
  obtain ⟨o1a, o1b⟩ := cB_le o1 (by decide)
  obtain ⟨o2a, o2b⟩ := cB_le o2 (by decide)
  obtain ⟨o3a, o3b⟩ := cB_le o3 (by decide)
  obtain ⟨o6a, o6b⟩ := cB_le o6 (by decide)
  obtain ⟨o4a, o4b⟩ := cB_le ok4 (by decide)
  refine u_bodyXi hst (by decide +kernel) rfl (Nat.le_of_ble_eq_true rfl) (by decide) rfl (fun p e s m args below meth c A H0 Q C ret thr => ?_)
  refine u_iload_n C dX10_turn_0 rfl ?_
  refine u_iconst (v := 2) C dX10_turn_1 (by decide) ?_
  refine u_bipush (v := 60) C dX10_turn_2 (by decide) ?_
  refine u_calliS3 C es_X10_within dX10_turn_4 ml_RX10_33 (c_X10_within l D G _ _ _ _  ) (by decide) (Nat.le_of_ble_eq_true rfl) (fun r_4 M_4 q_4 => ?_)
  obtain ⟨rfl, e_4⟩ := q_4
  subst M_4
  refine u_if_eq (tgt := 21) C dX10_turn_7 (by decide) (fun c_7 => ?_) (fun c_7 => ?_)
  · exact thr _ _ _ _ tX10_turn_21 (⟨rfl, by (try simp only [u_le, Decidable.not_not] at c_7); simp [kc_turn, u_le, -Int32.not_lt, -Int32.not_le, c_7]⟩)
  · refine u_iload_n C dX10_turn_10 rfl ?_
    refine u_iconst (v := 1) C dX10_turn_11 (by decide) ?_
    refine u_iload_n C dX10_turn_12 rfl ?_
    refine u_iconst (v := 1) C dX10_turn_13 (by decide) ?_
    refine u_isub C dX10_turn_14 ?_
    refine u_calliS3 C es_X10_within dX10_turn_15 ml_RX10_33 (c_X10_within l D G _ _ _ _  ) (by decide) (Nat.le_of_ble_eq_true rfl) (fun r_15 M_15 q_15 => ?_)
    obtain ⟨rfl, e_15⟩ := q_15
    subst M_15
    refine u_if_ne (tgt := 31) C dX10_turn_18 (by decide) (fun c_18 => ?_) (fun c_18 => ?_)
    · refine u_iload_n C dX10_turn_31 rfl ?_
      refine u_iconst (v := 0) C dX10_turn_32 (by decide) ?_
      refine u_bipush (v := 50) C dX10_turn_33 (by decide) ?_
      refine u_calliS3 C es_X10_within dX10_turn_35 ml_RX10_33 (c_X10_within l D G _ _ _ _  ) (by decide) (Nat.le_of_ble_eq_true rfl) (fun r_35 M_35 q_35 => ?_)
      obtain ⟨rfl, e_35⟩ := q_35
      subst M_35
      refine u_if_eq (tgt := 52) C dX10_turn_38 (by decide) (fun c_38 => ?_) (fun c_38 => ?_)
      · exact thr _ _ _ _ tX10_turn_52 (⟨rfl, by (try simp only [u_le, Decidable.not_not] at c_7 c_18 c_38); simp [kc_turn, u_le, -Int32.not_lt, -Int32.not_le, c_7, c_18, c_38]⟩)
      · refine u_iload C dX10_turn_41 rfl ?_
        refine u_iconst (v := 0) C dX10_turn_43 (by decide) ?_
        refine u_bipush (v := 59) C dX10_turn_44 (by decide) ?_
        refine u_calliS3 C es_X10_within dX10_turn_46 ml_RX10_33 (c_X10_within l D G _ _ _ _  ) (by decide) (Nat.le_of_ble_eq_true rfl) (fun r_46 M_46 q_46 => ?_)
        obtain ⟨rfl, e_46⟩ := q_46
        subst M_46
        refine u_if_ne (tgt := 62) C dX10_turn_49 (by decide) (fun c_49 => ?_) (fun c_49 => ?_)
        · refine u_aload_n C dX10_turn_62 rfl ?_
          refine u_getR (k2 := (X + 1000)) C gX10_turn_63 rfl (sal_is hX) (sal_f0 hX) ?_
          refine u_getR (k2 := (X + 1001)) C gX10_turn_66 rfl (mou_is (sal_p0 hX)) (mou_f0 (sal_p0 hX)) ?_
          refine u_getI C gX10_turn_69 rfl (sea_is (mou_p0 (sal_p0 hX))) ?_
          refine u_bipush (v := 6) C dX10_turn_72 (by decide) ?_
          refine u_icmp_lt (tgt := 87) C dX10_turn_74 (by decide) (fun c_74 => ?_) (fun c_74 => ?_)
          · refine u_aload_n C dX10_turn_87 rfl ?_
            refine u_getR (k2 := (X + 1000)) C gX10_turn_88 rfl (sal_is hX) (sal_f0 hX) ?_
            refine u_getR (k2 := (X + 1001)) C gX10_turn_91 rfl (mou_is (sal_p0 hX)) (mou_f0 (sal_p0 hX)) ?_
            refine u_getI C gX10_turn_94 rfl (sea_is (mou_p0 (sal_p0 hX))) ?_
            refine u_istore C dX10_turn_97 (by decide) ?_
            refine u_aload_n C dX10_turn_99 rfl ?_
            refine u_iconst (v := 0) C dX10_turn_100 (by decide) ?_
            refine u_iload_n C dX10_turn_101 rfl ?_
            refine u_iload_n C dX10_turn_102 rfl ?_
            refine u_iload_n C dX10_turn_103 rfl ?_
            refine u_iload C dX10_turn_104 rfl ?_
            refine u_iconst (v := 0) C dX10_turn_106 (by decide) ?_
            refine u_callvV6 C ev_X10_tell dX10_turn_107 ml_RX10_61 (sal_is hX) rfl (by decide) (c_X10_tell_0 l D G _ _ _ _ _ _ _ hX hk o4) (by decide) (Nat.le_of_ble_eq_true rfl) (fun M_107 q_107 => ?_)
            obtain rfl := q_107
            refine u_iload C dX10_turn_110 rfl ?_
            exact ret _ _ _ _ dX10_turn_112  (⟨by (try simp only [u_le, Decidable.not_not] at c_7 c_18 c_38 c_49 c_74); simp [kc_turn, u_le, -Int32.not_lt, -Int32.not_le, c_7, c_18, c_38, c_49, c_74], rfl, rfl⟩)
          · exact thr _ _ _ _ tX10_turn_77 (⟨rfl, by (try simp only [u_le, Decidable.not_not] at c_7 c_18 c_38 c_49 c_74); simp [kc_turn, u_le, -Int32.not_lt, -Int32.not_le, c_7, c_18, c_38, c_49, c_74]⟩)
        · exact thr _ _ _ _ tX10_turn_52 (⟨rfl, by (try simp only [u_le, Decidable.not_not] at c_7 c_18 c_38 c_49); simp [kc_turn, u_le, -Int32.not_lt, -Int32.not_le, c_7, c_18, c_38, c_49]⟩)
    · exact thr _ _ _ _ tX10_turn_21 (⟨rfl, by (try simp only [u_le, Decidable.not_not] at c_7 c_18); simp [kc_turn, u_le, -Int32.not_lt, -Int32.not_le, c_7, c_18]⟩)
set_option maxHeartbeats 4000000 in
set_option maxRecDepth 100000 in
theorem c_X10_mean (l : Launch) (D : va_G) (G : w_G) (M : w_M) (X : Nat) (v : Int32) (hX : L_sal G (X)) (hst : l.stackTraces = false) (ok : okX M X) (hk : ∃ n9 : Nat, n9 < 512 ∧ iv M (X + 1) 1 = nI n9) : u_XMi l D G yX10_mean cX10_mean 3 (some .int) 6 121 [.ref (gP G X), .int v] M (fun r M' => kc_mean v = 0 ∧ r = iv M (X + 1001) 5 ∧ M' = wi (m_keep M (X + 1) (iv M (X + 1000) 9) 1 v 0 0 0 0) (X + 1001) 5 v) (fun E M' => M' = M ∧ ((kc_mean v = 1 ∧ E = x_IA))) := by
  obtain ⟨okc, ok4, oko⟩ := id ok
  obtain ⟨o1, o2, o3, o4, o5, o6, o7⟩ := id okc
  obtain ⟨o1a, o1b⟩ := cB_le o1 (by decide)
  obtain ⟨o2a, o2b⟩ := cB_le o2 (by decide)
  obtain ⟨o3a, o3b⟩ := cB_le o3 (by decide)
  obtain ⟨o6a, o6b⟩ := cB_le o6 (by decide)
  obtain ⟨o4a, o4b⟩ := cB_le ok4 (by decide)
  refine u_bodyXi hst (by decide +kernel) rfl (Nat.le_of_ble_eq_true rfl) (by decide) rfl (fun p e s m args below meth c A H0 Q C ret thr => ?_)
  refine u_iload_n C dX10_mean_0 rfl ?_
  refine u_iconst (v := 0) C dX10_mean_1 (by decide) ?_
  refine u_bipush (v := 100) C dX10_mean_2 (by decide) ?_
  refine u_calliS3 C es_X10_within dX10_mean_4 ml_RX10_33 (c_X10_within l D G _ _ _ _  ) (by decide) (Nat.le_of_ble_eq_true rfl) (fun r_4 M_4 q_4 => ?_)
  obtain ⟨rfl, e_4⟩ := q_4
  subst M_4
  refine u_if_ne (tgt := 20) C dX10_mean_7 (by decide) (fun c_7 => ?_) (fun c_7 => ?_)
  · refine u_aload_n C dX10_mean_20 rfl ?_
    refine u_getR (k2 := (X + 1000)) C gX10_mean_21 rfl (sal_is hX) (sal_f0 hX) ?_
    refine u_getR (k2 := (X + 1001)) C gX10_mean_24 rfl (mou_is (sal_p0 hX)) (mou_f0 (sal_p0 hX)) ?_
    refine u_getI C gX10_mean_27 rfl (sea_is (mou_p0 (sal_p0 hX))) ?_
    refine u_istore_n C dX10_mean_30 (by decide) ?_
    refine u_aload_n C dX10_mean_31 rfl ?_
    refine u_iconst (v := 1) C dX10_mean_32 (by decide) ?_
    refine u_iload_n C dX10_mean_33 rfl ?_
    refine u_iconst (v := 0) C dX10_mean_34 (by decide) ?_
    refine u_iconst (v := 0) C dX10_mean_35 (by decide) ?_
    refine u_iconst (v := 0) C dX10_mean_36 (by decide) ?_
    refine u_iconst (v := 0) C dX10_mean_37 (by decide) ?_
    refine u_callvV6 C ev_X10_tell dX10_mean_38 ml_RX10_61 (sal_is hX) rfl (by decide) (c_X10_tell_1 l D G _ _ _ _ _ _ _ hX hk) (by decide) (Nat.le_of_ble_eq_true rfl) (fun M_38 q_38 => ?_)
    obtain rfl := q_38
    refine u_iload_n C dX10_mean_41 rfl ?_
    exact ret _ _ _ _ dX10_mean_42  (⟨by (try simp only [u_le, Decidable.not_not] at c_7); simp [kc_mean, u_le, -Int32.not_lt, -Int32.not_le, c_7], rfl, rfl⟩)
  · exact thr _ _ _ _ tX10_mean_10 (⟨rfl, by (try simp only [u_le, Decidable.not_not] at c_7); simp [kc_mean, u_le, -Int32.not_lt, -Int32.not_le, c_7]⟩)
set_option maxHeartbeats 4000000 in
set_option maxRecDepth 100000 in
theorem c_X10_surge (l : Launch) (D : va_G) (G : w_G) (M : w_M) (X : Nat) (a : Int32) (b : Int32) (h : Int32) (hX : L_sal G (X)) (hst : l.stackTraces = false) (ok : okX M X) (hk : ∃ n9 : Nat, n9 < 512 ∧ iv M (X + 1) 1 = nI n9) : u_XMi l D G yX10_surge cX10_surge 4 (some .int) 6 121 [.ref (gP G X), .int a, .int b, .int h] M (fun r M' => kc_surge a b h (iv M (X + 1000) 9) (iv M (X + 1001) 4) = 0 ∧ r = iv (m_addS (m_keep M (X + 1) (iv M (X + 1000) 9) 2 a b h 0 0) (X + 1001) a b h) (X + 1001) 4 ∧ M' = m_addS (m_keep M (X + 1) (iv M (X + 1000) 9) 2 a b h 0 0) (X + 1001) a b h) (fun E M' => M' = M ∧ ((kc_surge a b h (iv M (X + 1000) 9) (iv M (X + 1001) 4) = 1 ∧ E = x_IA) ∨ (kc_surge a b h (iv M (X + 1000) 9) (iv M (X + 1001) 4) = 2 ∧ E = x_IS))) := by
  obtain ⟨okc, ok4, oko⟩ := id ok
  obtain ⟨o1, o2, o3, o4, o5, o6, o7⟩ := id okc
  obtain ⟨o1a, o1b⟩ := cB_le o1 (by decide)
  obtain ⟨o2a, o2b⟩ := cB_le o2 (by decide)
  obtain ⟨o3a, o3b⟩ := cB_le o3 (by decide)
  obtain ⟨o6a, o6b⟩ := cB_le o6 (by decide)
  obtain ⟨o4a, o4b⟩ := cB_le ok4 (by decide)
  refine u_bodyXi hst (by decide +kernel) rfl (Nat.le_of_ble_eq_true rfl) (by decide) rfl (fun p e s m args below meth c A H0 Q C ret thr => ?_)
  refine u_iload_n C dX10_surge_0 rfl ?_
  refine u_aload_n C dX10_surge_1 rfl ?_
  refine u_getR (k2 := (X + 1000)) C gX10_surge_2 rfl (sal_is hX) (sal_f0 hX) ?_
  refine u_getI C gX10_surge_5 rfl (mou_is (sal_p0 hX)) ?_
  refine u_sipush (v := 2000) C dX10_surge_8 (by decide) ?_
  refine u_calliS3 C es_X10_within dX10_surge_11 ml_RX10_33 (c_X10_within l D G _ _ _ _  ) (by decide) (Nat.le_of_ble_eq_true rfl) (fun r_11 M_11 q_11 => ?_)
  obtain ⟨rfl, e_11⟩ := q_11
  subst M_11
  refine u_if_eq (tgt := 39) C dX10_surge_14 (by decide) (fun c_14 => ?_) (fun c_14 => ?_)
  · exact thr _ _ _ _ tX10_surge_39 (⟨rfl, by (try simp only [u_le, Decidable.not_not] at c_14); simp [kc_surge, u_le, -Int32.not_lt, -Int32.not_le, c_14]⟩)
  · refine u_iload_n C dX10_surge_17 rfl ?_
    refine u_iload_n C dX10_surge_18 rfl ?_
    refine u_sipush (v := 2000) C dX10_surge_19 (by decide) ?_
    refine u_calliS3 C es_X10_within dX10_surge_22 ml_RX10_33 (c_X10_within l D G _ _ _ _  ) (by decide) (Nat.le_of_ble_eq_true rfl) (fun r_22 M_22 q_22 => ?_)
    obtain ⟨rfl, e_22⟩ := q_22
    subst M_22
    refine u_if_eq (tgt := 39) C dX10_surge_25 (by decide) (fun c_25 => ?_) (fun c_25 => ?_)
    · exact thr _ _ _ _ tX10_surge_39 (⟨rfl, by (try simp only [u_le, Decidable.not_not] at c_14 c_25); simp [kc_surge, u_le, -Int32.not_lt, -Int32.not_le, c_14, c_25]⟩)
    · refine u_iload_n C dX10_surge_28 rfl ?_
      refine u_bipush (v := (-50)) C dX10_surge_29 (by decide) ?_
      refine u_bipush (v := 100) C dX10_surge_31 (by decide) ?_
      refine u_calliS3 C es_X10_within dX10_surge_33 ml_RX10_33 (c_X10_within l D G _ _ _ _  ) (by decide) (Nat.le_of_ble_eq_true rfl) (fun r_33 M_33 q_33 => ?_)
      obtain ⟨rfl, e_33⟩ := q_33
      subst M_33
      refine u_if_ne (tgt := 49) C dX10_surge_36 (by decide) (fun c_36 => ?_) (fun c_36 => ?_)
      · refine u_aload_n C dX10_surge_49 rfl ?_
        refine u_getR (k2 := (X + 1000)) C gX10_surge_50 rfl (sal_is hX) (sal_f0 hX) ?_
        refine u_getR (k2 := (X + 1001)) C gX10_surge_53 rfl (mou_is (sal_p0 hX)) (mou_f0 (sal_p0 hX)) ?_
        refine u_getI C gX10_surge_56 rfl (sea_is (mou_p0 (sal_p0 hX))) ?_
        refine u_bipush (v := 20) C dX10_surge_59 (by decide) ?_
        refine u_icmp_lt (tgt := 74) C dX10_surge_61 (by decide) (fun c_61 => ?_) (fun c_61 => ?_)
        · refine u_aload_n C dX10_surge_74 rfl ?_
          refine u_iconst (v := 2) C dX10_surge_75 (by decide) ?_
          refine u_iload_n C dX10_surge_76 rfl ?_
          refine u_iload_n C dX10_surge_77 rfl ?_
          refine u_iload_n C dX10_surge_78 rfl ?_
          refine u_iconst (v := 0) C dX10_surge_79 (by decide) ?_
          refine u_iconst (v := 0) C dX10_surge_80 (by decide) ?_
          refine u_callvV6 C ev_X10_tell dX10_surge_81 ml_RX10_61 (sal_is hX) rfl (by decide) (c_X10_tell_2 l D G _ _ _ _ _ _ _ hX hk o5) (by decide) (Nat.le_of_ble_eq_true rfl) (fun M_81 q_81 => ?_)
          obtain rfl := q_81
          refine u_aload_n C dX10_surge_84 rfl ?_
          refine u_getR (k2 := (X + 1000)) C gX10_surge_85 rfl (sal_is hX) (sal_f0 hX) ?_
          refine u_getR (k2 := (X + 1001)) C gX10_surge_88 rfl (mou_is (sal_p0 hX)) (mou_f0 (sal_p0 hX)) ?_
          refine u_getI C gX10_surge_91 rfl (sea_is (mou_p0 (sal_p0 hX))) ?_
          exact ret _ _ _ _ dX10_surge_94  (⟨by (try simp only [u_le, Decidable.not_not] at c_14 c_25 c_36 c_61); simp [kc_surge, u_le, -Int32.not_lt, -Int32.not_le, c_14, c_25, c_36, c_61], rfl, rfl⟩)
        · exact thr _ _ _ _ tX10_surge_64 (⟨rfl, by (try simp only [u_le, Decidable.not_not] at c_14 c_25 c_36 c_61); simp [kc_surge, u_le, -Int32.not_lt, -Int32.not_le, c_14, c_25, c_36, c_61]⟩)
      · exact thr _ _ _ _ tX10_surge_39 (⟨rfl, by (try simp only [u_le, Decidable.not_not] at c_14 c_25 c_36); simp [kc_surge, u_le, -Int32.not_lt, -Int32.not_le, c_14, c_25, c_36]⟩)
set_option maxHeartbeats 4000000 in
set_option maxRecDepth 100000 in
theorem c_X10_river (l : Launch) (D : va_G) (G : w_G) (M : w_M) (X : Nat) (w : Int32) (si : Int32) (hX : L_sal G (X)) (hst : l.stackTraces = false) (ok : okX M X) (hk : ∃ n9 : Nat, n9 < 512 ∧ iv M (X + 1) 1 = nI n9) : u_XMi l D G yX10_river cX10_river 4 (some .int) 6 121 [.ref (gP G X), .int w, .int si] M (fun r M' => kc_river w si = 0 ∧ r = iv M (X + 1000) 7 ∧ M' = wi (wi (m_keep M (X + 1) (iv M (X + 1000) 9) 3 w si 0 0 0) (X + 1000) 7 w) (X + 1000) 8 si) (fun E M' => M' = M ∧ ((kc_river w si = 1 ∧ E = x_IA))) := by
  obtain ⟨okc, ok4, oko⟩ := id ok
  obtain ⟨o1, o2, o3, o4, o5, o6, o7⟩ := id okc
  obtain ⟨o1a, o1b⟩ := cB_le o1 (by decide)
  obtain ⟨o2a, o2b⟩ := cB_le o2 (by decide)
  obtain ⟨o3a, o3b⟩ := cB_le o3 (by decide)
  obtain ⟨o6a, o6b⟩ := cB_le o6 (by decide)
  obtain ⟨o4a, o4b⟩ := cB_le ok4 (by decide)
  refine u_bodyXi hst (by decide +kernel) rfl (Nat.le_of_ble_eq_true rfl) (by decide) rfl (fun p e s m args below meth c A H0 Q C ret thr => ?_)
  refine u_iload_n C dX10_river_0 rfl ?_
  refine u_iconst (v := 0) C dX10_river_1 (by decide) ?_
  refine u_sipush (v := 500) C dX10_river_2 (by decide) ?_
  refine u_calliS3 C es_X10_within dX10_river_5 ml_RX10_33 (c_X10_within l D G _ _ _ _  ) (by decide) (Nat.le_of_ble_eq_true rfl) (fun r_5 M_5 q_5 => ?_)
  obtain ⟨rfl, e_5⟩ := q_5
  subst M_5
  refine u_if_eq (tgt := 22) C dX10_river_8 (by decide) (fun c_8 => ?_) (fun c_8 => ?_)
  · exact thr _ _ _ _ tX10_river_22 (⟨rfl, by (try simp only [u_le, Decidable.not_not] at c_8); simp [kc_river, u_le, -Int32.not_lt, -Int32.not_le, c_8]⟩)
  · refine u_iload_n C dX10_river_11 rfl ?_
    refine u_iconst (v := 0) C dX10_river_12 (by decide) ?_
    refine u_sipush (v := 500) C dX10_river_13 (by decide) ?_
    refine u_calliS3 C es_X10_within dX10_river_16 ml_RX10_33 (c_X10_within l D G _ _ _ _  ) (by decide) (Nat.le_of_ble_eq_true rfl) (fun r_16 M_16 q_16 => ?_)
    obtain ⟨rfl, e_16⟩ := q_16
    subst M_16
    refine u_if_ne (tgt := 32) C dX10_river_19 (by decide) (fun c_19 => ?_) (fun c_19 => ?_)
    · refine u_aload_n C dX10_river_32 rfl ?_
      refine u_getR (k2 := (X + 1000)) C gX10_river_33 rfl (sal_is hX) (sal_f0 hX) ?_
      refine u_getI C gX10_river_36 rfl (mou_is (sal_p0 hX)) ?_
      refine u_istore_n C dX10_river_39 (by decide) ?_
      refine u_aload_n C dX10_river_40 rfl ?_
      refine u_iconst (v := 3) C dX10_river_41 (by decide) ?_
      refine u_iload_n C dX10_river_42 rfl ?_
      refine u_iload_n C dX10_river_43 rfl ?_
      refine u_iconst (v := 0) C dX10_river_44 (by decide) ?_
      refine u_iconst (v := 0) C dX10_river_45 (by decide) ?_
      refine u_iconst (v := 0) C dX10_river_46 (by decide) ?_
      refine u_callvV6 C ev_X10_tell dX10_river_47 ml_RX10_61 (sal_is hX) rfl (by decide) (c_X10_tell_3 l D G _ _ _ _ _ _ _ hX hk) (by decide) (Nat.le_of_ble_eq_true rfl) (fun M_47 q_47 => ?_)
      obtain rfl := q_47
      refine u_iload_n C dX10_river_50 rfl ?_
      exact ret _ _ _ _ dX10_river_51  (⟨by (try simp only [u_le, Decidable.not_not] at c_8 c_19); simp [kc_river, u_le, -Int32.not_lt, -Int32.not_le, c_8, c_19], rfl, rfl⟩)
    · exact thr _ _ _ _ tX10_river_22 (⟨rfl, by (try simp only [u_le, Decidable.not_not] at c_8 c_19); simp [kc_river, u_le, -Int32.not_lt, -Int32.not_le, c_8, c_19]⟩)
set_option maxHeartbeats 4000000 in
set_option maxRecDepth 100000 in
theorem c_X10_barrier (l : Launch) (D : va_G) (G : w_G) (M : w_M) (X : Nat) (mk : Int32) (ld : Int32) (hX : L_sal G (X)) (hst : l.stackTraces = false) (ok : okX M X) (hk : ∃ n9 : Nat, n9 < 512 ∧ iv M (X + 1) 1 = nI n9) : u_XMi l D G yX10_barrier cX10_barrier 4 (some .int) 6 121 [.ref (gP G X), .int mk, .int ld] M (fun r M' => kc_bar mk ld = 0 ∧ r = iv M (X + 1002) 4 ∧ M' = wi (wi (m_keep M (X + 1) (iv M (X + 1000) 9) 4 mk ld 0 0 0) (X + 1002) 4 mk) (X + 1002) 5 ld) (fun E M' => M' = M ∧ ((kc_bar mk ld = 1 ∧ E = x_IA))) := by
  obtain ⟨okc, ok4, oko⟩ := id ok
  obtain ⟨o1, o2, o3, o4, o5, o6, o7⟩ := id okc
  obtain ⟨o1a, o1b⟩ := cB_le o1 (by decide)
  obtain ⟨o2a, o2b⟩ := cB_le o2 (by decide)
  obtain ⟨o3a, o3b⟩ := cB_le o3 (by decide)
  obtain ⟨o6a, o6b⟩ := cB_le o6 (by decide)
  obtain ⟨o4a, o4b⟩ := cB_le ok4 (by decide)
  refine u_bodyXi hst (by decide +kernel) rfl (Nat.le_of_ble_eq_true rfl) (by decide) rfl (fun p e s m args below meth c A H0 Q C ret thr => ?_)
  refine u_iload_n C dX10_barrier_0 rfl ?_
  refine u_iconst (v := (-1)) C dX10_barrier_1 (by decide) ?_
  refine u_icmp_eq (tgt := 16) C dX10_barrier_2 (by decide) (fun c_2 => ?_) (fun c_2 => ?_)
  · refine u_iload_n C dX10_barrier_16 rfl ?_
    refine u_iconst (v := 0) C dX10_barrier_17 (by decide) ?_
    refine u_bipush (v := 12) C dX10_barrier_18 (by decide) ?_
    refine u_calliS3 C es_X10_within dX10_barrier_20 ml_RX10_33 (c_X10_within l D G _ _ _ _  ) (by decide) (Nat.le_of_ble_eq_true rfl) (fun r_20 M_20 q_20 => ?_)
    obtain ⟨rfl, e_20⟩ := q_20
    subst M_20
    refine u_if_ne (tgt := 36) C dX10_barrier_23 (by decide) (fun c_23 => ?_) (fun c_23 => ?_)
    · refine u_aload_n C dX10_barrier_36 rfl ?_
      refine u_getR (k2 := (X + 1000)) C gX10_barrier_37 rfl (sal_is hX) (sal_f0 hX) ?_
      refine u_getR (k2 := (X + 1002)) C gX10_barrier_40 rfl (mou_is (sal_p0 hX)) (mou_f1 (sal_p0 hX)) ?_
      refine u_getI C gX10_barrier_43 rfl (bar_is (mou_p1 (sal_p0 hX))) ?_
      refine u_istore_n C dX10_barrier_46 (by decide) ?_
      refine u_aload_n C dX10_barrier_47 rfl ?_
      refine u_iconst (v := 4) C dX10_barrier_48 (by decide) ?_
      refine u_iload_n C dX10_barrier_49 rfl ?_
      refine u_iload_n C dX10_barrier_50 rfl ?_
      refine u_iconst (v := 0) C dX10_barrier_51 (by decide) ?_
      refine u_iconst (v := 0) C dX10_barrier_52 (by decide) ?_
      refine u_iconst (v := 0) C dX10_barrier_53 (by decide) ?_
      refine u_callvV6 C ev_X10_tell dX10_barrier_54 ml_RX10_61 (sal_is hX) rfl (by decide) (c_X10_tell_4 l D G _ _ _ _ _ _ _ hX hk) (by decide) (Nat.le_of_ble_eq_true rfl) (fun M_54 q_54 => ?_)
      obtain rfl := q_54
      refine u_iload_n C dX10_barrier_57 rfl ?_
      exact ret _ _ _ _ dX10_barrier_58  (⟨by (try simp only [u_le, Decidable.not_not] at c_2 c_23); simp [kc_bar, u_le, -Int32.not_lt, -Int32.not_le, c_2, c_23], rfl, rfl⟩)
    · exact thr _ _ _ _ tX10_barrier_26 (⟨rfl, by (try simp only [u_le, Decidable.not_not] at c_2 c_23); simp [kc_bar, u_le, -Int32.not_lt, -Int32.not_le, c_2, c_23]⟩)
  · refine u_iload_n C dX10_barrier_5 rfl ?_
    refine u_iconst (v := 0) C dX10_barrier_6 (by decide) ?_
    refine u_sipush (v := 500) C dX10_barrier_7 (by decide) ?_
    refine u_calliS3 C es_X10_within dX10_barrier_10 ml_RX10_33 (c_X10_within l D G _ _ _ _  ) (by decide) (Nat.le_of_ble_eq_true rfl) (fun r_10 M_10 q_10 => ?_)
    obtain ⟨rfl, e_10⟩ := q_10
    subst M_10
    refine u_if_eq (tgt := 26) C dX10_barrier_13 (by decide) (fun c_13 => ?_) (fun c_13 => ?_)
    · exact thr _ _ _ _ tX10_barrier_26 (⟨rfl, by (try simp only [u_le, Decidable.not_not] at c_2 c_13); simp [kc_bar, u_le, -Int32.not_lt, -Int32.not_le, c_2, c_13]⟩)
    · refine u_iload_n C dX10_barrier_16 rfl ?_
      refine u_iconst (v := 0) C dX10_barrier_17 (by decide) ?_
      refine u_bipush (v := 12) C dX10_barrier_18 (by decide) ?_
      refine u_calliS3 C es_X10_within dX10_barrier_20 ml_RX10_33 (c_X10_within l D G _ _ _ _  ) (by decide) (Nat.le_of_ble_eq_true rfl) (fun r_20 M_20 q_20 => ?_)
      obtain ⟨rfl, e_20⟩ := q_20
      subst M_20
      refine u_if_ne (tgt := 36) C dX10_barrier_23 (by decide) (fun c_23 => ?_) (fun c_23 => ?_)
      · refine u_aload_n C dX10_barrier_36 rfl ?_
        refine u_getR (k2 := (X + 1000)) C gX10_barrier_37 rfl (sal_is hX) (sal_f0 hX) ?_
        refine u_getR (k2 := (X + 1002)) C gX10_barrier_40 rfl (mou_is (sal_p0 hX)) (mou_f1 (sal_p0 hX)) ?_
        refine u_getI C gX10_barrier_43 rfl (bar_is (mou_p1 (sal_p0 hX))) ?_
        refine u_istore_n C dX10_barrier_46 (by decide) ?_
        refine u_aload_n C dX10_barrier_47 rfl ?_
        refine u_iconst (v := 4) C dX10_barrier_48 (by decide) ?_
        refine u_iload_n C dX10_barrier_49 rfl ?_
        refine u_iload_n C dX10_barrier_50 rfl ?_
        refine u_iconst (v := 0) C dX10_barrier_51 (by decide) ?_
        refine u_iconst (v := 0) C dX10_barrier_52 (by decide) ?_
        refine u_iconst (v := 0) C dX10_barrier_53 (by decide) ?_
        refine u_callvV6 C ev_X10_tell dX10_barrier_54 ml_RX10_61 (sal_is hX) rfl (by decide) (c_X10_tell_4 l D G _ _ _ _ _ _ _ hX hk) (by decide) (Nat.le_of_ble_eq_true rfl) (fun M_54 q_54 => ?_)
        obtain rfl := q_54
        refine u_iload_n C dX10_barrier_57 rfl ?_
        exact ret _ _ _ _ dX10_barrier_58  (⟨by (try simp only [u_le, Decidable.not_not] at c_2 c_13 c_23); simp [kc_bar, u_le, -Int32.not_lt, -Int32.not_le, c_2, c_13, c_23], rfl, rfl⟩)
      · exact thr _ _ _ _ tX10_barrier_26 (⟨rfl, by (try simp only [u_le, Decidable.not_not] at c_2 c_13 c_23); simp [kc_bar, u_le, -Int32.not_lt, -Int32.not_le, c_2, c_13, c_23]⟩)
set_option maxHeartbeats 4000000 in
set_option maxRecDepth 100000 in
theorem c_X10_section (l : Launch) (D : va_G) (G : w_G) (M : w_M) (X : Nat) (ar : Int32) (up : Int32) (low : Int32) (mud : Int32) (hX : L_sal G (X)) (hst : l.stackTraces = false) (ok : okX M X) (hk : ∃ n9 : Nat, n9 < 512 ∧ iv M (X + 1) 1 = nI n9) : u_XMi l D G yX10_section cX10_section 6 (some .int) 6 121 [.ref (gP G X), .int ar, .int up, .int low, .int mud] M (fun r M' => kc_sec ar up low mud (iv M (X + 1000) 5) (iv M (X + 1000) 9) = 0 ∧ r = iv M (X + 1000) 5 ∧ M' = m_asec (m_keep M (X + 1) (iv M (X + 1000) 9) 5 ar up low mud 0) (X + 1000) ar up low mud) (fun E M' => M' = M ∧ ((kc_sec ar up low mud (iv M (X + 1000) 5) (iv M (X + 1000) 9) = 1 ∧ E = x_IA) ∨ (kc_sec ar up low mud (iv M (X + 1000) 5) (iv M (X + 1000) 9) = 2 ∧ E = x_IS))) := by
  obtain ⟨okc, ok4, oko⟩ := id ok
  obtain ⟨o1, o2, o3, o4, o5, o6, o7⟩ := id okc
  obtain ⟨o1a, o1b⟩ := cB_le o1 (by decide)
  obtain ⟨o2a, o2b⟩ := cB_le o2 (by decide)
  obtain ⟨o3a, o3b⟩ := cB_le o3 (by decide)
  obtain ⟨o6a, o6b⟩ := cB_le o6 (by decide)
  obtain ⟨o4a, o4b⟩ := cB_le ok4 (by decide)
  refine u_bodyXi hst (by decide +kernel) rfl (Nat.le_of_ble_eq_true rfl) (by decide) rfl (fun p e s m args below meth c A H0 Q C ret thr => ?_)
  refine u_iload_n C dX10_section_0 rfl ?_
  refine u_iconst (v := 1) C dX10_section_1 (by decide) ?_
  refine u_bipush (v := 100) C dX10_section_2 (by decide) ?_
  refine u_calliS3 C es_X10_within dX10_section_4 ml_RX10_33 (c_X10_within l D G _ _ _ _  ) (by decide) (Nat.le_of_ble_eq_true rfl) (fun r_4 M_4 q_4 => ?_)
  obtain ⟨rfl, e_4⟩ := q_4
  subst M_4
  refine u_if_eq (tgt := 22) C dX10_section_7 (by decide) (fun c_7 => ?_) (fun c_7 => ?_)
  · exact thr _ _ _ _ tX10_section_22 (⟨rfl, by (try simp only [u_le, Decidable.not_not] at c_7); simp [kc_sec, u_le, -Int32.not_lt, -Int32.not_le, c_7]⟩)
  · refine u_iload C dX10_section_10 rfl ?_
    refine u_iconst (v := 0) C dX10_section_12 (by decide) ?_
    refine u_sipush (v := 10000) C dX10_section_13 (by decide) ?_
    refine u_calliS3 C es_X10_within dX10_section_16 ml_RX10_33 (c_X10_within l D G _ _ _ _  ) (by decide) (Nat.le_of_ble_eq_true rfl) (fun r_16 M_16 q_16 => ?_)
    obtain ⟨rfl, e_16⟩ := q_16
    subst M_16
    refine u_if_ne (tgt := 32) C dX10_section_19 (by decide) (fun c_19 => ?_) (fun c_19 => ?_)
    · refine u_iload_n C dX10_section_32 rfl ?_
      refine u_iconst (v := 0) C dX10_section_33 (by decide) ?_
      refine u_sipush (v := 10000) C dX10_section_34 (by decide) ?_
      refine u_calliS3 C es_X10_within dX10_section_37 ml_RX10_33 (c_X10_within l D G _ _ _ _  ) (by decide) (Nat.le_of_ble_eq_true rfl) (fun r_37 M_37 q_37 => ?_)
      obtain ⟨rfl, e_37⟩ := q_37
      subst M_37
      refine u_if_eq (tgt := 54) C dX10_section_40 (by decide) (fun c_40 => ?_) (fun c_40 => ?_)
      · exact thr _ _ _ _ tX10_section_54 (⟨rfl, by (try simp only [u_le, Decidable.not_not] at c_7 c_19 c_40); simp [kc_sec, u_le, -Int32.not_lt, -Int32.not_le, c_7, c_19, c_40]⟩)
      · refine u_iload_n C dX10_section_43 rfl ?_
        refine u_iconst (v := 0) C dX10_section_44 (by decide) ?_
        refine u_sipush (v := 10000) C dX10_section_45 (by decide) ?_
        refine u_calliS3 C es_X10_within dX10_section_48 ml_RX10_33 (c_X10_within l D G _ _ _ _  ) (by decide) (Nat.le_of_ble_eq_true rfl) (fun r_48 M_48 q_48 => ?_)
        obtain ⟨rfl, e_48⟩ := q_48
        subst M_48
        refine u_if_ne (tgt := 64) C dX10_section_51 (by decide) (fun c_51 => ?_) (fun c_51 => ?_)
        · refine u_aload_n C dX10_section_64 rfl ?_
          refine u_getR (k2 := (X + 1000)) C gX10_section_65 rfl (sal_is hX) (sal_f0 hX) ?_
          refine u_getI C gX10_section_68 rfl (mou_is (sal_p0 hX)) ?_
          refine u_bipush (v := 8) C dX10_section_71 (by decide) ?_
          refine u_icmp_ge (tgt := 86) C dX10_section_73 (by decide) (fun c_73 => ?_) (fun c_73 => ?_)
          · exact thr _ _ _ _ tX10_section_86 (⟨rfl, by (try simp only [u_le, Decidable.not_not] at c_7 c_19 c_40 c_51 c_73); simp [kc_sec, u_le, -Int32.not_lt, -Int32.not_le, c_7, c_19, c_40, c_51, c_73]⟩)
          · refine u_aload_n C dX10_section_76 rfl ?_
            refine u_getR (k2 := (X + 1000)) C gX10_section_77 rfl (sal_is hX) (sal_f0 hX) ?_
            refine u_getI C gX10_section_80 rfl (mou_is (sal_p0 hX)) ?_
            refine u_if_le (tgt := 96) C dX10_section_83 (by decide) (fun c_83 => ?_) (fun c_83 => ?_)
            · refine u_aload_n C dX10_section_96 rfl ?_
              refine u_getR (k2 := (X + 1000)) C gX10_section_97 rfl (sal_is hX) (sal_f0 hX) ?_
              refine u_getI C gX10_section_100 rfl (mou_is (sal_p0 hX)) ?_
              refine u_istore C dX10_section_103 (by decide) ?_
              refine u_aload_n C dX10_section_105 rfl ?_
              refine u_iconst (v := 5) C dX10_section_106 (by decide) ?_
              refine u_iload_n C dX10_section_107 rfl ?_
              refine u_iload_n C dX10_section_108 rfl ?_
              refine u_iload_n C dX10_section_109 rfl ?_
              refine u_iload C dX10_section_110 rfl ?_
              refine u_iconst (v := 0) C dX10_section_112 (by decide) ?_
              refine u_callvV6 C ev_X10_tell dX10_section_113 ml_RX10_61 (sal_is hX) rfl (by decide) (c_X10_tell_5 l D G _ _ _ _ _ _ _ hX hk _ (u_lt (n := 8) (by rw [← o1a]; exact c_73) (by omega)) o1a) (by decide) (Nat.le_of_ble_eq_true rfl) (fun M_113 q_113 => ?_)
              obtain rfl := q_113
              refine u_iload C dX10_section_116 rfl ?_
              exact ret _ _ _ _ dX10_section_118  (⟨by (try simp only [u_le, Decidable.not_not] at c_7 c_19 c_40 c_51 c_73 c_83); simp [kc_sec, u_le, -Int32.not_lt, -Int32.not_le, c_7, c_19, c_40, c_51, c_73, c_83], rfl, rfl⟩)
            · exact thr _ _ _ _ tX10_section_86 (⟨rfl, by (try simp only [u_le, Decidable.not_not] at c_7 c_19 c_40 c_51 c_73 c_83); simp [kc_sec, u_le, -Int32.not_lt, -Int32.not_le, c_7, c_19, c_40, c_51, c_73, c_83]⟩)
        · exact thr _ _ _ _ tX10_section_54 (⟨rfl, by (try simp only [u_le, Decidable.not_not] at c_7 c_19 c_40 c_51); simp [kc_sec, u_le, -Int32.not_lt, -Int32.not_le, c_7, c_19, c_40, c_51]⟩)
    · exact thr _ _ _ _ tX10_section_22 (⟨rfl, by (try simp only [u_le, Decidable.not_not] at c_7 c_19); simp [kc_sec, u_le, -Int32.not_lt, -Int32.not_le, c_7, c_19]⟩)
set_option maxHeartbeats 4000000 in
set_option maxRecDepth 100000 in
theorem c_X10_intake (l : Launch) (D : va_G) (G : w_G) (M : w_M) (X : Nat) (v : Int32) (a : Int32) (b : Int32) (c1 : Int32) (d1 : Int32) (hX : L_sal G (X)) (hst : l.stackTraces = false) (ok : okX M X) (hk : ∃ n9 : Nat, n9 < 512 ∧ iv M (X + 1) 1 = nI n9) : u_XMi l D G yX10_intake cX10_intake 7 (some .int) 6 121 [.ref (gP G X), .int v, .int a, .int b, .int c1, .int d1] M (fun r M' => kc_int (s_has M (X + 1000) v) a b c1 d1 (iv M (X + 1000) 6) = 0 ∧ r = iv M (X + 1000) 6 ∧ M' = m_aint (m_keep M (X + 1) (iv M (X + 1000) 9) 6 v a b c1 d1) (X + 1000) v a b c1 d1) (fun E M' => M' = M ∧ ((kc_int (s_has M (X + 1000) v) a b c1 d1 (iv M (X + 1000) 6) = 1 ∧ E = x_IX) ∨ (kc_int (s_has M (X + 1000) v) a b c1 d1 (iv M (X + 1000) 6) = 2 ∧ E = x_IA) ∨ (kc_int (s_has M (X + 1000) v) a b c1 d1 (iv M (X + 1000) 6) = 3 ∧ E = x_IS))) := by
  obtain ⟨okc, ok4, oko⟩ := id ok
  obtain ⟨o1, o2, o3, o4, o5, o6, o7⟩ := id okc
  obtain ⟨o1a, o1b⟩ := cB_le o1 (by decide)
  obtain ⟨o2a, o2b⟩ := cB_le o2 (by decide)
  obtain ⟨o3a, o3b⟩ := cB_le o3 (by decide)
  obtain ⟨o6a, o6b⟩ := cB_le o6 (by decide)
  obtain ⟨o4a, o4b⟩ := cB_le ok4 (by decide)
  refine u_bodyXi hst (by decide +kernel) rfl (Nat.le_of_ble_eq_true rfl) (by decide) rfl (fun p e s m args below meth c A H0 Q C ret thr => ?_)
  refine u_aload_n C dX10_intake_0 rfl ?_
  refine u_getR (k2 := (X + 1000)) C gX10_intake_1 rfl (sal_is hX) (sal_f0 hX) ?_
  refine u_iload_n C dX10_intake_4 rfl ?_
  refine u_calliV1 C ev_X3_hasSection dX10_intake_5 ml_RX10_105 (mou_is (sal_p0 hX)) rfl (by decide) (c_X3_hasSection l D G _ _ _ (sal_p0 hX) ) (by decide) (Nat.le_of_ble_eq_true rfl) (fun r_5 M_5 q_5 => ?_)
  obtain ⟨rfl, e_5⟩ := q_5
  subst M_5
  refine u_if_ne (tgt := 21) C dX10_intake_8 (by decide) (fun c_8 => ?_) (fun c_8 => ?_)
  · refine u_iload_n C dX10_intake_21 rfl ?_
    refine u_iconst (v := 1) C dX10_intake_22 (by decide) ?_
    refine u_sipush (v := 500) C dX10_intake_23 (by decide) ?_
    refine u_calliS3 C es_X10_within dX10_intake_26 ml_RX10_33 (c_X10_within l D G _ _ _ _  ) (by decide) (Nat.le_of_ble_eq_true rfl) (fun r_26 M_26 q_26 => ?_)
    obtain ⟨rfl, e_26⟩ := q_26
    subst M_26
    refine u_if_eq (tgt := 42) C dX10_intake_29 (by decide) (fun c_29 => ?_) (fun c_29 => ?_)
    · exact thr _ _ _ _ tX10_intake_42 (⟨rfl, by (try simp only [u_le, Decidable.not_not] at c_8 c_29); simp [kc_int, u_le, -Int32.not_lt, -Int32.not_le, c_8, c_29]⟩)
    · refine u_iload_n C dX10_intake_32 rfl ?_
      refine u_iconst (v := 0) C dX10_intake_33 (by decide) ?_
      refine u_bipush (v := 30) C dX10_intake_34 (by decide) ?_
      refine u_calliS3 C es_X10_within dX10_intake_36 ml_RX10_33 (c_X10_within l D G _ _ _ _  ) (by decide) (Nat.le_of_ble_eq_true rfl) (fun r_36 M_36 q_36 => ?_)
      obtain ⟨rfl, e_36⟩ := q_36
      subst M_36
      refine u_if_ne (tgt := 52) C dX10_intake_39 (by decide) (fun c_39 => ?_) (fun c_39 => ?_)
      · refine u_iload C dX10_intake_52 rfl ?_
        refine u_iconst (v := 1) C dX10_intake_54 (by decide) ?_
        refine u_sipush (v := 10000) C dX10_intake_55 (by decide) ?_
        refine u_calliS3 C es_X10_within dX10_intake_58 ml_RX10_33 (c_X10_within l D G _ _ _ _  ) (by decide) (Nat.le_of_ble_eq_true rfl) (fun r_58 M_58 q_58 => ?_)
        obtain ⟨rfl, e_58⟩ := q_58
        subst M_58
        refine u_if_eq (tgt := 76) C dX10_intake_61 (by decide) (fun c_61 => ?_) (fun c_61 => ?_)
        · exact thr _ _ _ _ tX10_intake_76 (⟨rfl, by (try simp only [u_le, Decidable.not_not] at c_8 c_29 c_39 c_61); simp [kc_int, u_le, -Int32.not_lt, -Int32.not_le, c_8, c_29, c_39, c_61]⟩)
        · refine u_iload C dX10_intake_64 rfl ?_
          refine u_iconst (v := 0) C dX10_intake_66 (by decide) ?_
          refine u_sipush (v := 500) C dX10_intake_67 (by decide) ?_
          refine u_calliS3 C es_X10_within dX10_intake_70 ml_RX10_33 (c_X10_within l D G _ _ _ _  ) (by decide) (Nat.le_of_ble_eq_true rfl) (fun r_70 M_70 q_70 => ?_)
          obtain ⟨rfl, e_70⟩ := q_70
          subst M_70
          refine u_if_ne (tgt := 86) C dX10_intake_73 (by decide) (fun c_73 => ?_) (fun c_73 => ?_)
          · refine u_aload_n C dX10_intake_86 rfl ?_
            refine u_getR (k2 := (X + 1000)) C gX10_intake_87 rfl (sal_is hX) (sal_f0 hX) ?_
            refine u_getI C gX10_intake_90 rfl (mou_is (sal_p0 hX)) ?_
            refine u_bipush (v := 6) C dX10_intake_93 (by decide) ?_
            refine u_icmp_lt (tgt := 108) C dX10_intake_95 (by decide) (fun c_95 => ?_) (fun c_95 => ?_)
            · refine u_aload_n C dX10_intake_108 rfl ?_
              refine u_getR (k2 := (X + 1000)) C gX10_intake_109 rfl (sal_is hX) (sal_f0 hX) ?_
              refine u_getI C gX10_intake_112 rfl (mou_is (sal_p0 hX)) ?_
              refine u_istore C dX10_intake_115 (by decide) ?_
              refine u_aload_n C dX10_intake_117 rfl ?_
              refine u_bipush (v := 6) C dX10_intake_118 (by decide) ?_
              refine u_iload_n C dX10_intake_120 rfl ?_
              refine u_iload_n C dX10_intake_121 rfl ?_
              refine u_iload_n C dX10_intake_122 rfl ?_
              refine u_iload C dX10_intake_123 rfl ?_
              refine u_iload C dX10_intake_125 rfl ?_
              refine u_callvV6 C ev_X10_tell dX10_intake_127 ml_RX10_61 (sal_is hX) rfl (by decide) (c_X10_tell_6 l D G _ _ _ _ _ _ _ hX hk _ (u_ltI (n := 6) (by rw [← o2a]; exact c_95) (by decide) (by omega)) o2a) (by decide) (Nat.le_of_ble_eq_true rfl) (fun M_127 q_127 => ?_)
              obtain rfl := q_127
              refine u_iload C dX10_intake_130 rfl ?_
              exact ret _ _ _ _ dX10_intake_132  (⟨by (try simp only [u_le, Decidable.not_not] at c_8 c_29 c_39 c_61 c_73 c_95); simp [kc_int, u_le, -Int32.not_lt, -Int32.not_le, c_8, c_29, c_39, c_61, c_73, c_95], rfl, rfl⟩)
            · exact thr _ _ _ _ tX10_intake_98 (⟨rfl, by (try simp only [u_le, Decidable.not_not] at c_8 c_29 c_39 c_61 c_73 c_95); simp [kc_int, u_le, -Int32.not_lt, -Int32.not_le, c_8, c_29, c_39, c_61, c_73, c_95]⟩)
          · exact thr _ _ _ _ tX10_intake_76 (⟨rfl, by (try simp only [u_le, Decidable.not_not] at c_8 c_29 c_39 c_61 c_73); simp [kc_int, u_le, -Int32.not_lt, -Int32.not_le, c_8, c_29, c_39, c_61, c_73]⟩)
      · exact thr _ _ _ _ tX10_intake_42 (⟨rfl, by (try simp only [u_le, Decidable.not_not] at c_8 c_29 c_39); simp [kc_int, u_le, -Int32.not_lt, -Int32.not_le, c_8, c_29, c_39]⟩)
  · exact thr _ _ _ _ tX10_intake_11 (⟨rfl, by (try simp only [u_le, Decidable.not_not] at c_8); simp [kc_int, u_le, -Int32.not_lt, -Int32.not_le, c_8]⟩)
set_option maxHeartbeats 4000000 in
set_option maxRecDepth 100000 in
theorem c_X10_oysters (l : Launch) (D : va_G) (G : w_G) (M : w_M) (X : Nat) (v : Int32) (g : Int32) (h : Int32) (hX : L_sal G (X)) (hst : l.stackTraces = false) (ok : okX M X) : u_XMi l D G yX10_oysters cX10_oysters 5 (some .int) 6 90 [.ref (gP G X), .int v, .int g, .int h] M (fun r M' => kc_oys (s_has M (X + 1000) v) g h (iv M X 4) = 0 ∧ r = iv M X 4 ∧ M' = wi (wi (wi (wi M (X + 10 + cN (iv M X 4)) 0 v) (X + 10 + cN (iv M X 4)) 1 g) (X + 10 + cN (iv M X 4)) 2 h) X 4 (iv M X 4 + 1)) (fun E M' => M' = M ∧ ((kc_oys (s_has M (X + 1000) v) g h (iv M X 4) = 1 ∧ E = x_IX) ∨ (kc_oys (s_has M (X + 1000) v) g h (iv M X 4) = 2 ∧ E = x_IA) ∨ (kc_oys (s_has M (X + 1000) v) g h (iv M X 4) = 3 ∧ E = x_IS))) := by
  obtain ⟨okc, ok4, oko⟩ := id ok
  obtain ⟨o1, o2, o3, o4, o5, o6, o7⟩ := id okc
  obtain ⟨o1a, o1b⟩ := cB_le o1 (by decide)
  obtain ⟨o2a, o2b⟩ := cB_le o2 (by decide)
  obtain ⟨o3a, o3b⟩ := cB_le o3 (by decide)
  obtain ⟨o6a, o6b⟩ := cB_le o6 (by decide)
  obtain ⟨o4a, o4b⟩ := cB_le ok4 (by decide)
  refine u_bodyXi hst (by decide +kernel) rfl (Nat.le_of_ble_eq_true rfl) (by decide) rfl (fun p e s m args below meth c A H0 Q C ret thr => ?_)
  refine u_aload_n C dX10_oysters_0 rfl ?_
  refine u_getR (k2 := (X + 1000)) C gX10_oysters_1 rfl (sal_is hX) (sal_f0 hX) ?_
  refine u_iload_n C dX10_oysters_4 rfl ?_
  refine u_calliV1 C ev_X3_hasSection dX10_oysters_5 ml_RX10_105 (mou_is (sal_p0 hX)) rfl (by decide) (c_X3_hasSection l D G _ _ _ (sal_p0 hX) ) (by decide) (Nat.le_of_ble_eq_true rfl) (fun r_5 M_5 q_5 => ?_)
  obtain ⟨rfl, e_5⟩ := q_5
  subst M_5
  refine u_if_ne (tgt := 21) C dX10_oysters_8 (by decide) (fun c_8 => ?_) (fun c_8 => ?_)
  · refine u_iload_n C dX10_oysters_21 rfl ?_
    refine u_iconst (v := 0) C dX10_oysters_22 (by decide) ?_
    refine u_bipush (v := 30) C dX10_oysters_23 (by decide) ?_
    refine u_calliS3 C es_X10_within dX10_oysters_25 ml_RX10_33 (c_X10_within l D G _ _ _ _  ) (by decide) (Nat.le_of_ble_eq_true rfl) (fun r_25 M_25 q_25 => ?_)
    obtain ⟨rfl, e_25⟩ := q_25
    subst M_25
    refine u_if_eq (tgt := 41) C dX10_oysters_28 (by decide) (fun c_28 => ?_) (fun c_28 => ?_)
    · exact thr _ _ _ _ tX10_oysters_41 (⟨rfl, by (try simp only [u_le, Decidable.not_not] at c_8 c_28); simp [kc_oys, u_le, -Int32.not_lt, -Int32.not_le, c_8, c_28]⟩)
    · refine u_iload_n C dX10_oysters_31 rfl ?_
      refine u_iconst (v := 1) C dX10_oysters_32 (by decide) ?_
      refine u_bipush (v := 24) C dX10_oysters_33 (by decide) ?_
      refine u_calliS3 C es_X10_within dX10_oysters_35 ml_RX10_33 (c_X10_within l D G _ _ _ _  ) (by decide) (Nat.le_of_ble_eq_true rfl) (fun r_35 M_35 q_35 => ?_)
      obtain ⟨rfl, e_35⟩ := q_35
      subst M_35
      refine u_if_ne (tgt := 51) C dX10_oysters_38 (by decide) (fun c_38 => ?_) (fun c_38 => ?_)
      · refine u_aload_n C dX10_oysters_51 rfl ?_
        refine u_getI C gX10_oysters_52 rfl (sal_is hX) ?_
        refine u_bipush (v := 6) C dX10_oysters_55 (by decide) ?_
        refine u_icmp_lt (tgt := 70) C dX10_oysters_57 (by decide) (fun c_57 => ?_) (fun c_57 => ?_)
        · have hlt : cN (iv M X 4) < 6 := u_ltI (n := 6) (by rw [← o4a]; exact c_57) (by decide) (by omega)
          refine u_aload_n C dX10_oysters_70 rfl ?_
          refine u_getI C gX10_oysters_71 rfl (sal_is hX) ?_
          refine u_istore C dX10_oysters_74 (by decide) ?_
          refine u_aload_n C dX10_oysters_76 rfl ?_
          refine u_getR (k2 := (X + 3)) C gX10_oysters_77 rfl (sal_is hX) (sal_f3 hX) ?_
          refine u_iload C dX10_oysters_80 rfl ?_
          rw [o4a]
          refine u_aaldN (k2 := (X + 10 + (cN (iv M X 4)))) (i := cN (iv M X 4)) C dX10_oysters_82 (aOys_is (sal_p3 hX)) (by decide) (aOys_n (sal_p3 hX)) hlt (by decide) (aOys_f (i := cN (iv M X 4)) (sal_p3 hX) hlt) ?_
          refine u_iload_n C dX10_oysters_83 rfl ?_
          refine u_putI C pX10_oysters_84 rfl (oys_is (aOys_p (i := cN (iv M X 4)) (sal_p3 hX) hlt)) ?_
          refine u_aload_n C dX10_oysters_87 rfl ?_
          refine u_getR (k2 := (X + 3)) C gX10_oysters_88 rfl (sal_is hX) (sal_f3 hX) ?_
          refine u_iload C dX10_oysters_91 rfl ?_
          refine u_aaldN (k2 := (X + 10 + (cN (iv M X 4)))) (i := cN (iv M X 4)) C dX10_oysters_93 (aOys_is (sal_p3 hX)) (by decide) (aOys_n (sal_p3 hX)) hlt (by decide) (aOys_f (i := cN (iv M X 4)) (sal_p3 hX) hlt) ?_
          refine u_iload_n C dX10_oysters_94 rfl ?_
          refine u_putI C pX10_oysters_95 rfl (oys_is (aOys_p (i := cN (iv M X 4)) (sal_p3 hX) hlt)) ?_
          refine u_aload_n C dX10_oysters_98 rfl ?_
          refine u_getR (k2 := (X + 3)) C gX10_oysters_99 rfl (sal_is hX) (sal_f3 hX) ?_
          refine u_iload C dX10_oysters_102 rfl ?_
          refine u_aaldN (k2 := (X + 10 + (cN (iv M X 4)))) (i := cN (iv M X 4)) C dX10_oysters_104 (aOys_is (sal_p3 hX)) (by decide) (aOys_n (sal_p3 hX)) hlt (by decide) (aOys_f (i := cN (iv M X 4)) (sal_p3 hX) hlt) ?_
          refine u_iload_n C dX10_oysters_105 rfl ?_
          refine u_putI C pX10_oysters_106 rfl (oys_is (aOys_p (i := cN (iv M X 4)) (sal_p3 hX) hlt)) ?_
          refine u_aload_n C dX10_oysters_109 rfl ?_
          refine u_iload C dX10_oysters_110 rfl ?_
          refine u_iconst (v := 1) C dX10_oysters_112 (by decide) ?_
          refine u_iadd C dX10_oysters_113 ?_
          refine u_putI C pX10_oysters_114 rfl (sal_is hX) ?_
          refine u_iload C dX10_oysters_117 rfl ?_
          exact ret _ _ _ _ dX10_oysters_119  (⟨by (try simp only [u_le, Decidable.not_not] at c_8 c_28 c_38 c_57); simp [kc_oys, u_le, -Int32.not_lt, -Int32.not_le, c_8, c_28, c_38, c_57], by first | rfl | exact o4a.symm, by have e1 : ¬ X = X + 10 + cN (iv M X 4) := (by omega); simp [iv_wi, e1, ← o4a]⟩)
        · exact thr _ _ _ _ tX10_oysters_60 (⟨rfl, by (try simp only [u_le, Decidable.not_not] at c_8 c_28 c_38 c_57); simp [kc_oys, u_le, -Int32.not_lt, -Int32.not_le, c_8, c_28, c_38, c_57]⟩)
      · exact thr _ _ _ _ tX10_oysters_41 (⟨rfl, by (try simp only [u_le, Decidable.not_not] at c_8 c_28 c_38); simp [kc_oys, u_le, -Int32.not_lt, -Int32.not_le, c_8, c_28, c_38]⟩)
  · exact thr _ _ _ _ tX10_oysters_11 (⟨rfl, by (try simp only [u_le, Decidable.not_not] at c_8); simp [kc_oys, u_le, -Int32.not_lt, -Int32.not_le, c_8]⟩)
set_option maxHeartbeats 4000000 in
set_option maxRecDepth 100000 in
theorem c_X10_permit (l : Launch) (D : va_G) (G : w_G) (M : w_M) (X : Nat) (v : Int32) (a : Int32) (hX : L_sal G (X)) (hst : l.stackTraces = false) (ok : okX M X) (hk : ∃ n9 : Nat, n9 < 512 ∧ iv M (X + 1) 1 = nI n9) : u_XMi l D G yX10_permit cX10_permit 4 (some .int) 6 121 [.ref (gP G X), .int v, .int a] M (fun r M' => kc_per (s_has M (X + 1000) v) a = 0 ∧ r = iv M (X + 1000 + 100 + cN v) 7 ∧ M' = wi (m_keep M (X + 1) (iv M (X + 1000) 9) 7 v a 0 0 0) (X + 1000 + 100 + cN v) 7 a) (fun E M' => M' = M ∧ ((kc_per (s_has M (X + 1000) v) a = 1 ∧ E = x_IX) ∨ (kc_per (s_has M (X + 1000) v) a = 2 ∧ E = x_IA))) := by
  obtain ⟨okc, ok4, oko⟩ := id ok
  obtain ⟨o1, o2, o3, o4, o5, o6, o7⟩ := id okc
  obtain ⟨o1a, o1b⟩ := cB_le o1 (by decide)
  obtain ⟨o2a, o2b⟩ := cB_le o2 (by decide)
  obtain ⟨o3a, o3b⟩ := cB_le o3 (by decide)
  obtain ⟨o6a, o6b⟩ := cB_le o6 (by decide)
  obtain ⟨o4a, o4b⟩ := cB_le ok4 (by decide)
  refine u_bodyXi hst (by decide +kernel) rfl (Nat.le_of_ble_eq_true rfl) (by decide) rfl (fun p e s m args below meth c A H0 Q C ret thr => ?_)
  refine u_aload_n C dX10_permit_0 rfl ?_
  refine u_getR (k2 := (X + 1000)) C gX10_permit_1 rfl (sal_is hX) (sal_f0 hX) ?_
  refine u_iload_n C dX10_permit_4 rfl ?_
  refine u_calliV1 C ev_X3_hasSection dX10_permit_5 ml_RX10_105 (mou_is (sal_p0 hX)) rfl (by decide) (c_X3_hasSection l D G _ _ _ (sal_p0 hX) ) (by decide) (Nat.le_of_ble_eq_true rfl) (fun r_5 M_5 q_5 => ?_)
  obtain ⟨rfl, e_5⟩ := q_5
  subst M_5
  refine u_if_ne (tgt := 21) C dX10_permit_8 (by decide) (fun c_8 => ?_) (fun c_8 => ?_)
  · refine u_iload_n C dX10_permit_21 rfl ?_
    refine u_iconst (v := 0) C dX10_permit_22 (by decide) ?_
    refine u_sipush (v := 10000) C dX10_permit_23 (by decide) ?_
    refine u_calliS3 C es_X10_within dX10_permit_26 ml_RX10_33 (c_X10_within l D G _ _ _ _  ) (by decide) (Nat.le_of_ble_eq_true rfl) (fun r_26 M_26 q_26 => ?_)
    obtain ⟨rfl, e_26⟩ := q_26
    subst M_26
    refine u_if_ne (tgt := 42) C dX10_permit_29 (by decide) (fun c_29 => ?_) (fun c_29 => ?_)
    · obtain ⟨i, hin, rfl⟩ := u_hasN o1b o1a c_8
      refine u_aload_n C dX10_permit_42 rfl ?_
      refine u_getR (k2 := (X + 1000)) C gX10_permit_43 rfl (sal_is hX) (sal_f0 hX) ?_
      refine u_getR (k2 := (X + 1003)) C gX10_permit_46 rfl (mou_is (sal_p0 hX)) (mou_f2 (sal_p0 hX)) ?_
      refine u_iload_n C dX10_permit_49 rfl ?_
      refine u_aaldN (k2 := (X + 1100 + i)) (i := i) C dX10_permit_50 (aSec_is (mou_p2 (sal_p0 hX))) (by decide) (aSec_n (mou_p2 (sal_p0 hX))) (by omega) (by decide) (aSec_f (i := i) (mou_p2 (sal_p0 hX)) (by omega)) ?_
      refine u_getI C gX10_permit_51 rfl (sec_is (aSec_p (i := i) (mou_p2 (sal_p0 hX)) (by omega))) ?_
      refine u_istore_n C dX10_permit_54 (by decide) ?_
      refine u_aload_n C dX10_permit_55 rfl ?_
      refine u_bipush (v := 7) C dX10_permit_56 (by decide) ?_
      refine u_iload_n C dX10_permit_58 rfl ?_
      refine u_iload_n C dX10_permit_59 rfl ?_
      refine u_iconst (v := 0) C dX10_permit_60 (by decide) ?_
      refine u_iconst (v := 0) C dX10_permit_61 (by decide) ?_
      refine u_iconst (v := 0) C dX10_permit_62 (by decide) ?_
      refine u_callvV6 C ev_X10_tell dX10_permit_63 ml_RX10_61 (sal_is hX) rfl (by decide) (c_X10_tell_7 l D G _ _ _ _ _ _ _ hX hk _ o1b o1a hin) (by decide) (Nat.le_of_ble_eq_true rfl) (fun M_63 q_63 => ?_)
      obtain rfl := q_63
      refine u_iload_n C dX10_permit_66 rfl ?_
      exact ret _ _ _ _ dX10_permit_67  (⟨by (try simp only [u_le, Decidable.not_not] at c_8 c_29); simp [kc_per, u_le, -Int32.not_lt, -Int32.not_le, c_8, c_29], by rw [cN_nI (by omega)], by rw [cN_nI (by omega)]⟩)
    · exact thr _ _ _ _ tX10_permit_32 (⟨rfl, by (try simp only [u_le, Decidable.not_not] at c_8 c_29); simp [kc_per, u_le, -Int32.not_lt, -Int32.not_le, c_8, c_29]⟩)
  · exact thr _ _ _ _ tX10_permit_11 (⟨rfl, by (try simp only [u_le, Decidable.not_not] at c_8); simp [kc_per, u_le, -Int32.not_lt, -Int32.not_le, c_8]⟩)
set_option maxHeartbeats 4000000 in
set_option maxRecDepth 100000 in
theorem c_X10_whyNot (l : Launch) (D : va_G) (G : w_G) (M : w_M) (X : Nat) (v : Int32) (a : Int32) (hX : L_sal G (X)) (hst : l.stackTraces = false) (ok : okX M X) : u_XMi l D G yX10_whyNot cX10_whyNot 3 (some .int) 6 90 [.ref (gP G X), .int v, .int a] M (fun r M' => kc_why (s_has M (X + 1000) v) a = 0 ∧ r = f_ref a (iv M (X + 1000 + 100 + cN v) 7) (iv M (X + 1000 + 100 + cN v) 4) ∧ M' = M) (fun E M' => M' = M ∧ ((kc_why (s_has M (X + 1000) v) a = 1 ∧ E = x_IX) ∨ (kc_why (s_has M (X + 1000) v) a = 2 ∧ E = x_IA))) := by
  obtain ⟨okc, ok4, oko⟩ := id ok
  obtain ⟨o1, o2, o3, o4, o5, o6, o7⟩ := id okc
  obtain ⟨o1a, o1b⟩ := cB_le o1 (by decide)
  obtain ⟨o2a, o2b⟩ := cB_le o2 (by decide)
  obtain ⟨o3a, o3b⟩ := cB_le o3 (by decide)
  obtain ⟨o6a, o6b⟩ := cB_le o6 (by decide)
  obtain ⟨o4a, o4b⟩ := cB_le ok4 (by decide)
  refine u_bodyXi hst (by decide +kernel) rfl (Nat.le_of_ble_eq_true rfl) (by decide) rfl (fun p e s m args below meth c A H0 Q C ret thr => ?_)
  refine u_aload_n C dX10_whyNot_0 rfl ?_
  refine u_getR (k2 := (X + 1000)) C gX10_whyNot_1 rfl (sal_is hX) (sal_f0 hX) ?_
  refine u_iload_n C dX10_whyNot_4 rfl ?_
  refine u_calliV1 C ev_X3_hasSection dX10_whyNot_5 ml_RX10_105 (mou_is (sal_p0 hX)) rfl (by decide) (c_X3_hasSection l D G _ _ _ (sal_p0 hX) ) (by decide) (Nat.le_of_ble_eq_true rfl) (fun r_5 M_5 q_5 => ?_)
  obtain ⟨rfl, e_5⟩ := q_5
  subst M_5
  refine u_if_ne (tgt := 21) C dX10_whyNot_8 (by decide) (fun c_8 => ?_) (fun c_8 => ?_)
  · refine u_iload_n C dX10_whyNot_21 rfl ?_
    refine u_iconst (v := 1) C dX10_whyNot_22 (by decide) ?_
    refine u_sipush (v := 10000) C dX10_whyNot_23 (by decide) ?_
    refine u_calliS3 C es_X10_within dX10_whyNot_26 ml_RX10_33 (c_X10_within l D G _ _ _ _  ) (by decide) (Nat.le_of_ble_eq_true rfl) (fun r_26 M_26 q_26 => ?_)
    obtain ⟨rfl, e_26⟩ := q_26
    subst M_26
    refine u_if_ne (tgt := 42) C dX10_whyNot_29 (by decide) (fun c_29 => ?_) (fun c_29 => ?_)
    · obtain ⟨i, hin, rfl⟩ := u_hasN o1b o1a c_8
      refine u_aload_n C dX10_whyNot_42 rfl ?_
      refine u_getR (k2 := (X + 1000)) C gX10_whyNot_43 rfl (sal_is hX) (sal_f0 hX) ?_
      refine u_getR (k2 := (X + 1003)) C gX10_whyNot_46 rfl (mou_is (sal_p0 hX)) (mou_f2 (sal_p0 hX)) ?_
      refine u_iload_n C dX10_whyNot_49 rfl ?_
      refine u_aaldN (k2 := (X + 1100 + i)) (i := i) C dX10_whyNot_50 (aSec_is (mou_p2 (sal_p0 hX))) (by decide) (aSec_n (mou_p2 (sal_p0 hX))) (by omega) (by decide) (aSec_f (i := i) (mou_p2 (sal_p0 hX)) (by omega)) ?_
      refine u_iload_n C dX10_whyNot_51 rfl ?_
      refine u_calliV1 C ev_X6_refusal dX10_whyNot_52 ml_RX10_150 (sec_is (aSec_p (i := i) (mou_p2 (sal_p0 hX)) (by omega))) rfl (by decide) (c_X6_refusal l D G _ _ _ (aSec_p (i := i) (mou_p2 (sal_p0 hX)) (by omega)) ) (by decide) (Nat.le_of_ble_eq_true rfl) (fun r_52 M_52 q_52 => ?_)
      obtain ⟨rfl, e_52⟩ := q_52
      subst M_52
      exact ret _ _ _ _ dX10_whyNot_55  (⟨by (try simp only [u_le, Decidable.not_not] at c_8 c_29); simp [kc_why, u_le, -Int32.not_lt, -Int32.not_le, c_8, c_29], by rw [cN_nI (by omega)], rfl⟩)
    · exact thr _ _ _ _ tX10_whyNot_32 (⟨rfl, by (try simp only [u_le, Decidable.not_not] at c_8 c_29); simp [kc_why, u_le, -Int32.not_lt, -Int32.not_le, c_8, c_29]⟩)
  · exact thr _ _ _ _ tX10_whyNot_11 (⟨rfl, by (try simp only [u_le, Decidable.not_not] at c_8); simp [kc_why, u_le, -Int32.not_lt, -Int32.not_le, c_8]⟩)
set_option maxHeartbeats 4000000 in
set_option maxRecDepth 100000 in
theorem c_X10_pass (l : Launch) (D : va_G) (G : w_G) (M : w_M) (X : Nat) (h : Int32) (hX : L_sal G (X)) (hst : l.stackTraces = false) (ok : okX M X) : u_XMi l D G yX10_pass cX10_pass 2 (some .int) 6 139 [.ref (gP G X), .int h] M (fun r M' => kc_pass h (iv M (X + 1000) 9) = 0 ∧ r = iv (m_go M (X + 1000) (cN h)) (X + 1000) 9 ∧ M' = m_go M (X + 1000) (cN h)) (fun E M' => M' = M ∧ ((kc_pass h (iv M (X + 1000) 9) = 1 ∧ E = x_IA) ∨ (kc_pass h (iv M (X + 1000) 9) = 2 ∧ E = x_IS))) := by
  obtain ⟨okc, ok4, oko⟩ := id ok
  obtain ⟨o1, o2, o3, o4, o5, o6, o7⟩ := id okc
  obtain ⟨o1a, o1b⟩ := cB_le o1 (by decide)
  obtain ⟨o2a, o2b⟩ := cB_le o2 (by decide)
  obtain ⟨o3a, o3b⟩ := cB_le o3 (by decide)
  obtain ⟨o6a, o6b⟩ := cB_le o6 (by decide)
  obtain ⟨o4a, o4b⟩ := cB_le ok4 (by decide)
  refine u_bodyXi hst (by decide +kernel) rfl (Nat.le_of_ble_eq_true rfl) (by decide) rfl (fun p e s m args below meth c A H0 Q C ret thr => ?_)
  refine u_iload_n C dX10_pass_0 rfl ?_
  refine u_iconst (v := 1) C dX10_pass_1 (by decide) ?_
  refine u_bipush (v := 48) C dX10_pass_2 (by decide) ?_
  refine u_calliS3 C es_X10_within dX10_pass_4 ml_RX10_33 (c_X10_within l D G _ _ _ _  ) (by decide) (Nat.le_of_ble_eq_true rfl) (fun r_4 M_4 q_4 => ?_)
  obtain ⟨rfl, e_4⟩ := q_4
  subst M_4
  refine u_if_ne (tgt := 20) C dX10_pass_7 (by decide) (fun c_7 => ?_) (fun c_7 => ?_)
  · obtain ⟨t, ht48, ht0, rfl⟩ := u_fW1n (n := 48) rfl c_7
    refine u_aload_n C dX10_pass_20 rfl ?_
    refine u_getR (k2 := (X + 1000)) C gX10_pass_21 rfl (sal_is hX) (sal_f0 hX) ?_
    refine u_getI C gX10_pass_24 rfl (mou_is (sal_p0 hX)) ?_
    refine u_iload_n C dX10_pass_27 rfl ?_
    refine u_iadd C dX10_pass_28 ?_
    refine u_sipush (v := 1000) C dX10_pass_29 (by decide) ?_
    refine u_icmp_le (tgt := 45) C dX10_pass_32 (by decide) (fun c_32 => ?_) (fun c_32 => ?_)
    · have hle : cN (iv M (X + 1000) 9) + t ≤ 1000 := (nI_leI (by omega) (by decide)).mp (by rw [← nI_add, ← o3a]; exact c_32)
      refine u_aload_n C dX10_pass_45 rfl ?_
      refine u_getR (k2 := (X + 1000)) C gX10_pass_46 rfl (sal_is hX) (sal_f0 hX) ?_
      refine u_aload_n C dX10_pass_49 rfl ?_
      refine u_getR (k2 := (X + 1000)) C gX10_pass_50 rfl (sal_is hX) (sal_f0 hX) ?_
      refine u_getI C gX10_pass_53 rfl (mou_is (sal_p0 hX)) ?_
      refine u_iload_n C dX10_pass_56 rfl ?_
      refine u_iadd C dX10_pass_57 ?_
      rw [show iv M (X + 1000) 9 + nI t = nI (cN (iv M (X + 1000) 9) + t) from by rw [← nI_add, ← o3a]]
      refine u_callvV1 C ev_X3_goOnTo dX10_pass_58 ml_RX10_162 (mou_is (sal_p0 hX)) rfl (by decide) (c_X3_goOnTo l D G _ _ _ (sal_p0 hX) okc (by omega)) (by decide) (Nat.le_of_ble_eq_true rfl) (fun M_58 q_58 => ?_)
      obtain rfl := q_58
      refine u_aload_n C dX10_pass_61 rfl ?_
      refine u_getR (k2 := (X + 1000)) C gX10_pass_62 rfl (sal_is hX) (sal_f0 hX) ?_
      refine u_getI C gX10_pass_65 rfl (mou_is (sal_p0 hX)) ?_
      exact ret _ _ _ _ dX10_pass_68  (⟨by (try simp only [u_le, Decidable.not_not] at c_7 c_32); simp [kc_pass, u_le, -Int32.not_lt, -Int32.not_le, c_7, c_32], by rw [cN_nI (by omega), Nat.add_sub_cancel_left], by rw [cN_nI (by omega), Nat.add_sub_cancel_left]⟩)
    · exact thr _ _ _ _ tX10_pass_35 (⟨rfl, by (try simp only [u_le, Decidable.not_not] at c_7 c_32); simp [kc_pass, u_le, -Int32.not_lt, -Int32.not_le, c_7, c_32]⟩)
  · exact thr _ _ _ _ tX10_pass_10 (⟨rfl, by (try simp only [u_le, Decidable.not_not] at c_7); simp [kc_pass, u_le, -Int32.not_lt, -Int32.not_le, c_7]⟩)
set_option maxHeartbeats 4000000 in
set_option maxRecDepth 100000 in
theorem c_X10_sea (l : Launch) (D : va_G) (G : w_G) (M : w_M) (X : Nat) (h : Int32) (hX : L_sal G (X)) (hst : l.stackTraces = false) (ok : okX M X) : u_XMi l D G yX10_sea cX10_sea 2 (some .int) 6 90 [.ref (gP G X), .int h] M (fun r M' => kc_sea h = 0 ∧ r = s_sea M (X + 1000) (cN h) ∧ M' = M) (fun E M' => M' = M ∧ ((kc_sea h = 1 ∧ E = x_IA))) := by
  obtain ⟨okc, ok4, oko⟩ := id ok
  obtain ⟨o1, o2, o3, o4, o5, o6, o7⟩ := id okc
  obtain ⟨o1a, o1b⟩ := cB_le o1 (by decide)
  obtain ⟨o2a, o2b⟩ := cB_le o2 (by decide)
  obtain ⟨o3a, o3b⟩ := cB_le o3 (by decide)
  obtain ⟨o6a, o6b⟩ := cB_le o6 (by decide)
  obtain ⟨o4a, o4b⟩ := cB_le ok4 (by decide)
  refine u_bodyXi hst (by decide +kernel) rfl (Nat.le_of_ble_eq_true rfl) (by decide) rfl (fun p e s m args below meth c A H0 Q C ret thr => ?_)
  refine u_iload_n C dX10_sea_0 rfl ?_
  refine u_iconst (v := 0) C dX10_sea_1 (by decide) ?_
  refine u_sipush (v := 2000) C dX10_sea_2 (by decide) ?_
  refine u_calliS3 C es_X10_within dX10_sea_5 ml_RX10_33 (c_X10_within l D G _ _ _ _  ) (by decide) (Nat.le_of_ble_eq_true rfl) (fun r_5 M_5 q_5 => ?_)
  obtain ⟨rfl, e_5⟩ := q_5
  subst M_5
  refine u_if_ne (tgt := 21) C dX10_sea_8 (by decide) (fun c_8 => ?_) (fun c_8 => ?_)
  · obtain ⟨t, ht2, rfl⟩ := u_fWn (n := 2000) rfl c_8
    refine u_aload_n C dX10_sea_21 rfl ?_
    refine u_getR (k2 := (X + 1000)) C gX10_sea_22 rfl (sal_is hX) (sal_f0 hX) ?_
    refine u_iload_n C dX10_sea_25 rfl ?_
    refine u_calliV1 C ev_X3_seaOf dX10_sea_26 ml_RX10_168 (mou_is (sal_p0 hX)) rfl (by decide) (c_X3_seaOf l D G _ _ _ (sal_p0 hX) okc (by omega)) (by decide) (Nat.le_of_ble_eq_true rfl) (fun r_26 M_26 q_26 => ?_)
    obtain ⟨rfl, e_26⟩ := q_26
    subst M_26
    exact ret _ _ _ _ dX10_sea_29  (⟨by (try simp only [u_le, Decidable.not_not] at c_8); simp [kc_sea, u_le, -Int32.not_lt, -Int32.not_le, c_8], by rw [cN_nI (by omega)], rfl⟩)
  · exact thr _ _ _ _ tX10_sea_11 (⟨rfl, by (try simp only [u_le, Decidable.not_not] at c_8); simp [kc_sea, u_le, -Int32.not_lt, -Int32.not_le, c_8]⟩)
set_option maxHeartbeats 4000000 in
set_option maxRecDepth 100000 in
theorem c_X10_ofSection (l : Launch) (D : va_G) (G : w_G) (M : w_M) (X : Nat) (v : Int32) (w : Int32) (hX : L_sal G (X)) (hst : l.stackTraces = false) (ok : okX M X) : u_XMi l D G yX10_ofSection cX10_ofSection 3 (some .int) 6 90 [.ref (gP G X), .int v, .int w] M (fun r M' => kc_of (s_has M (X + 1000) v) w = 0 ∧ r = s_ans M (X + 1000 + 100 + cN v) (cN w) ∧ M' = M) (fun E M' => M' = M ∧ ((kc_of (s_has M (X + 1000) v) w = 1 ∧ E = x_IX) ∨ (kc_of (s_has M (X + 1000) v) w = 2 ∧ E = x_IA))) := by
  obtain ⟨okc, ok4, oko⟩ := id ok
  obtain ⟨o1, o2, o3, o4, o5, o6, o7⟩ := id okc
  obtain ⟨o1a, o1b⟩ := cB_le o1 (by decide)
  obtain ⟨o2a, o2b⟩ := cB_le o2 (by decide)
  obtain ⟨o3a, o3b⟩ := cB_le o3 (by decide)
  obtain ⟨o6a, o6b⟩ := cB_le o6 (by decide)
  obtain ⟨o4a, o4b⟩ := cB_le ok4 (by decide)
  refine u_bodyXi hst (by decide +kernel) rfl (Nat.le_of_ble_eq_true rfl) (by decide) rfl (fun p e s m args below meth c A H0 Q C ret thr => ?_)
  refine u_aload_n C dX10_ofSection_0 rfl ?_
  refine u_getR (k2 := (X + 1000)) C gX10_ofSection_1 rfl (sal_is hX) (sal_f0 hX) ?_
  refine u_iload_n C dX10_ofSection_4 rfl ?_
  refine u_calliV1 C ev_X3_hasSection dX10_ofSection_5 ml_RX10_105 (mou_is (sal_p0 hX)) rfl (by decide) (c_X3_hasSection l D G _ _ _ (sal_p0 hX) ) (by decide) (Nat.le_of_ble_eq_true rfl) (fun r_5 M_5 q_5 => ?_)
  obtain ⟨rfl, e_5⟩ := q_5
  subst M_5
  refine u_if_ne (tgt := 21) C dX10_ofSection_8 (by decide) (fun c_8 => ?_) (fun c_8 => ?_)
  · refine u_iload_n C dX10_ofSection_21 rfl ?_
    refine u_iconst (v := 0) C dX10_ofSection_22 (by decide) ?_
    refine u_bipush (v := 9) C dX10_ofSection_23 (by decide) ?_
    refine u_calliS3 C es_X10_within dX10_ofSection_25 ml_RX10_33 (c_X10_within l D G _ _ _ _  ) (by decide) (Nat.le_of_ble_eq_true rfl) (fun r_25 M_25 q_25 => ?_)
    obtain ⟨rfl, e_25⟩ := q_25
    subst M_25
    refine u_if_ne (tgt := 41) C dX10_ofSection_28 (by decide) (fun c_28 => ?_) (fun c_28 => ?_)
    · obtain ⟨i, hin, rfl⟩ := u_hasN o1b o1a c_8
      obtain ⟨t, ht9, rfl⟩ := u_fWn (n := 9) rfl c_28
      refine u_aload_n C dX10_ofSection_41 rfl ?_
      refine u_getR (k2 := (X + 1000)) C gX10_ofSection_42 rfl (sal_is hX) (sal_f0 hX) ?_
      refine u_getR (k2 := (X + 1003)) C gX10_ofSection_45 rfl (mou_is (sal_p0 hX)) (mou_f2 (sal_p0 hX)) ?_
      refine u_iload_n C dX10_ofSection_48 rfl ?_
      refine u_aaldN (k2 := (X + 1100 + i)) (i := i) C dX10_ofSection_49 (aSec_is (mou_p2 (sal_p0 hX))) (by decide) (aSec_n (mou_p2 (sal_p0 hX))) (by omega) (by decide) (aSec_f (i := i) (mou_p2 (sal_p0 hX)) (by omega)) ?_
      refine u_iload_n C dX10_ofSection_50 rfl ?_
      refine u_calliV1 C ev_X6_answer dX10_ofSection_51 ml_RX10_173 (sec_is (aSec_p (i := i) (mou_p2 (sal_p0 hX)) (by omega))) rfl (by decide) (c_X6_answer l D G _ _ _ (aSec_p (i := i) (mou_p2 (sal_p0 hX)) (by omega)) (by omega)) (by decide) (Nat.le_of_ble_eq_true rfl) (fun r_51 M_51 q_51 => ?_)
      obtain ⟨rfl, e_51⟩ := q_51
      subst M_51
      exact ret _ _ _ _ dX10_ofSection_54  (⟨by (try simp only [u_le, Decidable.not_not] at c_8 c_28); simp [kc_of, u_le, -Int32.not_lt, -Int32.not_le, c_8, c_28], by rw [cN_nI (by omega), cN_nI (by omega)], rfl⟩)
    · exact thr _ _ _ _ tX10_ofSection_31 (⟨rfl, by (try simp only [u_le, Decidable.not_not] at c_8 c_28); simp [kc_of, u_le, -Int32.not_lt, -Int32.not_le, c_8, c_28]⟩)
  · exact thr _ _ _ _ tX10_ofSection_11 (⟨rfl, by (try simp only [u_le, Decidable.not_not] at c_8); simp [kc_of, u_le, -Int32.not_lt, -Int32.not_le, c_8]⟩)
set_option maxHeartbeats 4000000 in
set_option maxRecDepth 100000 in
theorem c_X10_ofIntake (l : Launch) (D : va_G) (G : w_G) (M : w_M) (X : Nat) (v : Int32) (w : Int32) (hX : L_sal G (X)) (hst : l.stackTraces = false) (ok : okX M X) : u_XMi l D G yX10_ofIntake cX10_ofIntake 3 (some .int) 6 90 [.ref (gP G X), .int v, .int w] M (fun r M' => kc_oin v (iv M (X + 1000) 6) w = 0 ∧ r = i_ans M (X + 1000 + 150 + cN v) (cN w) ∧ M' = M) (fun E M' => M' = M ∧ ((kc_oin v (iv M (X + 1000) 6) w = 1 ∧ E = x_IX) ∨ (kc_oin v (iv M (X + 1000) 6) w = 2 ∧ E = x_IA))) := by
  obtain ⟨okc, ok4, oko⟩ := id ok
  obtain ⟨o1, o2, o3, o4, o5, o6, o7⟩ := id okc
  obtain ⟨o1a, o1b⟩ := cB_le o1 (by decide)
  obtain ⟨o2a, o2b⟩ := cB_le o2 (by decide)
  obtain ⟨o3a, o3b⟩ := cB_le o3 (by decide)
  obtain ⟨o6a, o6b⟩ := cB_le o6 (by decide)
  obtain ⟨o4a, o4b⟩ := cB_le ok4 (by decide)
  refine u_bodyXi hst (by decide +kernel) rfl (Nat.le_of_ble_eq_true rfl) (by decide) rfl (fun p e s m args below meth c A H0 Q C ret thr => ?_)
  refine u_iload_n C dX10_ofIntake_0 rfl ?_
  refine u_if_lt (tgt := 15) C dX10_ofIntake_1 (by decide) (fun c_1 => ?_) (fun c_1 => ?_)
  · exact thr _ _ _ _ tX10_ofIntake_15 (⟨rfl, by (try simp only [u_le, Decidable.not_not] at c_1); simp [kc_oin, u_le, -Int32.not_lt, -Int32.not_le, c_1]⟩)
  · refine u_iload_n C dX10_ofIntake_4 rfl ?_
    refine u_aload_n C dX10_ofIntake_5 rfl ?_
    refine u_getR (k2 := (X + 1000)) C gX10_ofIntake_6 rfl (sal_is hX) (sal_f0 hX) ?_
    refine u_getI C gX10_ofIntake_9 rfl (mou_is (sal_p0 hX)) ?_
    refine u_icmp_lt (tgt := 25) C dX10_ofIntake_12 (by decide) (fun c_12 => ?_) (fun c_12 => ?_)
    · refine u_iload_n C dX10_ofIntake_25 rfl ?_
      refine u_iconst (v := 0) C dX10_ofIntake_26 (by decide) ?_
      refine u_iconst (v := 4) C dX10_ofIntake_27 (by decide) ?_
      refine u_calliS3 C es_X10_within dX10_ofIntake_28 ml_RX10_33 (c_X10_within l D G _ _ _ _  ) (by decide) (Nat.le_of_ble_eq_true rfl) (fun r_28 M_28 q_28 => ?_)
      obtain ⟨rfl, e_28⟩ := q_28
      subst M_28
      refine u_if_ne (tgt := 44) C dX10_ofIntake_31 (by decide) (fun c_31 => ?_) (fun c_31 => ?_)
      · obtain ⟨i, hin, rfl⟩ := u_ltN c_1 (by rw [← o2a]; exact c_12) (by omega)
        obtain ⟨t, ht9, rfl⟩ := u_fWn (n := 4) rfl c_31
        refine u_aload_n C dX10_ofIntake_44 rfl ?_
        refine u_getR (k2 := (X + 1000)) C gX10_ofIntake_45 rfl (sal_is hX) (sal_f0 hX) ?_
        refine u_getR (k2 := (X + 1004)) C gX10_ofIntake_48 rfl (mou_is (sal_p0 hX)) (mou_f3 (sal_p0 hX)) ?_
        refine u_iload_n C dX10_ofIntake_51 rfl ?_
        refine u_aaldN (k2 := (X + 1150 + i)) (i := i) C dX10_ofIntake_52 (aInt_is (mou_p3 (sal_p0 hX))) (by decide) (aInt_n (mou_p3 (sal_p0 hX))) (by omega) (by decide) (aInt_f (i := i) (mou_p3 (sal_p0 hX)) (by omega)) ?_
        refine u_iload_n C dX10_ofIntake_53 rfl ?_
        refine u_calliV1 C ev_X1_answer dX10_ofIntake_54 ml_RX10_195 (int_is (aInt_p (i := i) (mou_p3 (sal_p0 hX)) (by omega))) rfl (by decide) (c_X1_answer l D G _ _ _ (aInt_p (i := i) (mou_p3 (sal_p0 hX)) (by omega)) (by omega)) (by decide) (Nat.le_of_ble_eq_true rfl) (fun r_54 M_54 q_54 => ?_)
        obtain ⟨rfl, e_54⟩ := q_54
        subst M_54
        exact ret _ _ _ _ dX10_ofIntake_57  (⟨by (try simp only [u_le, Decidable.not_not] at c_1 c_12 c_31); simp [kc_oin, u_le, -Int32.not_lt, -Int32.not_le, c_1, c_12, c_31], by rw [cN_nI (by omega), cN_nI (by omega)], rfl⟩)
      · exact thr _ _ _ _ tX10_ofIntake_34 (⟨rfl, by (try simp only [u_le, Decidable.not_not] at c_1 c_12 c_31); simp [kc_oin, u_le, -Int32.not_lt, -Int32.not_le, c_1, c_12, c_31]⟩)
    · exact thr _ _ _ _ tX10_ofIntake_15 (⟨rfl, by (try simp only [u_le, Decidable.not_not] at c_1 c_12); simp [kc_oin, u_le, -Int32.not_lt, -Int32.not_le, c_1, c_12]⟩)
set_option maxHeartbeats 4000000 in
set_option maxRecDepth 100000 in
theorem c_X10_isClosed (l : Launch) (D : va_G) (G : w_G) (M : w_M) (X : Nat) (v : Int32) (hX : L_sal G (X)) (hst : l.stackTraces = false) (ok : okX M X) : u_XMi l D G yX10_isClosed cX10_isClosed 3 (some .boolean) 6 90 [.ref (gP G X), .int v] M (fun r M' => kc_cls v (iv M X 4) = 0 ∧ r = (if s_fr M (X + 1000 + 100 + cN (iv M (X + 10 + cN v) 0)) (iv M (X + 10 + cN v) 1) (cN (iv M (X + 1000) 9) - (cN (iv M (X + 1000) 9) - cN (iv M (X + 10 + cN v) 2))) (cN (iv M (X + 1000) 9) - cN (iv M (X + 10 + cN v) 2)) = true then 1 else 0) ∧ M' = M) (fun E M' => M' = M ∧ ((kc_cls v (iv M X 4) = 1 ∧ E = x_IX))) := by
  obtain ⟨okc, ok4, oko⟩ := id ok
  obtain ⟨o1, o2, o3, o4, o5, o6, o7⟩ := id okc
  obtain ⟨o1a, o1b⟩ := cB_le o1 (by decide)
  obtain ⟨o2a, o2b⟩ := cB_le o2 (by decide)
  obtain ⟨o3a, o3b⟩ := cB_le o3 (by decide)
  obtain ⟨o6a, o6b⟩ := cB_le o6 (by decide)
  obtain ⟨o4a, o4b⟩ := cB_le ok4 (by decide)
  refine u_bodyXz hst (by decide +kernel) rfl (Nat.le_of_ble_eq_true rfl) (by decide) rfl (fun p e s m args below meth c A H0 Q C ret thr => ?_)
  refine u_iload_n C dX10_isClosed_0 rfl ?_
  refine u_if_lt (tgt := 12) C dX10_isClosed_1 (by decide) (fun c_1 => ?_) (fun c_1 => ?_)
  · exact thr _ _ _ _ tX10_isClosed_12 (⟨rfl, by (try simp only [u_le, Decidable.not_not] at c_1); simp [kc_cls, u_le, -Int32.not_lt, -Int32.not_le, c_1]⟩)
  · refine u_iload_n C dX10_isClosed_4 rfl ?_
    refine u_aload_n C dX10_isClosed_5 rfl ?_
    refine u_getI C gX10_isClosed_6 rfl (sal_is hX) ?_
    refine u_icmp_lt (tgt := 22) C dX10_isClosed_9 (by decide) (fun c_9 => ?_) (fun c_9 => ?_)
    · obtain ⟨i, hin, rfl⟩ := u_ltN c_1 (by rw [← o4a]; exact c_9) (by omega)
      obtain ⟨⟨j, hj, hj0⟩, hb2⟩ := oko i hin
      obtain ⟨hs, hs24, hs2⟩ := hb2
      refine u_aload_n C dX10_isClosed_22 rfl ?_
      refine u_getR (k2 := (X + 3)) C gX10_isClosed_23 rfl (sal_is hX) (sal_f3 hX) ?_
      refine u_iload_n C dX10_isClosed_26 rfl ?_
      refine u_aaldN (k2 := (X + 10 + i)) (i := i) C dX10_isClosed_27 (aOys_is (sal_p3 hX)) (by decide) (aOys_n (sal_p3 hX)) (by omega) (by decide) (aOys_f (i := i) (sal_p3 hX) (by omega)) ?_
      refine u_astore_n C dX10_isClosed_28 (by decide) ?_
      refine u_aload_n C dX10_isClosed_29 rfl ?_
      refine u_getR (k2 := (X + 1000)) C gX10_isClosed_30 rfl (sal_is hX) (sal_f0 hX) ?_
      refine u_getR (k2 := (X + 1003)) C gX10_isClosed_33 rfl (mou_is (sal_p0 hX)) (mou_f2 (sal_p0 hX)) ?_
      refine u_aload_n C dX10_isClosed_36 rfl ?_
      refine u_getI C gX10_isClosed_37 rfl (oys_is (aOys_p (i := i) (sal_p3 hX) (by omega))) ?_
      rw [hj0]
      refine u_aaldN (k2 := (X + 1100 + j)) (i := j) C dX10_isClosed_40 (aSec_is (mou_p2 (sal_p0 hX))) (by decide) (aSec_n (mou_p2 (sal_p0 hX))) (by omega) (by decide) (aSec_f (i := j) (mou_p2 (sal_p0 hX)) (by omega)) ?_
      refine u_aload_n C dX10_isClosed_41 rfl ?_
      refine u_getI C gX10_isClosed_42 rfl (oys_is (aOys_p (i := i) (sal_p3 hX) (by omega))) ?_
      refine u_aload_n C dX10_isClosed_45 rfl ?_
      refine u_getI C gX10_isClosed_46 rfl (oys_is (aOys_p (i := i) (sal_p3 hX) (by omega))) ?_
      rw [hs2]
      refine u_aload_n C dX10_isClosed_49 rfl ?_
      refine u_getR (k2 := (X + 1000)) C gX10_isClosed_50 rfl (sal_is hX) (sal_f0 hX) ?_
      refine u_getI C gX10_isClosed_53 rfl (mou_is (sal_p0 hX)) ?_
      rw [o3a]
      refine u_calliV3 C ev_X6_wasFresher dX10_isClosed_56 ml_RX10_200 (sec_is (aSec_p (i := j) (mou_p2 (sal_p0 hX)) (by omega))) rfl (by decide) (c_X6_wasFresher l D G _ _ _ _ _ (aSec_p (i := j) (mou_p2 (sal_p0 hX)) (by omega)) (by omega) (by omega)) (by decide) (Nat.le_of_ble_eq_true rfl) (fun r_56 M_56 q_56 => ?_)
      obtain ⟨rfl, e_56⟩ := q_56
      subst M_56
      exact ret _ _ _ _ dX10_isClosed_59 (by split <;> simp) (⟨by (try simp only [u_le, Decidable.not_not] at c_1 c_9); simp [kc_cls, u_le, -Int32.not_lt, -Int32.not_le, c_1, c_9], by rw [cN_nI (n := i) (by omega), hj0, cN_nI (n := j) (by omega), hs2, cN_nI (n := hs) (by omega)], rfl⟩)
    · exact thr _ _ _ _ tX10_isClosed_12 (⟨rfl, by (try simp only [u_le, Decidable.not_not] at c_1 c_9); simp [kc_cls, u_le, -Int32.not_lt, -Int32.not_le, c_1, c_9]⟩)
set_option maxHeartbeats 4000000 in
set_option maxRecDepth 100000 in
theorem c_X10_closure (l : Launch) (D : va_G) (G : w_G) (M : w_M) (X : Nat) (v : Int32) (w : Int32) (hX : L_sal G (X)) (hst : l.stackTraces = false) (ok : okX M X) : u_XMi l D G yX10_closure cX10_closure 3 (some .int) 6 90 [.ref (gP G X), .int v, .int w] M (fun r M' => kc_clo v (iv M (X + 1002) 3) w = 0 ∧ r = b_ans M (X + 1002) (cN v) (cN w) ∧ M' = M) (fun E M' => M' = M ∧ ((kc_clo v (iv M (X + 1002) 3) w = 1 ∧ E = x_IX) ∨ (kc_clo v (iv M (X + 1002) 3) w = 2 ∧ E = x_IA))) := by
  obtain ⟨okc, ok4, oko⟩ := id ok
  obtain ⟨o1, o2, o3, o4, o5, o6, o7⟩ := id okc
  obtain ⟨o1a, o1b⟩ := cB_le o1 (by decide)
  obtain ⟨o2a, o2b⟩ := cB_le o2 (by decide)
  obtain ⟨o3a, o3b⟩ := cB_le o3 (by decide)
  obtain ⟨o6a, o6b⟩ := cB_le o6 (by decide)
  obtain ⟨o4a, o4b⟩ := cB_le ok4 (by decide)
  refine u_bodyXi hst (by decide +kernel) rfl (Nat.le_of_ble_eq_true rfl) (by decide) rfl (fun p e s m args below meth c A H0 Q C ret thr => ?_)
  refine u_iload_n C dX10_closure_0 rfl ?_
  refine u_if_lt (tgt := 18) C dX10_closure_1 (by decide) (fun c_1 => ?_) (fun c_1 => ?_)
  · exact thr _ _ _ _ tX10_closure_18 (⟨rfl, by (try simp only [u_le, Decidable.not_not] at c_1); simp [kc_clo, u_le, -Int32.not_lt, -Int32.not_le, c_1]⟩)
  · refine u_iload_n C dX10_closure_4 rfl ?_
    refine u_aload_n C dX10_closure_5 rfl ?_
    refine u_getR (k2 := (X + 1000)) C gX10_closure_6 rfl (sal_is hX) (sal_f0 hX) ?_
    refine u_getR (k2 := (X + 1002)) C gX10_closure_9 rfl (mou_is (sal_p0 hX)) (mou_f1 (sal_p0 hX)) ?_
    refine u_getI C gX10_closure_12 rfl (bar_is (mou_p1 (sal_p0 hX))) ?_
    refine u_icmp_lt (tgt := 28) C dX10_closure_15 (by decide) (fun c_15 => ?_) (fun c_15 => ?_)
    · refine u_iload_n C dX10_closure_28 rfl ?_
      refine u_iconst (v := 0) C dX10_closure_29 (by decide) ?_
      refine u_iconst (v := 2) C dX10_closure_30 (by decide) ?_
      refine u_calliS3 C es_X10_within dX10_closure_31 ml_RX10_33 (c_X10_within l D G _ _ _ _  ) (by decide) (Nat.le_of_ble_eq_true rfl) (fun r_31 M_31 q_31 => ?_)
      obtain ⟨rfl, e_31⟩ := q_31
      subst M_31
      refine u_if_ne (tgt := 47) C dX10_closure_34 (by decide) (fun c_34 => ?_) (fun c_34 => ?_)
      · obtain ⟨i, hin, rfl⟩ := u_ltN c_1 (by rw [← o6a]; exact c_15) (by omega)
        obtain ⟨t, ht9, rfl⟩ := u_fWn (n := 2) rfl c_34
        refine u_aload_n C dX10_closure_47 rfl ?_
        refine u_getR (k2 := (X + 1000)) C gX10_closure_48 rfl (sal_is hX) (sal_f0 hX) ?_
        refine u_getR (k2 := (X + 1002)) C gX10_closure_51 rfl (mou_is (sal_p0 hX)) (mou_f1 (sal_p0 hX)) ?_
        refine u_iload_n C dX10_closure_54 rfl ?_
        refine u_iload_n C dX10_closure_55 rfl ?_
        refine u_calliV2 C ev_X0_answer dX10_closure_56 ml_RX10_208 (bar_is (mou_p1 (sal_p0 hX))) rfl (by decide) (c_X0_answer l D G _ _ _ _ (mou_p1 (sal_p0 hX)) (by omega) (by omega)) (by decide) (Nat.le_of_ble_eq_true rfl) (fun r_56 M_56 q_56 => ?_)
        obtain ⟨rfl, e_56⟩ := q_56
        subst M_56
        exact ret _ _ _ _ dX10_closure_59  (⟨by (try simp only [u_le, Decidable.not_not] at c_1 c_15 c_34); simp [kc_clo, u_le, -Int32.not_lt, -Int32.not_le, c_1, c_15, c_34], by rw [cN_nI (by omega), cN_nI (by omega)], rfl⟩)
      · exact thr _ _ _ _ tX10_closure_37 (⟨rfl, by (try simp only [u_le, Decidable.not_not] at c_1 c_15 c_34); simp [kc_clo, u_le, -Int32.not_lt, -Int32.not_le, c_1, c_15, c_34]⟩)
    · exact thr _ _ _ _ tX10_closure_18 (⟨rfl, by (try simp only [u_le, Decidable.not_not] at c_1 c_15); simp [kc_clo, u_le, -Int32.not_lt, -Int32.not_le, c_1, c_15]⟩)
set_option maxHeartbeats 4000000 in
set_option maxRecDepth 100000 in
theorem c_X10_window (l : Launch) (D : va_G) (G : w_G) (M : w_M) (X : Nat) (k : Int32) (h : Int32) (hX : L_sal G (X)) (hst : l.stackTraces = false) (ok : okX M X) : u_XMi l D G yX10_window cX10_window 3 (some .int) 6 90 [.ref (gP G X), .int k, .int h] M (fun r M' => kc_win k h (iv M (X + 1000) 5) = 0 ∧ r = s_win M (X + 1001) (f_bed (iv M (X + 1100) 3) (iv M (X + 1100) 4) + k) (nI (cN h)) (100 + cN h) (cN (iv M (X + 1000) 9)) 0 ∧ M' = M) (fun E M' => M' = M ∧ ((kc_win k h (iv M (X + 1000) 5) = 1 ∧ E = x_IA) ∨ (kc_win k h (iv M (X + 1000) 5) = 2 ∧ E = x_IS))) := by
  obtain ⟨okc, ok4, oko⟩ := id ok
  obtain ⟨o1, o2, o3, o4, o5, o6, o7⟩ := id okc
  obtain ⟨o1a, o1b⟩ := cB_le o1 (by decide)
  obtain ⟨o2a, o2b⟩ := cB_le o2 (by decide)
  obtain ⟨o3a, o3b⟩ := cB_le o3 (by decide)
  obtain ⟨o6a, o6b⟩ := cB_le o6 (by decide)
  obtain ⟨o4a, o4b⟩ := cB_le ok4 (by decide)
  refine u_bodyXi hst (by decide +kernel) rfl (Nat.le_of_ble_eq_true rfl) (by decide) rfl (fun p e s m args below meth c A H0 Q C ret thr => ?_)
  refine u_iload_n C dX10_window_0 rfl ?_
  refine u_iconst (v := 1) C dX10_window_1 (by decide) ?_
  refine u_sipush (v := 200) C dX10_window_2 (by decide) ?_
  refine u_calliS3 C es_X10_within dX10_window_5 ml_RX10_33 (c_X10_within l D G _ _ _ _  ) (by decide) (Nat.le_of_ble_eq_true rfl) (fun r_5 M_5 q_5 => ?_)
  obtain ⟨rfl, e_5⟩ := q_5
  subst M_5
  refine u_if_eq (tgt := 21) C dX10_window_8 (by decide) (fun c_8 => ?_) (fun c_8 => ?_)
  · exact thr _ _ _ _ tX10_window_21 (⟨rfl, by (try simp only [u_le, Decidable.not_not] at c_8); simp [kc_win, u_le, -Int32.not_lt, -Int32.not_le, c_8]⟩)
  · refine u_iload_n C dX10_window_11 rfl ?_
    refine u_iconst (v := 1) C dX10_window_12 (by decide) ?_
    refine u_bipush (v := 24) C dX10_window_13 (by decide) ?_
    refine u_calliS3 C es_X10_within dX10_window_15 ml_RX10_33 (c_X10_within l D G _ _ _ _  ) (by decide) (Nat.le_of_ble_eq_true rfl) (fun r_15 M_15 q_15 => ?_)
    obtain ⟨rfl, e_15⟩ := q_15
    subst M_15
    refine u_if_ne (tgt := 31) C dX10_window_18 (by decide) (fun c_18 => ?_) (fun c_18 => ?_)
    · obtain ⟨t, ht9, -, rfl⟩ := u_fW1n (n := 24) rfl c_18
      refine u_aload_n C dX10_window_31 rfl ?_
      refine u_getR (k2 := (X + 1000)) C gX10_window_32 rfl (sal_is hX) (sal_f0 hX) ?_
      refine u_getI C gX10_window_35 rfl (mou_is (sal_p0 hX)) ?_
      refine u_if_ne (tgt := 51) C dX10_window_38 (by decide) (fun c_38 => ?_) (fun c_38 => ?_)
      · have hpos : 0 < cN (iv M (X + 1000) 5) := by rcases Nat.eq_zero_or_pos (cN (iv M (X + 1000) 5)) with q | q; exact absurd (by rw [o1a, q]; rfl) c_38; exact q
        refine u_aload_n C dX10_window_51 rfl ?_
        refine u_getR (k2 := (X + 1000)) C gX10_window_52 rfl (sal_is hX) (sal_f0 hX) ?_
        refine u_aload_n C dX10_window_55 rfl ?_
        refine u_getR (k2 := (X + 1000)) C gX10_window_56 rfl (sal_is hX) (sal_f0 hX) ?_
        refine u_getR (k2 := (X + 1003)) C gX10_window_59 rfl (mou_is (sal_p0 hX)) (mou_f2 (sal_p0 hX)) ?_
        refine u_iconst (v := 0) C dX10_window_62 (by decide) ?_
        refine u_aaldN (k2 := (X + 1100)) (i := 0) C dX10_window_63 (aSec_is (mou_p2 (sal_p0 hX))) (by decide) (aSec_n (mou_p2 (sal_p0 hX))) (by decide) (by decide) (aSec_f (i := 0) (mou_p2 (sal_p0 hX)) (by decide)) ?_
        refine u_calliV0 C ev_X6_bed dX10_window_64 ml_RX10_226 (sec_is (aSec_p (i := 0) (mou_p2 (sal_p0 hX)) (by decide))) rfl (by decide) (c_X6_bed l D G _ _ (aSec_p (i := 0) (mou_p2 (sal_p0 hX)) (by decide)) ) (by decide) (Nat.le_of_ble_eq_true rfl) (fun r_64 M_64 q_64 => ?_)
        obtain ⟨rfl, e_64⟩ := q_64
        subst M_64
        refine u_iload_n C dX10_window_67 rfl ?_
        refine u_iadd C dX10_window_68 ?_
        refine u_iload_n C dX10_window_69 rfl ?_
        refine u_calliV2 C ev_X3_firstHourAt dX10_window_70 ml_RX10_229 (mou_is (sal_p0 hX)) rfl (by decide) (c_X3_firstHourAt l D G _ _ _ _ (sal_p0 hX) okc (by omega)) (by decide) (Nat.le_of_ble_eq_true rfl) (fun r_70 M_70 q_70 => ?_)
        obtain ⟨rfl, e_70⟩ := q_70
        subst M_70
        exact ret _ _ _ _ dX10_window_73  (⟨by (try simp only [u_le, Decidable.not_not] at c_8 c_18 c_38); simp [kc_win, u_le, -Int32.not_lt, -Int32.not_le, c_8, c_18, c_38], by rw [cN_nI (n := t) (by omega)], rfl⟩)
      · exact thr _ _ _ _ tX10_window_41 (⟨rfl, by (try simp only [u_le, Decidable.not_not] at c_8 c_18 c_38); simp [kc_win, u_le, -Int32.not_lt, -Int32.not_le, c_8, c_18, c_38]⟩)
    · exact thr _ _ _ _ tX10_window_21 (⟨rfl, by (try simp only [u_le, Decidable.not_not] at c_8 c_18); simp [kc_win, u_le, -Int32.not_lt, -Int32.not_le, c_8, c_18]⟩)
set_option maxHeartbeats 4000000 in
set_option maxRecDepth 100000 in
theorem c_X10_sum (l : Launch) (D : va_G) (G : w_G) (M : w_M) (X : Nat) (w : Int32) (hX : L_sal G (X)) (hst : l.stackTraces = false) (ok : okX M X) : u_XMl l D G yX10_sum cX10_sum 2 (some .long) 6 90 [.ref (gP G X), .int w] M (fun r M' => kc_sum w = 0 ∧ r = jv M (X + 1005) (cN w) ∧ M' = M) (fun E M' => M' = M ∧ ((kc_sum w = 1 ∧ E = x_IA))) := by
  obtain ⟨okc, ok4, oko⟩ := id ok
  obtain ⟨o1, o2, o3, o4, o5, o6, o7⟩ := id okc
  obtain ⟨o1a, o1b⟩ := cB_le o1 (by decide)
  obtain ⟨o2a, o2b⟩ := cB_le o2 (by decide)
  obtain ⟨o3a, o3b⟩ := cB_le o3 (by decide)
  obtain ⟨o6a, o6b⟩ := cB_le o6 (by decide)
  obtain ⟨o4a, o4b⟩ := cB_le ok4 (by decide)
  refine u_bodyXl hst (by decide +kernel) rfl (Nat.le_of_ble_eq_true rfl) (by decide) rfl (fun p e s m args below meth c A H0 Q C ret thr => ?_)
  refine u_iload_n C dX10_sum_0 rfl ?_
  refine u_iconst (v := 0) C dX10_sum_1 (by decide) ?_
  refine u_bipush (v := 9) C dX10_sum_2 (by decide) ?_
  refine u_calliS3 C es_X10_within dX10_sum_4 ml_RX10_33 (c_X10_within l D G _ _ _ _  ) (by decide) (Nat.le_of_ble_eq_true rfl) (fun r_4 M_4 q_4 => ?_)
  obtain ⟨rfl, e_4⟩ := q_4
  subst M_4
  refine u_if_ne (tgt := 20) C dX10_sum_7 (by decide) (fun c_7 => ?_) (fun c_7 => ?_)
  · obtain ⟨t, ht9, rfl⟩ := u_fWn (n := 9) rfl c_7
    refine u_aload_n C dX10_sum_20 rfl ?_
    refine u_getR (k2 := (X + 1000)) C gX10_sum_21 rfl (sal_is hX) (sal_f0 hX) ?_
    refine u_getR (k2 := (X + 1005)) C gX10_sum_24 rfl (mou_is (sal_p0 hX)) (mou_f4 (sal_p0 hX)) ?_
    refine u_iload_n C dX10_sum_27 rfl ?_
    refine u_laldN (i := t) C dX10_sum_28 (j10_is (mou_p4 (sal_p0 hX))) (j10_n (mou_p4 (sal_p0 hX))) (by omega) (by decide) ?_
    exact ret _ _ _ _ dX10_sum_29  (⟨by (try simp only [u_le, Decidable.not_not] at c_7); simp [kc_sum, u_le, -Int32.not_lt, -Int32.not_le, c_7], by rw [cN_nI (by omega)], rfl⟩)
  · exact thr _ _ _ _ tX10_sum_10 (⟨rfl, by (try simp only [u_le, Decidable.not_not] at c_7); simp [kc_sum, u_le, -Int32.not_lt, -Int32.not_le, c_7]⟩)
set_option maxHeartbeats 4000000 in
set_option maxRecDepth 100000 in
theorem c_X10_intrusion (l : Launch) (D : va_G) (G : w_G) (M : w_M) (X : Nat) (g : Int32) (hX : L_sal G (X)) (hst : l.stackTraces = false) (ok : okX M X) : u_XMi l D G yX10_intrusion cX10_intrusion 3 (some .int) 6 90 [.ref (gP G X), .int g] M (fun r M' => kc_itr g = 0 ∧ r = nI (s_itr M (X + 1000) g (cN (iv M (X + 1000) 5)) 0) ∧ M' = M) (fun E M' => M' = M ∧ ((kc_itr g = 1 ∧ E = x_IA))) := by
  obtain ⟨okc, ok4, oko⟩ := id ok
  obtain ⟨o1, o2, o3, o4, o5, o6, o7⟩ := id okc
  obtain ⟨o1a, o1b⟩ := cB_le o1 (by decide)
  obtain ⟨o2a, o2b⟩ := cB_le o2 (by decide)
  obtain ⟨o3a, o3b⟩ := cB_le o3 (by decide)
  obtain ⟨o6a, o6b⟩ := cB_le o6 (by decide)
  obtain ⟨o4a, o4b⟩ := cB_le ok4 (by decide)
  refine u_bodyXi hst (by decide +kernel) rfl (Nat.le_of_ble_eq_true rfl) (by decide) rfl (fun p e s m args below meth c A H0 Q C ret thr => ?_)
  have loop1 : ∀ (d j : Nat) (x2 : Int32), ¬ fW g 1 30 = 0 → j ≤ cN (iv M (X + 1000) 5) → cN (iv M (X + 1000) 5) - j < d → x2 = nI j → s_itr M (X + 1000) g (cN (iv M (X + 1000) 5)) 0 = s_itr M (X + 1000) g (cN (iv M (X + 1000) 5) - j) j → u_S p l e (u_rx 6 90) s m args below meth c 3 D A H0 0 0 Q 22 [(0, .ref (gP G X)), (1, .int g), (2, .int x2)] [] G M := by
    intro d
    induction d with
    | zero => intro j x2 hg hj hd; omega
    | succ d ih =>
      intro j x2 hg hj hd h2 hres
      subst h2
      refine u_iload_n C dX10_intrusion_22 rfl ?_
      refine u_aload_n C dX10_intrusion_23 rfl ?_
      refine u_getR (k2 := (X + 1000)) C gX10_intrusion_24 rfl (sal_is hX) (sal_f0 hX) ?_
      refine u_getI C gX10_intrusion_27 rfl (mou_is (sal_p0 hX)) ?_
      rw [o1a]
      refine u_icmp_ge (tgt := 58) C dX10_intrusion_30 (by decide) (fun c_30 => ?_) (fun c_30 => ?_)
      · refine u_iload_n C dX10_intrusion_58 rfl ?_
        exact ret _ _ _ _ dX10_intrusion_59  (⟨by simp [kc_itr, hg], by first | (rw [hres, hc]; simp [s_itr, c_49]; done) | (have hge := u_gei c_30 (by omega) (by omega); rw [hres, show cN (iv M (X + 1000) 5) - j = 0 by omega]; simp [s_itr]), rfl⟩)
      · have hlt : j < cN (iv M (X + 1000) 5) := u_lt c_30 (by omega)
        obtain ⟨c9, hc⟩ : ∃ c9, cN (iv M (X + 1000) 5) - j = c9 + 1 := ⟨cN (iv M (X + 1000) 5) - j - 1, by omega⟩
        refine u_aload_n C dX10_intrusion_33 rfl ?_
        refine u_getR (k2 := (X + 1000)) C gX10_intrusion_34 rfl (sal_is hX) (sal_f0 hX) ?_
        refine u_getR (k2 := (X + 1003)) C gX10_intrusion_37 rfl (mou_is (sal_p0 hX)) (mou_f2 (sal_p0 hX)) ?_
        refine u_iload_n C dX10_intrusion_40 rfl ?_
        refine u_aaldN (k2 := (X + 1100 + j)) (i := j) C dX10_intrusion_41 (aSec_is (mou_p2 (sal_p0 hX))) (by decide) (aSec_n (mou_p2 (sal_p0 hX))) (by omega) (by decide) (aSec_f (i := j) (mou_p2 (sal_p0 hX)) (by omega)) ?_
        refine u_getR (k2 := (X + 1100 + j + 30)) C gX10_intrusion_42 rfl (sec_is (aSec_p (i := j) (mou_p2 (sal_p0 hX)) (by omega))) (sec_f1 (aSec_p (i := j) (mou_p2 (sal_p0 hX)) (by omega))) ?_
        refine u_calliV0 C ev_X2_salinity dX10_intrusion_45 ml_RX10_216 (lay_is (sec_p1 (aSec_p (i := j) (mou_p2 (sal_p0 hX)) (by omega)))) rfl (by decide) (c_X2_salinity l D G _ _ (sec_p1 (aSec_p (i := j) (mou_p2 (sal_p0 hX)) (by omega))) ) (by decide) (Nat.le_of_ble_eq_true rfl) (fun r_45 M_45 q_45 => ?_)
        obtain ⟨rfl, e_45⟩ := q_45
        subst M_45
        refine u_iload_n C dX10_intrusion_48 rfl ?_
        refine u_icmp_lt (tgt := 58) C dX10_intrusion_49 (by decide) (fun c_49 => ?_) (fun c_49 => ?_)
        · refine u_iload_n C dX10_intrusion_58 rfl ?_
          exact ret _ _ _ _ dX10_intrusion_59  (⟨by simp [kc_itr, hg], by first | (rw [hres, hc]; simp [s_itr, c_49]; done) | (have hge := u_gei c_30 (by omega) (by omega); rw [hres, show cN (iv M (X + 1000) 5) - j = 0 by omega]; simp [s_itr]), rfl⟩)
        · refine u_iinc C dX10_intrusion_52 (by decide) rfl ?_
          refine u_goto (tgt := 22) C dX10_intrusion_55 (by decide) ?_
          exact u_loc [0, 1, 2] rfl (ih (j + 1) _ hg (by omega) (by omega) (nI_1 j) (by (try simp only [u_le, Decidable.not_not] at c_30 c_49); rw [hres, hc, show cN (iv M (X + 1000) 5) - (j + 1) = c9 by omega]; simp [s_itr, c_30, c_49]))
  refine u_iload_n C dX10_intrusion_0 rfl ?_
  refine u_iconst (v := 1) C dX10_intrusion_1 (by decide) ?_
  refine u_bipush (v := 30) C dX10_intrusion_2 (by decide) ?_
  refine u_calliS3 C es_X10_within dX10_intrusion_4 ml_RX10_33 (c_X10_within l D G _ _ _ _  ) (by decide) (Nat.le_of_ble_eq_true rfl) (fun r_4 M_4 q_4 => ?_)
  obtain ⟨rfl, e_4⟩ := q_4
  subst M_4
  refine u_if_ne (tgt := 20) C dX10_intrusion_7 (by decide) (fun c_7 => ?_) (fun c_7 => ?_)
  · refine u_iconst (v := 0) C dX10_intrusion_20 (by decide) ?_
    refine u_istore_n C dX10_intrusion_21 (by decide) ?_
    exact u_loc [0, 1, 2] rfl (loop1 (cN (iv M (X + 1000) 5) + 1) 0 _ c_7 (by omega) (by omega) nI_0.symm rfl)
  · exact thr _ _ _ _ tX10_intrusion_10 (⟨rfl, by (try simp only [u_le, Decidable.not_not] at c_7); simp [kc_itr, u_le, -Int32.not_lt, -Int32.not_le, c_7]⟩)
set_option maxHeartbeats 4000000 in
set_option maxRecDepth 100000 in
theorem c_X10_dredge (l : Launch) (D : va_G) (G : w_G) (M : w_M) (X : Nat) (v : Int32) (a : Int32) (to : Int32) (hX : L_sal G (X)) (hst : l.stackTraces = false) (ok : okX M X) (hk : ∃ n9 : Nat, n9 < 512 ∧ iv M (X + 1) 1 = nI n9) : u_XMi l D G yX10_dredge cX10_dredge 4 (some .int) 6 121 [.ref (gP G X), .int v, .int a, .int to] M (fun r M' => kc_dre (s_has M (X + 1000) v) (s_has M (X + 1000) to) v a to (f_ref a (iv M (X + 1000 + 100 + cN v) 7) (iv M (X + 1000 + 100 + cN v) 4)) = 0 ∧ r = iv (if to = -1 then m_mudS (m_keep M (X + 1) (iv M (X + 1000) 9) 8 v a to 0 0) (X + 1000) (cN v) a else m_mudC (m_keep M (X + 1) (iv M (X + 1000) 9) 8 v a to 0 0) (X + 1000) (cN v) (cN to) a) (X + 1000 + 100 + cN v) 7 ∧ M' = (if to = -1 then m_mudS (m_keep M (X + 1) (iv M (X + 1000) 9) 8 v a to 0 0) (X + 1000) (cN v) a else m_mudC (m_keep M (X + 1) (iv M (X + 1000) 9) 8 v a to 0 0) (X + 1000) (cN v) (cN to) a)) (fun E M' => M' = M ∧ ((kc_dre (s_has M (X + 1000) v) (s_has M (X + 1000) to) v a to (f_ref a (iv M (X + 1000 + 100 + cN v) 7) (iv M (X + 1000 + 100 + cN v) 4)) = 1 ∧ E = x_IX) ∨ (kc_dre (s_has M (X + 1000) v) (s_has M (X + 1000) to) v a to (f_ref a (iv M (X + 1000 + 100 + cN v) 7) (iv M (X + 1000 + 100 + cN v) 4)) = 2 ∧ E = x_IA) ∨ (kc_dre (s_has M (X + 1000) v) (s_has M (X + 1000) to) v a to (f_ref a (iv M (X + 1000 + 100 + cN v) 7) (iv M (X + 1000 + 100 + cN v) 4)) = 3 ∧ E = x_IS))) := by
  obtain ⟨okc, ok4, oko⟩ := id ok
  obtain ⟨o1, o2, o3, o4, o5, o6, o7⟩ := id okc
  obtain ⟨o1a, o1b⟩ := cB_le o1 (by decide)
  obtain ⟨o2a, o2b⟩ := cB_le o2 (by decide)
  obtain ⟨o3a, o3b⟩ := cB_le o3 (by decide)
  obtain ⟨o6a, o6b⟩ := cB_le o6 (by decide)
  obtain ⟨o4a, o4b⟩ := cB_le ok4 (by decide)
  refine u_bodyXi hst (by decide +kernel) rfl (Nat.le_of_ble_eq_true rfl) (by decide) rfl (fun p e s m args below meth c A H0 Q C ret thr => ?_)
  refine u_aload_n C dX10_dredge_0 rfl ?_
  refine u_getR (k2 := (X + 1000)) C gX10_dredge_1 rfl (sal_is hX) (sal_f0 hX) ?_
  refine u_iload_n C dX10_dredge_4 rfl ?_
  refine u_calliV1 C ev_X3_hasSection dX10_dredge_5 ml_RX10_105 (mou_is (sal_p0 hX)) rfl (by decide) (c_X3_hasSection l D G _ _ _ (sal_p0 hX) ) (by decide) (Nat.le_of_ble_eq_true rfl) (fun r_5 M_5 q_5 => ?_)
  obtain ⟨rfl, e_5⟩ := q_5
  subst M_5
  refine u_if_eq (tgt := 27) C dX10_dredge_8 (by decide) (fun c_8 => ?_) (fun c_8 => ?_)
  · exact thr _ _ _ _ tX10_dredge_27 (⟨rfl, by (try simp only [u_le, Decidable.not_not] at c_8); simp [kc_dre, u_le, -Int32.not_lt, -Int32.not_le, c_8]⟩)
  · refine u_iload_n C dX10_dredge_11 rfl ?_
    refine u_iconst (v := (-1)) C dX10_dredge_12 (by decide) ?_
    refine u_icmp_eq (tgt := 37) C dX10_dredge_13 (by decide) (fun c_13 => ?_) (fun c_13 => ?_)
    · refine u_iload_n C dX10_dredge_37 rfl ?_
      refine u_iconst (v := 1) C dX10_dredge_38 (by decide) ?_
      refine u_sipush (v := 10000) C dX10_dredge_39 (by decide) ?_
      refine u_calliS3 C es_X10_within dX10_dredge_42 ml_RX10_33 (c_X10_within l D G _ _ _ _  ) (by decide) (Nat.le_of_ble_eq_true rfl) (fun r_42 M_42 q_42 => ?_)
      obtain ⟨rfl, e_42⟩ := q_42
      subst M_42
      refine u_if_eq (tgt := 53) C dX10_dredge_45 (by decide) (fun c_45 => ?_) (fun c_45 => ?_)
      · exact thr _ _ _ _ tX10_dredge_53 (⟨rfl, Or.inr (Or.inl ⟨by rw [kc_dre]; exact (if_neg (by rintro (z | z); exact c_8 z; first | exact z.1 c_13 | exact c_24 z.2)).trans (if_pos (by first | exact Or.inr c_50 | exact Or.inl c_45)), rfl⟩)⟩)
      · refine u_iload_n C dX10_dredge_48 rfl ?_
        refine u_iload_n C dX10_dredge_49 rfl ?_
        refine u_icmp_ne (tgt := 63) C dX10_dredge_50 (by decide) (fun c_50 => ?_) (fun c_50 => ?_)
        · obtain ⟨i, hin, rfl⟩ := u_hasN o1b o1a c_8
          have ei : cN (nI i) = i := cN_nI (by omega)
          refine u_aload_n C dX10_dredge_63 rfl ?_
          refine u_getR (k2 := (X + 1000)) C gX10_dredge_64 rfl (sal_is hX) (sal_f0 hX) ?_
          refine u_getR (k2 := (X + 1003)) C gX10_dredge_67 rfl (mou_is (sal_p0 hX)) (mou_f2 (sal_p0 hX)) ?_
          refine u_iload_n C dX10_dredge_70 rfl ?_
          refine u_aaldN (k2 := (X + 1100 + i)) (i := i) C dX10_dredge_71 (aSec_is (mou_p2 (sal_p0 hX))) (by decide) (aSec_n (mou_p2 (sal_p0 hX))) (by omega) (by decide) (aSec_f (i := i) (mou_p2 (sal_p0 hX)) (by omega)) ?_
          refine u_iload_n C dX10_dredge_72 rfl ?_
          refine u_calliV1 C ev_X6_refusal dX10_dredge_73 ml_RX10_150 (sec_is (aSec_p (i := i) (mou_p2 (sal_p0 hX)) (by omega))) rfl (by decide) (c_X6_refusal l D G _ _ _ (aSec_p (i := i) (mou_p2 (sal_p0 hX)) (by omega)) ) (by decide) (Nat.le_of_ble_eq_true rfl) (fun r_73 M_73 q_73 => ?_)
          obtain ⟨rfl, e_73⟩ := q_73
          subst M_73
          refine u_if_eq (tgt := 89) C dX10_dredge_76 (by decide) (fun c_76 => ?_) (fun c_76 => ?_)
          · rw [c_13]
            refine u_aload_n C dX10_dredge_89 rfl ?_
            refine u_bipush (v := 8) C dX10_dredge_90 (by decide) ?_
            refine u_iload_n C dX10_dredge_92 rfl ?_
            refine u_iload_n C dX10_dredge_93 rfl ?_
            refine u_iload_n C dX10_dredge_94 rfl ?_
            refine u_iconst (v := 0) C dX10_dredge_95 (by decide) ?_
            refine u_iconst (v := 0) C dX10_dredge_96 (by decide) ?_
            refine u_callvV6 C ev_X10_tell dX10_dredge_97 ml_RX10_61 (sal_is hX) rfl (by decide) (c_X10_tell_8S l D G _ _ _ _ _ _ hX hk _ o1b o1a hin) (by decide) (Nat.le_of_ble_eq_true rfl) (fun M_97 q_97 => ?_)
            obtain rfl := q_97
            refine u_aload_n C dX10_dredge_100 rfl ?_
            refine u_getR (k2 := (X + 1000)) C gX10_dredge_101 rfl (sal_is hX) (sal_f0 hX) ?_
            refine u_getR (k2 := (X + 1003)) C gX10_dredge_104 rfl (mou_is (sal_p0 hX)) (mou_f2 (sal_p0 hX)) ?_
            refine u_iload_n C dX10_dredge_107 rfl ?_
            refine u_aaldN (k2 := (X + 1100 + i)) (i := i) C dX10_dredge_108 (aSec_is (mou_p2 (sal_p0 hX))) (by decide) (aSec_n (mou_p2 (sal_p0 hX))) (by omega) (by decide) (aSec_f (i := i) (mou_p2 (sal_p0 hX)) (by omega)) ?_
            refine u_getI C gX10_dredge_109 rfl (sec_is (aSec_p (i := i) (mou_p2 (sal_p0 hX)) (by omega))) ?_
            exact ret _ _ _ _ dX10_dredge_112  (by refine ⟨by rw [ei, kc_dre]; exact (if_neg (by rintro (z | z); exact c_8 z; first | exact z.1 c_13 | exact c_24 z.2)).trans ((if_neg (by rintro (z | z); exact c_45 z; exact c_50 z)).trans (if_pos c_76)), ?_, ?_⟩ <;> first | (rw [if_pos c_13, ei, c_13]; done) | (rw [if_pos c_13, ei, c_13]; rfl) | (rw [if_neg c_13, ei, ej]; done) | (rw [if_neg c_13, ei, ej]; rfl))
          · exact thr _ _ _ _ tX10_dredge_79 (⟨rfl, Or.inr (Or.inr ⟨by rw [kc_dre, ei]; exact (if_neg (by rintro (z | z); exact c_8 z; first | exact z.1 c_13 | exact c_24 z.2)).trans ((if_neg (by rintro (z | z); exact c_45 z; exact c_50 z)).trans (if_neg c_76)), rfl⟩)⟩)
        · exact thr _ _ _ _ tX10_dredge_53 (⟨rfl, Or.inr (Or.inl ⟨by rw [kc_dre]; exact (if_neg (by rintro (z | z); exact c_8 z; first | exact z.1 c_13 | exact c_24 z.2)).trans (if_pos (by first | exact Or.inr c_50 | exact Or.inl c_45)), rfl⟩)⟩)
    · refine u_aload_n C dX10_dredge_16 rfl ?_
      refine u_getR (k2 := (X + 1000)) C gX10_dredge_17 rfl (sal_is hX) (sal_f0 hX) ?_
      refine u_iload_n C dX10_dredge_20 rfl ?_
      refine u_calliV1 C ev_X3_hasSection dX10_dredge_21 ml_RX10_105 (mou_is (sal_p0 hX)) rfl (by decide) (c_X3_hasSection l D G _ _ _ (sal_p0 hX) ) (by decide) (Nat.le_of_ble_eq_true rfl) (fun r_21 M_21 q_21 => ?_)
      obtain ⟨rfl, e_21⟩ := q_21
      subst M_21
      refine u_if_ne (tgt := 37) C dX10_dredge_24 (by decide) (fun c_24 => ?_) (fun c_24 => ?_)
      · refine u_iload_n C dX10_dredge_37 rfl ?_
        refine u_iconst (v := 1) C dX10_dredge_38 (by decide) ?_
        refine u_sipush (v := 10000) C dX10_dredge_39 (by decide) ?_
        refine u_calliS3 C es_X10_within dX10_dredge_42 ml_RX10_33 (c_X10_within l D G _ _ _ _  ) (by decide) (Nat.le_of_ble_eq_true rfl) (fun r_42 M_42 q_42 => ?_)
        obtain ⟨rfl, e_42⟩ := q_42
        subst M_42
        refine u_if_eq (tgt := 53) C dX10_dredge_45 (by decide) (fun c_45 => ?_) (fun c_45 => ?_)
        · exact thr _ _ _ _ tX10_dredge_53 (⟨rfl, Or.inr (Or.inl ⟨by rw [kc_dre]; exact (if_neg (by rintro (z | z); exact c_8 z; first | exact z.1 c_13 | exact c_24 z.2)).trans (if_pos (by first | exact Or.inr c_50 | exact Or.inl c_45)), rfl⟩)⟩)
        · refine u_iload_n C dX10_dredge_48 rfl ?_
          refine u_iload_n C dX10_dredge_49 rfl ?_
          refine u_icmp_ne (tgt := 63) C dX10_dredge_50 (by decide) (fun c_50 => ?_) (fun c_50 => ?_)
          · obtain ⟨i, hin, rfl⟩ := u_hasN o1b o1a c_8
            have ei : cN (nI i) = i := cN_nI (by omega)
            refine u_aload_n C dX10_dredge_63 rfl ?_
            refine u_getR (k2 := (X + 1000)) C gX10_dredge_64 rfl (sal_is hX) (sal_f0 hX) ?_
            refine u_getR (k2 := (X + 1003)) C gX10_dredge_67 rfl (mou_is (sal_p0 hX)) (mou_f2 (sal_p0 hX)) ?_
            refine u_iload_n C dX10_dredge_70 rfl ?_
            refine u_aaldN (k2 := (X + 1100 + i)) (i := i) C dX10_dredge_71 (aSec_is (mou_p2 (sal_p0 hX))) (by decide) (aSec_n (mou_p2 (sal_p0 hX))) (by omega) (by decide) (aSec_f (i := i) (mou_p2 (sal_p0 hX)) (by omega)) ?_
            refine u_iload_n C dX10_dredge_72 rfl ?_
            refine u_calliV1 C ev_X6_refusal dX10_dredge_73 ml_RX10_150 (sec_is (aSec_p (i := i) (mou_p2 (sal_p0 hX)) (by omega))) rfl (by decide) (c_X6_refusal l D G _ _ _ (aSec_p (i := i) (mou_p2 (sal_p0 hX)) (by omega)) ) (by decide) (Nat.le_of_ble_eq_true rfl) (fun r_73 M_73 q_73 => ?_)
            obtain ⟨rfl, e_73⟩ := q_73
            subst M_73
            refine u_if_eq (tgt := 89) C dX10_dredge_76 (by decide) (fun c_76 => ?_) (fun c_76 => ?_)
            · obtain ⟨j, hjn, rfl⟩ := u_hasN o1b o1a c_24
              have ej : cN (nI j) = j := cN_nI (by omega)
              refine u_aload_n C dX10_dredge_89 rfl ?_
              refine u_bipush (v := 8) C dX10_dredge_90 (by decide) ?_
              refine u_iload_n C dX10_dredge_92 rfl ?_
              refine u_iload_n C dX10_dredge_93 rfl ?_
              refine u_iload_n C dX10_dredge_94 rfl ?_
              refine u_iconst (v := 0) C dX10_dredge_95 (by decide) ?_
              refine u_iconst (v := 0) C dX10_dredge_96 (by decide) ?_
              refine u_callvV6 C ev_X10_tell dX10_dredge_97 ml_RX10_61 (sal_is hX) rfl (by decide) (c_X10_tell_8C l D G _ _ _ _ _ _ _ hX hk _ o1b o1a hin hjn) (by decide) (Nat.le_of_ble_eq_true rfl) (fun M_97 q_97 => ?_)
              obtain rfl := q_97
              refine u_aload_n C dX10_dredge_100 rfl ?_
              refine u_getR (k2 := (X + 1000)) C gX10_dredge_101 rfl (sal_is hX) (sal_f0 hX) ?_
              refine u_getR (k2 := (X + 1003)) C gX10_dredge_104 rfl (mou_is (sal_p0 hX)) (mou_f2 (sal_p0 hX)) ?_
              refine u_iload_n C dX10_dredge_107 rfl ?_
              refine u_aaldN (k2 := (X + 1100 + i)) (i := i) C dX10_dredge_108 (aSec_is (mou_p2 (sal_p0 hX))) (by decide) (aSec_n (mou_p2 (sal_p0 hX))) (by omega) (by decide) (aSec_f (i := i) (mou_p2 (sal_p0 hX)) (by omega)) ?_
              refine u_getI C gX10_dredge_109 rfl (sec_is (aSec_p (i := i) (mou_p2 (sal_p0 hX)) (by omega))) ?_
              exact ret _ _ _ _ dX10_dredge_112  (by refine ⟨by rw [ei, kc_dre]; exact (if_neg (by rintro (z | z); exact c_8 z; first | exact z.1 c_13 | exact c_24 z.2)).trans ((if_neg (by rintro (z | z); exact c_45 z; exact c_50 z)).trans (if_pos c_76)), ?_, ?_⟩ <;> first | (rw [if_pos c_13, ei, c_13]; done) | (rw [if_pos c_13, ei, c_13]; rfl) | (rw [if_neg c_13, ei, ej]; done) | (rw [if_neg c_13, ei, ej]; rfl))
            · exact thr _ _ _ _ tX10_dredge_79 (⟨rfl, Or.inr (Or.inr ⟨by rw [kc_dre, ei]; exact (if_neg (by rintro (z | z); exact c_8 z; first | exact z.1 c_13 | exact c_24 z.2)).trans ((if_neg (by rintro (z | z); exact c_45 z; exact c_50 z)).trans (if_neg c_76)), rfl⟩)⟩)
          · exact thr _ _ _ _ tX10_dredge_53 (⟨rfl, Or.inr (Or.inl ⟨by rw [kc_dre]; exact (if_neg (by rintro (z | z); exact c_8 z; first | exact z.1 c_13 | exact c_24 z.2)).trans (if_pos (by first | exact Or.inr c_50 | exact Or.inl c_45)), rfl⟩)⟩)
      · exact thr _ _ _ _ tX10_dredge_27 (⟨rfl, by (try simp only [u_le, Decidable.not_not] at c_8 c_13 c_24); simp [kc_dre, u_le, -Int32.not_lt, -Int32.not_le, c_8, c_13, c_24]⟩)
set_option maxHeartbeats 4000000 in
set_option maxRecDepth 100000 in
theorem c_X10_now (l : Launch) (D : va_G) (G : w_G) (M : w_M) (X : Nat) (hX : L_sal G (X))  : u_Mi l D G yX10_now cX10_now 1 (some .int) 0 0 [.ref (gP G X)] M (fun r M' => r = iv M (X + 1000) 9 ∧ M' = M) := by
  refine u_bodyi (by decide +kernel) (Nat.le_of_ble_eq_true rfl) rfl (fun p e s m args below meth c A H0 Q C ret => ?_)
  refine u_aload_n C dX10_now_0 rfl ?_
  refine u_getR (k2 := (X + 1000)) C gX10_now_1 rfl (sal_is hX) (sal_f0 hX) ?_
  refine u_getI C gX10_now_4 rfl (mou_is (sal_p0 hX)) ?_
  exact ret _ _ _ _ dX10_now_7  (⟨rfl, rfl⟩)
set_option maxHeartbeats 4000000 in
set_option maxRecDepth 100000 in
theorem c_X10_closures (l : Launch) (D : va_G) (G : w_G) (M : w_M) (X : Nat) (hX : L_sal G (X))  : u_Mi l D G yX10_closures cX10_closures 1 (some .int) 0 0 [.ref (gP G X)] M (fun r M' => r = iv M (X + 1002) 3 ∧ M' = M) := by
  refine u_bodyi (by decide +kernel) (Nat.le_of_ble_eq_true rfl) rfl (fun p e s m args below meth c A H0 Q C ret => ?_)
  refine u_aload_n C dX10_closures_0 rfl ?_
  refine u_getR (k2 := (X + 1000)) C gX10_closures_1 rfl (sal_is hX) (sal_f0 hX) ?_
  refine u_getR (k2 := (X + 1002)) C gX10_closures_4 rfl (mou_is (sal_p0 hX)) (mou_f1 (sal_p0 hX)) ?_
  refine u_getI C gX10_closures_7 rfl (bar_is (mou_p1 (sal_p0 hX))) ?_
  exact ret _ _ _ _ dX10_closures_10  (⟨rfl, rfl⟩)
def m_hk (M : w_M) (B : Nat) (kd a b c d e : Int32) : w_M := match cN kd with
  | 0 => m_addT M (B + 1) a b c d
  | 1 => wi M (B + 1) 5 a
  | 2 => m_addS M (B + 1) a b c
  | 3 => wi (wi M B 7 a) B 8 b
  | 4 => wi (wi M (B + 2) 4 a) (B + 2) 5 b
  | 5 => m_asec M B a b c d
  | 6 => m_aint M B a b c d e
  | 7 => wi M (B + 100 + cN a) 7 b
  | _ => if c = -1 then m_mudS M B (cN a) b else m_mudC M B (cN a) (cN c) b
/-- what a telling of that kind needs -/
def p_hk (M : w_M) (B : Nat) (kd a c : Int32) : Prop := ∃ k, k < 9 ∧ kd = nI k ∧ (k = 5 → cN (iv M B 5) < 8) ∧ (k = 6 → cN (iv M B 6) < 6) ∧ (k = 7 ∨ k = 8 → ∃ i, i < cN (iv M B 5) ∧ a = nI i) ∧ (k = 8 → c = -1 ∨ ∃ j, j < cN (iv M B 5) ∧ c = nI j)
theorem c_X3_hear (l : Launch) (D : va_G) (G : w_G) (M : w_M) (B : Nat) (kd a b c d e : Int32) (hB : L_mou G B) (ok : okC M B) (hp : p_hk M B kd a c) : u_Mv l D G yX3_hear cX3_hear 7 none 3 69 [.ref (gP G B), .int kd, .int a, .int b, .int c, .int d, .int e] M (fun M' => M' = m_hk M B kd a b c d e) := by
  obtain ⟨o1, o2, o3, o4, o5, o6, o7⟩ := id ok
  obtain ⟨o1a, o1b⟩ := cB_le o1 (by decide)
  obtain ⟨o2a, o2b⟩ := cB_le o2 (by decide)
  obtain ⟨k, hk, rfl, h5, h6, h7, h8⟩ := hp
  rcases (show k = 0 ∨ k = 1 ∨ k = 2 ∨ k = 3 ∨ k = 4 ∨ k = 5 ∨ k = 6 ∨ k = 7 ∨ k = 8 by omega) with rfl | rfl | rfl | rfl | rfl | rfl | rfl | rfl | rfl
  · exact c_X3_hear_0 l D G M B a b c d e hB o4
  · exact c_X3_hear_1 l D G M B a b c d e hB
  · exact c_X3_hear_2 l D G M B a b c d e hB o5
  · exact c_X3_hear_3 l D G M B a b c d e hB
  · exact c_X3_hear_4 l D G M B a b c d e hB
  · exact c_X3_hear_5 l D G M B a b c d e hB _ (h5 rfl) o1a
  · exact c_X3_hear_6 l D G M B a b c d e hB _ (h6 rfl) o2a
  · obtain ⟨i, hi, rfl⟩ := h7 (Or.inl rfl)
    have h := c_X3_hear_7 l D G M B i b c d e hB _ o1b o1a hi
    rw [← cN_nI (n := i) (by omega)] at h
    rw [cN_nI (n := i) (by omega)] at h
    have e : m_hk M B (nI 7) (nI i) b c d e = wi M (B + 100 + i) 7 b := by
      show wi M (B + 100 + cN (nI i)) 7 b = _
      rw [cN_nI (by omega)]
    rw [e]
    exact h
  · obtain ⟨i, hi, rfl⟩ := h7 (Or.inr rfl)
    rcases h8 rfl with rfl | ⟨j, hj, rfl⟩
    · have h := c_X3_hear_8S l D G M B i b d e hB _ o1b o1a hi
      have e : m_hk M B (nI 8) (nI i) b (-1) d e = m_mudS M B i b := by
        show (if (-1 : Int32) = -1 then m_mudS M B (cN (nI i)) b else m_mudC M B (cN (nI i)) (cN (-1)) b) = _
        rw [if_pos rfl, cN_nI (by omega)]
      rw [e]
      exact h
    · have h := c_X3_hear_8C l D G M B i b j d e hB _ o1b o1a hi hj
      have e : m_hk M B (nI 8) (nI i) b (nI j) d e = m_mudC M B i j b := by
        show (if nI j = -1 then m_mudS M B (cN (nI i)) b else m_mudC M B (cN (nI i)) (cN (nI j)) b) = _
        rw [if_neg (fun z => absurd (by rw [z]; decide : nI j < 0) (nI_pos (by omega))), cN_nI (by omega), cN_nI (by omega)]
      rw [e]
      exact h
def m_st0 (M : w_M) (X i : Nat) : w_M := m_go M (X + 2000) (cN (iv M (X + 2) (7 * i)) - cN (iv M (X + 2000) 9))
def m_st1 (M : w_M) (X i : Nat) : w_M := m_hk M (X + 2000) (iv M (X + 2) (7 * i + 1)) (iv M (X + 2) (7 * i + 2)) (iv M (X + 2) (7 * i + 3)) (iv M (X + 2) (7 * i + 4)) (iv M (X + 2) (7 * i + 5)) (iv M (X + 2) (7 * i + 6))
def m_rep (M : w_M) (X : Nat) : Nat → w_M
  | 0 => m_mbeg M (X + 2000)
  | i + 1 => m_st1 (m_st0 (m_rep M X i) X i) X i
def m_anew (M : w_M) (X n : Nat) : w_M := m_go (m_rep M X n) (X + 2000) (cN (iv (m_rep M X n) (X + 1000) 9) - cN (iv (m_rep M X n) (X + 2000) 9))
/-- the replay goes through -/
def vA (M : w_M) (X n : Nat) : Prop := (∀ i, i ≤ n → iv (m_rep M X i) (X + 1) 1 = nI n ∧ okC (m_rep M X i) (X + 2000)) ∧ ∀ i, i < n → (∃ t, t ≤ 1000 ∧ iv (m_rep M X i) (X + 2) (7 * i) = nI t) ∧ okC (m_st0 (m_rep M X i) X i) (X + 2000) ∧ p_hk (m_st0 (m_rep M X i) X i) (X + 2000) (iv (m_st0 (m_rep M X i) X i) (X + 2) (7 * i + 1)) (iv (m_st0 (m_rep M X i) X i) (X + 2) (7 * i + 2)) (iv (m_st0 (m_rep M X i) X i) (X + 2) (7 * i + 4))
set_option maxHeartbeats 4000000 in
set_option maxRecDepth 100000 in
theorem c_X10_ofSectionAnew (l : Launch) (D : va_G) (G : w_G) (M : w_M) (X : Nat) (v : Int32) (w : Int32) (hX : L_sal G (X)) (hst : l.stackTraces = false) (ok : okX M X) (n9 : Nat) (hn9 : n9 < 513) (hv : vA M X n9) (hnow : iv (m_rep M X n9) (X + 1000) 9 = iv M (X + 1000) 9) : u_XMi l D G yX10_ofSectionAnew cX10_ofSectionAnew 4 (some .int) 6 139 [.ref (gP G X), .int v, .int w] M (fun r M' => kc_of (s_has M (X + 1000) v) w = 0 ∧ r = s_ans (m_anew M X n9) (X + 2000 + 100 + cN v) (cN w) ∧ M' = m_anew M X n9) (fun E M' => M' = M ∧ ((kc_of (s_has M (X + 1000) v) w = 1 ∧ E = x_IX) ∨ (kc_of (s_has M (X + 1000) v) w = 2 ∧ E = x_IA))) := by
  obtain ⟨okc, ok4, oko⟩ := id ok
  obtain ⟨o1, o2, o3, o4, o5, o6, o7⟩ := id okc
  obtain ⟨o1a, o1b⟩ := cB_le o1 (by decide)
  obtain ⟨o2a, o2b⟩ := cB_le o2 (by decide)
  obtain ⟨o3a, o3b⟩ := cB_le o3 (by decide)
  obtain ⟨o6a, o6b⟩ := cB_le o6 (by decide)
  obtain ⟨o4a, o4b⟩ := cB_le ok4 (by decide)
  refine u_bodyXi hst (by decide +kernel) rfl (Nat.le_of_ble_eq_true rfl) (by decide) rfl (fun p e s m args below meth c A H0 Q C ret thr => ?_)
  have loop1 : ∀ (d i : Nat) (x3 : Int32), ¬ s_has M (X + 1000) v = 0 → ¬ fW w 0 9 = 0 → i ≤ n9 → n9 - i < d → x3 = nI i → u_S p l e (u_rx 6 139) s m args below meth c 4 D A H0 0 0 Q 50 [(0, .ref (gP G X)), (1, .int v), (2, .int w), (3, .int x3)] [] G (m_rep M X i) := by
    intro d
    induction d with
    | zero => intro i x3 hh hw hj hd; omega
    | succ d ih =>
      intro i x3 hh hw hj hd h3
      subst h3
      refine u_iload_n C dX10_ofSectionAnew_50 rfl ?_
      refine u_aload_n C dX10_ofSectionAnew_51 rfl ?_
      refine u_getR (k2 := (X + 1)) C gX10_ofSectionAnew_52 rfl (sal_is hX) (sal_f2 hX) ?_
      refine u_getI C gX10_ofSectionAnew_55 rfl (tld_is (sal_p2 hX)) ?_
      rw [(hv.1 i (by omega)).1]
      refine u_icmp_ge (tgt := 145) C dX10_ofSectionAnew_58 (by decide) (fun c_58 => ?_) (fun c_58 => ?_)
      · obtain rfl : n9 = i := by have := u_gei c_58 (by omega) (by omega); omega
        obtain ⟨i9, hin9, rfl⟩ := u_hasN o1b o1a hh
        obtain ⟨t9, ht9, rfl⟩ := u_fWn (n := 9) rfl hw
        refine u_aload_n C dX10_ofSectionAnew_145 rfl ?_
        refine u_getR (k2 := (X + 2000)) C gX10_ofSectionAnew_146 rfl (sal_is hX) (sal_f1 hX) ?_
        refine u_aload_n C dX10_ofSectionAnew_149 rfl ?_
        refine u_getR (k2 := (X + 1000)) C gX10_ofSectionAnew_150 rfl (sal_is hX) (sal_f0 hX) ?_
        refine u_getI C gX10_ofSectionAnew_153 rfl (mou_is (sal_p0 hX)) ?_
        rw [show iv (m_rep M X n9) (X + 1000) 9 = nI (cN (iv (m_rep M X n9) (X + 1000) 9)) from by rw [hnow]; exact o3a]
        have hn1 : cN (iv (m_rep M X n9) (X + 1000) 9) ≤ 1000 := by rw [hnow]; exact o3b
        refine u_callvV1 C ev_X3_goOnTo dX10_ofSectionAnew_156 ml_RX10_162 (mou_is (sal_p1 hX)) rfl (by decide) (c_X3_goOnTo l D G _ _ _ (sal_p1 hX) (hv.1 n9 (by omega)).2 (by omega)) (by decide) (Nat.le_of_ble_eq_true rfl) (fun M_156 q_156 => ?_)
        obtain rfl := q_156
        refine u_aload_n C dX10_ofSectionAnew_159 rfl ?_
        refine u_getR (k2 := (X + 2000)) C gX10_ofSectionAnew_160 rfl (sal_is hX) (sal_f1 hX) ?_
        refine u_getR (k2 := (X + 2003)) C gX10_ofSectionAnew_163 rfl (mou_is (sal_p1 hX)) (mou_f2 (sal_p1 hX)) ?_
        refine u_iload_n C dX10_ofSectionAnew_166 rfl ?_
        refine u_aaldN (k2 := (X + 2100 + i9)) (i := i9) C dX10_ofSectionAnew_167 (aSec_is (mou_p2 (sal_p1 hX))) (by decide) (aSec_n (mou_p2 (sal_p1 hX))) (by omega) (by decide) (aSec_f (i := i9) (mou_p2 (sal_p1 hX)) (by omega)) ?_
        refine u_iload_n C dX10_ofSectionAnew_168 rfl ?_
        refine u_calliV1 C ev_X6_answer dX10_ofSectionAnew_169 ml_RX10_173 (sec_is (aSec_p (i := i9) (mou_p2 (sal_p1 hX)) (by omega))) rfl (by decide) (c_X6_answer l D G _ _ _ (aSec_p (i := i9) (mou_p2 (sal_p1 hX)) (by omega)) (by omega)) (by decide) (Nat.le_of_ble_eq_true rfl) (fun r_169 M_169 q_169 => ?_)
        obtain ⟨rfl, e_169⟩ := q_169
        subst M_169
        exact ret _ _ _ _ dX10_ofSectionAnew_172  (⟨by simp [kc_of, hh, hw], by rw [cN_nI (n := i9) (by omega), cN_nI (n := t9) (by omega)]; rfl, rfl⟩)
      · have hi : i < n9 := u_lt c_58 (by omega)
        obtain ⟨⟨t, ht, hte⟩, hok3, hp3⟩ := hv.2 i hi
        refine u_aload_n C dX10_ofSectionAnew_61 rfl ?_
        refine u_getR (k2 := (X + 2000)) C gX10_ofSectionAnew_62 rfl (sal_is hX) (sal_f1 hX) ?_
        refine u_aload_n C dX10_ofSectionAnew_65 rfl ?_
        refine u_getR (k2 := (X + 1)) C gX10_ofSectionAnew_66 rfl (sal_is hX) (sal_f2 hX) ?_
        refine u_iload_n C dX10_ofSectionAnew_69 rfl ?_
        refine u_iconst (v := nI 0) C dX10_ofSectionAnew_70 (by decide) ?_
        refine u_calliV2 C ev_X8_part dX10_ofSectionAnew_71 ml_RX10_182 (tld_is (sal_p2 hX)) rfl (by decide) (c_X8_part l D G _ _ _ _ (sal_p2 hX) (by omega) (by decide)) (by decide) (Nat.le_of_ble_eq_true rfl) (fun r_71 M_71 q_71 => ?_)
        obtain ⟨rfl, e_71⟩ := q_71
        subst M_71
        rw [show iv (m_rep M X i) (X + 1 + 1) (7 * i + 0) = nI (cN (iv (m_rep M X i) (X + 2) (7 * i))) from by show iv (m_rep M X i) (X + 2) (7 * i) = _; rw [hte, cN_nI (by omega)]]
        have ht : cN (iv (m_rep M X i) (X + 2) (7 * i)) ≤ 1000 := by rw [hte, cN_nI (by omega)]; exact ht
        refine u_callvV1 C ev_X3_goOnTo dX10_ofSectionAnew_74 ml_RX10_162 (mou_is (sal_p1 hX)) rfl (by decide) (c_X3_goOnTo l D G _ _ _ (sal_p1 hX) (hv.1 i (by omega)).2 ht) (by decide) (Nat.le_of_ble_eq_true rfl) (fun M_74 q_74 => ?_)
        obtain rfl := q_74
        refine u_aload_n C dX10_ofSectionAnew_77 rfl ?_
        refine u_getR (k2 := (X + 2000)) C gX10_ofSectionAnew_78 rfl (sal_is hX) (sal_f1 hX) ?_
        refine u_aload_n C dX10_ofSectionAnew_81 rfl ?_
        refine u_getR (k2 := (X + 1)) C gX10_ofSectionAnew_82 rfl (sal_is hX) (sal_f2 hX) ?_
        refine u_iload_n C dX10_ofSectionAnew_85 rfl ?_
        refine u_iconst (v := nI 1) C dX10_ofSectionAnew_86 (by decide) ?_
        refine u_calliV2 C ev_X8_part dX10_ofSectionAnew_87 ml_RX10_182 (tld_is (sal_p2 hX)) rfl (by decide) (c_X8_part l D G _ _ _ _ (sal_p2 hX) (by omega) (by decide)) (by decide) (Nat.le_of_ble_eq_true rfl) (fun r_87 M_87 q_87 => ?_)
        obtain ⟨rfl, e_87⟩ := q_87
        subst M_87
        refine u_aload_n C dX10_ofSectionAnew_90 rfl ?_
        refine u_getR (k2 := (X + 1)) C gX10_ofSectionAnew_91 rfl (sal_is hX) (sal_f2 hX) ?_
        refine u_iload_n C dX10_ofSectionAnew_94 rfl ?_
        refine u_iconst (v := nI 2) C dX10_ofSectionAnew_95 (by decide) ?_
        refine u_calliV2 C ev_X8_part dX10_ofSectionAnew_96 ml_RX10_182 (tld_is (sal_p2 hX)) rfl (by decide) (c_X8_part l D G _ _ _ _ (sal_p2 hX) (by omega) (by decide)) (by decide) (Nat.le_of_ble_eq_true rfl) (fun r_96 M_96 q_96 => ?_)
        obtain ⟨rfl, e_96⟩ := q_96
        subst M_96
        refine u_aload_n C dX10_ofSectionAnew_99 rfl ?_
        refine u_getR (k2 := (X + 1)) C gX10_ofSectionAnew_100 rfl (sal_is hX) (sal_f2 hX) ?_
        refine u_iload_n C dX10_ofSectionAnew_103 rfl ?_
        refine u_iconst (v := nI 3) C dX10_ofSectionAnew_104 (by decide) ?_
        refine u_calliV2 C ev_X8_part dX10_ofSectionAnew_105 ml_RX10_182 (tld_is (sal_p2 hX)) rfl (by decide) (c_X8_part l D G _ _ _ _ (sal_p2 hX) (by omega) (by decide)) (by decide) (Nat.le_of_ble_eq_true rfl) (fun r_105 M_105 q_105 => ?_)
        obtain ⟨rfl, e_105⟩ := q_105
        subst M_105
        refine u_aload_n C dX10_ofSectionAnew_108 rfl ?_
        refine u_getR (k2 := (X + 1)) C gX10_ofSectionAnew_109 rfl (sal_is hX) (sal_f2 hX) ?_
        refine u_iload_n C dX10_ofSectionAnew_112 rfl ?_
        refine u_iconst (v := nI 4) C dX10_ofSectionAnew_113 (by decide) ?_
        refine u_calliV2 C ev_X8_part dX10_ofSectionAnew_114 ml_RX10_182 (tld_is (sal_p2 hX)) rfl (by decide) (c_X8_part l D G _ _ _ _ (sal_p2 hX) (by omega) (by decide)) (by decide) (Nat.le_of_ble_eq_true rfl) (fun r_114 M_114 q_114 => ?_)
        obtain ⟨rfl, e_114⟩ := q_114
        subst M_114
        refine u_aload_n C dX10_ofSectionAnew_117 rfl ?_
        refine u_getR (k2 := (X + 1)) C gX10_ofSectionAnew_118 rfl (sal_is hX) (sal_f2 hX) ?_
        refine u_iload_n C dX10_ofSectionAnew_121 rfl ?_
        refine u_iconst (v := nI 5) C dX10_ofSectionAnew_122 (by decide) ?_
        refine u_calliV2 C ev_X8_part dX10_ofSectionAnew_123 ml_RX10_182 (tld_is (sal_p2 hX)) rfl (by decide) (c_X8_part l D G _ _ _ _ (sal_p2 hX) (by omega) (by decide)) (by decide) (Nat.le_of_ble_eq_true rfl) (fun r_123 M_123 q_123 => ?_)
        obtain ⟨rfl, e_123⟩ := q_123
        subst M_123
        refine u_aload_n C dX10_ofSectionAnew_126 rfl ?_
        refine u_getR (k2 := (X + 1)) C gX10_ofSectionAnew_127 rfl (sal_is hX) (sal_f2 hX) ?_
        refine u_iload_n C dX10_ofSectionAnew_130 rfl ?_
        refine u_bipush (v := nI 6) C dX10_ofSectionAnew_131 (by decide) ?_
        refine u_calliV2 C ev_X8_part dX10_ofSectionAnew_133 ml_RX10_182 (tld_is (sal_p2 hX)) rfl (by decide) (c_X8_part l D G _ _ _ _ (sal_p2 hX) (by omega) (by decide)) (by decide) (Nat.le_of_ble_eq_true rfl) (fun r_133 M_133 q_133 => ?_)
        obtain ⟨rfl, e_133⟩ := q_133
        subst M_133
        refine u_callvV6 C ev_X3_hear dX10_ofSectionAnew_136 ml_RX10_186 (mou_is (sal_p1 hX)) rfl (by decide) (c_X3_hear l D G _ _ _ _ _ _ _ _ (sal_p1 hX) hok3 hp3) (by decide) (Nat.le_of_ble_eq_true rfl) (fun M_136 q_136 => ?_)
        obtain rfl := q_136
        refine u_iinc C dX10_ofSectionAnew_139 (by decide) rfl ?_
        refine u_goto (tgt := 50) C dX10_ofSectionAnew_142 (by decide) ?_
        exact u_loc [0, 1, 2, 3] rfl (ih (i + 1) _ hh hw (by omega) (by omega) (nI_1 i))
  refine u_aload_n C dX10_ofSectionAnew_0 rfl ?_
  refine u_getR (k2 := (X + 1000)) C gX10_ofSectionAnew_1 rfl (sal_is hX) (sal_f0 hX) ?_
  refine u_iload_n C dX10_ofSectionAnew_4 rfl ?_
  refine u_calliV1 C ev_X3_hasSection dX10_ofSectionAnew_5 ml_RX10_105 (mou_is (sal_p0 hX)) rfl (by decide) (c_X3_hasSection l D G _ _ _ (sal_p0 hX) ) (by decide) (Nat.le_of_ble_eq_true rfl) (fun r_5 M_5 q_5 => ?_)
  obtain ⟨rfl, e_5⟩ := q_5
  subst M_5
  refine u_if_ne (tgt := 21) C dX10_ofSectionAnew_8 (by decide) (fun c_8 => ?_) (fun c_8 => ?_)
  · refine u_iload_n C dX10_ofSectionAnew_21 rfl ?_
    refine u_iconst (v := 0) C dX10_ofSectionAnew_22 (by decide) ?_
    refine u_bipush (v := 9) C dX10_ofSectionAnew_23 (by decide) ?_
    refine u_calliS3 C es_X10_within dX10_ofSectionAnew_25 ml_RX10_33 (c_X10_within l D G _ _ _ _  ) (by decide) (Nat.le_of_ble_eq_true rfl) (fun r_25 M_25 q_25 => ?_)
    obtain ⟨rfl, e_25⟩ := q_25
    subst M_25
    refine u_if_ne (tgt := 41) C dX10_ofSectionAnew_28 (by decide) (fun c_28 => ?_) (fun c_28 => ?_)
    · refine u_aload_n C dX10_ofSectionAnew_41 rfl ?_
      refine u_getR (k2 := (X + 2000)) C gX10_ofSectionAnew_42 rfl (sal_is hX) (sal_f1 hX) ?_
      refine u_callvV0 C ev_X3_begin dX10_ofSectionAnew_45 ml_RX10_176 (mou_is (sal_p1 hX)) rfl (by decide) (c_X3_begin l D G _ _ (sal_p1 hX) ) (by decide) (Nat.le_of_ble_eq_true rfl) (fun M_45 q_45 => ?_)
      obtain rfl := q_45
      refine u_iconst (v := 0) C dX10_ofSectionAnew_48 (by decide) ?_
      refine u_istore_n C dX10_ofSectionAnew_49 (by decide) ?_
      exact u_loc [0, 1, 2, 3] rfl (loop1 (n9 + 1) 0 _ c_8 c_28 (by omega) (by omega) nI_0.symm)
    · exact thr _ _ _ _ tX10_ofSectionAnew_31 (⟨rfl, by (try simp only [u_le, Decidable.not_not] at c_8 c_28); simp [kc_of, u_le, -Int32.not_lt, -Int32.not_le, c_8, c_28]⟩)
  · exact thr _ _ _ _ tX10_ofSectionAnew_11 (⟨rfl, by (try simp only [u_le, Decidable.not_not] at c_8); simp [kc_of, u_le, -Int32.not_lt, -Int32.not_le, c_8]⟩)
