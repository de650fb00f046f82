/-! bounds that the hour keeps -/
def gB (N : w_M) (Y n : Nat) (W C : Int) : Prop := (∀ s, s < n → 1 ≤ (iv N (Y + 17) s).toInt ∧ (iv N (Y + 17) s).toInt ≤ 100) ∧ (∀ s, s < n → 0 ≤ (iv N (Y + 22) s).toInt) ∧ (∀ s, s < n → 0 ≤ (iv N (Y + 22) (8 + s)).toInt) ∧ (∀ s, s < n → 0 ≤ (iv N (Y + 18) s).toInt) ∧ (∀ s, s < n → 0 ≤ (iv N (Y + 19) s).toInt) ∧ (sm (fun s => (iv N (Y + 22) s).toInt + (iv N (Y + 22) (8 + s)).toInt) n ≤ W) ∧ (sm (fun s => (iv N (Y + 18) s).toInt + (iv N (Y + 19) s).toInt) n ≤ C)
theorem gB.ar {N : w_M} {Y n : Nat} {W C : Int} (h : gB N Y n W C) : ∀ s, s < n → 1 ≤ (iv N (Y + 17) s).toInt ∧ (iv N (Y + 17) s).toInt ≤ 100 := h.1
theorem gB.wu {N : w_M} {Y n : Nat} {W C : Int} (h : gB N Y n W C) : ∀ s, s < n → 0 ≤ (iv N (Y + 22) s).toInt := h.2.1
theorem gB.wl {N : w_M} {Y n : Nat} {W C : Int} (h : gB N Y n W C) : ∀ s, s < n → 0 ≤ (iv N (Y + 22) (8 + s)).toInt := h.2.2.1
theorem gB.mu {N : w_M} {Y n : Nat} {W C : Int} (h : gB N Y n W C) : ∀ s, s < n → 0 ≤ (iv N (Y + 18) s).toInt := h.2.2.2.1
theorem gB.cl {N : w_M} {Y n : Nat} {W C : Int} (h : gB N Y n W C) : ∀ s, s < n → 0 ≤ (iv N (Y + 19) s).toInt := h.2.2.2.2.1
theorem gB.W {N : w_M} {Y n : Nat} {W C : Int} (h : gB N Y n W C) : sm (fun s => (iv N (Y + 22) s).toInt + (iv N (Y + 22) (8 + s)).toInt) n ≤ W := h.2.2.2.2.2.1
theorem gB.C {N : w_M} {Y n : Nat} {W C : Int} (h : gB N Y n W C) : sm (fun s => (iv N (Y + 18) s).toInt + (iv N (Y + 19) s).toInt) n ≤ C := h.2.2.2.2.2.2
theorem gB.w {N : w_M} {Y n s : Nat} {W C : Int} (h : gB N Y n W C) (hs : s < n) : (iv N (Y + 22) s).toInt + (iv N (Y + 22) (8 + s)).toInt ≤ W :=
  Int.le_trans (sm_le (f := fun s => (iv N (Y + 22) s).toInt + (iv N (Y + 22) (8 + s)).toInt) (fun i hi => by have := h.wu i hi; have := h.wl i hi; show 0 ≤ _ + _; omega) hs) h.W
theorem gB.c {N : w_M} {Y n s : Nat} {W C : Int} (h : gB N Y n W C) (hs : s < n) : (iv N (Y + 18) s).toInt + (iv N (Y + 19) s).toInt ≤ C :=
  Int.le_trans (sm_le (f := fun s => (iv N (Y + 18) s).toInt + (iv N (Y + 19) s).toInt) (fun i hi => by have := h.mu i hi; have := h.cl i hi; show 0 ≤ _ + _; omega) hs) h.C
theorem gB.w2 {N : w_M} {Y n s t : Nat} {W C : Int} (h : gB N Y n W C) (hs : s < n) (ht : t < n) (hst : s ≠ t) : (iv N (Y + 22) s).toInt + (iv N (Y + 22) (8 + s)).toInt + ((iv N (Y + 22) t).toInt + (iv N (Y + 22) (8 + t)).toInt) ≤ W := by
  have e := sm_1 (f := fun s => (iv N (Y + 22) s).toInt + (iv N (Y + 22) (8 + s)).toInt) (g := fun i => if i = t then 0 else (iv N (Y + 22) i).toInt + (iv N (Y + 22) (8 + i)).toInt) ht (fun i hi q => if_neg q)
  have l := sm_le (f := fun i => if i = t then 0 else (iv N (Y + 22) i).toInt + (iv N (Y + 22) (8 + i)).toInt) (s := s) (n := n) (fun i hi => by have := h.wu i hi; have := h.wl i hi; show 0 ≤ ite _ _ _; split <;> omega) hs
  simp only [if_neg hst, if_true] at e l
  have := h.W; omega
theorem gB.c2 {N : w_M} {Y n s t : Nat} {W C : Int} (h : gB N Y n W C) (hs : s < n) (ht : t < n) (hst : s ≠ t) : (iv N (Y + 18) s).toInt + (iv N (Y + 19) s).toInt + ((iv N (Y + 18) t).toInt + (iv N (Y + 19) t).toInt) ≤ C := by
  have e := sm_1 (f := fun s => (iv N (Y + 18) s).toInt + (iv N (Y + 19) s).toInt) (g := fun i => if i = t then 0 else (iv N (Y + 18) i).toInt + (iv N (Y + 19) i).toInt) ht (fun i hi q => if_neg q)
  have l := sm_le (f := fun i => if i = t then 0 else (iv N (Y + 18) i).toInt + (iv N (Y + 19) i).toInt) (s := s) (n := n) (fun i hi => by have := h.mu i hi; have := h.cl i hi; show 0 ≤ ite _ _ _; split <;> omega) hs
  simp only [if_neg hst, if_true] at e l
  have := h.C; omega
/-- one section changes -/
theorem gB.one {N N' : w_M} {Y n s : Nat} {W C : Int} (dW dC : Int) (h : gB N Y n W C) (hs : s < n) (ha : ∀ i, i < n → iv N' (Y + 17) i = iv N (Y + 17) i) (hwu : ∀ i, i < n → i ≠ s → iv N' (Y + 22) i = iv N (Y + 22) i) (hwl : ∀ i, i < n → i ≠ s → iv N' (Y + 22) (8 + i) = iv N (Y + 22) (8 + i)) (hmu : ∀ i, i < n → i ≠ s → iv N' (Y + 18) i = iv N (Y + 18) i) (hcl : ∀ i, i < n → i ≠ s → iv N' (Y + 19) i = iv N (Y + 19) i)
    (wu : 0 ≤ (iv N' (Y + 22) s).toInt) (wl : 0 ≤ (iv N' (Y + 22) (8 + s)).toInt) (mu : 0 ≤ (iv N' (Y + 18) s).toInt) (cl : 0 ≤ (iv N' (Y + 19) s).toInt)
    (eW : (iv N' (Y + 22) s).toInt + (iv N' (Y + 22) (8 + s)).toInt ≤ (iv N (Y + 22) s).toInt + (iv N (Y + 22) (8 + s)).toInt + dW) (eC : (iv N' (Y + 18) s).toInt + (iv N' (Y + 19) s).toInt ≤ (iv N (Y + 18) s).toInt + (iv N (Y + 19) s).toInt + dC) : gB N' Y n (W + dW) (C + dC) := by
  refine ⟨fun i hi => by rw [ha i hi]; exact h.ar i hi, fun i hi => ?_, fun i hi => ?_, fun i hi => ?_, fun i hi => ?_, ?_, ?_⟩
  · by_cases q : i = s
    · subst q; exact wu
    · rw [hwu i hi q]; exact h.wu i hi
  · by_cases q : i = s
    · subst q; exact wl
    · rw [hwl i hi q]; exact h.wl i hi
  · by_cases q : i = s
    · subst q; exact mu
    · rw [hmu i hi q]; exact h.mu i hi
  · by_cases q : i = s
    · subst q; exact cl
    · rw [hcl i hi q]; exact h.cl i hi
  · have e := sm_1 (f := fun s => (iv N (Y + 22) s).toInt + (iv N (Y + 22) (8 + s)).toInt) (g := fun s => (iv N' (Y + 22) s).toInt + (iv N' (Y + 22) (8 + s)).toInt) hs (fun i hi q => by simp only [hwu i hi q, hwl i hi q])
    have := h.W; omega
  · have e := sm_1 (f := fun s => (iv N (Y + 18) s).toInt + (iv N (Y + 19) s).toInt) (g := fun s => (iv N' (Y + 18) s).toInt + (iv N' (Y + 19) s).toInt) hs (fun i hi q => by simp only [hmu i hi q, hcl i hi q])
    have := h.C; omega
/-- two sections change, the sums don't -/
theorem gB.two {N N' : w_M} {Y n s t : Nat} {W C : Int} (h : gB N Y n W C) (hs : s < n) (ht : t < n) (hst : s ≠ t) (ha : ∀ i, i < n → iv N' (Y + 17) i = iv N (Y + 17) i) (hwu : ∀ i, i < n → i ≠ s → i ≠ t → iv N' (Y + 22) i = iv N (Y + 22) i) (hwl : ∀ i, i < n → i ≠ s → i ≠ t → iv N' (Y + 22) (8 + i) = iv N (Y + 22) (8 + i)) (hmu : ∀ i, i < n → iv N' (Y + 18) i = iv N (Y + 18) i) (hcl : ∀ i, i < n → i ≠ s → i ≠ t → iv N' (Y + 19) i = iv N (Y + 19) i)
    (wu : 0 ≤ (iv N' (Y + 22) s).toInt) (wl : 0 ≤ (iv N' (Y + 22) (8 + s)).toInt) (cl : 0 ≤ (iv N' (Y + 19) s).toInt)
    (wu' : 0 ≤ (iv N' (Y + 22) t).toInt) (wl' : 0 ≤ (iv N' (Y + 22) (8 + t)).toInt) (cl' : 0 ≤ (iv N' (Y + 19) t).toInt)
    (eW : (iv N' (Y + 22) s).toInt + (iv N' (Y + 22) (8 + s)).toInt + ((iv N' (Y + 22) t).toInt + (iv N' (Y + 22) (8 + t)).toInt) ≤ (iv N (Y + 22) s).toInt + (iv N (Y + 22) (8 + s)).toInt + ((iv N (Y + 22) t).toInt + (iv N (Y + 22) (8 + t)).toInt))
    (eC : (iv N' (Y + 19) s).toInt + (iv N' (Y + 19) t).toInt ≤ (iv N (Y + 19) s).toInt + (iv N (Y + 19) t).toInt) : gB N' Y n W C := by
  refine ⟨fun i hi => by rw [ha i hi]; exact h.ar i hi, fun i hi => ?_, fun i hi => ?_, fun i hi => by rw [hmu i hi]; exact h.mu i hi, fun i hi => ?_, ?_, ?_⟩
  · by_cases q : i = s
    · subst q; exact wu
    · by_cases q2 : i = t
      · subst q2; exact wu'
      · rw [hwu i hi q q2]; exact h.wu i hi
  · by_cases q : i = s
    · subst q; exact wl
    · by_cases q2 : i = t
      · subst q2; exact wl'
      · rw [hwl i hi q q2]; exact h.wl i hi
  · by_cases q : i = s
    · subst q; exact cl
    · by_cases q2 : i = t
      · subst q2; exact cl'
      · rw [hcl i hi q q2]; exact h.cl i hi
  · have e := sm_2 (f := fun s => (iv N (Y + 22) s).toInt + (iv N (Y + 22) (8 + s)).toInt) (g := fun s => (iv N' (Y + 22) s).toInt + (iv N' (Y + 22) (8 + s)).toInt) hs ht hst (fun i hi q q2 => by simp only [hwu i hi q q2, hwl i hi q q2])
    have := h.W; omega
  · have e := sm_2 (f := fun s => (iv N (Y + 18) s).toInt + (iv N (Y + 19) s).toInt) (g := fun s => (iv N' (Y + 18) s).toInt + (iv N' (Y + 19) s).toInt) hs ht hst (fun i hi q q2 => by simp only [hmu i hi, hcl i hi q q2])
    have e3 := hmu s hs; have e4 := hmu t ht
    have := h.C; simp only [e3, e4] at e; omega
theorem gB.same {N N' : w_M} {Y n : Nat} {W C : Int} (h : gB N Y n W C) (ha : ∀ i, iv N' (Y + 17) i = iv N (Y + 17) i) (hw : ∀ i, iv N' (Y + 22) i = iv N (Y + 22) i) (hmu : ∀ i, iv N' (Y + 18) i = iv N (Y + 18) i) (hcl : ∀ i, iv N' (Y + 19) i = iv N (Y + 19) i) : gB N' Y n W C :=
  ⟨fun i hi => by rw [ha]; exact h.ar i hi, fun i hi => by rw [hw]; exact h.wu i hi, fun i hi => by rw [hw]; exact h.wl i hi, fun i hi => by rw [hmu]; exact h.mu i hi, fun i hi => by rw [hcl]; exact h.cl i hi, by simp only [hw]; exact h.W, by simp only [hmu, hcl]; exact h.C⟩
theorem gB.mono {N : w_M} {Y n : Nat} {W C W' C' : Int} (h : gB N Y n W C) (hW : W ≤ W') (hC : C ≤ C') : gB N Y n W' C' := ⟨h.ar, h.wu, h.wl, h.mu, h.cl, Int.le_trans h.W hW, Int.le_trans h.C hC⟩
theorem gB_fl1 {N : w_M} {Y n s t : Nat} {W C : Int} {f : Int32} (h : gB N Y n W C) (hn : n ≤ 8) (hW : W < 2 ^ 30) (hs : s < n) (ht : t < n) (hst : s ≠ t) (f0 : 0 ≤ f.toInt) (f1 : f.toInt ≤ (iv N (Y + 22) (8 + s)).toInt) : gB (g_fl N Y 1 s t f) Y n W C := by
  have w2 := h.w2 hs ht hst
  have a1 := h.wu s hs; have a2 := h.wl s hs; have a3 := h.wu t ht; have a4 := h.wl t ht
  have e1 : (iv N (Y + 22) (8 + s) - f).toInt = (iv N (Y + 22) (8 + s)).toInt - f.toInt := i_sub (by omega) (by omega)
  have e2 : (iv N (Y + 22) (8 + t) + f).toInt = (iv N (Y + 22) (8 + t)).toInt + f.toInt := i_add (by omega) (by omega)
  have c0 : ∀ i, iv (g_fl N Y 1 s t f) (Y + 19) i = iv N (Y + 19) i := fun i => fl1_o (by omega) (by omega) (by omega)
  have u0 : ∀ i, i < 8 → iv (g_fl N Y 1 s t f) (Y + 22) i = iv N (Y + 22) i := fun i hi => by rw [fl1_w hst, if_neg (by omega), if_neg (by omega)]
  have v1 : iv (g_fl N Y 1 s t f) (Y + 22) (8 + s) = iv N (Y + 22) (8 + s) - f := by rw [fl1_w hst, if_pos rfl]
  have v2 : iv (g_fl N Y 1 s t f) (Y + 22) (8 + t) = iv N (Y + 22) (8 + t) + f := by rw [fl1_w hst, if_neg (by omega), if_pos rfl]
  refine h.two hs ht hst (fun i hi => fl1_o (by omega) (by omega) (by omega)) (fun i hi _ _ => u0 i (by omega)) (fun i hi _ _ => by rw [fl1_w hst, if_neg (by omega), if_neg (by omega)]) (fun i hi => fl1_o (by omega) (by omega) (by omega)) (fun i hi _ _ => c0 i) ?_ ?_ ?_ ?_ ?_ ?_ ?_ ?_
  · rw [u0 s (by omega)]; exact a1
  · rw [v1]; omega
  · rw [c0]; exact h.cl s hs
  · rw [u0 t (by omega)]; exact a3
  · rw [v2]; omega
  · rw [c0]; exact h.cl t ht
  · rw [u0 s (by omega), u0 t (by omega), v1, v2]; omega
  · rw [c0, c0]; omega
theorem gB_fl0 {N : w_M} {Y n s t : Nat} {W C : Int} {f : Int32} (h : gB N Y n W C) (hn : n ≤ 8) (hW : W < 2 ^ 30) (hC : C < 2 ^ 30) (hs : s < n) (ht : t < n) (hst : s ≠ t) (f0 : 0 ≤ f.toInt) (f1 : f.toInt ≤ (iv N (Y + 22) s).toInt) : gB (g_fl N Y 0 s t f) Y n W C := by
  have w2 := h.w2 hs ht hst
  have c2 := h.c2 hs ht hst
  have a1 := h.wu s hs; have a2 := h.wl s hs; have a3 := h.wu t ht; have a4 := h.wl t ht
  have b1 := h.cl s hs; have b2 := h.cl t ht; have b3 := h.mu s hs; have b4 := h.mu t ht
  obtain ⟨g0, g1⟩ := shr_b (a := iv N (Y + 19) s) b1 f0 f1
  have e1 : (iv N (Y + 22) s - f).toInt = (iv N (Y + 22) s).toInt - f.toInt := i_sub (by omega) (by omega)
  have e2 : (iv N (Y + 22) t + f).toInt = (iv N (Y + 22) t).toInt + f.toInt := i_add (by omega) (by omega)
  have e3 : (iv N (Y + 19) s - f_shr (iv N (Y + 19) s) f (iv N (Y + 22) s)).toInt = (iv N (Y + 19) s).toInt - (f_shr (iv N (Y + 19) s) f (iv N (Y + 22) s)).toInt := i_sub (by omega) (by omega)
  have e4 : (iv N (Y + 19) t + f_shr (iv N (Y + 19) s) f (iv N (Y + 22) s)).toInt = (iv N (Y + 19) t).toInt + (f_shr (iv N (Y + 19) s) f (iv N (Y + 22) s)).toInt := i_add (by omega) (by omega)
  have l0 : ∀ i, iv (g_fl N Y 0 s t f) (Y + 22) (8 + i) = iv N (Y + 22) (8 + i) := fun i => by rw [fl0_w hst, if_neg (by omega), if_neg (by omega)]
  have v1 : iv (g_fl N Y 0 s t f) (Y + 22) s = iv N (Y + 22) s - f := by rw [fl0_w hst, if_pos rfl]
  have v2 : iv (g_fl N Y 0 s t f) (Y + 22) t = iv N (Y + 22) t + f := by rw [fl0_w hst, if_neg (by omega), if_pos rfl]
  have d1 : iv (g_fl N Y 0 s t f) (Y + 19) s = iv N (Y + 19) s - f_shr (iv N (Y + 19) s) f (iv N (Y + 22) s) := by rw [fl0_c hst, if_pos rfl]
  have d2 : iv (g_fl N Y 0 s t f) (Y + 19) t = iv N (Y + 19) t + f_shr (iv N (Y + 19) s) f (iv N (Y + 22) s) := by rw [fl0_c hst, if_neg (by omega), if_pos rfl]
  refine h.two hs ht hst (fun i hi => fl0_o (by omega) (by omega) (by omega) (by omega)) (fun i hi q q2 => by rw [fl0_w hst, if_neg q, if_neg q2]) (fun i hi _ _ => l0 i) (fun i hi => fl0_o (by omega) (by omega) (by omega) (by omega)) (fun i hi q q2 => by rw [fl0_c hst, if_neg q, if_neg q2]) ?_ ?_ ?_ ?_ ?_ ?_ ?_ ?_
  · rw [v1]; omega
  · rw [l0]; exact a2
  · rw [d1]; omega
  · rw [v2]; omega
  · rw [l0]; exact a4
  · rw [d2]; omega
  · rw [l0, l0, v1, v2]; omega
  · rw [d1, d2]; omega
