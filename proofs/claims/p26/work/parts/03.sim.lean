/-! flat memory: cells by logical numbers; the walk in one predicate u_S -/
theorem u_good0 : wsL_law0.all goodWord = true := by decide +kernel
theorem u_good : wsL_law.all goodWord = true := by
  have f : ∀ l : List Cond, (l.filter goodWord).all goodWord = true := fun l => List.all_eq_true.mpr fun w hw => (List.mem_filter.mp hw).2
  unfold wsL_law
  rw [List.all_append, List.all_append, List.all_append, u_good0, f, f, f]
  rfl
def u_ws2 (y : MethodName) (cc : ByteArray) (maxL : Nat) (ret : Option FieldType) : List Cond := Cond.code y cc maxL ret :: wsL_law
theorem u_goodIn {y : MethodName} {cc : ByteArray} {maxL : Nat} {ret : Option FieldType} (h : Cond.code y cc maxL ret ∈ wsL_law) : GoodIn wsL_law (u_ws2 y cc maxL ret) := by
  intro w hw
  have hm : w ∈ wsL_law := by
    rcases List.mem_cons.mp hw with rfl | hw
    · exact h
    · exact hw
  exact ⟨hm, good_of_word (List.all_eq_true.mp u_good w hm)⟩
def u_nestL : List Cond := [.methodLinkNest RX2 16 yX10_goesWith RX10, .methodLinkNest RX6 52 yX10_goesWith RX10, .methodLinkNest RX5 31 yX9_init RX10, .methodLinkNest RX5 32 yX7_init RX10, .methodLinkNest RX3 20 yX0_init RX10, .methodLinkNest RX3 41 yX6_init RX10, .methodLinkNest RX6 11 yX2_init RX10, .methodLinkNest RX3 42 yX1_init RX10, .methodLinkNest RX10 21 yX8_init RX10, .methodLinkNest RX10 32 yX4_init RX10]
def u_aoL : List String := [RX1, RX4, RX6, RX7, RX9]
/-- what the tables say of calls between nest mates, and of rows of references -/
def u_N (U : State) : Prop := (∀ w ∈ u_nestL, va_Nw w U) ∧ ∀ C ∈ u_aoL, va_AO C U
theorem u_nestL_on : ∀ w ∈ u_nestL, w.onTables = true := by decide +kernel
theorem u_N.same {u U : State} (h : u.vm = U.vm) (hN : u_N u) : u_N U := ⟨fun w hw => va_Nw.same (u_nestL_on w hw) h (hN.1 w hw), fun C hC => va_AO.moved (by rw [h]; exact Vm.Alike.refl _) (hN.2 C hC)⟩
theorem u_N.warm {s U : State} (hW : s.WarmedH U.vm) (hN : u_N s) : u_N U := by
  refine ⟨fun w hw => ?_, fun C hC => va_AO.moved hW.alike (hN.2 C hC)⟩
  have h1 := hN.1 w hw
  simp only [u_nestL, List.mem_cons, List.not_mem_nil, or_false] at hw
  rcases hw with rfl | rfl | rfl | rfl | rfl | rfl | rfl | rfl | rfl | rfl <;> exact va_Nw.warmM hW h1
/-- the fields: how many, which hold references -/
def w_nf (ci : Nat) : Nat := match ci with
  | 0 => 7 | 1 => 10 | 2 => 2 | 3 => 10 | 4 => 3 | 5 => 6 | 6 => 8 | 7 => 3 | 8 => 2 | 9 => 4 | 10 => 5 | _ => 43
def w_rf (ci j : Nat) : Bool := match ci with
  | 0 => Nat.blt j 3 | 3 => Nat.blt j 5 | 5 => Nat.blt j 3 | 6 => Nat.blt j 3 | 8 => Nat.blt j 1 | 10 => Nat.blt j 4
  | 11 => (j == 4) || (j == 6) || (j == 7) || (j == 13) || (j == 14) || (j == 15) || (Nat.blt 16 j && Nat.blt j 25) || (Nat.blt 25 j && Nat.blt j 36) || (Nat.blt 36 j && Nat.blt j 41)
  | _ => false
/-- the fixed part: array classes, addresses, kinds, lengths, references, numbers in use -/
abbrev w_G : Type := (Nat → ClassId) × (Nat → Nat) × (Nat → Nat) × (Nat → Nat) × (Nat → Nat → Option Nat) × List Nat
def gC (G : w_G) : Nat → ClassId := G.1
def gP (G : w_G) : Nat → Nat := G.2.1
def gK (G : w_G) : Nat → Nat := G.2.2.1
def gN (G : w_G) : Nat → Nat := G.2.2.2.1
def gF (G : w_G) : Nat → Nat → Option Nat := G.2.2.2.2.1
def gL (G : w_G) : List Nat := G.2.2.2.2.2
/-- what changes: ints (fields and elements) and longs -/
abbrev w_M : Type := (Nat → Nat → Int32) × (Nat → Nat → Int64)
def iv (M : w_M) (a j : Nat) : Int32 := M.1 a j
def jv (M : w_M) (a j : Nat) : Int64 := M.2 a j
def wi (M : w_M) (a j : Nat) (x : Int32) : w_M := (fun b k => if b = a ∧ k = j then x else M.1 b k, M.2)
def wj (M : w_M) (a j : Nat) (x : Int64) : w_M := (M.1, fun b k => if b = a ∧ k = j then x else M.2 b k)
theorem iv_wi (M : w_M) (a j : Nat) (x : Int32) (b k : Nat) : iv (wi M a j x) b k = if b = a ∧ k = j then x else iv M b k := rfl
theorem jv_wj (M : w_M) (a j : Nat) (x : Int64) (b k : Nat) : jv (wj M a j x) b k = if b = a ∧ k = j then x else jv M b k := rfl
theorem iv_wj (M : w_M) (a j : Nat) (x : Int64) (b k : Nat) : iv (wj M a j x) b k = iv M b k := rfl
theorem jv_wi (M : w_M) (a j : Nat) (x : Int32) (b k : Nat) : jv (wi M a j x) b k = jv M b k := rfl
theorem w_ext {M M' : w_M} (h1 : ∀ a j, iv M a j = iv M' a j) (h2 : ∀ a j, jv M a j = jv M' a j) : M = M' := Prod.ext (funext fun a => funext fun j => h1 a j) (funext fun a => funext fun j => h2 a j)
def w_fv (G : w_G) (M : w_M) (ci k j : Nat) : Value := if w_rf ci j then va_rf ((gF G k j).map (gP G)) else .int (iv M k j)
def w_fs (G : w_G) (M : w_M) (ci k : Nat) : List Value := (List.range (w_nf ci)).map (w_fv G M ci k)
def w_cell (G : w_G) (M : w_M) (k : Nat) : va_E :=
  if gK G k < 12 then .inr (gK G k, w_fs G M (gK G k) k)
  else if gK G k = 12 then .inl (gC G 0, gN G k, .inl (fun j => iv M k j))
  else if gK G k = 13 then .inl (gC G 1, gN G k, .inr (.inl (fun j => jv M k j)))
  else if gK G k = 14 then .inl (gC G 2, gN G k, .inl (fun j => iv M k j))
  else .inl (gC G (gK G k - 12), gN G k, .inr (.inr (.inr (.inr (fun i => (gF G k i).map (gP G))))))
def w_ty (cy : Nat → ClassId) : List (ClassId × FieldType) := [(cy 0, .int), (cy 1, .long), (cy 2, .boolean), (cy 3, .object RX1), (cy 4, .object RX4), (cy 5, .object RX6), (cy 6, .object RX7), (cy 7, .object RX9)]
def u_W (G : w_G) (M : w_M) : va_W := (gL G).map (fun k => (gP G k, w_cell G M k))
/-- a number in use, of that kind -/
def u_is (G : w_G) (k ci : Nat) : Prop := k ∈ gL G ∧ gK G k = ci
theorem u_get {G : w_G} {M : w_M} {k : Nat} (h : k ∈ gL G) : ∃ q : Nat, (gL G)[q]? = some k ∧ (u_W G M)[q]? = some (gP G k, w_cell G M k) := by
  obtain ⟨q, hq⟩ := List.getElem?_of_mem h
  exact ⟨q, hq, by simp [u_W, hq]⟩
theorem u_inj {A : Nat → Prop} {G : w_G} {M : w_M} (hD : va_D A (u_W G M)) {i j k : Nat} (hi : (gL G)[i]? = some k) (hj : (gL G)[j]? = some k) : i = j :=
  hD.1 i j (gP G k, w_cell G M k) (gP G k, w_cell G M k) (by simp [u_W, hi]) (by simp [u_W, hj]) rfl
theorem u_setW {A : Nat → Prop} {G : w_G} {M M' : w_M} (hD : va_D A (u_W G M)) {k q : Nat} (hq : (gL G)[q]? = some k) (ho : ∀ b, b ≠ k → w_cell G M' b = w_cell G M b) : (u_W G M).set q (gP G k, w_cell G M' k) = u_W G M' := by
  refine List.ext_getElem? fun i => ?_
  by_cases hi : i = q
  · subst hi
    rw [List.getElem?_set_self (by simp [u_W]; exact (List.getElem?_eq_some_iff.mp hq).1)]
    simp [u_W, hq]
  · rw [List.getElem?_set_ne (Ne.symm hi)]
    simp only [u_W, List.getElem?_map]
    cases h : (gL G)[i]? with
    | none => rfl
    | some b =>
      have hb : b ≠ k := fun z => hi (u_inj hD (z ▸ h) hq)
      simp [ho b hb]
theorem u_DM {A : Nat → Prop} {G : w_G} {M : w_M} (M' : w_M) (hD : va_D A (u_W G M)) : va_D A (u_W G M') := by
  have key : ∀ (i : Nat) (p : Nat × va_E), (u_W G M')[i]? = some p → ∃ p', (u_W G M)[i]? = some p' ∧ p'.1 = p.1 := by
    intro i p h
    simp only [u_W, List.getElem?_map] at h ⊢
    cases hb : (gL G)[i]? with
    | none => rw [hb] at h; cases h
    | some b => rw [hb] at h; cases h; exact ⟨_, rfl, rfl⟩
  refine ⟨fun i j p q hi hj e => ?_, fun i p hi => ?_⟩
  · obtain ⟨p', h1, h2⟩ := key i p hi
    obtain ⟨q', h3, h4⟩ := key j q hj
    exact hD.1 i j p' q' h1 h3 (by rw [h2, h4, e])
  · obtain ⟨p', h1, h2⟩ := key i p hi
    rw [← h2]
    exact hD.2 i p' h1
theorem u_AM {G : w_G} (M M' : w_M) (sz : Nat) : va_A (u_W G M') sz = va_A (u_W G M) sz := by
  have key : ∀ (M M' : w_M) (q : Nat), va_A (u_W G M') sz q → va_A (u_W G M) sz q := by
    intro M M' q h
    rcases h with ⟨k, e, h⟩ | h
    · simp only [u_W, List.getElem?_map] at h
      cases hb : (gL G)[k]? with
      | none => rw [hb] at h; cases h
      | some b =>
        rw [hb] at h
        cases h
        exact Or.inl ⟨k, w_cell G M b, by simp [u_W, hb]⟩
    · exact Or.inr h
  funext q
  exact propext ⟨key M M' q, key M' M q⟩
theorem w_fs_len (G : w_G) (M : w_M) (ci k : Nat) : (w_fs G M ci k).length = w_nf ci := by simp [w_fs]
theorem w_fs_at {G : w_G} {M : w_M} {ci k j : Nat} (hj : j < w_nf ci) : (w_fs G M ci k)[j]? = some (w_fv G M ci k j) := by simp [w_fs, List.getElem?_range hj]
theorem w_cellO {G : w_G} {M : w_M} {k ci : Nat} (h : u_is G k ci) (hc : ci < 12) : w_cell G M k = .inr (ci, w_fs G M ci k) := by
  unfold w_cell
  rw [h.2, if_pos hc]
theorem w_cellI {G : w_G} {M : w_M} {k : Nat} (h : u_is G k 12) : w_cell G M k = .inl (gC G 0, gN G k, .inl (fun j => iv M k j)) := by
  unfold w_cell
  rw [h.2]
  rfl
theorem w_cellJ {G : w_G} {M : w_M} {k : Nat} (h : u_is G k 13) : w_cell G M k = .inl (gC G 1, gN G k, .inr (.inl (fun j => jv M k j))) := by
  unfold w_cell
  rw [h.2]
  rfl
theorem w_cellZ {G : w_G} {M : w_M} {k : Nat} (h : u_is G k 14) : w_cell G M k = .inl (gC G 2, gN G k, .inl (fun j => iv M k j)) := by
  unfold w_cell
  rw [h.2]
  rfl
theorem w_cellR {G : w_G} {M : w_M} {k t : Nat} (h : u_is G k t) (ht : 15 ≤ t) : w_cell G M k = .inl (gC G (t - 12), gN G k, .inr (.inr (.inr (.inr (fun i => (gF G k i).map (gP G)))))) := by
  unfold w_cell
  rw [h.2, if_neg (by omega), if_neg (by omega), if_neg (by omega), if_neg (by omega)]
theorem w_oi {G : w_G} {M : w_M} {k j : Nat} {x : Int32} {b : Nat} (hb : b ≠ k) : w_cell G (wi M k j x) b = w_cell G M b := by
  have e : ∀ i, iv (wi M k j x) b i = iv M b i := fun i => by rw [iv_wi, if_neg (fun z => hb z.1)]
  have e2 : ∀ i, jv (wi M k j x) b i = jv M b i := fun i => rfl
  have e3 : w_fs G (wi M k j x) (gK G b) b = w_fs G M (gK G b) b := by
    unfold w_fs
    refine List.map_congr_left fun i _ => ?_
    unfold w_fv
    rw [e]
  unfold w_cell
  rw [e3]
  simp only [e, e2]
theorem w_oj {G : w_G} {M : w_M} {k j : Nat} {x : Int64} {b : Nat} (hb : b ≠ k) : w_cell G (wj M k j x) b = w_cell G M b := by
  have e : ∀ i, jv (wj M k j x) b i = jv M b i := fun i => by rw [jv_wj, if_neg (fun z => hb z.1)]
  have e3 : w_fs G (wj M k j x) (gK G b) b = w_fs G M (gK G b) b := rfl
  unfold w_cell
  rw [e3]
  simp only [e, iv_wj]
theorem w_fs_wi {G : w_G} {M : w_M} {ci k j : Nat} {x : Int32} (hr : w_rf ci j = false) : (w_fs G M ci k).set j (.int x) = w_fs G (wi M k j x) ci k := by
  refine List.ext_getElem? fun i => ?_
  by_cases hi : i < w_nf ci
  · by_cases hij : i = j
    · subst hij
      rw [List.getElem?_set_self (by rw [w_fs_len]; exact hi), w_fs_at hi]
      simp [w_fv, hr, iv_wi]
    · rw [List.getElem?_set_ne (Ne.symm hij), w_fs_at hi, w_fs_at hi]
      simp [w_fv, iv_wi, hij]
  · rw [List.getElem?_eq_none (by simp [w_fs_len]; omega), List.getElem?_eq_none (by simp [w_fs_len]; omega)]
/-- locals by number -/
def lv_get : List (Nat × Value) → Nat → Option Value
  | [], _ => none
  | (j, v) :: t, i => if j = i then some v else lv_get t i
def lv_put (lv : List (Nat × Value)) (i : Nat) (v : Value) : List (Nat × Value) := (i, v) :: lv.filter (fun q => !(q.1 == i) && !(q.1 + 1 == i && q.2.category == 2))
def lv_put2 (lv : List (Nat × Value)) (i : Nat) (v : Value) : List (Nat × Value) := (i, v) :: lv.filter (fun q => !(q.1 == i) && (!(q.1 == i + 1) && !(q.1 + 1 == i && q.2.category == 2)))
theorem lv_get_mem {lv : List (Nat × Value)} {i : Nat} {v : Value} (h : lv_get lv i = some v) : (i, v) ∈ lv := by
  induction lv with
  | nil => cases h
  | cons q t ih =>
    obtain ⟨j, w⟩ := q
    simp only [lv_get] at h
    split at h
    · next e => subst e; cases h; exact List.mem_cons_self
    · exact List.mem_cons_of_mem _ (ih h)
theorem lv_gat {ls : Array Slot} {nL : Nat} {lv : List (Nat × Value)} {i : Nat} {v : Value} (h : lv_has ls nL lv) (hg : lv_get lv i = some v) : ls[i]? = some (.val v) := h.2.2 (i, v) (lv_get_mem hg)
def lv_re (lv : List (Nat × Value)) (ks : List Nat) : List (Nat × Value) := ks.filterMap (fun i => (lv_get lv i).map (fun v => (i, v)))
theorem lv_rehas {ls : Array Slot} {nL : Nat} {lv : List (Nat × Value)} (h : lv_has ls nL lv) (ks : List Nat) : lv_has ls nL (lv_re lv ks) := by
  refine ⟨h.1, h.2.1, fun q hq => ?_⟩
  obtain ⟨i, -, hi⟩ := List.mem_filterMap.mp hq
  cases hv : lv_get lv i with
  | none => rw [hv] at hi; cases hi
  | some v => rw [hv] at hi; cases hi; exact lv_gat h hv
section US
variable {p : Program} {l : Launch} {e : Env} {R : Room} {s : State} {m : MethodId} {args : Array Value} {below : List Frame} {meth : Method} {c : Code} {Q : State → Prop} {cells slots : Nat}
variable {cc : ByteArray} {own : String} {nL : Nat} {D : va_G} {A : Nat → Prop} {H0 : Heap}
/-- the machine at pc, with locals lv, stack st, the world (G, M): it comes to Q -/
def u_S (p : Program) (l : Launch) (e : Env) (R : Room) (s : State) (m : MethodId) (args : Array Value) (below : List Frame) (meth : Method) (c : Code) (nL : Nat) (D : va_G) (A : Nat → Prop) (H0 : Heap) (cells slots : Nat) (Q : State → Prop) (pc : Nat) (lv : List (Nat × Value)) (st : List Value) (G : w_G) (M : w_M) : Prop :=
  ∀ (H : Heap) (locs : List Loc) (ls : Array Slot), va_P D vwCl (u_W G M) H → va_D A (u_W G M) → va_S A H0 H locs → lv_has ls nL lv → W p l e R s m args below meth c H locs cells slots Q (F0 m pc ls st)
/-- what stays through a method -/
def u_C (p : Program) (R : Room) (s : State) (m : MethodId) (args : Array Value) (c : Code) (cc : ByteArray) (own : String) (nL : Nat) (D : va_G) (A : Nat → Prop) (H0 : Heap) (cells slots : Nat) (G : w_G) : Prop :=
  CallFix p m c cc nL s args wsL_law own ∧ (va_K D vwCl (w_ty (gC G)) s ∧ u_N s) ∧ (∀ q, H0.size ≤ q → A q) ∧ cells ≤ R.cells ∧ slots ≤ R.slots
variable {G : w_G} {M : w_M} {pc : Nat} {lv : List (Nat × Value)} {st : List Value}

theorem u_iload_n (C : u_C p R s m args c cc own nL D A H0 cells slots G) {n : Fin 4} {x : Int32} (hd : decode cc pc = .ok (.iload_n n, 1)) (hv : lv_get lv (n : Nat) = some (.int x)) (k : u_S p l e R s m args below meth c nL D A H0 cells slots Q (pc + 1) lv (.int x :: st) G M) : u_S p l e R s m args below meth c nL D A H0 cells slots Q pc lv (st) G M := by
  intro H locs ls hP hD hS hl
  obtain ⟨⟨hx, hb, hml, hown, hts⟩, ⟨hK, hN⟩, hA, hcs⟩ := C
  exact lv_iload_n hx hb hd rfl (lv_gat hl hv) (k H locs ls hP hD hS hl)

theorem u_iload (C : u_C p R s m args c cc own nL D A H0 cells slots G) {i : Nat} {x : Int32} (hd : decode cc pc = .ok (.iload i, 2)) (hv : lv_get lv i = some (.int x)) (k : u_S p l e R s m args below meth c nL D A H0 cells slots Q (pc + 2) lv (.int x :: st) G M) : u_S p l e R s m args below meth c nL D A H0 cells slots Q pc lv (st) G M := by
  intro H locs ls hP hD hS hl
  obtain ⟨⟨hx, hb, hml, hown, hts⟩, ⟨hK, hN⟩, hA, hcs⟩ := C
  exact lv_iload hx hb hd (lv_gat hl hv) (k H locs ls hP hD hS hl)

theorem u_lload (C : u_C p R s m args c cc own nL D A H0 cells slots G) {i : Nat} {x : Int64} (hd : decode cc pc = .ok (.lload i, 2)) (hv : lv_get lv i = some (.long x)) (k : u_S p l e R s m args below meth c nL D A H0 cells slots Q (pc + 2) lv (.long x :: st) G M) : u_S p l e R s m args below meth c nL D A H0 cells slots Q pc lv (st) G M := by
  intro H locs ls hP hD hS hl
  obtain ⟨⟨hx, hb, hml, hown, hts⟩, ⟨hK, hN⟩, hA, hcs⟩ := C
  exact lv_lload hx hb hd (lv_gat hl hv) (k H locs ls hP hD hS hl)

theorem u_aload_n (C : u_C p R s m args c cc own nL D A H0 cells slots G) {n : Fin 4} {x : Nat} (hd : decode cc pc = .ok (.aload_n n, 1)) (hv : lv_get lv (n : Nat) = some (.ref x)) (k : u_S p l e R s m args below meth c nL D A H0 cells slots Q (pc + 1) lv (.ref x :: st) G M) : u_S p l e R s m args below meth c nL D A H0 cells slots Q pc lv (st) G M := by
  intro H locs ls hP hD hS hl
  obtain ⟨⟨hx, hb, hml, hown, hts⟩, ⟨hK, hN⟩, hA, hcs⟩ := C
  exact lv_aload_n hx hb hd rfl (lv_gat hl hv) (k H locs ls hP hD hS hl)

theorem u_aload (C : u_C p R s m args c cc own nL D A H0 cells slots G) {i : Nat} {x : Nat} (hd : decode cc pc = .ok (.aload i, 2)) (hv : lv_get lv i = some (.ref x)) (k : u_S p l e R s m args below meth c nL D A H0 cells slots Q (pc + 2) lv (.ref x :: st) G M) : u_S p l e R s m args below meth c nL D A H0 cells slots Q pc lv (st) G M := by
  intro H locs ls hP hD hS hl
  obtain ⟨⟨hx, hb, hml, hown, hts⟩, ⟨hK, hN⟩, hA, hcs⟩ := C
  exact lv_aload hx hb hd (lv_gat hl hv) (k H locs ls hP hD hS hl)

theorem u_istore_n (C : u_C p R s m args c cc own nL D A H0 cells slots G) {n : Fin 4} {x : Int32} (hd : decode cc pc = .ok (.istore_n n, 1)) (hn : (n : Nat) < nL) (k : u_S p l e R s m args below meth c nL D A H0 cells slots Q (pc + 1) (lv_put lv (n : Nat) (.int x)) st G M) : u_S p l e R s m args below meth c nL D A H0 cells slots Q pc lv (.int x :: st) G M := by
  intro H locs ls hP hD hS hl
  obtain ⟨⟨hx, hb, hml, hown, hts⟩, ⟨hK, hN⟩, hA, hcs⟩ := C
  exact lv_istore_n hx hb hd rfl hl hn rfl (fun ls hl => k H locs ls hP hD hS hl)

theorem u_istore (C : u_C p R s m args c cc own nL D A H0 cells slots G) {i : Nat} {x : Int32} (hd : decode cc pc = .ok (.istore i, 2)) (hn : i < nL) (k : u_S p l e R s m args below meth c nL D A H0 cells slots Q (pc + 2) (lv_put lv i (.int x)) st G M) : u_S p l e R s m args below meth c nL D A H0 cells slots Q pc lv (.int x :: st) G M := by
  intro H locs ls hP hD hS hl
  obtain ⟨⟨hx, hb, hml, hown, hts⟩, ⟨hK, hN⟩, hA, hcs⟩ := C
  exact lv_istore hx hb hd hl hn rfl (fun ls hl => k H locs ls hP hD hS hl)

theorem u_astore_n (C : u_C p R s m args c cc own nL D A H0 cells slots G) {n : Fin 4} {x : Nat} (hd : decode cc pc = .ok (.astore_n n, 1)) (hn : (n : Nat) < nL) (k : u_S p l e R s m args below meth c nL D A H0 cells slots Q (pc + 1) (lv_put lv (n : Nat) (.ref x)) st G M) : u_S p l e R s m args below meth c nL D A H0 cells slots Q pc lv (.ref x :: st) G M := by
  intro H locs ls hP hD hS hl
  obtain ⟨⟨hx, hb, hml, hown, hts⟩, ⟨hK, hN⟩, hA, hcs⟩ := C
  exact lv_astore_n hx hb hd rfl hl hn rfl (fun ls hl => k H locs ls hP hD hS hl)

theorem u_astore (C : u_C p R s m args c cc own nL D A H0 cells slots G) {i : Nat} {x : Nat} (hd : decode cc pc = .ok (.astore i, 2)) (hn : i < nL) (k : u_S p l e R s m args below meth c nL D A H0 cells slots Q (pc + 2) (lv_put lv i (.ref x)) st G M) : u_S p l e R s m args below meth c nL D A H0 cells slots Q pc lv (.ref x :: st) G M := by
  intro H locs ls hP hD hS hl
  obtain ⟨⟨hx, hb, hml, hown, hts⟩, ⟨hK, hN⟩, hA, hcs⟩ := C
  exact lv_astore hx hb hd hl hn rfl (fun ls hl => k H locs ls hP hD hS hl)

theorem u_lstore (C : u_C p R s m args c cc own nL D A H0 cells slots G) {i : Nat} {x : Int64} (hd : decode cc pc = .ok (.lstore i, 2)) (hn : i + 1 < nL) (k : u_S p l e R s m args below meth c nL D A H0 cells slots Q (pc + 2) (lv_put2 lv i (.long x)) st G M) : u_S p l e R s m args below meth c nL D A H0 cells slots Q pc lv (.long x :: st) G M := by
  intro H locs ls hP hD hS hl
  obtain ⟨⟨hx, hb, hml, hown, hts⟩, ⟨hK, hN⟩, hA, hcs⟩ := C
  exact lv_lstore hx hb hd hl hn rfl (fun ls hl => k H locs ls hP hD hS hl)

theorem u_iinc (C : u_C p R s m args c cc own nL D A H0 cells slots G) {i : Nat} {n : Int} {x : Int32} (hd : decode cc pc = .ok (.iinc i n, 3)) (hn : i < nL) (hv : lv_get lv i = some (.int x)) (k : u_S p l e R s m args below meth c nL D A H0 cells slots Q (pc + 3) (lv_put lv i (.int (x + Int32.ofInt n))) st G M) : u_S p l e R s m args below meth c nL D A H0 cells slots Q pc lv st G M := by
  intro H locs ls hP hD hS hl
  obtain ⟨⟨hx, hb, hml, hown, hts⟩, ⟨hK, hN⟩, hA, hcs⟩ := C
  obtain ⟨q, hq⟩ := List.getElem?_of_mem (lv_get_mem hv)
  exact lv_iinc hx hb hd hl (k := q) hq rfl hn rfl (fun ls hl => k H locs ls hP hD hS hl)

theorem u_iconst (C : u_C p R s m args c cc own nL D A H0 cells slots G) {n : Int} {v : Int32} (hd : decode cc pc = .ok (.iconst n, 1)) (hv : Int32.ofInt n = v) (k : u_S p l e R s m args below meth c nL D A H0 cells slots Q (pc + 1) lv (.int v :: st) G M) : u_S p l e R s m args below meth c nL D A H0 cells slots Q pc lv (st) G M := by
  intro H locs ls hP hD hS hl
  obtain ⟨⟨hx, hb, hml, hown, hts⟩, ⟨hK, hN⟩, hA, hcs⟩ := C
  exact lv_iconst hx hb hd hv (k H locs ls hP hD hS hl)

theorem u_bipush (C : u_C p R s m args c cc own nL D A H0 cells slots G) {n : Int} {v : Int32} (hd : decode cc pc = .ok (.bipush n, 2)) (hv : (Int8.ofInt n).toInt32 = v) (k : u_S p l e R s m args below meth c nL D A H0 cells slots Q (pc + 2) lv (.int v :: st) G M) : u_S p l e R s m args below meth c nL D A H0 cells slots Q pc lv (st) G M := by
  intro H locs ls hP hD hS hl
  obtain ⟨⟨hx, hb, hml, hown, hts⟩, ⟨hK, hN⟩, hA, hcs⟩ := C
  exact lv_bipush hx hb hd hv (k H locs ls hP hD hS hl)

theorem u_sipush (C : u_C p R s m args c cc own nL D A H0 cells slots G) {n : Int} {v : Int32} (hd : decode cc pc = .ok (.sipush n, 3)) (hv : (Int16.ofInt n).toInt32 = v) (k : u_S p l e R s m args below meth c nL D A H0 cells slots Q (pc + 3) lv (.int v :: st) G M) : u_S p l e R s m args below meth c nL D A H0 cells slots Q pc lv (st) G M := by
  intro H locs ls hP hD hS hl
  obtain ⟨⟨hx, hb, hml, hown, hts⟩, ⟨hK, hN⟩, hA, hcs⟩ := C
  exact lv_sipush hx hb hd hv (k H locs ls hP hD hS hl)

theorem u_lconst (C : u_C p R s m args c cc own nL D A H0 cells slots G) {n : Fin 2} {v : Int64} (hd : decode cc pc = .ok (.lconst n, 1)) (hv : Int64.ofNat (n : Nat) = v) (k : u_S p l e R s m args below meth c nL D A H0 cells slots Q (pc + 1) lv (.long v :: st) G M) : u_S p l e R s m args below meth c nL D A H0 cells slots Q pc lv (st) G M := by
  intro H locs ls hP hD hS hl
  obtain ⟨⟨hx, hb, hml, hown, hts⟩, ⟨hK, hN⟩, hA, hcs⟩ := C
  exact lv_lconst hx hb hd hv (k H locs ls hP hD hS hl)

theorem u_iadd (C : u_C p R s m args c cc own nL D A H0 cells slots G) {x y : Int32} (hd : decode cc pc = .ok (.iadd, 1)) (k : u_S p l e R s m args below meth c nL D A H0 cells slots Q (pc + 1) lv (.int (x + y) :: st) G M) : u_S p l e R s m args below meth c nL D A H0 cells slots Q pc lv (.int y :: .int x :: st) G M := by
  intro H locs ls hP hD hS hl
  obtain ⟨⟨hx, hb, hml, hown, hts⟩, ⟨hK, hN⟩, hA, hcs⟩ := C
  exact lv_iadd hx hb hd (k H locs ls hP hD hS hl)

theorem u_isub (C : u_C p R s m args c cc own nL D A H0 cells slots G) {x y : Int32} (hd : decode cc pc = .ok (.isub, 1)) (k : u_S p l e R s m args below meth c nL D A H0 cells slots Q (pc + 1) lv (.int (x - y) :: st) G M) : u_S p l e R s m args below meth c nL D A H0 cells slots Q pc lv (.int y :: .int x :: st) G M := by
  intro H locs ls hP hD hS hl
  obtain ⟨⟨hx, hb, hml, hown, hts⟩, ⟨hK, hN⟩, hA, hcs⟩ := C
  exact lv_isub hx hb hd (k H locs ls hP hD hS hl)

theorem u_imul (C : u_C p R s m args c cc own nL D A H0 cells slots G) {x y : Int32} (hd : decode cc pc = .ok (.imul, 1)) (k : u_S p l e R s m args below meth c nL D A H0 cells slots Q (pc + 1) lv (.int (x * y) :: st) G M) : u_S p l e R s m args below meth c nL D A H0 cells slots Q pc lv (.int y :: .int x :: st) G M := by
  intro H locs ls hP hD hS hl
  obtain ⟨⟨hx, hb, hml, hown, hts⟩, ⟨hK, hN⟩, hA, hcs⟩ := C
  exact lv_imul hx hb hd (k H locs ls hP hD hS hl)

theorem u_iand (C : u_C p R s m args c cc own nL D A H0 cells slots G) {x y : Int32} (hd : decode cc pc = .ok (.iand, 1)) (k : u_S p l e R s m args below meth c nL D A H0 cells slots Q (pc + 1) lv (.int (x &&& y) :: st) G M) : u_S p l e R s m args below meth c nL D A H0 cells slots Q pc lv (.int y :: .int x :: st) G M := by
  intro H locs ls hP hD hS hl
  obtain ⟨⟨hx, hb, hml, hown, hts⟩, ⟨hK, hN⟩, hA, hcs⟩ := C
  exact lv_iand hx hb hd (k H locs ls hP hD hS hl)

theorem u_ixor (C : u_C p R s m args c cc own nL D A H0 cells slots G) {x y : Int32} (hd : decode cc pc = .ok (.ixor, 1)) (k : u_S p l e R s m args below meth c nL D A H0 cells slots Q (pc + 1) lv (.int (x ^^^ y) :: st) G M) : u_S p l e R s m args below meth c nL D A H0 cells slots Q pc lv (.int y :: .int x :: st) G M := by
  intro H locs ls hP hD hS hl
  obtain ⟨⟨hx, hb, hml, hown, hts⟩, ⟨hK, hN⟩, hA, hcs⟩ := C
  exact lv_ixor hx hb hd (k H locs ls hP hD hS hl)

theorem u_idiv (C : u_C p R s m args c cc own nL D A H0 cells slots G) {x y : Int32} (hd : decode cc pc = .ok (.idiv, 1)) (hne : ¬ y = 0) (k : u_S p l e R s m args below meth c nL D A H0 cells slots Q (pc + 1) lv (.int (x / y) :: st) G M) : u_S p l e R s m args below meth c nL D A H0 cells slots Q pc lv (.int y :: .int x :: st) G M := by
  intro H locs ls hP hD hS hl
  obtain ⟨⟨hx, hb, hml, hown, hts⟩, ⟨hK, hN⟩, hA, hcs⟩ := C
  exact lv_idiv hx hb hd hne (k H locs ls hP hD hS hl)

theorem u_irem (C : u_C p R s m args c cc own nL D A H0 cells slots G) {x y : Int32} (hd : decode cc pc = .ok (.irem, 1)) (hne : ¬ y = 0) (k : u_S p l e R s m args below meth c nL D A H0 cells slots Q (pc + 1) lv (.int (x - x / y * y) :: st) G M) : u_S p l e R s m args below meth c nL D A H0 cells slots Q pc lv (.int y :: .int x :: st) G M := by
  intro H locs ls hP hD hS hl
  obtain ⟨⟨hx, hb, hml, hown, hts⟩, ⟨hK, hN⟩, hA, hcs⟩ := C
  exact lv_irem hx hb hd hne (k H locs ls hP hD hS hl)

theorem u_ineg (C : u_C p R s m args c cc own nL D A H0 cells slots G) {x : Int32} (hd : decode cc pc = .ok (.ineg, 1)) (k : u_S p l e R s m args below meth c nL D A H0 cells slots Q (pc + 1) lv (.int (-x) :: st) G M) : u_S p l e R s m args below meth c nL D A H0 cells slots Q pc lv (.int x :: st) G M := by
  intro H locs ls hP hD hS hl
  obtain ⟨⟨hx, hb, hml, hown, hts⟩, ⟨hK, hN⟩, hA, hcs⟩ := C
  exact lv_ineg hx hb hd (k H locs ls hP hD hS hl)

theorem u_ladd (C : u_C p R s m args c cc own nL D A H0 cells slots G) {x y : Int64} (hd : decode cc pc = .ok (.ladd, 1)) (k : u_S p l e R s m args below meth c nL D A H0 cells slots Q (pc + 1) lv (.long (x + y) :: st) G M) : u_S p l e R s m args below meth c nL D A H0 cells slots Q pc lv (.long y :: .long x :: st) G M := by
  intro H locs ls hP hD hS hl
  obtain ⟨⟨hx, hb, hml, hown, hts⟩, ⟨hK, hN⟩, hA, hcs⟩ := C
  exact lv_ladd hx hb hd (k H locs ls hP hD hS hl)

theorem u_lmul (C : u_C p R s m args c cc own nL D A H0 cells slots G) {x y : Int64} (hd : decode cc pc = .ok (.lmul, 1)) (k : u_S p l e R s m args below meth c nL D A H0 cells slots Q (pc + 1) lv (.long (x * y) :: st) G M) : u_S p l e R s m args below meth c nL D A H0 cells slots Q pc lv (.long y :: .long x :: st) G M := by
  intro H locs ls hP hD hS hl
  obtain ⟨⟨hx, hb, hml, hown, hts⟩, ⟨hK, hN⟩, hA, hcs⟩ := C
  exact lv_lmul hx hb hd (k H locs ls hP hD hS hl)

theorem u_ldiv (C : u_C p R s m args c cc own nL D A H0 cells slots G) {x y : Int64} (hd : decode cc pc = .ok (.ldiv, 1)) (hne : ¬ y = 0) (k : u_S p l e R s m args below meth c nL D A H0 cells slots Q (pc + 1) lv (.long (x / y) :: st) G M) : u_S p l e R s m args below meth c nL D A H0 cells slots Q pc lv (.long y :: .long x :: st) G M := by
  intro H locs ls hP hD hS hl
  obtain ⟨⟨hx, hb, hml, hown, hts⟩, ⟨hK, hN⟩, hA, hcs⟩ := C
  exact lv_ldiv hx hb hd hne (k H locs ls hP hD hS hl)

theorem u_lcmp (C : u_C p R s m args c cc own nL D A H0 cells slots G) {x y : Int64} (hd : decode cc pc = .ok (.lcmp, 1)) (k : u_S p l e R s m args below meth c nL D A H0 cells slots Q (pc + 1) lv (.int (lg_cmp x y) :: st) G M) : u_S p l e R s m args below meth c nL D A H0 cells slots Q pc lv (.long y :: .long x :: st) G M := by
  intro H locs ls hP hD hS hl
  obtain ⟨⟨hx, hb, hml, hown, hts⟩, ⟨hK, hN⟩, hA, hcs⟩ := C
  exact W.lcmp hx hb hd (k H locs ls hP hD hS hl)

theorem u_i2l (C : u_C p R s m args c cc own nL D A H0 cells slots G) {x : Int32} (hd : decode cc pc = .ok (.i2l, 1)) (k : u_S p l e R s m args below meth c nL D A H0 cells slots Q (pc + 1) lv (.long x.toInt64 :: st) G M) : u_S p l e R s m args below meth c nL D A H0 cells slots Q pc lv (.int x :: st) G M := by
  intro H locs ls hP hD hS hl
  obtain ⟨⟨hx, hb, hml, hown, hts⟩, ⟨hK, hN⟩, hA, hcs⟩ := C
  exact lv_i2l hx hb hd rfl (k H locs ls hP hD hS hl)

theorem u_l2i (C : u_C p R s m args c cc own nL D A H0 cells slots G) {x : Int64} (hd : decode cc pc = .ok (.l2i, 1)) (k : u_S p l e R s m args below meth c nL D A H0 cells slots Q (pc + 1) lv (.int x.toInt32 :: st) G M) : u_S p l e R s m args below meth c nL D A H0 cells slots Q pc lv (.long x :: st) G M := by
  intro H locs ls hP hD hS hl
  obtain ⟨⟨hx, hb, hml, hown, hts⟩, ⟨hK, hN⟩, hA, hcs⟩ := C
  exact lv_l2i hx hb hd rfl (k H locs ls hP hD hS hl)

theorem u_dup (C : u_C p R s m args c cc own nL D A H0 cells slots G) {v : Value} (hd : decode cc pc = .ok (.dup, 1)) (hc : v.category = 1) (k : u_S p l e R s m args below meth c nL D A H0 cells slots Q (pc + 1) lv (v :: v :: st) G M) : u_S p l e R s m args below meth c nL D A H0 cells slots Q pc lv (v :: st) G M := by
  intro H locs ls hP hD hS hl
  obtain ⟨⟨hx, hb, hml, hown, hts⟩, ⟨hK, hN⟩, hA, hcs⟩ := C
  exact lv_dup hx hb hd hc (k H locs ls hP hD hS hl)

theorem u_pop (C : u_C p R s m args c cc own nL D A H0 cells slots G) {v : Value} (hd : decode cc pc = .ok (.pop, 1)) (hc : v.category = 1) (k : u_S p l e R s m args below meth c nL D A H0 cells slots Q (pc + 1) lv (st) G M) : u_S p l e R s m args below meth c nL D A H0 cells slots Q pc lv (v :: st) G M := by
  intro H locs ls hP hD hS hl
  obtain ⟨⟨hx, hb, hml, hown, hts⟩, ⟨hK, hN⟩, hA, hcs⟩ := C
  exact lv_pop hx hb hd hc (k H locs ls hP hD hS hl)

theorem u_dup2 (C : u_C p R s m args c cc own nL D A H0 cells slots G) {v w : Value} (hd : decode cc pc = .ok (.dup2, 1)) (hc : v.category = 1) (hc2 : w.category = 1) (k : u_S p l e R s m args below meth c nL D A H0 cells slots Q (pc + 1) lv (v :: w :: v :: w :: st) G M) : u_S p l e R s m args below meth c nL D A H0 cells slots Q pc lv (v :: w :: st) G M := by
  intro H locs ls hP hD hS hl
  obtain ⟨⟨hx, hb, hml, hown, hts⟩, ⟨hK, hN⟩, hA, hcs⟩ := C
  exact lv_dup2_11 hx hb hd hc hc2 (k H locs ls hP hD hS hl)

theorem u_if_eq (C : u_C p R s m args c cc own nL D A H0 cells slots G) {x : Int32} {off : Int} {tgt : Nat} (hd : decode cc pc = .ok (.ifCond .eq off, 3)) (ht : (pc : Int) + off = (tgt : Int)) (kt : x = 0 → u_S p l e R s m args below meth c nL D A H0 cells slots Q tgt lv st G M) (kf : ¬ (x = 0) → u_S p l e R s m args below meth c nL D A H0 cells slots Q (pc + 3) lv st G M) : u_S p l e R s m args below meth c nL D A H0 cells slots Q pc lv (.int x :: st) G M := by
  intro H locs ls hP hD hS hl
  obtain ⟨⟨hx, hb, hml, hown, hts⟩, ⟨hK, hN⟩, hA, hcs⟩ := C
  exact lv_if_eq hx hb hd ht (fun z => kt z H locs ls hP hD hS hl) (fun z => kf z H locs ls hP hD hS hl)

theorem u_if_ne (C : u_C p R s m args c cc own nL D A H0 cells slots G) {x : Int32} {off : Int} {tgt : Nat} (hd : decode cc pc = .ok (.ifCond .ne off, 3)) (ht : (pc : Int) + off = (tgt : Int)) (kt : ¬ x = 0 → u_S p l e R s m args below meth c nL D A H0 cells slots Q tgt lv st G M) (kf : x = 0 → u_S p l e R s m args below meth c nL D A H0 cells slots Q (pc + 3) lv st G M) : u_S p l e R s m args below meth c nL D A H0 cells slots Q pc lv (.int x :: st) G M := by
  intro H locs ls hP hD hS hl
  obtain ⟨⟨hx, hb, hml, hown, hts⟩, ⟨hK, hN⟩, hA, hcs⟩ := C
  exact lv_if_ne hx hb hd ht (fun z => kt z H locs ls hP hD hS hl) (fun z => kf z H locs ls hP hD hS hl)

theorem u_if_lt (C : u_C p R s m args c cc own nL D A H0 cells slots G) {x : Int32} {off : Int} {tgt : Nat} (hd : decode cc pc = .ok (.ifCond .lt off, 3)) (ht : (pc : Int) + off = (tgt : Int)) (kt : x < 0 → u_S p l e R s m args below meth c nL D A H0 cells slots Q tgt lv st G M) (kf : ¬ (x < 0) → u_S p l e R s m args below meth c nL D A H0 cells slots Q (pc + 3) lv st G M) : u_S p l e R s m args below meth c nL D A H0 cells slots Q pc lv (.int x :: st) G M := by
  intro H locs ls hP hD hS hl
  obtain ⟨⟨hx, hb, hml, hown, hts⟩, ⟨hK, hN⟩, hA, hcs⟩ := C
  exact lv_if_lt hx hb hd ht (fun z => kt z H locs ls hP hD hS hl) (fun z => kf z H locs ls hP hD hS hl)

theorem u_if_ge (C : u_C p R s m args c cc own nL D A H0 cells slots G) {x : Int32} {off : Int} {tgt : Nat} (hd : decode cc pc = .ok (.ifCond .ge off, 3)) (ht : (pc : Int) + off = (tgt : Int)) (kt : 0 ≤ x → u_S p l e R s m args below meth c nL D A H0 cells slots Q tgt lv st G M) (kf : ¬ (0 ≤ x) → u_S p l e R s m args below meth c nL D A H0 cells slots Q (pc + 3) lv st G M) : u_S p l e R s m args below meth c nL D A H0 cells slots Q pc lv (.int x :: st) G M := by
  intro H locs ls hP hD hS hl
  obtain ⟨⟨hx, hb, hml, hown, hts⟩, ⟨hK, hN⟩, hA, hcs⟩ := C
  exact lv_if_ge hx hb hd ht (fun z => kt z H locs ls hP hD hS hl) (fun z => kf z H locs ls hP hD hS hl)

theorem u_if_gt (C : u_C p R s m args c cc own nL D A H0 cells slots G) {x : Int32} {off : Int} {tgt : Nat} (hd : decode cc pc = .ok (.ifCond .gt off, 3)) (ht : (pc : Int) + off = (tgt : Int)) (kt : 0 < x → u_S p l e R s m args below meth c nL D A H0 cells slots Q tgt lv st G M) (kf : ¬ (0 < x) → u_S p l e R s m args below meth c nL D A H0 cells slots Q (pc + 3) lv st G M) : u_S p l e R s m args below meth c nL D A H0 cells slots Q pc lv (.int x :: st) G M := by
  intro H locs ls hP hD hS hl
  obtain ⟨⟨hx, hb, hml, hown, hts⟩, ⟨hK, hN⟩, hA, hcs⟩ := C
  exact lv_if_gt hx hb hd ht (fun z => kt z H locs ls hP hD hS hl) (fun z => kf z H locs ls hP hD hS hl)

theorem u_if_le (C : u_C p R s m args c cc own nL D A H0 cells slots G) {x : Int32} {off : Int} {tgt : Nat} (hd : decode cc pc = .ok (.ifCond .le off, 3)) (ht : (pc : Int) + off = (tgt : Int)) (kt : x ≤ 0 → u_S p l e R s m args below meth c nL D A H0 cells slots Q tgt lv st G M) (kf : ¬ (x ≤ 0) → u_S p l e R s m args below meth c nL D A H0 cells slots Q (pc + 3) lv st G M) : u_S p l e R s m args below meth c nL D A H0 cells slots Q pc lv (.int x :: st) G M := by
  intro H locs ls hP hD hS hl
  obtain ⟨⟨hx, hb, hml, hown, hts⟩, ⟨hK, hN⟩, hA, hcs⟩ := C
  exact lv_if_le hx hb hd ht (fun z => kt z H locs ls hP hD hS hl) (fun z => kf z H locs ls hP hD hS hl)

theorem u_icmp_eq (C : u_C p R s m args c cc own nL D A H0 cells slots G) {x y : Int32} {off : Int} {tgt : Nat} (hd : decode cc pc = .ok (.if_icmp .eq off, 3)) (ht : (pc : Int) + off = (tgt : Int)) (kt : x = y → u_S p l e R s m args below meth c nL D A H0 cells slots Q tgt lv st G M) (kf : ¬ (x = y) → u_S p l e R s m args below meth c nL D A H0 cells slots Q (pc + 3) lv st G M) : u_S p l e R s m args below meth c nL D A H0 cells slots Q pc lv (.int y :: .int x :: st) G M := by
  intro H locs ls hP hD hS hl
  obtain ⟨⟨hx, hb, hml, hown, hts⟩, ⟨hK, hN⟩, hA, hcs⟩ := C
  exact lv_icmp_eq hx hb hd ht (fun z => kt z H locs ls hP hD hS hl) (fun z => kf z H locs ls hP hD hS hl)

theorem u_icmp_ne (C : u_C p R s m args c cc own nL D A H0 cells slots G) {x y : Int32} {off : Int} {tgt : Nat} (hd : decode cc pc = .ok (.if_icmp .ne off, 3)) (ht : (pc : Int) + off = (tgt : Int)) (kt : ¬ x = y → u_S p l e R s m args below meth c nL D A H0 cells slots Q tgt lv st G M) (kf : x = y → u_S p l e R s m args below meth c nL D A H0 cells slots Q (pc + 3) lv st G M) : u_S p l e R s m args below meth c nL D A H0 cells slots Q pc lv (.int y :: .int x :: st) G M := by
  intro H locs ls hP hD hS hl
  obtain ⟨⟨hx, hb, hml, hown, hts⟩, ⟨hK, hN⟩, hA, hcs⟩ := C
  exact lv_icmp_ne hx hb hd ht (fun z => kt z H locs ls hP hD hS hl) (fun z => kf z H locs ls hP hD hS hl)

theorem u_icmp_lt (C : u_C p R s m args c cc own nL D A H0 cells slots G) {x y : Int32} {off : Int} {tgt : Nat} (hd : decode cc pc = .ok (.if_icmp .lt off, 3)) (ht : (pc : Int) + off = (tgt : Int)) (kt : x < y → u_S p l e R s m args below meth c nL D A H0 cells slots Q tgt lv st G M) (kf : ¬ (x < y) → u_S p l e R s m args below meth c nL D A H0 cells slots Q (pc + 3) lv st G M) : u_S p l e R s m args below meth c nL D A H0 cells slots Q pc lv (.int y :: .int x :: st) G M := by
  intro H locs ls hP hD hS hl
  obtain ⟨⟨hx, hb, hml, hown, hts⟩, ⟨hK, hN⟩, hA, hcs⟩ := C
  exact lv_icmp_lt hx hb hd ht (fun z => kt z H locs ls hP hD hS hl) (fun z => kf z H locs ls hP hD hS hl)

theorem u_icmp_ge (C : u_C p R s m args c cc own nL D A H0 cells slots G) {x y : Int32} {off : Int} {tgt : Nat} (hd : decode cc pc = .ok (.if_icmp .ge off, 3)) (ht : (pc : Int) + off = (tgt : Int)) (kt : y ≤ x → u_S p l e R s m args below meth c nL D A H0 cells slots Q tgt lv st G M) (kf : ¬ (y ≤ x) → u_S p l e R s m args below meth c nL D A H0 cells slots Q (pc + 3) lv st G M) : u_S p l e R s m args below meth c nL D A H0 cells slots Q pc lv (.int y :: .int x :: st) G M := by
  intro H locs ls hP hD hS hl
  obtain ⟨⟨hx, hb, hml, hown, hts⟩, ⟨hK, hN⟩, hA, hcs⟩ := C
  exact lv_icmp_ge hx hb hd ht (fun z => kt z H locs ls hP hD hS hl) (fun z => kf z H locs ls hP hD hS hl)

theorem u_icmp_gt (C : u_C p R s m args c cc own nL D A H0 cells slots G) {x y : Int32} {off : Int} {tgt : Nat} (hd : decode cc pc = .ok (.if_icmp .gt off, 3)) (ht : (pc : Int) + off = (tgt : Int)) (kt : y < x → u_S p l e R s m args below meth c nL D A H0 cells slots Q tgt lv st G M) (kf : ¬ (y < x) → u_S p l e R s m args below meth c nL D A H0 cells slots Q (pc + 3) lv st G M) : u_S p l e R s m args below meth c nL D A H0 cells slots Q pc lv (.int y :: .int x :: st) G M := by
  intro H locs ls hP hD hS hl
  obtain ⟨⟨hx, hb, hml, hown, hts⟩, ⟨hK, hN⟩, hA, hcs⟩ := C
  exact lv_icmp_gt hx hb hd ht (fun z => kt z H locs ls hP hD hS hl) (fun z => kf z H locs ls hP hD hS hl)

theorem u_icmp_le (C : u_C p R s m args c cc own nL D A H0 cells slots G) {x y : Int32} {off : Int} {tgt : Nat} (hd : decode cc pc = .ok (.if_icmp .le off, 3)) (ht : (pc : Int) + off = (tgt : Int)) (kt : x ≤ y → u_S p l e R s m args below meth c nL D A H0 cells slots Q tgt lv st G M) (kf : ¬ (x ≤ y) → u_S p l e R s m args below meth c nL D A H0 cells slots Q (pc + 3) lv st G M) : u_S p l e R s m args below meth c nL D A H0 cells slots Q pc lv (.int y :: .int x :: st) G M := by
  intro H locs ls hP hD hS hl
  obtain ⟨⟨hx, hb, hml, hown, hts⟩, ⟨hK, hN⟩, hA, hcs⟩ := C
  exact lv_icmp_le hx hb hd ht (fun z => kt z H locs ls hP hD hS hl) (fun z => kf z H locs ls hP hD hS hl)

theorem u_goto (C : u_C p R s m args c cc own nL D A H0 cells slots G) {off : Int} {tgt : Nat} (hd : decode cc pc = .ok (.goto off, 3)) (ht : (pc : Int) + off = (tgt : Int)) (k : u_S p l e R s m args below meth c nL D A H0 cells slots Q tgt lv st G M) : u_S p l e R s m args below meth c nL D A H0 cells slots Q pc lv st G M := by
  intro H locs ls hP hD hS hl
  obtain ⟨⟨hx, hb, hml, hown, hts⟩, ⟨hK, hN⟩, hA, hcs⟩ := C
  exact lv_goto hx hb hd ht (k H locs ls hP hD hS hl)

theorem u_tin (C : u_C p R s m args c cc own nL D A H0 cells slots G) {dflt lo hi : Int} {offs : Array Int} {len : Nat} {x : Int32} {off : Int} {tgt : Nat} (hd : decode cc pc = .ok (.tableswitch dflt lo hi offs, len)) (h1 : ¬ x.toInt < lo) (h2 : ¬ hi < x.toInt) (ho : offs[(x.toInt - lo).toNat]? = some off) (ht : (pc : Int) + off = (tgt : Int)) (k : u_S p l e R s m args below meth c nL D A H0 cells slots Q tgt lv st G M) : u_S p l e R s m args below meth c nL D A H0 cells slots Q pc lv (.int x :: st) G M := by
  intro H locs ls hP hD hS hl
  obtain ⟨⟨hx, hb, hml, hown, hts⟩, ⟨hK, hN⟩, hA, hcs⟩ := C
  exact lv_tableIn hx hb hd h1 h2 ho ht (k H locs ls hP hD hS hl)

theorem u_tout (C : u_C p R s m args c cc own nL D A H0 cells slots G) {dflt lo hi : Int} {offs : Array Int} {len : Nat} {x : Int32} {tgt : Nat} (hd : decode cc pc = .ok (.tableswitch dflt lo hi offs, len)) (h : x.toInt < lo ∨ hi < x.toInt) (ht : (pc : Int) + dflt = (tgt : Int)) (k : u_S p l e R s m args below meth c nL D A H0 cells slots Q tgt lv st G M) : u_S p l e R s m args below meth c nL D A H0 cells slots Q pc lv (.int x :: st) G M := by
  intro H locs ls hP hD hS hl
  obtain ⟨⟨hx, hb, hml, hown, hts⟩, ⟨hK, hN⟩, hA, hcs⟩ := C
  exact lv_tableOut hx hb hd h ht (k H locs ls hP hD hS hl)

def u_gf (cc : ByteArray) (own : String) (pc ci j : Nat) : Prop := ∃ (index : Nat) (Cn : String) (T : u_T) (N : Nat), decode cc pc = .ok (.getfield index, 3) ∧ vwCl[ci]? = some (Cn, T, N) ∧ (∀ w ∈ u_ws Cn T N, w ∈ wsL_law) ∧ j < N ∧ Cond.fieldLink own index (T j).1 (T j).2.1 (T j).2.2.1 ∈ wsL_law ∧ j < w_nf ci ∧ ci < 12
def u_pf (cc : ByteArray) (own : String) (pc ci j : Nat) (fin : Bool) (t : FieldType) : Prop := ∃ (index : Nat) (Cn : String) (T : u_T) (N : Nat) (ty0 : Nat → FieldType), decode cc pc = .ok (.putfield index, 3) ∧ vwCl[ci]? = some (Cn, T, N) ∧ (∀ w ∈ u_ws Cn T N, w ∈ wsL_law) ∧ (∀ k, k < N → parseFieldDescriptor (T k).2.2.1 = some (ty0 k)) ∧ (∀ a, a < N → ∀ b, b < N → a ≠ b → (T a).2.1 ≠ (T b).2.1) ∧ j < N ∧ Cond.fieldLink own index (T j).1 (T j).2.1 (T j).2.2.1 ∈ wsL_law ∧ j < w_nf ci ∧ ci < 12 ∧ (T j).2.2.2 = fin ∧ parseFieldDescriptor (T j).2.2.1 = some t ∧ (fin = true → (T j).1 = own)
theorem u_getI (C : u_C p R s m args c cc own nL D A H0 cells slots G) {ci j k : Nat} (hg : u_gf cc own pc ci j) (hr : w_rf ci j = false) (hk : u_is G k ci) (kk : u_S p l e R s m args below meth c nL D A H0 cells slots Q (pc + 3) lv (.int (iv M k j) :: st) G M) : u_S p l e R s m args below meth c nL D A H0 cells slots Q pc lv (.ref (gP G k) :: st) G M := by
  intro H locs ls hP hD hS hl
  obtain ⟨⟨hx, hb, hml, hown, hts⟩, ⟨hK, hN⟩, hA, hcs⟩ := C
  obtain ⟨index, Cn, T, N, hd, hc, hin, hj, hlk, hj', hci⟩ := hg
  obtain ⟨q, hq, hw⟩ := u_get (M := M) hk.1
  rw [w_cellO hk hci] at hw
  exact va_get hx hb hts hin hown hK hP q hw hc j hj (hts _ hlk) (fun _ h => h) (v := .int (iv M k j)) (by rw [w_fs_at hj']; simp [w_fv, hr]) hd (kk H locs ls hP hD hS hl)

theorem u_getR (C : u_C p R s m args c cc own nL D A H0 cells slots G) {ci j k k2 : Nat} (hg : u_gf cc own pc ci j) (hr : w_rf ci j = true) (hk : u_is G k ci) (hf : gF G k j = some k2) (kk : u_S p l e R s m args below meth c nL D A H0 cells slots Q (pc + 3) lv (.ref (gP G k2) :: st) G M) : u_S p l e R s m args below meth c nL D A H0 cells slots Q pc lv (.ref (gP G k) :: st) G M := by
  intro H locs ls hP hD hS hl
  obtain ⟨⟨hx, hb, hml, hown, hts⟩, ⟨hK, hN⟩, hA, hcs⟩ := C
  obtain ⟨index, Cn, T, N, hd, hc, hin, hj, hlk, hj', hci⟩ := hg
  obtain ⟨q, hq, hw⟩ := u_get (M := M) hk.1
  rw [w_cellO hk hci] at hw
  exact va_get hx hb hts hin hown hK hP q hw hc j hj (hts _ hlk) (fun _ h => h) (v := .ref (gP G k2)) (by rw [w_fs_at hj']; simp [w_fv, hr, hf, va_rf]) hd (kk H locs ls hP hD hS hl)

theorem u_putI (C : u_C p R s m args c cc own nL D A H0 cells slots G) {ci j k : Nat} {x : Int32} (hg : u_pf cc own pc ci j false .int) (hr : w_rf ci j = false) (hk : u_is G k ci)  (kk : u_S p l e R s m args below meth c nL D A H0 cells slots Q (pc + 3) lv st G (wi M k j x)) : u_S p l e R s m args below meth c nL D A H0 cells slots Q pc lv (.int x :: .ref (gP G k) :: st) G M := by
  intro H locs ls hP hD hS hl
  obtain ⟨⟨hx, hb, hml, hown, hts⟩, ⟨hK, hN⟩, hA, hcs⟩ := C
  obtain ⟨index, Cn, T, N, ty0, hd, hc, hin, hty, hnm, hj, hlk, hj', hci, hfin, hd9, -⟩ := hg
  obtain ⟨q, hq, hw⟩ := u_get (M := M) hk.1
  rw [w_cellO hk hci] at hw
  have e : (u_W G M).set q (gP G k, .inr (ci, (w_fs G M ci k).set j (.int x))) = u_W G (wi M k j x) := by
    rw [w_fs_wi hr, ← w_cellO hk hci]
    exact u_setW hD hq (fun b hb => w_oi hb)
  refine va_put hx hb hts hin ty0 hty hnm hown hK hP hD hS q hw hc j hj (hts _ hlk) (fun _ h => h) hfin (v := .int x) hd9 rfl rfl (by rw [w_fs_len]; exact hj') hd (fun H locs hP hD hS => ?_)
  rw [e] at hP hD
  exact kk H locs ls hP hD hS hl

theorem u_putZ (C : u_C p R s m args c cc own nL D A H0 cells slots G) {ci j k : Nat} {x : Int32} (hg : u_pf cc own pc ci j false .boolean) (hr : w_rf ci j = false) (hk : u_is G k ci) (hx9 : x = 0 ∨ x = 1)  (kk : u_S p l e R s m args below meth c nL D A H0 cells slots Q (pc + 3) lv st G (wi M k j x)) : u_S p l e R s m args below meth c nL D A H0 cells slots Q pc lv (.int x :: .ref (gP G k) :: st) G M := by
  intro H locs ls hP hD hS hl
  obtain ⟨⟨hx, hb, hml, hown, hts⟩, ⟨hK, hN⟩, hA, hcs⟩ := C
  obtain ⟨index, Cn, T, N, ty0, hd, hc, hin, hty, hnm, hj, hlk, hj', hci, hfin, hd9, -⟩ := hg
  obtain ⟨q, hq, hw⟩ := u_get (M := M) hk.1
  rw [w_cellO hk hci] at hw
  have e : (u_W G M).set q (gP G k, .inr (ci, (w_fs G M ci k).set j (.int x))) = u_W G (wi M k j x) := by
    rw [w_fs_wi hr, ← w_cellO hk hci]
    exact u_setW hD hq (fun b hb => w_oi hb)
  refine va_put hx hb hts hin ty0 hty hnm hown hK hP hD hS q hw hc j hj (hts _ hlk) (fun _ h => h) hfin (v := .int x) hd9 (by rcases hx9 with rfl | rfl <;> rfl) (by rcases hx9 with rfl | rfl <;> rfl) (by rw [w_fs_len]; exact hj') hd (fun H locs hP hD hS => ?_)
  rw [e] at hP hD
  exact kk H locs ls hP hD hS hl

theorem u_upd {M : w_M} {k i : Nat} {x : Int32} : upd (fun j => iv M k j) i x = fun j => iv (wi M k i x) k j := by
  funext j
  simp [upd, iv_wi]

theorem u_updL {M : w_M} {k i : Nat} {x : Int64} : vp_updL (fun j => jv M k j) i x = fun j => jv (wj M k i x) k j := by
  funext j
  simp [vp_updL, jv_wj]

theorem u_iald (C : u_C p R s m args c cc own nL D A H0 cells slots G) {k : Nat} {i : Int32} (hd : decode cc pc = .ok (.iaload, 1)) (hk : u_is G k 12) (hi : vp_in i (gN G k)) (kk : u_S p l e R s m args below meth c nL D A H0 cells slots Q (pc + 1) lv (.int (iv M k i.toNatClampNeg) :: st) G M) : u_S p l e R s m args below meth c nL D A H0 cells slots Q pc lv (.int i :: .ref (gP G k) :: st) G M := by
  intro H locs ls hP hD hS hl
  obtain ⟨⟨hx, hb, hml, hown, hts⟩, ⟨hK, hN⟩, hA, hcs⟩ := C
  obtain ⟨q, hq, hw⟩ := u_get (M := M) hk.1
  rw [w_cellI hk] at hw
  exact va_iald hx hb hK hP q 0 hw rfl hi hd (kk H locs ls hP hD hS hl)

theorem u_zald (C : u_C p R s m args c cc own nL D A H0 cells slots G) {k : Nat} {i : Int32} (hd : decode cc pc = .ok (.baload, 1)) (hk : u_is G k 14) (hi : vp_in i (gN G k)) (kk : u_S p l e R s m args below meth c nL D A H0 cells slots Q (pc + 1) lv (.int (iv M k i.toNatClampNeg) :: st) G M) : u_S p l e R s m args below meth c nL D A H0 cells slots Q pc lv (.int i :: .ref (gP G k) :: st) G M := by
  intro H locs ls hP hD hS hl
  obtain ⟨⟨hx, hb, hml, hown, hts⟩, ⟨hK, hN⟩, hA, hcs⟩ := C
  obtain ⟨q, hq, hw⟩ := u_get (M := M) hk.1
  rw [w_cellZ hk] at hw
  exact va_zald hx hb hK hP q 2 hw rfl hi hd (kk H locs ls hP hD hS hl)

theorem u_lald (C : u_C p R s m args c cc own nL D A H0 cells slots G) {k : Nat} {i : Int32} (hd : decode cc pc = .ok (.laload, 1)) (hk : u_is G k 13) (hi : vp_in i (gN G k)) (kk : u_S p l e R s m args below meth c nL D A H0 cells slots Q (pc + 1) lv (.long (jv M k i.toNatClampNeg) :: st) G M) : u_S p l e R s m args below meth c nL D A H0 cells slots Q pc lv (.int i :: .ref (gP G k) :: st) G M := by
  intro H locs ls hP hD hS hl
  obtain ⟨⟨hx, hb, hml, hown, hts⟩, ⟨hK, hN⟩, hA, hcs⟩ := C
  obtain ⟨q, hq, hw⟩ := u_get (M := M) hk.1
  rw [w_cellJ hk] at hw
  exact va_lald hx hb hK hP q 1 hw rfl hi hd (kk H locs ls hP hD hS hl)

theorem u_iast (C : u_C p R s m args c cc own nL D A H0 cells slots G) {k : Nat} {i : Int32} {x : Int32} (hd : decode cc pc = .ok (.iastore, 1)) (hk : u_is G k 12) (hi : vp_in i (gN G k))  (kk : u_S p l e R s m args below meth c nL D A H0 cells slots Q (pc + 1) lv st G (wi M k i.toNatClampNeg x)) : u_S p l e R s m args below meth c nL D A H0 cells slots Q pc lv (.int x :: .int i :: .ref (gP G k) :: st) G M := by
  intro H locs ls hP hD hS hl
  obtain ⟨⟨hx, hb, hml, hown, hts⟩, ⟨hK, hN⟩, hA, hcs⟩ := C
  obtain ⟨q, hq, hw⟩ := u_get (M := M) hk.1
  rw [w_cellI hk] at hw
  have e : (u_W G M).set q (gP G k, .inl (gC G 0, gN G k, .inl (upd (fun j => iv M k j) i.toNatClampNeg x))) = u_W G (wi M k i.toNatClampNeg x) := by
    rw [u_upd, ← w_cellI hk]
    exact u_setW hD hq (fun b hb => w_oi hb)
  refine va_iast hx hb hK hP hD hS q 0 hw rfl hi hd (fun H locs hP hD hS => ?_)
  rw [e] at hP hD
  exact kk H locs ls hP hD hS hl

theorem u_zast (C : u_C p R s m args c cc own nL D A H0 cells slots G) {k : Nat} {i : Int32} {x : Int32} (hd : decode cc pc = .ok (.bastore, 1)) (hk : u_is G k 14) (hi : vp_in i (gN G k)) (hx9 : x = 0 ∨ x = 1) (kk : u_S p l e R s m args below meth c nL D A H0 cells slots Q (pc + 1) lv st G (wi M k i.toNatClampNeg x)) : u_S p l e R s m args below meth c nL D A H0 cells slots Q pc lv (.int x :: .int i :: .ref (gP G k) :: st) G M := by
  intro H locs ls hP hD hS hl
  obtain ⟨⟨hx, hb, hml, hown, hts⟩, ⟨hK, hN⟩, hA, hcs⟩ := C
  obtain ⟨q, hq, hw⟩ := u_get (M := M) hk.1
  rw [w_cellZ hk] at hw
  have e : (u_W G M).set q (gP G k, .inl (gC G 2, gN G k, .inl (upd (fun j => iv M k j) i.toNatClampNeg x))) = u_W G (wi M k i.toNatClampNeg x) := by
    rw [u_upd, ← w_cellZ hk]
    exact u_setW hD hq (fun b hb => w_oi hb)
  refine va_zast hx hb hK hP hD hS q 2 hw rfl hi hd (fun H locs hP hD hS => ?_)
  rw [show vp_nar .boolean x = x by rcases hx9 with rfl | rfl <;> rfl] at hP hD
  rw [e] at hP hD
  exact kk H locs ls hP hD hS hl

theorem u_last (C : u_C p R s m args c cc own nL D A H0 cells slots G) {k : Nat} {i : Int32} {x : Int64} (hd : decode cc pc = .ok (.lastore, 1)) (hk : u_is G k 13) (hi : vp_in i (gN G k))  (kk : u_S p l e R s m args below meth c nL D A H0 cells slots Q (pc + 1) lv st G (wj M k i.toNatClampNeg x)) : u_S p l e R s m args below meth c nL D A H0 cells slots Q pc lv (.long x :: .int i :: .ref (gP G k) :: st) G M := by
  intro H locs ls hP hD hS hl
  obtain ⟨⟨hx, hb, hml, hown, hts⟩, ⟨hK, hN⟩, hA, hcs⟩ := C
  obtain ⟨q, hq, hw⟩ := u_get (M := M) hk.1
  rw [w_cellJ hk] at hw
  have e : (u_W G M).set q (gP G k, .inl (gC G 1, gN G k, .inr (.inl (vp_updL (fun j => jv M k j) i.toNatClampNeg x)))) = u_W G (wj M k i.toNatClampNeg x) := by
    rw [u_updL, ← w_cellJ hk]
    exact u_setW hD hq (fun b hb => w_oj hb)
  refine va_last hx hb hK hP hD hS q 1 hw rfl hi hd (fun H locs hP hD hS => ?_)
  rw [e] at hP hD
  exact kk H locs ls hP hD hS hl

theorem u_aald (C : u_C p R s m args c cc own nL D A H0 cells slots G) {k k2 t : Nat} {i : Int32} (hd : decode cc pc = .ok (.aaload, 1)) (hk : u_is G k t) (ht : 15 ≤ t ∧ t ≤ 19) (hi : vp_in i (gN G k)) (hf : gF G k i.toNatClampNeg = some k2) (kk : u_S p l e R s m args below meth c nL D A H0 cells slots Q (pc + 1) lv (.ref (gP G k2) :: st) G M) : u_S p l e R s m args below meth c nL D A H0 cells slots Q pc lv (.int i :: .ref (gP G k) :: st) G M := by
  intro H locs ls hP hD hS hl
  obtain ⟨⟨hx, hb, hml, hown, hts⟩, ⟨hK, hN⟩, hA, hcs⟩ := C
  obtain ⟨q, hq, hw⟩ := u_get (M := M) hk.1
  rw [w_cellR hk ht.1] at hw
  obtain ⟨Cn, h9⟩ : ∃ Cn : String, (w_ty (gC G))[t - 12]? = some (gC G (t - 12), .object Cn) := by
    obtain ⟨h1, h2⟩ := ht
    rcases (show t = 15 ∨ t = 16 ∨ t = 17 ∨ t = 18 ∨ t = 19 by omega) with rfl | rfl | rfl | rfl | rfl <;> exact ⟨_, rfl⟩
  refine va_aldq hx hb hK hP q (t - 12) hw h9 hi hd ?_
  rw [hf]
  exact kk H locs ls hP hD hS hl

theorem u_alenI (C : u_C p R s m args c cc own nL D A H0 cells slots G) {k : Nat} (hd : decode cc pc = .ok (.arraylength, 1)) (hk : u_is G k 12) (kk : u_S p l e R s m args below meth c nL D A H0 cells slots Q (pc + 1) lv (.int (Int32.ofNat (gN G k)) :: st) G M) : u_S p l e R s m args below meth c nL D A H0 cells slots Q pc lv (.ref (gP G k) :: st) G M := by
  intro H locs ls hP hD hS hl
  obtain ⟨⟨hx, hb, hml, hown, hts⟩, ⟨hK, hN⟩, hA, hcs⟩ := C
  obtain ⟨q, hq, hw⟩ := u_get (M := M) hk.1
  rw [w_cellI hk] at hw
  exact va_alen hx hb hK hP q 0 hw rfl rfl hd (kk H locs ls hP hD hS hl)

theorem u_alenJ (C : u_C p R s m args c cc own nL D A H0 cells slots G) {k : Nat} (hd : decode cc pc = .ok (.arraylength, 1)) (hk : u_is G k 13) (kk : u_S p l e R s m args below meth c nL D A H0 cells slots Q (pc + 1) lv (.int (Int32.ofNat (gN G k)) :: st) G M) : u_S p l e R s m args below meth c nL D A H0 cells slots Q pc lv (.ref (gP G k) :: st) G M := by
  intro H locs ls hP hD hS hl
  obtain ⟨⟨hx, hb, hml, hown, hts⟩, ⟨hK, hN⟩, hA, hcs⟩ := C
  obtain ⟨q, hq, hw⟩ := u_get (M := M) hk.1
  rw [w_cellJ hk] at hw
  exact va_alen hx hb hK hP q 1 hw rfl rfl hd (kk H locs ls hP hD hS hl)

theorem u_alenR (C : u_C p R s m args c cc own nL D A H0 cells slots G) {k t : Nat} (hd : decode cc pc = .ok (.arraylength, 1)) (hk : u_is G k t) (ht : 15 ≤ t ∧ t ≤ 19) (kk : u_S p l e R s m args below meth c nL D A H0 cells slots Q (pc + 1) lv (.int (Int32.ofNat (gN G k)) :: st) G M) : u_S p l e R s m args below meth c nL D A H0 cells slots Q pc lv (.ref (gP G k) :: st) G M := by
  intro H locs ls hP hD hS hl
  obtain ⟨⟨hx, hb, hml, hown, hts⟩, ⟨hK, hN⟩, hA, hcs⟩ := C
  obtain ⟨q, hq, hw⟩ := u_get (M := M) hk.1
  rw [w_cellR hk ht.1] at hw
  obtain ⟨Cn, h9⟩ : ∃ Cn : String, (w_ty (gC G))[t - 12]? = some (gC G (t - 12), .object Cn) := by
    obtain ⟨h1, h2⟩ := ht
    rcases (show t = 15 ∨ t = 16 ∨ t = 17 ∨ t = 18 ∨ t = 19 by omega) with rfl | rfl | rfl | rfl | rfl <;> exact ⟨_, rfl⟩
  exact va_alen hx hb hK hP q (t - 12) hw h9 rfl hd (kk H locs ls hP hD hS hl)

theorem u_ialdN (C : u_C p R s m args c cc own nL D A H0 cells slots G) {k i N : Nat} (hd : decode cc pc = .ok (.iaload, 1)) (hk : u_is G k 12) (hn : gN G k = N) (hi : i < N) (hN : N < 2 ^ 31) (kk : u_S p l e R s m args below meth c nL D A H0 cells slots Q (pc + 1) lv (.int (iv M k i) :: st) G M) : u_S p l e R s m args below meth c nL D A H0 cells slots Q pc lv (.int (nI i) :: .ref (gP G k) :: st) G M := u_iald C hd hk (by rw [hn]; exact vp_in_nI hi hN) (by rw [nI_clamp (Nat.lt_trans hi hN)]; exact kk)
theorem u_zaldN (C : u_C p R s m args c cc own nL D A H0 cells slots G) {k i N : Nat} (hd : decode cc pc = .ok (.baload, 1)) (hk : u_is G k 14) (hn : gN G k = N) (hi : i < N) (hN : N < 2 ^ 31) (kk : u_S p l e R s m args below meth c nL D A H0 cells slots Q (pc + 1) lv (.int (iv M k i) :: st) G M) : u_S p l e R s m args below meth c nL D A H0 cells slots Q pc lv (.int (nI i) :: .ref (gP G k) :: st) G M := u_zald C hd hk (by rw [hn]; exact vp_in_nI hi hN) (by rw [nI_clamp (Nat.lt_trans hi hN)]; exact kk)
theorem u_laldN (C : u_C p R s m args c cc own nL D A H0 cells slots G) {k i N : Nat} (hd : decode cc pc = .ok (.laload, 1)) (hk : u_is G k 13) (hn : gN G k = N) (hi : i < N) (hN : N < 2 ^ 31) (kk : u_S p l e R s m args below meth c nL D A H0 cells slots Q (pc + 1) lv (.long (jv M k i) :: st) G M) : u_S p l e R s m args below meth c nL D A H0 cells slots Q pc lv (.int (nI i) :: .ref (gP G k) :: st) G M := u_lald C hd hk (by rw [hn]; exact vp_in_nI hi hN) (by rw [nI_clamp (Nat.lt_trans hi hN)]; exact kk)
theorem u_iastN (C : u_C p R s m args c cc own nL D A H0 cells slots G) {k i N : Nat} {x : Int32} (hd : decode cc pc = .ok (.iastore, 1)) (hk : u_is G k 12) (hn : gN G k = N) (hi : i < N) (hN : N < 2 ^ 31) (kk : u_S p l e R s m args below meth c nL D A H0 cells slots Q (pc + 1) lv st G (wi M k i x)) : u_S p l e R s m args below meth c nL D A H0 cells slots Q pc lv (.int x :: .int (nI i) :: .ref (gP G k) :: st) G M := u_iast C hd hk (by rw [hn]; exact vp_in_nI hi hN) (by rw [nI_clamp (Nat.lt_trans hi hN)]; exact kk)
theorem u_zastN (C : u_C p R s m args c cc own nL D A H0 cells slots G) {k i N : Nat} {x : Int32} (hd : decode cc pc = .ok (.bastore, 1)) (hk : u_is G k 14) (hn : gN G k = N) (hi : i < N) (hN : N < 2 ^ 31) (hx9 : x = 0 ∨ x = 1) (kk : u_S p l e R s m args below meth c nL D A H0 cells slots Q (pc + 1) lv st G (wi M k i x)) : u_S p l e R s m args below meth c nL D A H0 cells slots Q pc lv (.int x :: .int (nI i) :: .ref (gP G k) :: st) G M := u_zast C hd hk (by rw [hn]; exact vp_in_nI hi hN) hx9 (by rw [nI_clamp (Nat.lt_trans hi hN)]; exact kk)
theorem u_lastN (C : u_C p R s m args c cc own nL D A H0 cells slots G) {k i N : Nat} {x : Int64} (hd : decode cc pc = .ok (.lastore, 1)) (hk : u_is G k 13) (hn : gN G k = N) (hi : i < N) (hN : N < 2 ^ 31) (kk : u_S p l e R s m args below meth c nL D A H0 cells slots Q (pc + 1) lv st G (wj M k i x)) : u_S p l e R s m args below meth c nL D A H0 cells slots Q pc lv (.long x :: .int (nI i) :: .ref (gP G k) :: st) G M := u_last C hd hk (by rw [hn]; exact vp_in_nI hi hN) (by rw [nI_clamp (Nat.lt_trans hi hN)]; exact kk)
theorem u_aaldN (C : u_C p R s m args c cc own nL D A H0 cells slots G) {k k2 t i N : Nat} (hd : decode cc pc = .ok (.aaload, 1)) (hk : u_is G k t) (ht : 15 ≤ t ∧ t ≤ 19) (hn : gN G k = N) (hi : i < N) (hN : N < 2 ^ 31) (hf : gF G k i = some k2) (kk : u_S p l e R s m args below meth c nL D A H0 cells slots Q (pc + 1) lv (.ref (gP G k2) :: st) G M) : u_S p l e R s m args below meth c nL D A H0 cells slots Q pc lv (.int (nI i) :: .ref (gP G k) :: st) G M := u_aald C hd hk ht (by rw [hn]; exact vp_in_nI hi hN) (by rw [nI_clamp (Nat.lt_trans hi hN)]; exact hf) kk
theorem u_look (C : u_C p R s m args c cc own nL D A H0 cells slots G) {dflt : Int} {ps : Array (Int × Int)} {len : Nat} {x : Int32} {off : Int} {tgt : Nat} (hd : decode cc pc = .ok (.lookupswitch dflt ps, len)) (hp : (ps.toList.zip (ps.toList.drop 1)).all (fun (a, next) => a.1 < next.1) = true) (ho : Op.lookupswitch.offset ps.toList dflt x.toInt = off) (ht : (pc : Int) + off = (tgt : Int)) (k : u_S p l e R s m args below meth c nL D A H0 cells slots Q tgt lv st G M) : u_S p l e R s m args below meth c nL D A H0 cells slots Q pc lv (.int x :: st) G M := by
  intro H locs ls hP hD hS hl
  obtain ⟨⟨hx, hb, hml, hown, hts⟩, ⟨hK, hN⟩, hA, hcs⟩ := C
  exact lv_lookup hx hb hd hp ho ht (k H locs ls hP hD hS hl)

theorem u_lt {i n : Nat} (h : ¬ nI n ≤ nI i) (hi : i < 2 ^ 31) : i < n := by
  rcases Nat.lt_or_ge i n with q | q
  · exact q
  · exact absurd (nI_le q hi) h
theorem u_gei {i n : Nat} (h : nI n ≤ nI i) (hn : n < 2 ^ 31) (hi : i < 2 ^ 31) : n ≤ i := (nI_leI hn hi).mp h
def cN (x : Int32) : Nat := x.toNatClampNeg
theorem cN_nI {n : Nat} (h : n < 2 ^ 31) : cN (nI n) = n := nI_clamp h
def cB (x : Int32) (b : Nat) : Prop := ∃ n : Nat, n ≤ b ∧ x = nI n
theorem u_loc (ks : List Nat) {lv2 : List (Nat × Value)} (hs : lv_re lv ks = lv2) (k : u_S p l e R s m args below meth c nL D A H0 cells slots Q pc lv2 st G M) : u_S p l e R s m args below meth c nL D A H0 cells slots Q pc lv st G M := fun H locs ls hP hD hS hl => k H locs ls hP hD hS (hs ▸ lv_rehas hl ks)
theorem u_eq {lv2 : List (Nat × Value)} {st2 : List Value} {M2 : w_M} (k : u_S p l e R s m args below meth c nL D A H0 cells slots Q pc lv2 st2 G M2) (h1 : lv = lv2) (h2 : st = st2) (h3 : M = M2) : u_S p l e R s m args below meth c nL D A H0 cells slots Q pc lv st G M := by subst h1 h2 h3; exact k
theorem u_mmin (C : u_C p R s m args c cc own nL D A H0 cells slots G) {x y : Int32} {index : Nat} (hd : decode cc pc = .ok (.invokestatic index, 3)) (hlk : Cond.methodLink own index Lib.Math.min.name ∈ wsL_law) (hw : Cond.static Lib.Math.min.name ∈ wsL_law ∧ Cond.initialized "java/lang/Math" ∈ wsL_law ∧ Cond.code Lib.Math.min.name Lib.Math.min.code 2 (some .int) ∈ wsL_law) (hR : 1 ≤ R.frames ∧ 21 ≤ R.locals) (hcat : (st.map fun v => v.category).sum ≤ 8) (kk : u_S p l e R s m args below meth c nL D A H0 cells slots Q (pc + 3) lv (.int (if y < x then y else x) :: st) G M) : u_S p l e R s m args below meth c nL D A H0 cells slots Q pc lv (.int y :: .int x :: st) G M := by
  intro H locs ls hP hD hS hl
  obtain ⟨⟨hx, hb, hml, hown, hts⟩, ⟨hK, hN⟩, hA, hcs⟩ := C
  exact va_mmin hx hb (hml.trans hl.1.symm) hown (hts _ hlk) (hts _ hw.1) (hts _ hw.2.1) (hts _ hw.2.2) hR.1 (by omega) hcs.1 hcs.2 hd (kk H locs ls hP hD hS hl)

theorem u_mmax (C : u_C p R s m args c cc own nL D A H0 cells slots G) {x y : Int32} {index : Nat} (hd : decode cc pc = .ok (.invokestatic index, 3)) (hlk : Cond.methodLink own index Lib.Math.max.name ∈ wsL_law) (hw : Cond.static Lib.Math.max.name ∈ wsL_law ∧ Cond.initialized "java/lang/Math" ∈ wsL_law ∧ Cond.code Lib.Math.max.name Lib.Math.max.code 2 (some .int) ∈ wsL_law) (hR : 1 ≤ R.frames ∧ 21 ≤ R.locals) (hcat : (st.map fun v => v.category).sum ≤ 8) (kk : u_S p l e R s m args below meth c nL D A H0 cells slots Q (pc + 3) lv (.int (if x < y then y else x) :: st) G M) : u_S p l e R s m args below meth c nL D A H0 cells slots Q pc lv (.int y :: .int x :: st) G M := by
  intro H locs ls hP hD hS hl
  obtain ⟨⟨hx, hb, hml, hown, hts⟩, ⟨hK, hN⟩, hA, hcs⟩ := C
  exact va_mmax hx hb (hml.trans hl.1.symm) hown (hts _ hlk) (hts _ hw.1) (hts _ hw.2.1) (hts _ hw.2.2) hR.1 (by omega) hcs.1 hcs.2 hd (kk H locs ls hP hD hS hl)

end US
def u_rm (f n : Nat) : Room := { frames := f, cells := 0, slots := 0, locals := n }
def u_Pre (D : va_G) (G : w_G) (M : w_M) (sz : Nat) (av : List Value) : Array Value → State → Prop := va_Pc av (fun U => U.heap.size = sz ∧ va_P D vwCl (u_W G M) U.heap ∧ (va_K D vwCl (w_ty (gC G)) U ∧ u_N U) ∧ va_D (fun _ => True) (u_W G M))
def u_Bx (D : va_G) (G : w_G) (M : w_M) (t : State) : Prop := va_P D vwCl (u_W G M) t.heap
theorem u_blind {D : va_G} {G : w_G} {M : w_M} {sz : Nat} {av : List Value} : FrameBlind (u_Pre D G M sz av) := fun a U g mk q => by
  obtain ⟨q0, q1, qP, qK, qD⟩ := q
  exact ⟨q0, q1, qP, ⟨va_K.moved (u := U) (U := U.calling g mk a) (Vm.Alike.refl U.vm) qK.1, u_N.same (u := U) (U := U.calling g mk a) rfl qK.2⟩, qD⟩
def u_Mi (l : Launch) (D : va_G) (G : w_G) (y : MethodName) (cc : ByteArray) (maxL : Nat) (ret : Option FieldType) (f n : Nat) (av : List Value) (M : w_M) (post : Int32 → w_M → Prop) : Prop := ∀ sz : Nat, Met l y (u_ws2 y cc maxL ret) (u_rm f n) (u_Pre D G M sz av) (va_Qi post (u_Bx D G) (va_A (u_W G M) sz)) 0 0 (va_A (u_W G M) sz)
def u_Ml (l : Launch) (D : va_G) (G : w_G) (y : MethodName) (cc : ByteArray) (maxL : Nat) (ret : Option FieldType) (f n : Nat) (av : List Value) (M : w_M) (post : Int64 → w_M → Prop) : Prop := ∀ sz : Nat, Met l y (u_ws2 y cc maxL ret) (u_rm f n) (u_Pre D G M sz av) (va_Ql post (u_Bx D G) (va_A (u_W G M) sz)) 0 0 (va_A (u_W G M) sz)
def u_Mv (l : Launch) (D : va_G) (G : w_G) (y : MethodName) (cc : ByteArray) (maxL : Nat) (ret : Option FieldType) (f n : Nat) (av : List Value) (M : w_M) (post : w_M → Prop) : Prop := ∀ sz : Nat, Met l y (u_ws2 y cc maxL ret) (u_rm f n) (u_Pre D G M sz av) (va_Qv post (u_Bx D G) (va_A (u_W G M) sz)) 0 0 (va_A (u_W G M) sz)
/-- what the tables say of a callee -/
def u_me (y : MethodName) (cc : ByteArray) (maxL : Nat) (ret : Option FieldType) (n : Nat) : Prop := (y.cls ≠ "java/lang/invoke/MethodHandle" ∧ y.cls ≠ "java/lang/invoke/VarHandle" ∧ (parseMethodDescriptor y.desc).map (fun d => d.parameters.length) = some n) ∧ Cond.initialized y.cls ∈ wsL_law ∧ Cond.code y cc maxL ret ∈ wsL_law
def u_mev (y : MethodName) (cc : ByteArray) (maxL : Nat) (ret : Option FieldType) (n : Nat) : Prop := u_me y cc maxL ret n ∧ Cond.instanceMethod y ∈ wsL_law ∧ Cond.selects y.cls y y ∈ wsL_law
def u_mes (y : MethodName) (cc : ByteArray) (maxL : Nat) (ret : Option FieldType) (n : Nat) : Prop := u_me y cc maxL ret n ∧ Cond.static y ∈ wsL_law
theorem u_ofW {l : Launch} {y : MethodName} {ws ws' : List Cond} {rm : Room} {Pc : Array Value → State → Prop} {Qc : Array Value → State → Outcome → State → Prop} {mc ms : Nat} {free : Addr → Prop} {cc : ByteArray} {maxL : Nat} {ret : Option FieldType}
    (hy : plainFor y = true) (hw : ws = Cond.code y cc maxL ret :: ws')
    (body : ∀ p e s m args below meth c s₁, BodyLoose p l y (headSpec ws rm) cc maxL ret e s m args below meth c s₁ → c.maxLocals = maxL → Pc args s →
      W p l e (headSpec ws rm).room s m args below meth c s.heap [] 0 0 (MQ below Qc args s mc ms free) (entryFrame m args maxL)) : Met l y ws rm Pc Qc mc ms free := by
  refine MetFree.of_bodySF (code := cc) (maxLocals := maxL) (ret := ret) hy ?_ ?_
  · intro args s m h hn
    obtain ⟨meth, c, h1, h2, h3, h4, h5, h6, -, -⟩ := Cond.code_spec hn (atoms_spec (ws := ws) h _ (by rw [hw]; exact List.mem_cons_self))
    exact ⟨meth, c, h1, h2, h3, h4, h5, h6⟩
  · intro p e s m args below meth c s₁ B hml hP _
    have hh0 : s₁.heap = s.heap := by rw [B.state]; rfl
    obtain ⟨t, a1, o, b1, b2, b3⟩ := body p e s m args below meth c s₁ B hml hP s₁ hh0 (Stand.of_body B)
    exact ⟨t, o, a1, b1, b2, ⟨b3.1, b3.2⟩⟩
section UB
variable {l : Launch} {D : va_G} {G : w_G} {y : MethodName} {cc : ByteArray} {maxL f n : Nat} {av : List Value} {M : w_M}

theorem u_bodyi {ret : Option FieldType} {post : Int32 → w_M → Prop} (hy : plainFor y = true) (hav : (lg_sl av).length ≤ maxL) (hret : ret = some .int) (body : ∀ (p : Program) (e : Env) (s : State) (m : MethodId) (args : Array Value) (below : List Frame) (meth : Method) (c : Code) (A : Nat → Prop) (H0 : Heap) (Q : State → Prop), u_C p (u_rm f n) s m args c cc y.cls maxL D A H0 0 0 G → (∀ (pc : Nat) (lv : List (Nat × Value)) (r : Int32) (M2 : w_M), decode cc pc = .ok (.ireturn, 1) → post r M2 → u_S p l e (u_rm f n) s m args below meth c maxL D A H0 0 0 Q pc lv [.int r] G M2) → u_S p l e (u_rm f n) s m args below meth c maxL D A H0 0 0 Q 0 (lv_args 0 av) [] G M) : u_Mi l D G y cc maxL ret f n av M post := by
  intro sz
  refine u_ofW (cc := cc) (maxL := maxL) (ret := ret) hy rfl ?_
  intro p e s m args below meth c s₁ B hml hv
  obtain ⟨rfl, hsz, hP, hK, hD0⟩ := hv
  have hx := B.exec
  have hb := B.bytes
  have hr := B.returns
  have hts := atoms_spec (ws := u_ws2 y cc maxL ret) B.pre
  have hown : s.vm.findClass y.cls = some m.cls := findClass_of_methodNamed B.named
  have hlocks := B.notSynchronized
  subst hsz
  have hD := hD0.self (sz := s.heap.size)
  have hA : ∀ q : Nat, s.heap.size ≤ q → va_A (u_W G M) s.heap.size q := fun q h => Or.inr h
  have hS : va_S (va_A (u_W G M) s.heap.size) s.heap s.heap [] := va_S.rf
  have hl := lv_entry av (n := maxL) hav
  rw [lg_entry_eq]
  refine body p e s m av.toArray below meth c _ s.heap _ ⟨⟨hx, hb, hml, hown, fun w hw => hts w (List.mem_cons_of_mem _ hw)⟩, hK, hA, Nat.le_refl 0, Nat.le_refl 0⟩ ?_ s.heap [] _ hP hD hS hl
  intro pc lv r M2 hd hq H locs ls hP hD hS hl
  subst hret
  exact W.iret hx hb hr (fun t ht hW => ⟨⟨r, M2, rfl, hq, by rw [u_Bx, ht]; exact hP⟩, hS.F ht⟩) hS.2.2 hd

theorem u_bodyz {ret : Option FieldType} {post : Int32 → w_M → Prop} (hy : plainFor y = true) (hav : (lg_sl av).length ≤ maxL) (hret : ret = some .boolean) (body : ∀ (p : Program) (e : Env) (s : State) (m : MethodId) (args : Array Value) (below : List Frame) (meth : Method) (c : Code) (A : Nat → Prop) (H0 : Heap) (Q : State → Prop), u_C p (u_rm f n) s m args c cc y.cls maxL D A H0 0 0 G → (∀ (pc : Nat) (lv : List (Nat × Value)) (r : Int32) (M2 : w_M), decode cc pc = .ok (.ireturn, 1) → r = 0 ∨ r = 1 → post r M2 → u_S p l e (u_rm f n) s m args below meth c maxL D A H0 0 0 Q pc lv [.int r] G M2) → u_S p l e (u_rm f n) s m args below meth c maxL D A H0 0 0 Q 0 (lv_args 0 av) [] G M) : u_Mi l D G y cc maxL ret f n av M post := by
  intro sz
  refine u_ofW (cc := cc) (maxL := maxL) (ret := ret) hy rfl ?_
  intro p e s m args below meth c s₁ B hml hv
  obtain ⟨rfl, hsz, hP, hK, hD0⟩ := hv
  have hx := B.exec
  have hb := B.bytes
  have hr := B.returns
  have hts := atoms_spec (ws := u_ws2 y cc maxL ret) B.pre
  have hown : s.vm.findClass y.cls = some m.cls := findClass_of_methodNamed B.named
  have hlocks := B.notSynchronized
  subst hsz
  have hD := hD0.self (sz := s.heap.size)
  have hA : ∀ q : Nat, s.heap.size ≤ q → va_A (u_W G M) s.heap.size q := fun q h => Or.inr h
  have hS : va_S (va_A (u_W G M) s.heap.size) s.heap s.heap [] := va_S.rf
  have hl := lv_entry av (n := maxL) hav
  rw [lg_entry_eq]
  refine body p e s m av.toArray below meth c _ s.heap _ ⟨⟨hx, hb, hml, hown, fun w hw => hts w (List.mem_cons_of_mem _ hw)⟩, hK, hA, Nat.le_refl 0, Nat.le_refl 0⟩ ?_ s.heap [] _ hP hD hS hl
  intro pc lv r M2 hd h01 hq H locs ls hP hD hS hl
  subst hret
  exact W.zret hx hb hr (by rcases h01 with rfl | rfl <;> rfl) (fun t ht hW => ⟨⟨r, M2, rfl, hq, by rw [u_Bx, ht]; exact hP⟩, hS.F ht⟩) hS.2.2 hd

theorem u_bodyl {ret : Option FieldType} {post : Int64 → w_M → Prop} (hy : plainFor y = true) (hav : (lg_sl av).length ≤ maxL) (hret : ret = some .long) (body : ∀ (p : Program) (e : Env) (s : State) (m : MethodId) (args : Array Value) (below : List Frame) (meth : Method) (c : Code) (A : Nat → Prop) (H0 : Heap) (Q : State → Prop), u_C p (u_rm f n) s m args c cc y.cls maxL D A H0 0 0 G → (∀ (pc : Nat) (lv : List (Nat × Value)) (r : Int64) (M2 : w_M), decode cc pc = .ok (.lreturn, 1) → post r M2 → u_S p l e (u_rm f n) s m args below meth c maxL D A H0 0 0 Q pc lv [.long r] G M2) → u_S p l e (u_rm f n) s m args below meth c maxL D A H0 0 0 Q 0 (lv_args 0 av) [] G M) : u_Ml l D G y cc maxL ret f n av M post := by
  intro sz
  refine u_ofW (cc := cc) (maxL := maxL) (ret := ret) hy rfl ?_
  intro p e s m args below meth c s₁ B hml hv
  obtain ⟨rfl, hsz, hP, hK, hD0⟩ := hv
  have hx := B.exec
  have hb := B.bytes
  have hr := B.returns
  have hts := atoms_spec (ws := u_ws2 y cc maxL ret) B.pre
  have hown : s.vm.findClass y.cls = some m.cls := findClass_of_methodNamed B.named
  have hlocks := B.notSynchronized
  subst hsz
  have hD := hD0.self (sz := s.heap.size)
  have hA : ∀ q : Nat, s.heap.size ≤ q → va_A (u_W G M) s.heap.size q := fun q h => Or.inr h
  have hS : va_S (va_A (u_W G M) s.heap.size) s.heap s.heap [] := va_S.rf
  have hl := lv_entry av (n := maxL) hav
  rw [lg_entry_eq]
  refine body p e s m av.toArray below meth c _ s.heap _ ⟨⟨hx, hb, hml, hown, fun w hw => hts w (List.mem_cons_of_mem _ hw)⟩, hK, hA, Nat.le_refl 0, Nat.le_refl 0⟩ ?_ s.heap [] _ hP hD hS hl
  intro pc lv r M2 hd hq H locs ls hP hD hS hl
  subst hret
  exact W.lret hx hb hr (fun t ht hW => ⟨⟨r, M2, rfl, hq, by rw [u_Bx, ht]; exact hP⟩, hS.F ht⟩) hS.2.2 hd

theorem u_bodyv {ret : Option FieldType} {post : w_M → Prop} (hy : plainFor y = true) (hav : (lg_sl av).length ≤ maxL) (hret : ret = none) (body : ∀ (p : Program) (e : Env) (s : State) (m : MethodId) (args : Array Value) (below : List Frame) (meth : Method) (c : Code) (A : Nat → Prop) (H0 : Heap) (Q : State → Prop), u_C p (u_rm f n) s m args c cc y.cls maxL D A H0 0 0 G → (∀ (pc : Nat) (lv : List (Nat × Value)) (M2 : w_M), decode cc pc = .ok (.return_, 1) → post M2 → u_S p l e (u_rm f n) s m args below meth c maxL D A H0 0 0 Q pc lv [] G M2) → u_S p l e (u_rm f n) s m args below meth c maxL D A H0 0 0 Q 0 (lv_args 0 av) [] G M) : u_Mv l D G y cc maxL ret f n av M post := by
  intro sz
  refine u_ofW (cc := cc) (maxL := maxL) (ret := ret) hy rfl ?_
  intro p e s m args below meth c s₁ B hml hv
  obtain ⟨rfl, hsz, hP, hK, hD0⟩ := hv
  have hx := B.exec
  have hb := B.bytes
  have hr := B.returns
  have hts := atoms_spec (ws := u_ws2 y cc maxL ret) B.pre
  have hown : s.vm.findClass y.cls = some m.cls := findClass_of_methodNamed B.named
  have hlocks := B.notSynchronized
  subst hsz
  have hD := hD0.self (sz := s.heap.size)
  have hA : ∀ q : Nat, s.heap.size ≤ q → va_A (u_W G M) s.heap.size q := fun q h => Or.inr h
  have hS : va_S (va_A (u_W G M) s.heap.size) s.heap s.heap [] := va_S.rf
  have hl := lv_entry av (n := maxL) hav
  rw [lg_entry_eq]
  refine body p e s m av.toArray below meth c _ s.heap _ ⟨⟨hx, hb, hml, hown, fun w hw => hts w (List.mem_cons_of_mem _ hw)⟩, hK, hA, Nat.le_refl 0, Nat.le_refl 0⟩ ?_ s.heap [] _ hP hD hS hl
  intro pc lv M2 hd hq H locs ls hP hD hS hl
  subst hret
  exact W.vret hx hb hr (fun t ht hW => ⟨⟨M2, rfl, hq, by rw [u_Bx, ht]; exact hP⟩, hS.F ht⟩) hS.2.2 hd

end UB
section UCALL
variable {p : Program} {l : Launch} {e : Env} {R : Room} {s : State} {m : MethodId} {args : Array Value} {below : List Frame} {meth : Method} {c : Code} {Q : State → Prop} {cells slots : Nat}
variable {cc : ByteArray} {own : String} {nL : Nat} {D : va_G} {A : Nat → Prop} {H0 : Heap} {G : w_G} {M : w_M} {pc : Nat} {lv : List (Nat × Value)} {st st0 : List Value}
variable {y : MethodName} {bytes : ByteArray} {maxL f n na index : Nat} {ret : Option FieldType} {As : List Value}
theorem u_cb (C : u_C p R s m args c cc own nL D A H0 cells slots G) (hm : u_me y bytes maxL ret na) (hlk : Cond.methodLink own index y ∈ wsL_law) (hR : f + 1 ≤ R.frames ∧ 8 + (maxL + 11) + n ≤ R.locals) : CallB R s args own index y bytes maxL ret (u_ws2 y bytes maxL ret) (u_rm f n) 0 0 na := by
  obtain ⟨⟨hx, hb, hml, hown, hts⟩, ⟨hK, hN⟩, hA, hcs⟩ := C
  exact callB_of na hts (u_goodIn hm.2.2) rfl rfl rfl (hts _ hm.2.1) (hts _ hlk) hm.1 hR
theorem u_pres {H : Heap} {M : w_M} (hK : va_K D vwCl (w_ty (gC G)) s ∧ u_N s) (hP : va_P D vwCl (u_W G M) H) (hD : va_D A (u_W G M)) (av : List Value) : PreS s H (u_Pre D G M H.size av) av :=
  ⟨u_blind, fun U hU hW => ⟨rfl, by rw [hU], by rw [hU]; exact hP, ⟨va_K.moved hW.alike hK.1, u_N.warm hW hK.2⟩, hD.weaken (fun _ _ _ _ => trivial)⟩⟩
theorem u_hf {H : Heap} {locs : List Loc} (hA : ∀ q, H0.size ≤ q → A q) (hD : va_D A (u_W G M)) (hS : va_S A H0 H locs) : ∀ q, va_A (u_W G M) H.size q → A q := by
  intro q h
  rcases h with ⟨k, e, h⟩ | h
  · exact hD.2 k (q, e) h
  · exact hA q (Nat.le_trans hS.1 h)
theorem u_calliV {post : Int32 → w_M → Prop} (C : u_C p R s m args c cc own nL D A H0 cells slots G) (hm : u_mev y bytes maxL ret na) (hd : decode cc pc = .ok (.invokevirtual index, 3)) (hlk : Cond.methodLink own index y ∈ wsL_law) {b ci : Nat} (hb9 : u_is G b ci) (hcl : (vwCl[ci]?).map (fun q => q.1) = some y.cls) (hci : ci < 12) (hM : u_Mi l D G y bytes maxL ret f n (.ref (gP G b) :: As) M post) (hR : f + 1 ≤ R.frames ∧ 8 + (maxL + 11) + n ≤ R.locals) (hn : As.length = na) (hst : st0 = As.reverse ++ .ref (gP G b) :: st) (hcat : (st.map fun v => v.category).sum ≤ 8) (kk : ∀ (r : Int32) (M2 : w_M), post r M2 → u_S p l e R s m args below meth c nL D A H0 cells slots Q (pc + 3) lv (.int r :: st) G M2) : u_S p l e R s m args below meth c nL D A H0 cells slots Q pc lv st0 G M := by
  intro H locs ls hP hD hS hl
  obtain ⟨⟨hx, hb, hml, hown, hts⟩, ⟨hK, hN⟩, hA, hcs⟩ := id C
  obtain ⟨q9, hq9, hw9⟩ := u_get (M := M) hb9.1
  rw [w_cellO hb9 hci] at hw9
  obtain ⟨r9, hr9, hr8⟩ := Option.map_eq_some_iff.mp hcl
  have hrecv : ∃ cellB : Cell, H[gP G b]? = some cellB ∧ cellB.vm.isStatics = false ∧ s.vm.findClass y.cls = some cellB.cls := by
    rw [← hr8]
    exact va_recv hK hP hr9 hw9
  have hf := u_hf hA hD hS
  refine va_calli (va_runV (As := As) (rest := st) ⟨hx, hb, hml, hown, hts⟩ (hM H.size) ⟨u_cb C hm.1 hlk hR, hts _ hm.2.1, hts _ hm.2.2⟩ ⟨u_blind, hrecv, (u_pres ⟨hK, hN⟩ hP hD _).2⟩ rfl hn hl.1 hst (lv_room hcat) hd ⟨hcs.1, hcs.2⟩) hS (fun q _ h => hf q h) hf (fun r u t H1 locs ht hvm hw hB hz1 hk1 hS => ?_)
  have hP1 : va_P D vwCl (u_W G u) t.heap := hB
  rw [ht] at hP1
  exact kk r u hw H1 locs ls hP1 (u_DM u hD) hS hl

theorem u_calliV0 {post : Int32 → w_M → Prop} (C : u_C p R s m args c cc own nL D A H0 cells slots G) (hm : u_mev y bytes maxL ret 0) (hd : decode cc pc = .ok (.invokevirtual index, 3)) (hlk : Cond.methodLink own index y ∈ wsL_law) {b ci : Nat} (hb9 : u_is G b ci) (hcl : (vwCl[ci]?).map (fun q => q.1) = some y.cls) (hci : ci < 12) (hM : u_Mi l D G y bytes maxL ret f n (.ref (gP G b) :: []) M post) (hR : f + 1 ≤ R.frames ∧ 8 + (maxL + 11) + n ≤ R.locals) (hcat : (st.map fun v => v.category).sum ≤ 8) (kk : ∀ (r : Int32) (M2 : w_M), post r M2 → u_S p l e R s m args below meth c nL D A H0 cells slots Q (pc + 3) lv (.int r :: st) G M2) : u_S p l e R s m args below meth c nL D A H0 cells slots Q pc lv (.ref (gP G b) :: st) G M := u_calliV C hm hd hlk hb9 hcl hci hM hR (As := []) rfl rfl hcat kk
theorem u_calliV1 {post : Int32 → w_M → Prop} {a0 : Value} (C : u_C p R s m args c cc own nL D A H0 cells slots G) (hm : u_mev y bytes maxL ret 1) (hd : decode cc pc = .ok (.invokevirtual index, 3)) (hlk : Cond.methodLink own index y ∈ wsL_law) {b ci : Nat} (hb9 : u_is G b ci) (hcl : (vwCl[ci]?).map (fun q => q.1) = some y.cls) (hci : ci < 12) (hM : u_Mi l D G y bytes maxL ret f n (.ref (gP G b) :: [a0]) M post) (hR : f + 1 ≤ R.frames ∧ 8 + (maxL + 11) + n ≤ R.locals) (hcat : (st.map fun v => v.category).sum ≤ 8) (kk : ∀ (r : Int32) (M2 : w_M), post r M2 → u_S p l e R s m args below meth c nL D A H0 cells slots Q (pc + 3) lv (.int r :: st) G M2) : u_S p l e R s m args below meth c nL D A H0 cells slots Q pc lv (a0 :: .ref (gP G b) :: st) G M := u_calliV C hm hd hlk hb9 hcl hci hM hR (As := [a0]) rfl rfl hcat kk
theorem u_calliV2 {post : Int32 → w_M → Prop} {a0 a1 : Value} (C : u_C p R s m args c cc own nL D A H0 cells slots G) (hm : u_mev y bytes maxL ret 2) (hd : decode cc pc = .ok (.invokevirtual index, 3)) (hlk : Cond.methodLink own index y ∈ wsL_law) {b ci : Nat} (hb9 : u_is G b ci) (hcl : (vwCl[ci]?).map (fun q => q.1) = some y.cls) (hci : ci < 12) (hM : u_Mi l D G y bytes maxL ret f n (.ref (gP G b) :: [a0, a1]) M post) (hR : f + 1 ≤ R.frames ∧ 8 + (maxL + 11) + n ≤ R.locals) (hcat : (st.map fun v => v.category).sum ≤ 8) (kk : ∀ (r : Int32) (M2 : w_M), post r M2 → u_S p l e R s m args below meth c nL D A H0 cells slots Q (pc + 3) lv (.int r :: st) G M2) : u_S p l e R s m args below meth c nL D A H0 cells slots Q pc lv (a1 :: a0 :: .ref (gP G b) :: st) G M := u_calliV C hm hd hlk hb9 hcl hci hM hR (As := [a0, a1]) rfl rfl hcat kk
theorem u_calliV3 {post : Int32 → w_M → Prop} {a0 a1 a2 : Value} (C : u_C p R s m args c cc own nL D A H0 cells slots G) (hm : u_mev y bytes maxL ret 3) (hd : decode cc pc = .ok (.invokevirtual index, 3)) (hlk : Cond.methodLink own index y ∈ wsL_law) {b ci : Nat} (hb9 : u_is G b ci) (hcl : (vwCl[ci]?).map (fun q => q.1) = some y.cls) (hci : ci < 12) (hM : u_Mi l D G y bytes maxL ret f n (.ref (gP G b) :: [a0, a1, a2]) M post) (hR : f + 1 ≤ R.frames ∧ 8 + (maxL + 11) + n ≤ R.locals) (hcat : (st.map fun v => v.category).sum ≤ 8) (kk : ∀ (r : Int32) (M2 : w_M), post r M2 → u_S p l e R s m args below meth c nL D A H0 cells slots Q (pc + 3) lv (.int r :: st) G M2) : u_S p l e R s m args below meth c nL D A H0 cells slots Q pc lv (a2 :: a1 :: a0 :: .ref (gP G b) :: st) G M := u_calliV C hm hd hlk hb9 hcl hci hM hR (As := [a0, a1, a2]) rfl rfl hcat kk
theorem u_calliV4 {post : Int32 → w_M → Prop} {a0 a1 a2 a3 : Value} (C : u_C p R s m args c cc own nL D A H0 cells slots G) (hm : u_mev y bytes maxL ret 4) (hd : decode cc pc = .ok (.invokevirtual index, 3)) (hlk : Cond.methodLink own index y ∈ wsL_law) {b ci : Nat} (hb9 : u_is G b ci) (hcl : (vwCl[ci]?).map (fun q => q.1) = some y.cls) (hci : ci < 12) (hM : u_Mi l D G y bytes maxL ret f n (.ref (gP G b) :: [a0, a1, a2, a3]) M post) (hR : f + 1 ≤ R.frames ∧ 8 + (maxL + 11) + n ≤ R.locals) (hcat : (st.map fun v => v.category).sum ≤ 8) (kk : ∀ (r : Int32) (M2 : w_M), post r M2 → u_S p l e R s m args below meth c nL D A H0 cells slots Q (pc + 3) lv (.int r :: st) G M2) : u_S p l e R s m args below meth c nL D A H0 cells slots Q pc lv (a3 :: a2 :: a1 :: a0 :: .ref (gP G b) :: st) G M := u_calliV C hm hd hlk hb9 hcl hci hM hR (As := [a0, a1, a2, a3]) rfl rfl hcat kk
theorem u_calliV5 {post : Int32 → w_M → Prop} {a0 a1 a2 a3 a4 : Value} (C : u_C p R s m args c cc own nL D A H0 cells slots G) (hm : u_mev y bytes maxL ret 5) (hd : decode cc pc = .ok (.invokevirtual index, 3)) (hlk : Cond.methodLink own index y ∈ wsL_law) {b ci : Nat} (hb9 : u_is G b ci) (hcl : (vwCl[ci]?).map (fun q => q.1) = some y.cls) (hci : ci < 12) (hM : u_Mi l D G y bytes maxL ret f n (.ref (gP G b) :: [a0, a1, a2, a3, a4]) M post) (hR : f + 1 ≤ R.frames ∧ 8 + (maxL + 11) + n ≤ R.locals) (hcat : (st.map fun v => v.category).sum ≤ 8) (kk : ∀ (r : Int32) (M2 : w_M), post r M2 → u_S p l e R s m args below meth c nL D A H0 cells slots Q (pc + 3) lv (.int r :: st) G M2) : u_S p l e R s m args below meth c nL D A H0 cells slots Q pc lv (a4 :: a3 :: a2 :: a1 :: a0 :: .ref (gP G b) :: st) G M := u_calliV C hm hd hlk hb9 hcl hci hM hR (As := [a0, a1, a2, a3, a4]) rfl rfl hcat kk
theorem u_calliV6 {post : Int32 → w_M → Prop} {a0 a1 a2 a3 a4 a5 : Value} (C : u_C p R s m args c cc own nL D A H0 cells slots G) (hm : u_mev y bytes maxL ret 6) (hd : decode cc pc = .ok (.invokevirtual index, 3)) (hlk : Cond.methodLink own index y ∈ wsL_law) {b ci : Nat} (hb9 : u_is G b ci) (hcl : (vwCl[ci]?).map (fun q => q.1) = some y.cls) (hci : ci < 12) (hM : u_Mi l D G y bytes maxL ret f n (.ref (gP G b) :: [a0, a1, a2, a3, a4, a5]) M post) (hR : f + 1 ≤ R.frames ∧ 8 + (maxL + 11) + n ≤ R.locals) (hcat : (st.map fun v => v.category).sum ≤ 8) (kk : ∀ (r : Int32) (M2 : w_M), post r M2 → u_S p l e R s m args below meth c nL D A H0 cells slots Q (pc + 3) lv (.int r :: st) G M2) : u_S p l e R s m args below meth c nL D A H0 cells slots Q pc lv (a5 :: a4 :: a3 :: a2 :: a1 :: a0 :: .ref (gP G b) :: st) G M := u_calliV C hm hd hlk hb9 hcl hci hM hR (As := [a0, a1, a2, a3, a4, a5]) rfl rfl hcat kk
theorem u_calliV7 {post : Int32 → w_M → Prop} {a0 a1 a2 a3 a4 a5 a6 : Value} (C : u_C p R s m args c cc own nL D A H0 cells slots G) (hm : u_mev y bytes maxL ret 7) (hd : decode cc pc = .ok (.invokevirtual index, 3)) (hlk : Cond.methodLink own index y ∈ wsL_law) {b ci : Nat} (hb9 : u_is G b ci) (hcl : (vwCl[ci]?).map (fun q => q.1) = some y.cls) (hci : ci < 12) (hM : u_Mi l D G y bytes maxL ret f n (.ref (gP G b) :: [a0, a1, a2, a3, a4, a5, a6]) M post) (hR : f + 1 ≤ R.frames ∧ 8 + (maxL + 11) + n ≤ R.locals) (hcat : (st.map fun v => v.category).sum ≤ 8) (kk : ∀ (r : Int32) (M2 : w_M), post r M2 → u_S p l e R s m args below meth c nL D A H0 cells slots Q (pc + 3) lv (.int r :: st) G M2) : u_S p l e R s m args below meth c nL D A H0 cells slots Q pc lv (a6 :: a5 :: a4 :: a3 :: a2 :: a1 :: a0 :: .ref (gP G b) :: st) G M := u_calliV C hm hd hlk hb9 hcl hci hM hR (As := [a0, a1, a2, a3, a4, a5, a6]) rfl rfl hcat kk
theorem u_calliS {post : Int32 → w_M → Prop} (C : u_C p R s m args c cc own nL D A H0 cells slots G) (hm : u_mes y bytes maxL ret na) (hd : decode cc pc = .ok (.invokestatic index, 3)) (hlk : Cond.methodLink own index y ∈ wsL_law) (hM : u_Mi l D G y bytes maxL ret f n As M post) (hR : f + 1 ≤ R.frames ∧ 8 + (maxL + 11) + n ≤ R.locals) (hn : As.length = na) (hst : st0 = As.reverse ++ st) (hcat : (st.map fun v => v.category).sum ≤ 8) (kk : ∀ (r : Int32) (M2 : w_M), post r M2 → u_S p l e R s m args below meth c nL D A H0 cells slots Q (pc + 3) lv (.int r :: st) G M2) : u_S p l e R s m args below meth c nL D A H0 cells slots Q pc lv st0 G M := by
  intro H locs ls hP hD hS hl
  obtain ⟨⟨hx, hb, hml, hown, hts⟩, ⟨hK, hN⟩, hA, hcs⟩ := id C
  have hf := u_hf hA hD hS
  refine va_calli (va_runS (As := As) (rest := st) ⟨hx, hb, hml, hown, hts⟩ (hM H.size) ⟨u_cb C hm.1 hlk hR, hts _ hm.2⟩ (u_pres ⟨hK, hN⟩ hP hD _) rfl hn hl.1 hst (lv_room hcat) hd ⟨hcs.1, hcs.2⟩) hS (fun q _ h => hf q h) hf (fun r u t H1 locs ht hvm hw hB hz1 hk1 hS => ?_)
  have hP1 : va_P D vwCl (u_W G u) t.heap := hB
  rw [ht] at hP1
  exact kk r u hw H1 locs ls hP1 (u_DM u hD) hS hl

theorem u_calliS0 {post : Int32 → w_M → Prop} (C : u_C p R s m args c cc own nL D A H0 cells slots G) (hm : u_mes y bytes maxL ret 0) (hd : decode cc pc = .ok (.invokestatic index, 3)) (hlk : Cond.methodLink own index y ∈ wsL_law) (hM : u_Mi l D G y bytes maxL ret f n [] M post) (hR : f + 1 ≤ R.frames ∧ 8 + (maxL + 11) + n ≤ R.locals) (hcat : (st.map fun v => v.category).sum ≤ 8) (kk : ∀ (r : Int32) (M2 : w_M), post r M2 → u_S p l e R s m args below meth c nL D A H0 cells slots Q (pc + 3) lv (.int r :: st) G M2) : u_S p l e R s m args below meth c nL D A H0 cells slots Q pc lv (st) G M := u_calliS C hm hd hlk hM hR (As := []) rfl rfl hcat kk
theorem u_calliS1 {post : Int32 → w_M → Prop} {a0 : Value} (C : u_C p R s m args c cc own nL D A H0 cells slots G) (hm : u_mes y bytes maxL ret 1) (hd : decode cc pc = .ok (.invokestatic index, 3)) (hlk : Cond.methodLink own index y ∈ wsL_law) (hM : u_Mi l D G y bytes maxL ret f n [a0] M post) (hR : f + 1 ≤ R.frames ∧ 8 + (maxL + 11) + n ≤ R.locals) (hcat : (st.map fun v => v.category).sum ≤ 8) (kk : ∀ (r : Int32) (M2 : w_M), post r M2 → u_S p l e R s m args below meth c nL D A H0 cells slots Q (pc + 3) lv (.int r :: st) G M2) : u_S p l e R s m args below meth c nL D A H0 cells slots Q pc lv (a0 :: st) G M := u_calliS C hm hd hlk hM hR (As := [a0]) rfl rfl hcat kk
theorem u_calliS2 {post : Int32 → w_M → Prop} {a0 a1 : Value} (C : u_C p R s m args c cc own nL D A H0 cells slots G) (hm : u_mes y bytes maxL ret 2) (hd : decode cc pc = .ok (.invokestatic index, 3)) (hlk : Cond.methodLink own index y ∈ wsL_law) (hM : u_Mi l D G y bytes maxL ret f n [a0, a1] M post) (hR : f + 1 ≤ R.frames ∧ 8 + (maxL + 11) + n ≤ R.locals) (hcat : (st.map fun v => v.category).sum ≤ 8) (kk : ∀ (r : Int32) (M2 : w_M), post r M2 → u_S p l e R s m args below meth c nL D A H0 cells slots Q (pc + 3) lv (.int r :: st) G M2) : u_S p l e R s m args below meth c nL D A H0 cells slots Q pc lv (a1 :: a0 :: st) G M := u_calliS C hm hd hlk hM hR (As := [a0, a1]) rfl rfl hcat kk
theorem u_calliS3 {post : Int32 → w_M → Prop} {a0 a1 a2 : Value} (C : u_C p R s m args c cc own nL D A H0 cells slots G) (hm : u_mes y bytes maxL ret 3) (hd : decode cc pc = .ok (.invokestatic index, 3)) (hlk : Cond.methodLink own index y ∈ wsL_law) (hM : u_Mi l D G y bytes maxL ret f n [a0, a1, a2] M post) (hR : f + 1 ≤ R.frames ∧ 8 + (maxL + 11) + n ≤ R.locals) (hcat : (st.map fun v => v.category).sum ≤ 8) (kk : ∀ (r : Int32) (M2 : w_M), post r M2 → u_S p l e R s m args below meth c nL D A H0 cells slots Q (pc + 3) lv (.int r :: st) G M2) : u_S p l e R s m args below meth c nL D A H0 cells slots Q pc lv (a2 :: a1 :: a0 :: st) G M := u_calliS C hm hd hlk hM hR (As := [a0, a1, a2]) rfl rfl hcat kk
theorem u_calliS4 {post : Int32 → w_M → Prop} {a0 a1 a2 a3 : Value} (C : u_C p R s m args c cc own nL D A H0 cells slots G) (hm : u_mes y bytes maxL ret 4) (hd : decode cc pc = .ok (.invokestatic index, 3)) (hlk : Cond.methodLink own index y ∈ wsL_law) (hM : u_Mi l D G y bytes maxL ret f n [a0, a1, a2, a3] M post) (hR : f + 1 ≤ R.frames ∧ 8 + (maxL + 11) + n ≤ R.locals) (hcat : (st.map fun v => v.category).sum ≤ 8) (kk : ∀ (r : Int32) (M2 : w_M), post r M2 → u_S p l e R s m args below meth c nL D A H0 cells slots Q (pc + 3) lv (.int r :: st) G M2) : u_S p l e R s m args below meth c nL D A H0 cells slots Q pc lv (a3 :: a2 :: a1 :: a0 :: st) G M := u_calliS C hm hd hlk hM hR (As := [a0, a1, a2, a3]) rfl rfl hcat kk
theorem u_calliS5 {post : Int32 → w_M → Prop} {a0 a1 a2 a3 a4 : Value} (C : u_C p R s m args c cc own nL D A H0 cells slots G) (hm : u_mes y bytes maxL ret 5) (hd : decode cc pc = .ok (.invokestatic index, 3)) (hlk : Cond.methodLink own index y ∈ wsL_law) (hM : u_Mi l D G y bytes maxL ret f n [a0, a1, a2, a3, a4] M post) (hR : f + 1 ≤ R.frames ∧ 8 + (maxL + 11) + n ≤ R.locals) (hcat : (st.map fun v => v.category).sum ≤ 8) (kk : ∀ (r : Int32) (M2 : w_M), post r M2 → u_S p l e R s m args below meth c nL D A H0 cells slots Q (pc + 3) lv (.int r :: st) G M2) : u_S p l e R s m args below meth c nL D A H0 cells slots Q pc lv (a4 :: a3 :: a2 :: a1 :: a0 :: st) G M := u_calliS C hm hd hlk hM hR (As := [a0, a1, a2, a3, a4]) rfl rfl hcat kk
theorem u_calliS6 {post : Int32 → w_M → Prop} {a0 a1 a2 a3 a4 a5 : Value} (C : u_C p R s m args c cc own nL D A H0 cells slots G) (hm : u_mes y bytes maxL ret 6) (hd : decode cc pc = .ok (.invokestatic index, 3)) (hlk : Cond.methodLink own index y ∈ wsL_law) (hM : u_Mi l D G y bytes maxL ret f n [a0, a1, a2, a3, a4, a5] M post) (hR : f + 1 ≤ R.frames ∧ 8 + (maxL + 11) + n ≤ R.locals) (hcat : (st.map fun v => v.category).sum ≤ 8) (kk : ∀ (r : Int32) (M2 : w_M), post r M2 → u_S p l e R s m args below meth c nL D A H0 cells slots Q (pc + 3) lv (.int r :: st) G M2) : u_S p l e R s m args below meth c nL D A H0 cells slots Q pc lv (a5 :: a4 :: a3 :: a2 :: a1 :: a0 :: st) G M := u_calliS C hm hd hlk hM hR (As := [a0, a1, a2, a3, a4, a5]) rfl rfl hcat kk
theorem u_calliS7 {post : Int32 → w_M → Prop} {a0 a1 a2 a3 a4 a5 a6 : Value} (C : u_C p R s m args c cc own nL D A H0 cells slots G) (hm : u_mes y bytes maxL ret 7) (hd : decode cc pc = .ok (.invokestatic index, 3)) (hlk : Cond.methodLink own index y ∈ wsL_law) (hM : u_Mi l D G y bytes maxL ret f n [a0, a1, a2, a3, a4, a5, a6] M post) (hR : f + 1 ≤ R.frames ∧ 8 + (maxL + 11) + n ≤ R.locals) (hcat : (st.map fun v => v.category).sum ≤ 8) (kk : ∀ (r : Int32) (M2 : w_M), post r M2 → u_S p l e R s m args below meth c nL D A H0 cells slots Q (pc + 3) lv (.int r :: st) G M2) : u_S p l e R s m args below meth c nL D A H0 cells slots Q pc lv (a6 :: a5 :: a4 :: a3 :: a2 :: a1 :: a0 :: st) G M := u_calliS C hm hd hlk hM hR (As := [a0, a1, a2, a3, a4, a5, a6]) rfl rfl hcat kk
theorem u_calllV {post : Int64 → w_M → Prop} (C : u_C p R s m args c cc own nL D A H0 cells slots G) (hm : u_mev y bytes maxL ret na) (hd : decode cc pc = .ok (.invokevirtual index, 3)) (hlk : Cond.methodLink own index y ∈ wsL_law) {b ci : Nat} (hb9 : u_is G b ci) (hcl : (vwCl[ci]?).map (fun q => q.1) = some y.cls) (hci : ci < 12) (hM : u_Ml l D G y bytes maxL ret f n (.ref (gP G b) :: As) M post) (hR : f + 1 ≤ R.frames ∧ 8 + (maxL + 11) + n ≤ R.locals) (hn : As.length = na) (hst : st0 = As.reverse ++ .ref (gP G b) :: st) (hcat : (st.map fun v => v.category).sum ≤ 8) (kk : ∀ (r : Int64) (M2 : w_M), post r M2 → u_S p l e R s m args below meth c nL D A H0 cells slots Q (pc + 3) lv (.long r :: st) G M2) : u_S p l e R s m args below meth c nL D A H0 cells slots Q pc lv st0 G M := by
  intro H locs ls hP hD hS hl
  obtain ⟨⟨hx, hb, hml, hown, hts⟩, ⟨hK, hN⟩, hA, hcs⟩ := id C
  obtain ⟨q9, hq9, hw9⟩ := u_get (M := M) hb9.1
  rw [w_cellO hb9 hci] at hw9
  obtain ⟨r9, hr9, hr8⟩ := Option.map_eq_some_iff.mp hcl
  have hrecv : ∃ cellB : Cell, H[gP G b]? = some cellB ∧ cellB.vm.isStatics = false ∧ s.vm.findClass y.cls = some cellB.cls := by
    rw [← hr8]
    exact va_recv hK hP hr9 hw9
  have hf := u_hf hA hD hS
  refine va_calll (va_runV (As := As) (rest := st) ⟨hx, hb, hml, hown, hts⟩ (hM H.size) ⟨u_cb C hm.1 hlk hR, hts _ hm.2.1, hts _ hm.2.2⟩ ⟨u_blind, hrecv, (u_pres ⟨hK, hN⟩ hP hD _).2⟩ rfl hn hl.1 hst (lv_room hcat) hd ⟨hcs.1, hcs.2⟩) hS (fun q _ h => hf q h) hf (fun r u t H1 locs ht hvm hw hB hz1 hk1 hS => ?_)
  have hP1 : va_P D vwCl (u_W G u) t.heap := hB
  rw [ht] at hP1
  exact kk r u hw H1 locs ls hP1 (u_DM u hD) hS hl

theorem u_calllV0 {post : Int64 → w_M → Prop} (C : u_C p R s m args c cc own nL D A H0 cells slots G) (hm : u_mev y bytes maxL ret 0) (hd : decode cc pc = .ok (.invokevirtual index, 3)) (hlk : Cond.methodLink own index y ∈ wsL_law) {b ci : Nat} (hb9 : u_is G b ci) (hcl : (vwCl[ci]?).map (fun q => q.1) = some y.cls) (hci : ci < 12) (hM : u_Ml l D G y bytes maxL ret f n (.ref (gP G b) :: []) M post) (hR : f + 1 ≤ R.frames ∧ 8 + (maxL + 11) + n ≤ R.locals) (hcat : (st.map fun v => v.category).sum ≤ 8) (kk : ∀ (r : Int64) (M2 : w_M), post r M2 → u_S p l e R s m args below meth c nL D A H0 cells slots Q (pc + 3) lv (.long r :: st) G M2) : u_S p l e R s m args below meth c nL D A H0 cells slots Q pc lv (.ref (gP G b) :: st) G M := u_calllV C hm hd hlk hb9 hcl hci hM hR (As := []) rfl rfl hcat kk
theorem u_calllV1 {post : Int64 → w_M → Prop} {a0 : Value} (C : u_C p R s m args c cc own nL D A H0 cells slots G) (hm : u_mev y bytes maxL ret 1) (hd : decode cc pc = .ok (.invokevirtual index, 3)) (hlk : Cond.methodLink own index y ∈ wsL_law) {b ci : Nat} (hb9 : u_is G b ci) (hcl : (vwCl[ci]?).map (fun q => q.1) = some y.cls) (hci : ci < 12) (hM : u_Ml l D G y bytes maxL ret f n (.ref (gP G b) :: [a0]) M post) (hR : f + 1 ≤ R.frames ∧ 8 + (maxL + 11) + n ≤ R.locals) (hcat : (st.map fun v => v.category).sum ≤ 8) (kk : ∀ (r : Int64) (M2 : w_M), post r M2 → u_S p l e R s m args below meth c nL D A H0 cells slots Q (pc + 3) lv (.long r :: st) G M2) : u_S p l e R s m args below meth c nL D A H0 cells slots Q pc lv (a0 :: .ref (gP G b) :: st) G M := u_calllV C hm hd hlk hb9 hcl hci hM hR (As := [a0]) rfl rfl hcat kk
theorem u_calllV2 {post : Int64 → w_M → Prop} {a0 a1 : Value} (C : u_C p R s m args c cc own nL D A H0 cells slots G) (hm : u_mev y bytes maxL ret 2) (hd : decode cc pc = .ok (.invokevirtual index, 3)) (hlk : Cond.methodLink own index y ∈ wsL_law) {b ci : Nat} (hb9 : u_is G b ci) (hcl : (vwCl[ci]?).map (fun q => q.1) = some y.cls) (hci : ci < 12) (hM : u_Ml l D G y bytes maxL ret f n (.ref (gP G b) :: [a0, a1]) M post) (hR : f + 1 ≤ R.frames ∧ 8 + (maxL + 11) + n ≤ R.locals) (hcat : (st.map fun v => v.category).sum ≤ 8) (kk : ∀ (r : Int64) (M2 : w_M), post r M2 → u_S p l e R s m args below meth c nL D A H0 cells slots Q (pc + 3) lv (.long r :: st) G M2) : u_S p l e R s m args below meth c nL D A H0 cells slots Q pc lv (a1 :: a0 :: .ref (gP G b) :: st) G M := u_calllV C hm hd hlk hb9 hcl hci hM hR (As := [a0, a1]) rfl rfl hcat kk
theorem u_calllV3 {post : Int64 → w_M → Prop} {a0 a1 a2 : Value} (C : u_C p R s m args c cc own nL D A H0 cells slots G) (hm : u_mev y bytes maxL ret 3) (hd : decode cc pc = .ok (.invokevirtual index, 3)) (hlk : Cond.methodLink own index y ∈ wsL_law) {b ci : Nat} (hb9 : u_is G b ci) (hcl : (vwCl[ci]?).map (fun q => q.1) = some y.cls) (hci : ci < 12) (hM : u_Ml l D G y bytes maxL ret f n (.ref (gP G b) :: [a0, a1, a2]) M post) (hR : f + 1 ≤ R.frames ∧ 8 + (maxL + 11) + n ≤ R.locals) (hcat : (st.map fun v => v.category).sum ≤ 8) (kk : ∀ (r : Int64) (M2 : w_M), post r M2 → u_S p l e R s m args below meth c nL D A H0 cells slots Q (pc + 3) lv (.long r :: st) G M2) : u_S p l e R s m args below meth c nL D A H0 cells slots Q pc lv (a2 :: a1 :: a0 :: .ref (gP G b) :: st) G M := u_calllV C hm hd hlk hb9 hcl hci hM hR (As := [a0, a1, a2]) rfl rfl hcat kk
theorem u_calllV4 {post : Int64 → w_M → Prop} {a0 a1 a2 a3 : Value} (C : u_C p R s m args c cc own nL D A H0 cells slots G) (hm : u_mev y bytes maxL ret 4) (hd : decode cc pc = .ok (.invokevirtual index, 3)) (hlk : Cond.methodLink own index y ∈ wsL_law) {b ci : Nat} (hb9 : u_is G b ci) (hcl : (vwCl[ci]?).map (fun q => q.1) = some y.cls) (hci : ci < 12) (hM : u_Ml l D G y bytes maxL ret f n (.ref (gP G b) :: [a0, a1, a2, a3]) M post) (hR : f + 1 ≤ R.frames ∧ 8 + (maxL + 11) + n ≤ R.locals) (hcat : (st.map fun v => v.category).sum ≤ 8) (kk : ∀ (r : Int64) (M2 : w_M), post r M2 → u_S p l e R s m args below meth c nL D A H0 cells slots Q (pc + 3) lv (.long r :: st) G M2) : u_S p l e R s m args below meth c nL D A H0 cells slots Q pc lv (a3 :: a2 :: a1 :: a0 :: .ref (gP G b) :: st) G M := u_calllV C hm hd hlk hb9 hcl hci hM hR (As := [a0, a1, a2, a3]) rfl rfl hcat kk
theorem u_calllV5 {post : Int64 → w_M → Prop} {a0 a1 a2 a3 a4 : Value} (C : u_C p R s m args c cc own nL D A H0 cells slots G) (hm : u_mev y bytes maxL ret 5) (hd : decode cc pc = .ok (.invokevirtual index, 3)) (hlk : Cond.methodLink own index y ∈ wsL_law) {b ci : Nat} (hb9 : u_is G b ci) (hcl : (vwCl[ci]?).map (fun q => q.1) = some y.cls) (hci : ci < 12) (hM : u_Ml l D G y bytes maxL ret f n (.ref (gP G b) :: [a0, a1, a2, a3, a4]) M post) (hR : f + 1 ≤ R.frames ∧ 8 + (maxL + 11) + n ≤ R.locals) (hcat : (st.map fun v => v.category).sum ≤ 8) (kk : ∀ (r : Int64) (M2 : w_M), post r M2 → u_S p l e R s m args below meth c nL D A H0 cells slots Q (pc + 3) lv (.long r :: st) G M2) : u_S p l e R s m args below meth c nL D A H0 cells slots Q pc lv (a4 :: a3 :: a2 :: a1 :: a0 :: .ref (gP G b) :: st) G M := u_calllV C hm hd hlk hb9 hcl hci hM hR (As := [a0, a1, a2, a3, a4]) rfl rfl hcat kk
theorem u_calllV6 {post : Int64 → w_M → Prop} {a0 a1 a2 a3 a4 a5 : Value} (C : u_C p R s m args c cc own nL D A H0 cells slots G) (hm : u_mev y bytes maxL ret 6) (hd : decode cc pc = .ok (.invokevirtual index, 3)) (hlk : Cond.methodLink own index y ∈ wsL_law) {b ci : Nat} (hb9 : u_is G b ci) (hcl : (vwCl[ci]?).map (fun q => q.1) = some y.cls) (hci : ci < 12) (hM : u_Ml l D G y bytes maxL ret f n (.ref (gP G b) :: [a0, a1, a2, a3, a4, a5]) M post) (hR : f + 1 ≤ R.frames ∧ 8 + (maxL + 11) + n ≤ R.locals) (hcat : (st.map fun v => v.category).sum ≤ 8) (kk : ∀ (r : Int64) (M2 : w_M), post r M2 → u_S p l e R s m args below meth c nL D A H0 cells slots Q (pc + 3) lv (.long r :: st) G M2) : u_S p l e R s m args below meth c nL D A H0 cells slots Q pc lv (a5 :: a4 :: a3 :: a2 :: a1 :: a0 :: .ref (gP G b) :: st) G M := u_calllV C hm hd hlk hb9 hcl hci hM hR (As := [a0, a1, a2, a3, a4, a5]) rfl rfl hcat kk
theorem u_calllV7 {post : Int64 → w_M → Prop} {a0 a1 a2 a3 a4 a5 a6 : Value} (C : u_C p R s m args c cc own nL D A H0 cells slots G) (hm : u_mev y bytes maxL ret 7) (hd : decode cc pc = .ok (.invokevirtual index, 3)) (hlk : Cond.methodLink own index y ∈ wsL_law) {b ci : Nat} (hb9 : u_is G b ci) (hcl : (vwCl[ci]?).map (fun q => q.1) = some y.cls) (hci : ci < 12) (hM : u_Ml l D G y bytes maxL ret f n (.ref (gP G b) :: [a0, a1, a2, a3, a4, a5, a6]) M post) (hR : f + 1 ≤ R.frames ∧ 8 + (maxL + 11) + n ≤ R.locals) (hcat : (st.map fun v => v.category).sum ≤ 8) (kk : ∀ (r : Int64) (M2 : w_M), post r M2 → u_S p l e R s m args below meth c nL D A H0 cells slots Q (pc + 3) lv (.long r :: st) G M2) : u_S p l e R s m args below meth c nL D A H0 cells slots Q pc lv (a6 :: a5 :: a4 :: a3 :: a2 :: a1 :: a0 :: .ref (gP G b) :: st) G M := u_calllV C hm hd hlk hb9 hcl hci hM hR (As := [a0, a1, a2, a3, a4, a5, a6]) rfl rfl hcat kk
theorem u_calllS {post : Int64 → w_M → Prop} (C : u_C p R s m args c cc own nL D A H0 cells slots G) (hm : u_mes y bytes maxL ret na) (hd : decode cc pc = .ok (.invokestatic index, 3)) (hlk : Cond.methodLink own index y ∈ wsL_law) (hM : u_Ml l D G y bytes maxL ret f n As M post) (hR : f + 1 ≤ R.frames ∧ 8 + (maxL + 11) + n ≤ R.locals) (hn : As.length = na) (hst : st0 = As.reverse ++ st) (hcat : (st.map fun v => v.category).sum ≤ 8) (kk : ∀ (r : Int64) (M2 : w_M), post r M2 → u_S p l e R s m args below meth c nL D A H0 cells slots Q (pc + 3) lv (.long r :: st) G M2) : u_S p l e R s m args below meth c nL D A H0 cells slots Q pc lv st0 G M := by
  intro H locs ls hP hD hS hl
  obtain ⟨⟨hx, hb, hml, hown, hts⟩, ⟨hK, hN⟩, hA, hcs⟩ := id C
  have hf := u_hf hA hD hS
  refine va_calll (va_runS (As := As) (rest := st) ⟨hx, hb, hml, hown, hts⟩ (hM H.size) ⟨u_cb C hm.1 hlk hR, hts _ hm.2⟩ (u_pres ⟨hK, hN⟩ hP hD _) rfl hn hl.1 hst (lv_room hcat) hd ⟨hcs.1, hcs.2⟩) hS (fun q _ h => hf q h) hf (fun r u t H1 locs ht hvm hw hB hz1 hk1 hS => ?_)
  have hP1 : va_P D vwCl (u_W G u) t.heap := hB
  rw [ht] at hP1
  exact kk r u hw H1 locs ls hP1 (u_DM u hD) hS hl

theorem u_calllS0 {post : Int64 → w_M → Prop} (C : u_C p R s m args c cc own nL D A H0 cells slots G) (hm : u_mes y bytes maxL ret 0) (hd : decode cc pc = .ok (.invokestatic index, 3)) (hlk : Cond.methodLink own index y ∈ wsL_law) (hM : u_Ml l D G y bytes maxL ret f n [] M post) (hR : f + 1 ≤ R.frames ∧ 8 + (maxL + 11) + n ≤ R.locals) (hcat : (st.map fun v => v.category).sum ≤ 8) (kk : ∀ (r : Int64) (M2 : w_M), post r M2 → u_S p l e R s m args below meth c nL D A H0 cells slots Q (pc + 3) lv (.long r :: st) G M2) : u_S p l e R s m args below meth c nL D A H0 cells slots Q pc lv (st) G M := u_calllS C hm hd hlk hM hR (As := []) rfl rfl hcat kk
theorem u_calllS1 {post : Int64 → w_M → Prop} {a0 : Value} (C : u_C p R s m args c cc own nL D A H0 cells slots G) (hm : u_mes y bytes maxL ret 1) (hd : decode cc pc = .ok (.invokestatic index, 3)) (hlk : Cond.methodLink own index y ∈ wsL_law) (hM : u_Ml l D G y bytes maxL ret f n [a0] M post) (hR : f + 1 ≤ R.frames ∧ 8 + (maxL + 11) + n ≤ R.locals) (hcat : (st.map fun v => v.category).sum ≤ 8) (kk : ∀ (r : Int64) (M2 : w_M), post r M2 → u_S p l e R s m args below meth c nL D A H0 cells slots Q (pc + 3) lv (.long r :: st) G M2) : u_S p l e R s m args below meth c nL D A H0 cells slots Q pc lv (a0 :: st) G M := u_calllS C hm hd hlk hM hR (As := [a0]) rfl rfl hcat kk
theorem u_calllS2 {post : Int64 → w_M → Prop} {a0 a1 : Value} (C : u_C p R s m args c cc own nL D A H0 cells slots G) (hm : u_mes y bytes maxL ret 2) (hd : decode cc pc = .ok (.invokestatic index, 3)) (hlk : Cond.methodLink own index y ∈ wsL_law) (hM : u_Ml l D G y bytes maxL ret f n [a0, a1] M post) (hR : f + 1 ≤ R.frames ∧ 8 + (maxL + 11) + n ≤ R.locals) (hcat : (st.map fun v => v.category).sum ≤ 8) (kk : ∀ (r : Int64) (M2 : w_M), post r M2 → u_S p l e R s m args below meth c nL D A H0 cells slots Q (pc + 3) lv (.long r :: st) G M2) : u_S p l e R s m args below meth c nL D A H0 cells slots Q pc lv (a1 :: a0 :: st) G M := u_calllS C hm hd hlk hM hR (As := [a0, a1]) rfl rfl hcat kk
theorem u_calllS3 {post : Int64 → w_M → Prop} {a0 a1 a2 : Value} (C : u_C p R s m args c cc own nL D A H0 cells slots G) (hm : u_mes y bytes maxL ret 3) (hd : decode cc pc = .ok (.invokestatic index, 3)) (hlk : Cond.methodLink own index y ∈ wsL_law) (hM : u_Ml l D G y bytes maxL ret f n [a0, a1, a2] M post) (hR : f + 1 ≤ R.frames ∧ 8 + (maxL + 11) + n ≤ R.locals) (hcat : (st.map fun v => v.category).sum ≤ 8) (kk : ∀ (r : Int64) (M2 : w_M), post r M2 → u_S p l e R s m args below meth c nL D A H0 cells slots Q (pc + 3) lv (.long r :: st) G M2) : u_S p l e R s m args below meth c nL D A H0 cells slots Q pc lv (a2 :: a1 :: a0 :: st) G M := u_calllS C hm hd hlk hM hR (As := [a0, a1, a2]) rfl rfl hcat kk
theorem u_calllS4 {post : Int64 → w_M → Prop} {a0 a1 a2 a3 : Value} (C : u_C p R s m args c cc own nL D A H0 cells slots G) (hm : u_mes y bytes maxL ret 4) (hd : decode cc pc = .ok (.invokestatic index, 3)) (hlk : Cond.methodLink own index y ∈ wsL_law) (hM : u_Ml l D G y bytes maxL ret f n [a0, a1, a2, a3] M post) (hR : f + 1 ≤ R.frames ∧ 8 + (maxL + 11) + n ≤ R.locals) (hcat : (st.map fun v => v.category).sum ≤ 8) (kk : ∀ (r : Int64) (M2 : w_M), post r M2 → u_S p l e R s m args below meth c nL D A H0 cells slots Q (pc + 3) lv (.long r :: st) G M2) : u_S p l e R s m args below meth c nL D A H0 cells slots Q pc lv (a3 :: a2 :: a1 :: a0 :: st) G M := u_calllS C hm hd hlk hM hR (As := [a0, a1, a2, a3]) rfl rfl hcat kk
theorem u_calllS5 {post : Int64 → w_M → Prop} {a0 a1 a2 a3 a4 : Value} (C : u_C p R s m args c cc own nL D A H0 cells slots G) (hm : u_mes y bytes maxL ret 5) (hd : decode cc pc = .ok (.invokestatic index, 3)) (hlk : Cond.methodLink own index y ∈ wsL_law) (hM : u_Ml l D G y bytes maxL ret f n [a0, a1, a2, a3, a4] M post) (hR : f + 1 ≤ R.frames ∧ 8 + (maxL + 11) + n ≤ R.locals) (hcat : (st.map fun v => v.category).sum ≤ 8) (kk : ∀ (r : Int64) (M2 : w_M), post r M2 → u_S p l e R s m args below meth c nL D A H0 cells slots Q (pc + 3) lv (.long r :: st) G M2) : u_S p l e R s m args below meth c nL D A H0 cells slots Q pc lv (a4 :: a3 :: a2 :: a1 :: a0 :: st) G M := u_calllS C hm hd hlk hM hR (As := [a0, a1, a2, a3, a4]) rfl rfl hcat kk
theorem u_calllS6 {post : Int64 → w_M → Prop} {a0 a1 a2 a3 a4 a5 : Value} (C : u_C p R s m args c cc own nL D A H0 cells slots G) (hm : u_mes y bytes maxL ret 6) (hd : decode cc pc = .ok (.invokestatic index, 3)) (hlk : Cond.methodLink own index y ∈ wsL_law) (hM : u_Ml l D G y bytes maxL ret f n [a0, a1, a2, a3, a4, a5] M post) (hR : f + 1 ≤ R.frames ∧ 8 + (maxL + 11) + n ≤ R.locals) (hcat : (st.map fun v => v.category).sum ≤ 8) (kk : ∀ (r : Int64) (M2 : w_M), post r M2 → u_S p l e R s m args below meth c nL D A H0 cells slots Q (pc + 3) lv (.long r :: st) G M2) : u_S p l e R s m args below meth c nL D A H0 cells slots Q pc lv (a5 :: a4 :: a3 :: a2 :: a1 :: a0 :: st) G M := u_calllS C hm hd hlk hM hR (As := [a0, a1, a2, a3, a4, a5]) rfl rfl hcat kk
theorem u_calllS7 {post : Int64 → w_M → Prop} {a0 a1 a2 a3 a4 a5 a6 : Value} (C : u_C p R s m args c cc own nL D A H0 cells slots G) (hm : u_mes y bytes maxL ret 7) (hd : decode cc pc = .ok (.invokestatic index, 3)) (hlk : Cond.methodLink own index y ∈ wsL_law) (hM : u_Ml l D G y bytes maxL ret f n [a0, a1, a2, a3, a4, a5, a6] M post) (hR : f + 1 ≤ R.frames ∧ 8 + (maxL + 11) + n ≤ R.locals) (hcat : (st.map fun v => v.category).sum ≤ 8) (kk : ∀ (r : Int64) (M2 : w_M), post r M2 → u_S p l e R s m args below meth c nL D A H0 cells slots Q (pc + 3) lv (.long r :: st) G M2) : u_S p l e R s m args below meth c nL D A H0 cells slots Q pc lv (a6 :: a5 :: a4 :: a3 :: a2 :: a1 :: a0 :: st) G M := u_calllS C hm hd hlk hM hR (As := [a0, a1, a2, a3, a4, a5, a6]) rfl rfl hcat kk
theorem u_callvV {post : w_M → Prop} (C : u_C p R s m args c cc own nL D A H0 cells slots G) (hm : u_mev y bytes maxL ret na) (hd : decode cc pc = .ok (.invokevirtual index, 3)) (hlk : Cond.methodLink own index y ∈ wsL_law) {b ci : Nat} (hb9 : u_is G b ci) (hcl : (vwCl[ci]?).map (fun q => q.1) = some y.cls) (hci : ci < 12) (hM : u_Mv l D G y bytes maxL ret f n (.ref (gP G b) :: As) M post) (hR : f + 1 ≤ R.frames ∧ 8 + (maxL + 11) + n ≤ R.locals) (hn : As.length = na) (hst : st0 = As.reverse ++ .ref (gP G b) :: st) (hcat : (st.map fun v => v.category).sum ≤ 8) (kk : ∀ (M2 : w_M), post M2 → u_S p l e R s m args below meth c nL D A H0 cells slots Q (pc + 3) lv (st) G M2) : u_S p l e R s m args below meth c nL D A H0 cells slots Q pc lv st0 G M := by
  intro H locs ls hP hD hS hl
  obtain ⟨⟨hx, hb, hml, hown, hts⟩, ⟨hK, hN⟩, hA, hcs⟩ := id C
  obtain ⟨q9, hq9, hw9⟩ := u_get (M := M) hb9.1
  rw [w_cellO hb9 hci] at hw9
  obtain ⟨r9, hr9, hr8⟩ := Option.map_eq_some_iff.mp hcl
  have hrecv : ∃ cellB : Cell, H[gP G b]? = some cellB ∧ cellB.vm.isStatics = false ∧ s.vm.findClass y.cls = some cellB.cls := by
    rw [← hr8]
    exact va_recv hK hP hr9 hw9
  have hf := u_hf hA hD hS
  refine va_callv (va_runV (As := As) (rest := st) ⟨hx, hb, hml, hown, hts⟩ (hM H.size) ⟨u_cb C hm.1 hlk hR, hts _ hm.2.1, hts _ hm.2.2⟩ ⟨u_blind, hrecv, (u_pres ⟨hK, hN⟩ hP hD _).2⟩ rfl hn hl.1 hst (lv_room hcat) hd ⟨hcs.1, hcs.2⟩) hS (fun q _ h => hf q h) hf (fun u t H1 locs ht hvm hw hB hz1 hk1 hS => ?_)
  have hP1 : va_P D vwCl (u_W G u) t.heap := hB
  rw [ht] at hP1
  exact kk u hw H1 locs ls hP1 (u_DM u hD) hS hl

theorem u_callvV0 {post : w_M → Prop} (C : u_C p R s m args c cc own nL D A H0 cells slots G) (hm : u_mev y bytes maxL ret 0) (hd : decode cc pc = .ok (.invokevirtual index, 3)) (hlk : Cond.methodLink own index y ∈ wsL_law) {b ci : Nat} (hb9 : u_is G b ci) (hcl : (vwCl[ci]?).map (fun q => q.1) = some y.cls) (hci : ci < 12) (hM : u_Mv l D G y bytes maxL ret f n (.ref (gP G b) :: []) M post) (hR : f + 1 ≤ R.frames ∧ 8 + (maxL + 11) + n ≤ R.locals) (hcat : (st.map fun v => v.category).sum ≤ 8) (kk : ∀ (M2 : w_M), post M2 → u_S p l e R s m args below meth c nL D A H0 cells slots Q (pc + 3) lv (st) G M2) : u_S p l e R s m args below meth c nL D A H0 cells slots Q pc lv (.ref (gP G b) :: st) G M := u_callvV C hm hd hlk hb9 hcl hci hM hR (As := []) rfl rfl hcat kk
theorem u_callvV1 {post : w_M → Prop} {a0 : Value} (C : u_C p R s m args c cc own nL D A H0 cells slots G) (hm : u_mev y bytes maxL ret 1) (hd : decode cc pc = .ok (.invokevirtual index, 3)) (hlk : Cond.methodLink own index y ∈ wsL_law) {b ci : Nat} (hb9 : u_is G b ci) (hcl : (vwCl[ci]?).map (fun q => q.1) = some y.cls) (hci : ci < 12) (hM : u_Mv l D G y bytes maxL ret f n (.ref (gP G b) :: [a0]) M post) (hR : f + 1 ≤ R.frames ∧ 8 + (maxL + 11) + n ≤ R.locals) (hcat : (st.map fun v => v.category).sum ≤ 8) (kk : ∀ (M2 : w_M), post M2 → u_S p l e R s m args below meth c nL D A H0 cells slots Q (pc + 3) lv (st) G M2) : u_S p l e R s m args below meth c nL D A H0 cells slots Q pc lv (a0 :: .ref (gP G b) :: st) G M := u_callvV C hm hd hlk hb9 hcl hci hM hR (As := [a0]) rfl rfl hcat kk
theorem u_callvV2 {post : w_M → Prop} {a0 a1 : Value} (C : u_C p R s m args c cc own nL D A H0 cells slots G) (hm : u_mev y bytes maxL ret 2) (hd : decode cc pc = .ok (.invokevirtual index, 3)) (hlk : Cond.methodLink own index y ∈ wsL_law) {b ci : Nat} (hb9 : u_is G b ci) (hcl : (vwCl[ci]?).map (fun q => q.1) = some y.cls) (hci : ci < 12) (hM : u_Mv l D G y bytes maxL ret f n (.ref (gP G b) :: [a0, a1]) M post) (hR : f + 1 ≤ R.frames ∧ 8 + (maxL + 11) + n ≤ R.locals) (hcat : (st.map fun v => v.category).sum ≤ 8) (kk : ∀ (M2 : w_M), post M2 → u_S p l e R s m args below meth c nL D A H0 cells slots Q (pc + 3) lv (st) G M2) : u_S p l e R s m args below meth c nL D A H0 cells slots Q pc lv (a1 :: a0 :: .ref (gP G b) :: st) G M := u_callvV C hm hd hlk hb9 hcl hci hM hR (As := [a0, a1]) rfl rfl hcat kk
theorem u_callvV3 {post : w_M → Prop} {a0 a1 a2 : Value} (C : u_C p R s m args c cc own nL D A H0 cells slots G) (hm : u_mev y bytes maxL ret 3) (hd : decode cc pc = .ok (.invokevirtual index, 3)) (hlk : Cond.methodLink own index y ∈ wsL_law) {b ci : Nat} (hb9 : u_is G b ci) (hcl : (vwCl[ci]?).map (fun q => q.1) = some y.cls) (hci : ci < 12) (hM : u_Mv l D G y bytes maxL ret f n (.ref (gP G b) :: [a0, a1, a2]) M post) (hR : f + 1 ≤ R.frames ∧ 8 + (maxL + 11) + n ≤ R.locals) (hcat : (st.map fun v => v.category).sum ≤ 8) (kk : ∀ (M2 : w_M), post M2 → u_S p l e R s m args below meth c nL D A H0 cells slots Q (pc + 3) lv (st) G M2) : u_S p l e R s m args below meth c nL D A H0 cells slots Q pc lv (a2 :: a1 :: a0 :: .ref (gP G b) :: st) G M := u_callvV C hm hd hlk hb9 hcl hci hM hR (As := [a0, a1, a2]) rfl rfl hcat kk
theorem u_callvV4 {post : w_M → Prop} {a0 a1 a2 a3 : Value} (C : u_C p R s m args c cc own nL D A H0 cells slots G) (hm : u_mev y bytes maxL ret 4) (hd : decode cc pc = .ok (.invokevirtual index, 3)) (hlk : Cond.methodLink own index y ∈ wsL_law) {b ci : Nat} (hb9 : u_is G b ci) (hcl : (vwCl[ci]?).map (fun q => q.1) = some y.cls) (hci : ci < 12) (hM : u_Mv l D G y bytes maxL ret f n (.ref (gP G b) :: [a0, a1, a2, a3]) M post) (hR : f + 1 ≤ R.frames ∧ 8 + (maxL + 11) + n ≤ R.locals) (hcat : (st.map fun v => v.category).sum ≤ 8) (kk : ∀ (M2 : w_M), post M2 → u_S p l e R s m args below meth c nL D A H0 cells slots Q (pc + 3) lv (st) G M2) : u_S p l e R s m args below meth c nL D A H0 cells slots Q pc lv (a3 :: a2 :: a1 :: a0 :: .ref (gP G b) :: st) G M := u_callvV C hm hd hlk hb9 hcl hci hM hR (As := [a0, a1, a2, a3]) rfl rfl hcat kk
theorem u_callvV5 {post : w_M → Prop} {a0 a1 a2 a3 a4 : Value} (C : u_C p R s m args c cc own nL D A H0 cells slots G) (hm : u_mev y bytes maxL ret 5) (hd : decode cc pc = .ok (.invokevirtual index, 3)) (hlk : Cond.methodLink own index y ∈ wsL_law) {b ci : Nat} (hb9 : u_is G b ci) (hcl : (vwCl[ci]?).map (fun q => q.1) = some y.cls) (hci : ci < 12) (hM : u_Mv l D G y bytes maxL ret f n (.ref (gP G b) :: [a0, a1, a2, a3, a4]) M post) (hR : f + 1 ≤ R.frames ∧ 8 + (maxL + 11) + n ≤ R.locals) (hcat : (st.map fun v => v.category).sum ≤ 8) (kk : ∀ (M2 : w_M), post M2 → u_S p l e R s m args below meth c nL D A H0 cells slots Q (pc + 3) lv (st) G M2) : u_S p l e R s m args below meth c nL D A H0 cells slots Q pc lv (a4 :: a3 :: a2 :: a1 :: a0 :: .ref (gP G b) :: st) G M := u_callvV C hm hd hlk hb9 hcl hci hM hR (As := [a0, a1, a2, a3, a4]) rfl rfl hcat kk
theorem u_callvV6 {post : w_M → Prop} {a0 a1 a2 a3 a4 a5 : Value} (C : u_C p R s m args c cc own nL D A H0 cells slots G) (hm : u_mev y bytes maxL ret 6) (hd : decode cc pc = .ok (.invokevirtual index, 3)) (hlk : Cond.methodLink own index y ∈ wsL_law) {b ci : Nat} (hb9 : u_is G b ci) (hcl : (vwCl[ci]?).map (fun q => q.1) = some y.cls) (hci : ci < 12) (hM : u_Mv l D G y bytes maxL ret f n (.ref (gP G b) :: [a0, a1, a2, a3, a4, a5]) M post) (hR : f + 1 ≤ R.frames ∧ 8 + (maxL + 11) + n ≤ R.locals) (hcat : (st.map fun v => v.category).sum ≤ 8) (kk : ∀ (M2 : w_M), post M2 → u_S p l e R s m args below meth c nL D A H0 cells slots Q (pc + 3) lv (st) G M2) : u_S p l e R s m args below meth c nL D A H0 cells slots Q pc lv (a5 :: a4 :: a3 :: a2 :: a1 :: a0 :: .ref (gP G b) :: st) G M := u_callvV C hm hd hlk hb9 hcl hci hM hR (As := [a0, a1, a2, a3, a4, a5]) rfl rfl hcat kk
theorem u_callvV7 {post : w_M → Prop} {a0 a1 a2 a3 a4 a5 a6 : Value} (C : u_C p R s m args c cc own nL D A H0 cells slots G) (hm : u_mev y bytes maxL ret 7) (hd : decode cc pc = .ok (.invokevirtual index, 3)) (hlk : Cond.methodLink own index y ∈ wsL_law) {b ci : Nat} (hb9 : u_is G b ci) (hcl : (vwCl[ci]?).map (fun q => q.1) = some y.cls) (hci : ci < 12) (hM : u_Mv l D G y bytes maxL ret f n (.ref (gP G b) :: [a0, a1, a2, a3, a4, a5, a6]) M post) (hR : f + 1 ≤ R.frames ∧ 8 + (maxL + 11) + n ≤ R.locals) (hcat : (st.map fun v => v.category).sum ≤ 8) (kk : ∀ (M2 : w_M), post M2 → u_S p l e R s m args below meth c nL D A H0 cells slots Q (pc + 3) lv (st) G M2) : u_S p l e R s m args below meth c nL D A H0 cells slots Q pc lv (a6 :: a5 :: a4 :: a3 :: a2 :: a1 :: a0 :: .ref (gP G b) :: st) G M := u_callvV C hm hd hlk hb9 hcl hci hM hR (As := [a0, a1, a2, a3, a4, a5, a6]) rfl rfl hcat kk
theorem u_callvS {post : w_M → Prop} (C : u_C p R s m args c cc own nL D A H0 cells slots G) (hm : u_mes y bytes maxL ret na) (hd : decode cc pc = .ok (.invokestatic index, 3)) (hlk : Cond.methodLink own index y ∈ wsL_law) (hM : u_Mv l D G y bytes maxL ret f n As M post) (hR : f + 1 ≤ R.frames ∧ 8 + (maxL + 11) + n ≤ R.locals) (hn : As.length = na) (hst : st0 = As.reverse ++ st) (hcat : (st.map fun v => v.category).sum ≤ 8) (kk : ∀ (M2 : w_M), post M2 → u_S p l e R s m args below meth c nL D A H0 cells slots Q (pc + 3) lv (st) G M2) : u_S p l e R s m args below meth c nL D A H0 cells slots Q pc lv st0 G M := by
  intro H locs ls hP hD hS hl
  obtain ⟨⟨hx, hb, hml, hown, hts⟩, ⟨hK, hN⟩, hA, hcs⟩ := id C
  have hf := u_hf hA hD hS
  refine va_callv (va_runS (As := As) (rest := st) ⟨hx, hb, hml, hown, hts⟩ (hM H.size) ⟨u_cb C hm.1 hlk hR, hts _ hm.2⟩ (u_pres ⟨hK, hN⟩ hP hD _) rfl hn hl.1 hst (lv_room hcat) hd ⟨hcs.1, hcs.2⟩) hS (fun q _ h => hf q h) hf (fun u t H1 locs ht hvm hw hB hz1 hk1 hS => ?_)
  have hP1 : va_P D vwCl (u_W G u) t.heap := hB
  rw [ht] at hP1
  exact kk u hw H1 locs ls hP1 (u_DM u hD) hS hl

theorem u_callvS0 {post : w_M → Prop} (C : u_C p R s m args c cc own nL D A H0 cells slots G) (hm : u_mes y bytes maxL ret 0) (hd : decode cc pc = .ok (.invokestatic index, 3)) (hlk : Cond.methodLink own index y ∈ wsL_law) (hM : u_Mv l D G y bytes maxL ret f n [] M post) (hR : f + 1 ≤ R.frames ∧ 8 + (maxL + 11) + n ≤ R.locals) (hcat : (st.map fun v => v.category).sum ≤ 8) (kk : ∀ (M2 : w_M), post M2 → u_S p l e R s m args below meth c nL D A H0 cells slots Q (pc + 3) lv (st) G M2) : u_S p l e R s m args below meth c nL D A H0 cells slots Q pc lv (st) G M := u_callvS C hm hd hlk hM hR (As := []) rfl rfl hcat kk
theorem u_callvS1 {post : w_M → Prop} {a0 : Value} (C : u_C p R s m args c cc own nL D A H0 cells slots G) (hm : u_mes y bytes maxL ret 1) (hd : decode cc pc = .ok (.invokestatic index, 3)) (hlk : Cond.methodLink own index y ∈ wsL_law) (hM : u_Mv l D G y bytes maxL ret f n [a0] M post) (hR : f + 1 ≤ R.frames ∧ 8 + (maxL + 11) + n ≤ R.locals) (hcat : (st.map fun v => v.category).sum ≤ 8) (kk : ∀ (M2 : w_M), post M2 → u_S p l e R s m args below meth c nL D A H0 cells slots Q (pc + 3) lv (st) G M2) : u_S p l e R s m args below meth c nL D A H0 cells slots Q pc lv (a0 :: st) G M := u_callvS C hm hd hlk hM hR (As := [a0]) rfl rfl hcat kk
theorem u_callvS2 {post : w_M → Prop} {a0 a1 : Value} (C : u_C p R s m args c cc own nL D A H0 cells slots G) (hm : u_mes y bytes maxL ret 2) (hd : decode cc pc = .ok (.invokestatic index, 3)) (hlk : Cond.methodLink own index y ∈ wsL_law) (hM : u_Mv l D G y bytes maxL ret f n [a0, a1] M post) (hR : f + 1 ≤ R.frames ∧ 8 + (maxL + 11) + n ≤ R.locals) (hcat : (st.map fun v => v.category).sum ≤ 8) (kk : ∀ (M2 : w_M), post M2 → u_S p l e R s m args below meth c nL D A H0 cells slots Q (pc + 3) lv (st) G M2) : u_S p l e R s m args below meth c nL D A H0 cells slots Q pc lv (a1 :: a0 :: st) G M := u_callvS C hm hd hlk hM hR (As := [a0, a1]) rfl rfl hcat kk
theorem u_callvS3 {post : w_M → Prop} {a0 a1 a2 : Value} (C : u_C p R s m args c cc own nL D A H0 cells slots G) (hm : u_mes y bytes maxL ret 3) (hd : decode cc pc = .ok (.invokestatic index, 3)) (hlk : Cond.methodLink own index y ∈ wsL_law) (hM : u_Mv l D G y bytes maxL ret f n [a0, a1, a2] M post) (hR : f + 1 ≤ R.frames ∧ 8 + (maxL + 11) + n ≤ R.locals) (hcat : (st.map fun v => v.category).sum ≤ 8) (kk : ∀ (M2 : w_M), post M2 → u_S p l e R s m args below meth c nL D A H0 cells slots Q (pc + 3) lv (st) G M2) : u_S p l e R s m args below meth c nL D A H0 cells slots Q pc lv (a2 :: a1 :: a0 :: st) G M := u_callvS C hm hd hlk hM hR (As := [a0, a1, a2]) rfl rfl hcat kk
theorem u_callvS4 {post : w_M → Prop} {a0 a1 a2 a3 : Value} (C : u_C p R s m args c cc own nL D A H0 cells slots G) (hm : u_mes y bytes maxL ret 4) (hd : decode cc pc = .ok (.invokestatic index, 3)) (hlk : Cond.methodLink own index y ∈ wsL_law) (hM : u_Mv l D G y bytes maxL ret f n [a0, a1, a2, a3] M post) (hR : f + 1 ≤ R.frames ∧ 8 + (maxL + 11) + n ≤ R.locals) (hcat : (st.map fun v => v.category).sum ≤ 8) (kk : ∀ (M2 : w_M), post M2 → u_S p l e R s m args below meth c nL D A H0 cells slots Q (pc + 3) lv (st) G M2) : u_S p l e R s m args below meth c nL D A H0 cells slots Q pc lv (a3 :: a2 :: a1 :: a0 :: st) G M := u_callvS C hm hd hlk hM hR (As := [a0, a1, a2, a3]) rfl rfl hcat kk
theorem u_callvS5 {post : w_M → Prop} {a0 a1 a2 a3 a4 : Value} (C : u_C p R s m args c cc own nL D A H0 cells slots G) (hm : u_mes y bytes maxL ret 5) (hd : decode cc pc = .ok (.invokestatic index, 3)) (hlk : Cond.methodLink own index y ∈ wsL_law) (hM : u_Mv l D G y bytes maxL ret f n [a0, a1, a2, a3, a4] M post) (hR : f + 1 ≤ R.frames ∧ 8 + (maxL + 11) + n ≤ R.locals) (hcat : (st.map fun v => v.category).sum ≤ 8) (kk : ∀ (M2 : w_M), post M2 → u_S p l e R s m args below meth c nL D A H0 cells slots Q (pc + 3) lv (st) G M2) : u_S p l e R s m args below meth c nL D A H0 cells slots Q pc lv (a4 :: a3 :: a2 :: a1 :: a0 :: st) G M := u_callvS C hm hd hlk hM hR (As := [a0, a1, a2, a3, a4]) rfl rfl hcat kk
theorem u_callvS6 {post : w_M → Prop} {a0 a1 a2 a3 a4 a5 : Value} (C : u_C p R s m args c cc own nL D A H0 cells slots G) (hm : u_mes y bytes maxL ret 6) (hd : decode cc pc = .ok (.invokestatic index, 3)) (hlk : Cond.methodLink own index y ∈ wsL_law) (hM : u_Mv l D G y bytes maxL ret f n [a0, a1, a2, a3, a4, a5] M post) (hR : f + 1 ≤ R.frames ∧ 8 + (maxL + 11) + n ≤ R.locals) (hcat : (st.map fun v => v.category).sum ≤ 8) (kk : ∀ (M2 : w_M), post M2 → u_S p l e R s m args below meth c nL D A H0 cells slots Q (pc + 3) lv (st) G M2) : u_S p l e R s m args below meth c nL D A H0 cells slots Q pc lv (a5 :: a4 :: a3 :: a2 :: a1 :: a0 :: st) G M := u_callvS C hm hd hlk hM hR (As := [a0, a1, a2, a3, a4, a5]) rfl rfl hcat kk
theorem u_callvS7 {post : w_M → Prop} {a0 a1 a2 a3 a4 a5 a6 : Value} (C : u_C p R s m args c cc own nL D A H0 cells slots G) (hm : u_mes y bytes maxL ret 7) (hd : decode cc pc = .ok (.invokestatic index, 3)) (hlk : Cond.methodLink own index y ∈ wsL_law) (hM : u_Mv l D G y bytes maxL ret f n [a0, a1, a2, a3, a4, a5, a6] M post) (hR : f + 1 ≤ R.frames ∧ 8 + (maxL + 11) + n ≤ R.locals) (hcat : (st.map fun v => v.category).sum ≤ 8) (kk : ∀ (M2 : w_M), post M2 → u_S p l e R s m args below meth c nL D A H0 cells slots Q (pc + 3) lv (st) G M2) : u_S p l e R s m args below meth c nL D A H0 cells slots Q pc lv (a6 :: a5 :: a4 :: a3 :: a2 :: a1 :: a0 :: st) G M := u_callvS C hm hd hlk hM hR (As := [a0, a1, a2, a3, a4, a5, a6]) rfl rfl hcat kk
theorem u_calliN3 {post : Int32 → w_M → Prop} {a0 a1 a2 : Value} (C : u_C p R s m args c cc own nL D A H0 cells slots G) (hm : u_mes y bytes maxL ret 3) (hd : decode cc pc = .ok (.invokestatic index, 3)) (hlk : Cond.methodLinkNest own index y RX10 ∈ u_nestL) (hM : u_Mi l D G y bytes maxL ret f n [a0, a1, a2] M post) (hR : f + 1 ≤ R.frames ∧ 8 + (maxL + 11) + n ≤ R.locals) (hcat : (st.map fun v => v.category).sum ≤ 8) (kk : ∀ (r : Int32) (M2 : w_M), post r M2 → u_S p l e R s m args below meth c nL D A H0 cells slots Q (pc + 3) lv (.int r :: st) G M2) : u_S p l e R s m args below meth c nL D A H0 cells slots Q pc lv (a2 :: a1 :: a0 :: st) G M := by
  intro H locs ls hP hD hS hl
  obtain ⟨⟨hx, hb, hml, hown, hts⟩, ⟨hK, hN⟩, hA, hcs⟩ := id C
  have hf := u_hf hA hD hS
  refine va_calli (va_runSN (As := [a0, a1, a2]) (rest := st) ⟨hx, hb, hml, hown, hts⟩ (hM H.size) ⟨va_cnB (host := RX10) 3 hts (u_goodIn hm.1.2.2) rfl rfl rfl (hN.1 _ hlk) (hts _ hm.1.2.1) hm.1.1 hR, hts _ hm.2, trivial⟩ (u_pres ⟨hK, hN⟩ hP hD _) rfl rfl hl.1 rfl (lv_room hcat) hd ⟨hcs.1, hcs.2⟩) hS (fun q _ h => hf q h) hf (fun r u t H1 locs ht hvm hw hB hz1 hk1 hS => ?_)
  have hP1 : va_P D vwCl (u_W G u) t.heap := hB
  rw [ht] at hP1
  exact kk r u hw H1 locs ls hP1 (u_DM u hD) hS hl

end UCALL
