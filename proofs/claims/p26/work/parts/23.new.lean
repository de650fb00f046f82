/-! making cells: the world grows -/
/-- what a cell refers to is in use -/
def g_ok (G : w_G) : Prop := ∀ b ∈ gL G, ∀ j t, gF G b j = some t → t ∈ gL G
/-- a world grown: what is outside R stays -/
def gx (G G2 : w_G) (R : Nat → Prop) : Prop := gC G2 = gC G ∧ (∀ b, ¬ R b → gP G2 b = gP G b ∧ gK G2 b = gK G b ∧ gN G2 b = gN G b ∧ gF G2 b = gF G b) ∧ (∀ b, b ∈ gL G → b ∈ gL G2 ∧ gP G2 b = gP G b ∧ gK G2 b = gK G b ∧ gN G2 b = gN G b) ∧ (∀ b, b ∈ gL G2 → b ∈ gL G ∨ R b) ∧ (g_ok G → g_ok G2)
theorem gx.rf {G : w_G} {R : Nat → Prop} : gx G G R := ⟨rfl, fun b _ => ⟨rfl, rfl, rfl, rfl⟩, fun b h => ⟨h, rfl, rfl, rfl⟩, fun b h => Or.inl h, fun h => h⟩
theorem gx.tr {G G2 G3 : w_G} {R R2 R3 : Nat → Prop} (h : gx G G2 R) (h2 : gx G2 G3 R2) (i : ∀ b, R b → R3 b) (i2 : ∀ b, R2 b → R3 b) : gx G G3 R3 := by
  refine ⟨h2.1.trans h.1, fun b hb => ?_, fun b hb => ?_, fun b hb => ?_, fun z => h2.2.2.2.2 (h.2.2.2.2 z)⟩
  · obtain ⟨a1, a2, a3, a4⟩ := h.2.1 b (fun z => hb (i b z))
    obtain ⟨b1, b2, b3, b4⟩ := h2.2.1 b (fun z => hb (i2 b z))
    exact ⟨b1.trans a1, b2.trans a2, b3.trans a3, b4.trans a4⟩
  · obtain ⟨a0, a1, a2, a3⟩ := h.2.2.1 b hb
    obtain ⟨b0, b1, b2, b3⟩ := h2.2.2.1 b a0
    exact ⟨b0, b1.trans a1, b2.trans a2, b3.trans a3⟩
  · rcases h2.2.2.2.1 b hb with z | z
    · rcases h.2.2.2.1 b z with z | z
      · exact Or.inl z
      · exact Or.inr (i b z)
    · exact Or.inr (i2 b z)
theorem gx.is {G G2 : w_G} {R : Nat → Prop} (h : gx G G2 R) {b t : Nat} (hb : u_is G b t) : u_is G2 b t := ⟨(h.2.2.1 b hb.1).1, (h.2.2.1 b hb.1).2.2.1.trans hb.2⟩
theorem gx.P {G G2 : w_G} {R : Nat → Prop} (h : gx G G2 R) {b t : Nat} (hb : u_is G b t) : gP G2 b = gP G b := (h.2.2.1 b hb.1).2.1
theorem gx.N {G G2 : w_G} {R : Nat → Prop} (h : gx G G2 R) {b t : Nat} (hb : u_is G b t) : gN G2 b = gN G b := (h.2.2.1 b hb.1).2.2.2
theorem gx.F {G G2 : w_G} {R : Nat → Prop} (h : gx G G2 R) {b : Nat} (hb : ¬ R b) : gF G2 b = gF G b := (h.2.1 b hb).2.2.2
theorem gx.nin {G G2 : w_G} {R : Nat → Prop} (h : gx G G2 R) {b : Nat} (hb : ¬ R b) (hn : ¬ b ∈ gL G) : ¬ b ∈ gL G2 := fun z => (h.2.2.2.1 b z).elim hn hb
theorem gx.ok {G G2 : w_G} {R : Nat → Prop} (h : gx G G2 R) (hg : g_ok G) : g_ok G2 := h.2.2.2.2 hg
theorem gx.c {G G2 : w_G} {R : Nat → Prop} (h : gx G G2 R) : gC G2 = gC G := h.1
def gA (G : w_G) (k t n q : Nat) : w_G := (gC G, fun b => if b = k then q else gP G b, fun b => if b = k then t else gK G b, fun b => if b = k then n else gN G b, fun b => if b = k then (fun _ => none) else gF G b, gL G ++ [k])
def gR (G : w_G) (k j t : Nat) : w_G := (gC G, gP G, gK G, gN G, fun b => if b = k then (fun i => if i = j then some t else gF G b i) else gF G b, gL G)
theorem gA_x {G : w_G} {k t n q : Nat} (hk : ¬ k ∈ gL G) : gx G (gA G k t n q) (fun b => b = k) := by
  refine ⟨rfl, fun b hb => ⟨if_neg hb, if_neg hb, if_neg hb, if_neg hb⟩, fun b hb => ?_, fun b hb => ?_, fun hg b hb j t' h => ?_⟩
  · have hne : ¬ b = k := fun z => hk (z ▸ hb)
    exact ⟨List.mem_append_left _ hb, if_neg hne, if_neg hne, if_neg hne⟩
  · rcases List.mem_append.mp hb with z | z
    · exact Or.inl z
    · exact Or.inr (List.mem_singleton.mp z)
  · by_cases hne : b = k
    · have e : gF (gA G k t n q) b = fun _ => none := if_pos hne
      rw [e] at h
      cases h
    · have e : gF (gA G k t n q) b = gF G b := if_neg hne
      rw [e] at h
      rcases List.mem_append.mp hb with z | z
      · exact List.mem_append_left _ (hg b z j t' h)
      · exact absurd (List.mem_singleton.mp z) hne
theorem gA_is {G : w_G} {k t n q : Nat} : u_is (gA G k t n q) k t := ⟨List.mem_append_right _ (List.mem_singleton.mpr rfl), if_pos rfl⟩
theorem gA_n {G : w_G} {k t n q : Nat} : gN (gA G k t n q) k = n := if_pos rfl
theorem gA_p {G : w_G} {k t n q : Nat} : gP (gA G k t n q) k = q := if_pos rfl
theorem gA_f {G : w_G} {k t n q : Nat} : gF (gA G k t n q) k = fun _ => none := if_pos rfl
theorem gR_x {G : w_G} {k j t : Nat} (ht : t ∈ gL G) : gx G (gR G k j t) (fun b => b = k) := by
  refine ⟨rfl, fun b hb => ⟨rfl, rfl, rfl, if_neg hb⟩, fun b hb => ⟨hb, rfl, rfl, rfl⟩, fun b hb => Or.inl hb, fun hg b hb i t' h => ?_⟩
  by_cases hne : b = k
  · have e : gF (gR G k j t) b = fun i => if i = j then some t else gF G b i := if_pos hne
    rw [e] at h
    dsimp only at h
    split at h
    · cases h; exact ht
    · exact hg b hb i t' h
  · have e : gF (gR G k j t) b = gF G b := if_neg hne
    rw [e] at h
    exact hg b hb i t' h
theorem gR_f {G : w_G} {k j t : Nat} (i : Nat) : gF (gR G k j t) k i = if i = j then some t else gF G k i := by
  show (if k = k then (fun i => if i = j then some t else gF G k i) else gF G k) i = _
  rw [if_pos rfl]
theorem gA_rf {G : w_G} {k t n q b : Nat} (hk : ¬ k ∈ gL G) (hb : b ∈ gL G) (hg : g_ok G) (j : Nat) : (gF (gA G k t n q) b j).map (gP (gA G k t n q)) = (gF G b j).map (gP G) := by
  have hne : ¬ b = k := fun z => hk (z ▸ hb)
  have e : gF (gA G k t n q) b = gF G b := if_neg hne
  rw [e]
  cases h : gF G b j with
  | none => rfl
  | some t' =>
    have hne2 : ¬ t' = k := fun z => hk (z ▸ hg b hb j t' h)
    show some (gP (gA G k t n q) t') = some (gP G t')
    rw [show gP (gA G k t n q) t' = gP G t' from if_neg hne2]
theorem gA_cell {G : w_G} {M : w_M} {k t n q b : Nat} (hk : ¬ k ∈ gL G) (hb : b ∈ gL G) (hg : g_ok G) : w_cell (gA G k t n q) M b = w_cell G M b := by
  have hne : ¬ b = k := fun z => hk (z ▸ hb)
  have e1 : gK (gA G k t n q) b = gK G b := if_neg hne
  have e2 : gN (gA G k t n q) b = gN G b := if_neg hne
  have e3 : ∀ ci, w_fs (gA G k t n q) M ci b = w_fs G M ci b := by
    intro ci
    refine List.map_congr_left fun j _ => ?_
    unfold w_fv
    rw [gA_rf hk hb hg]
  have e4 : (fun i => (gF (gA G k t n q) b i).map (gP (gA G k t n q))) = (fun i => (gF G b i).map (gP G)) := funext fun i => gA_rf hk hb hg i
  unfold w_cell
  rw [e1, e2, e3, e4]
  rfl
theorem gA_W {G : w_G} {M : w_M} {k t n q : Nat} (hk : ¬ k ∈ gL G) (hg : g_ok G) : u_W (gA G k t n q) M = u_W G M ++ [(q, w_cell (gA G k t n q) M k)] := by
  have e : ∀ b ∈ gL G, (gP (gA G k t n q) b, w_cell (gA G k t n q) M b) = (gP G b, w_cell G M b) := fun b hb => by
    have hne : ¬ b = k := fun z => hk (z ▸ hb)
    rw [gA_cell hk hb hg, show gP (gA G k t n q) b = gP G b from if_neg hne]
  show ((gL G ++ [k]).map _) = _
  rw [List.map_append, List.map_congr_left e]
  show _ ++ [(gP (gA G k t n q) k, _)] = _
  rw [gA_p]
  rfl
theorem gR_cellO {G : w_G} {M : w_M} {k j t b : Nat} (hb : b ≠ k) : w_cell (gR G k j t) M b = w_cell G M b := by
  have e : gF (gR G k j t) b = gF G b := if_neg hb
  have e3 : ∀ ci, w_fs (gR G k j t) M ci b = w_fs G M ci b := by
    intro ci
    refine List.map_congr_left fun i _ => ?_
    unfold w_fv
    rw [e]
    rfl
  unfold w_cell
  rw [e3, e]
  rfl
theorem gR_fs {G : w_G} {M : w_M} {k j t ci : Nat} (hr : w_rf ci j = true) : (w_fs G M ci k).set j (.ref (gP G t)) = w_fs (gR G k j t) M ci k := by
  refine List.ext_getElem? fun i => ?_
  by_cases hi : i < w_nf ci
  · by_cases hij : i = j
    · subst hij
      rw [List.getElem?_set_self (by rw [w_fs_len]; exact hi), w_fs_at hi]
      simp only [w_fv, hr, if_true, gR_f]
      rfl
    · rw [List.getElem?_set_ne (Ne.symm hij), w_fs_at hi, w_fs_at hi]
      simp only [w_fv, gR_f, if_neg hij]
      rfl
  · rw [List.getElem?_eq_none (by simp [w_fs_len]; omega), List.getElem?_eq_none (by simp [w_fs_len]; omega)]
theorem gR_setW {A : Nat → Prop} {G : w_G} {M : w_M} (hD : va_D A (u_W G M)) {k q j t : Nat} (hq : (gL G)[q]? = some k) : (u_W G M).set q (gP G k, w_cell (gR G k j t) M k) = u_W (gR G k j t) M := by
  refine List.ext_getElem? fun i => ?_
  by_cases hi : i = q
  · subst hi
    rw [List.getElem?_set_self (by simp [u_W]; exact (List.getElem?_eq_some_iff.mp hq).1)]
    show _ = ((gL G).map _)[i]?
    simp [hq]
    rfl
  · rw [List.getElem?_set_ne (Ne.symm hi)]
    show ((gL G).map _)[i]? = ((gL G).map _)[i]?
    simp only [List.getElem?_map]
    cases h : (gL G)[i]? with
    | none => rfl
    | some b =>
      have hb : b ≠ k := fun z => hi (u_inj hD (z ▸ h) hq)
      simp [gR_cellO hb]
      rfl
section UNEW
variable {p : Program} {l : Launch} {e : Env} {R : Room} {s : State} {m : MethodId} {args : Array Value} {below : List Frame} {meth : Method} {c : Code} {Q : State → Prop} {cells slots : Nat}
variable {cc : ByteArray} {own : String} {nL : Nat} {D : va_G} {A : Nat → Prop} {H0 : Heap} {G : w_G} {M : w_M} {pc : Nat} {lv : List (Nat × Value)} {st st0 : List Value} {cells2 slots2 : Nat}
theorem u_C.to (C : u_C p R s m args c cc own nL D A H0 cells slots G) {G2 : w_G} (hc : gC G2 = gC G) (h1 : cells2 ≤ R.cells) (h2 : slots2 ≤ R.slots) : u_C p R s m args c cc own nL D A H0 cells2 slots2 G2 := by
  obtain ⟨hx, hK, hA, hcs⟩ := C
  refine ⟨hx, ?_, hA, h1, h2⟩
  rw [hc]
  exact hK
def u_o0 (own : String) : Prop := ∃ idx, idx < 10 ∧ Cond.methodLink own idx Lib.objectInit ∈ wsL_law
theorem u_obj (C : u_C p R s m args c cc own nL D A H0 cells slots G) {idx : Nat} {a : Nat} (hd : decode cc pc = .ok (.invokespecial idx, 3)) (hl1 : Cond.methodLink own idx Lib.objectInit ∈ wsL_law) (hl2 : Cond.instanceMethod Lib.objectInit ∈ wsL_law) (hl3 : Cond.code Lib.objectInit ⟨#[0xb1]⟩ 1 none ∈ wsL_law) (hR : 1 ≤ R.frames ∧ (st.map fun v => v.category).sum + 12 ≤ R.locals) (k : u_S p l e R s m args below meth c nL D A H0 cells slots Q (pc + 3) lv st G M) : u_S p l e R s m args below meth c nL D A H0 cells slots Q pc lv (.ref a :: st) G M := by
  intro H locs ls hP hD hS hl
  obtain ⟨⟨hx, hb, hml, hown, hts⟩, ⟨hK, hN⟩, hA, hcs⟩ := C
  exact W.objInit hx hb hown (hts _ hl1) (hts _ hl2) (hts _ hl3) rfl (hl.1.trans hml.symm) rfl hd hR.1 (by have := hR.2; show 2 * 0 + _ + 12 ≤ _; omega) (k H locs ls hP hD hS hl)
/-- what the tables say of a class whose objects are made -/
def u_nw (own : String) (index ci : Nat) : Prop := ∃ (Cn : String) (T : u_T) (N : Nat) (ty : Nat → FieldType), vwCl[ci]? = some (Cn, T, N) ∧ (∀ w ∈ u_ws Cn T N, w ∈ wsL_law) ∧ (∀ k, k < N → parseFieldDescriptor (T k).2.2.1 = some (ty k)) ∧ (∀ j, j < N → defaultValue (ty j) = if w_rf ci j then .null else .int 0) ∧ N = w_nf ci ∧ ci < 12 ∧ Cond.classLink own index Cn ∈ wsL_law ∧ Cond.instantiable Cn N ∈ wsL_law ∧ Cond.initialized Cn ∈ wsL_law
theorem u_new (C : u_C p R s m args c cc own nL D A H0 cells slots G) {k ci index : Nat} (hd : decode cc pc = .ok (.new index, 3)) (hnw : u_nw own index ci) (hfr : ¬ k ∈ gL G) (hok : g_ok G) (hz : ∀ j, iv M k j = 0) (hcs : cells + 1 = cells2 ∧ slots + w_nf ci = slots2 ∧ cells2 ≤ R.cells ∧ slots2 ≤ R.slots)
    (kk : ∀ G2, gx G G2 (fun b => b = k) → u_is G2 k ci → u_S p l e R s m args below meth c nL D A H0 cells2 slots2 Q (pc + 3) lv (.ref (gP G2 k) :: st) G2 M) : u_S p l e R s m args below meth c nL D A H0 cells slots Q pc lv st G M := by
  intro H locs ls hP hD hS hl
  obtain ⟨⟨hx, hb, hml, hown, hts⟩, ⟨hK, hN⟩, hA, -⟩ := C
  obtain ⟨rfl, rfl, h1, h2⟩ := hcs
  obtain ⟨Cn, T, N, ty, hc, hinl, hty, hdef, rfl, hci, hl1, hl2, hl3⟩ := hnw
  refine va_new hx hb hts hinl ty hty hown (hts _ hl1) (hts _ hl2) (hts _ hl3) hK hP hD hS hA hc (fs := w_fs (gA G k ci 0 0) M ci k) (fun j hj => ?_) h1 h2 hd (fun q H1 hP hD hS => ?_)
  · rw [hdef j hj]
    show _ = (w_fs (gA G k ci 0 0) M ci k).getD j .null
    rw [List.getD_eq_getElem?_getD, w_fs_at hj]
    show _ = w_fv (gA G k ci 0 0) M ci k j
    unfold w_fv
    rw [gA_f, hz]
    rfl
  · have e : w_fs (gA G k ci 0 0) M ci k = w_fs (gA G k ci 0 q) M ci k := by
      refine List.map_congr_left fun j _ => ?_
      unfold w_fv
      rw [gA_f, gA_f]
      rfl
    rw [e, ← w_cellO gA_is hci, ← gA_W hfr hok] at hP hD
    have := kk (gA G k ci 0 q) (gA_x hfr) gA_is H1 locs ls hP hD hS hl
    rw [gA_p] at this
    exact this
theorem u_newK {cA cB : ClassId} {ty : FieldType} (h1 : va_RA s cA ty) (h2 : va_RA s cB ty) : cA = cB := by
  cases ty with
  | object C =>
    obtain ⟨kA, comp, -, -, -, h1⟩ := h1
    obtain ⟨kB, comp', -, -, -, h2⟩ := h2
    exact Option.some.inj (h1.symm.trans h2)
  | _ => exact Option.some.inj (Eq.trans (Eq.symm h1) h2)
theorem u_newA (C : u_C p R s m args c cc own nL D A H0 cells slots G) {k n : Nat} (t : Nat) {at_ : ArrayType} (ht : (t = 12 ∧ at_ = .int) ∨ (t = 13 ∧ at_ = .long) ∨ (t = 14 ∧ at_ = .boolean)) (hd : decode cc pc = .ok (.newarray at_, 2)) (hw : Cond.arrayClass (newarray.typeOf at_) ∈ wsL_law) (hfr : ¬ k ∈ gL G) (hok : g_ok G) (hz : ∀ j, iv M k j = 0 ∧ jv M k j = 0) (hn9 : n < 10000) {x : Int32} (hx9 : x = nI n) (hcs : cells + 1 = cells2 ∧ slots + n = slots2 ∧ cells2 ≤ R.cells ∧ slots2 ≤ R.slots)
    (kk : ∀ G2, gx G G2 (fun b => b = k) → u_is G2 k t → gN G2 k = n → u_S p l e R s m args below meth c nL D A H0 cells2 slots2 Q (pc + 2) lv (.ref (gP G2 k) :: st) G2 M) : u_S p l e R s m args below meth c nL D A H0 cells slots Q pc lv (.int x :: st) G M := by
  intro H locs ls hP hD hS hl
  obtain ⟨⟨hx, hb, hml, hown, hts⟩, ⟨hK, hN⟩, hA, -⟩ := C
  obtain ⟨rfl, rfl, h1, h2⟩ := hcs
  subst hx9
  have hk' : ∀ q, w_cell (gA G k t n q) M k = if t = 12 then .inl (gC G 0, n, .inl (fun j => iv M k j)) else if t = 13 then .inl (gC G 1, n, .inr (.inl (fun j => jv M k j))) else w_cell (gA G k t n q) M k := by
    intro q
    split
    · next e => subst e; rw [w_cellI gA_is, gA_n]; rfl
    · split
      · next e => subst e; rw [w_cellJ gA_is, gA_n]; rfl
      · rfl
  have fin : ∀ (q : Nat) (H1 : Heap), va_P D vwCl (u_W G M ++ [(q, w_cell (gA G k t n q) M k)]) H1 → va_D A (u_W G M ++ [(q, w_cell (gA G k t n q) M k)]) → va_S A H0 H1 locs → W p l e R s m args below meth c H1 locs (cells + 1) (slots + n) Q (F0 m (pc + 2) ls (.ref q :: st)) := by
    intro q H1 hP hD hS
    rw [← gA_W hfr hok] at hP hD
    have := kk (gA G k t n q) (gA_x hfr) gA_is gA_n H1 locs ls hP hD hS hl
    rw [gA_p] at this
    exact this
  have zi : (fun j => iv M k j) = fun _ => (0 : Int32) := funext fun j => (hz j).1
  have zj : (fun j => jv M k j) = fun _ => (0 : Int64) := funext fun j => (hz j).2
  rcases ht with ⟨rfl, rfl⟩ | ⟨rfl, rfl⟩ | ⟨rfl, rfl⟩
  · refine va_newa hx hb (hts _ hw) rfl hK hP hD hS hA (N' := n) (a0 := (n, .inl (fun _ => (0 : Int32)))) (fun cA => rfl) (nI_pos (by omega)) (nI_clamp (by omega)) (by show n * 4 ≤ _; omega) h1 h2 hd (fun q cA H1 hK2 hP hD hS => ?_)
    have hc : cA = gC G 0 := u_newK (hK2.2 8 (cA, .int) rfl).2 (hK.2 0 (gC G 0, .int) rfl).2
    subst hc
    refine fin q H1 ?_ ?_ hS
    · rw [w_cellI gA_is, gA_n, zi]; exact hP
    · rw [w_cellI gA_is, gA_n, zi]; exact hD
  · refine va_newa hx hb (hts _ hw) rfl hK hP hD hS hA (N' := n) (a0 := (n, .inr (.inl (fun _ => (0 : Int64))))) (fun cA => rfl) (nI_pos (by omega)) (nI_clamp (by omega)) (by show n * 8 ≤ _; omega) h1 h2 hd (fun q cA H1 hK2 hP hD hS => ?_)
    have hc : cA = gC G 1 := u_newK (hK2.2 8 (cA, .long) rfl).2 (hK.2 1 (gC G 1, .long) rfl).2
    subst hc
    refine fin q H1 ?_ ?_ hS
    · rw [w_cellJ gA_is, gA_n, zj]; exact hP
    · rw [w_cellJ gA_is, gA_n, zj]; exact hD
  · refine va_newa hx hb (hts _ hw) rfl hK hP hD hS hA (N' := n) (a0 := (n, .inl (fun _ => (0 : Int32)))) (fun cA => rfl) (nI_pos (by omega)) (nI_clamp (by omega)) (by show n * 1 ≤ _; omega) h1 h2 hd (fun q cA H1 hK2 hP hD hS => ?_)
    have hc : cA = gC G 2 := u_newK (hK2.2 8 (cA, .boolean) rfl).2 (hK.2 2 (gC G 2, .boolean) rfl).2
    subst hc
    refine fin q H1 ?_ ?_ hS
    · rw [w_cellZ gA_is, gA_n, zi]; exact hP
    · rw [w_cellZ gA_is, gA_n, zi]; exact hD
/-- arrays of references: the kind, the class -/
def w_rc (t : Nat) (Cn : String) : Prop := (w_ty (fun i => i))[t - 12]? = some (t - 12, .object Cn) ∧ 15 ≤ t ∧ t < 20 ∧ Cn ∈ u_aoL
theorem w_rc.ty {t : Nat} {Cn : String} (h : w_rc t Cn) (cy : Nat → ClassId) : (w_ty cy)[t - 12]? = some (cy (t - 12), .object Cn) := by
  obtain ⟨h1, h2, h3, -⟩ := h
  have hh : t = 15 ∨ t = 16 ∨ t = 17 ∨ t = 18 ∨ t = 19 := by omega
  rcases hh with rfl | rfl | rfl | rfl | rfl <;> (cases h1; rfl)
theorem u_newQ (C : u_C p R s m args c cc own nL D A H0 cells slots G) {k n index : Nat} {t : Nat} {Cn : String} (ht : w_rc t Cn) (hd : decode cc pc = .ok (.anewarray index, 3)) (hlk : Cond.classLink own index Cn ∈ wsL_law) (hfr : ¬ k ∈ gL G) (hok : g_ok G) (hn9 : n < 10000) {x : Int32} (hx9 : x = nI n) (hcs : cells + 1 = cells2 ∧ slots + n = slots2 ∧ cells2 ≤ R.cells ∧ slots2 ≤ R.slots)
    (kk : ∀ G2, gx G G2 (fun b => b = k) → u_is G2 k t → gN G2 k = n → u_S p l e R s m args below meth c nL D A H0 cells2 slots2 Q (pc + 3) lv (.ref (gP G2 k) :: st) G2 M) : u_S p l e R s m args below meth c nL D A H0 cells slots Q pc lv (.int x :: st) G M := by
  intro H locs ls hP hD hS hl
  obtain ⟨⟨hx, hb, hml, hown, hts⟩, ⟨hK, hN⟩, hA, -⟩ := C
  obtain ⟨rfl, rfl, h1, h2⟩ := hcs
  subst hx9
  refine va_newq hx hb hown (hts _ hlk) (hN.2 _ ht.2.2.2) hK hP hD hS hA (N' := n) (nI_pos (by omega)) (nI_clamp (by omega)) (by omega) h1 h2 hd (fun q cA H1 hK2 hP hD hS => ?_)
  have hc : cA = gC G (t - 12) := u_newK (hK2.2 8 (cA, .object Cn) rfl).2 (hK.2 _ _ (ht.ty (gC G))).2
  subst hc
  have ez : w_cell (gA G k t n q) M k = .inl (gC G (t - 12), n, .inr (.inr (.inr (.inr (fun _ => none))))) := by
    rw [w_cellR gA_is ht.2.1, gA_n, gA_f]
    rfl
  rw [← ez, ← gA_W hfr hok] at hP hD
  have := kk (gA G k t n q) (gA_x hfr) gA_is gA_n H1 locs ls hP hD hS hl
  rw [gA_p] at this
  exact this
theorem u_putR (C : u_C p R s m args c cc own nL D A H0 cells slots G) {ci j k t : Nat} {ty : FieldType} (hnm9 : meth.name = "<init>") (hg : u_pf cc own pc ci j true ty) (hr : w_rf ci j = true) (hk : u_is G k ci) (ht : t ∈ gL G) (hty9 : narrow ty (.ref (gP G t)) = .ref (gP G t) ∧ fits ty (.ref (gP G t)) = true)
    (kk : ∀ G2, gx G G2 (fun b => b = k) → (∀ i, gF G2 k i = if i = j then some t else gF G k i) → u_S p l e R s m args below meth c nL D A H0 cells slots Q (pc + 3) lv st G2 M) : u_S p l e R s m args below meth c nL D A H0 cells slots Q pc lv (.ref (gP G t) :: .ref (gP G k) :: st) G M := by
  intro H locs ls hP hD hS hl
  obtain ⟨⟨hx, hb, hml, hown, hts⟩, ⟨hK, hN⟩, hA, hcs⟩ := C
  obtain ⟨index, Cn, T, N, ty0, hd, hc, hin, hty, hnm, hj, hlk, hj', hci, hfin, hd9, hdecl⟩ := hg
  obtain ⟨q, hq, hw⟩ := u_get (M := M) hk.1
  rw [w_cellO hk hci] at hw
  have e : (u_W G M).set q (gP G k, .inr (ci, (w_fs G M ci k).set j (.ref (gP G t)))) = u_W (gR G k j t) M := by
    have hk2 : u_is (gR G k j t) k ci := hk
    rw [gR_fs hr, ← w_cellO hk2 hci]
    exact gR_setW hD hq
  refine va_putF hx hb hts hin ty0 hty hnm hown hK hP hD hS q hw hc j hj (hts _ hlk) (fun _ h => h) hfin hnm9 (hdecl rfl) (v := .ref (gP G t)) hd9 hty9.1 hty9.2 (by rw [w_fs_len]; exact hj') hd (fun H locs hP hD hS => ?_)
  rw [e] at hP hD
  exact kk (gR G k j t) (gR_x ht) gR_f H locs ls hP hD hS hl
theorem u_aast (C : u_C p R s m args c cc own nL D A H0 cells slots G) {k t v ci j : Nat} {x : Int32} {r : vw_C} (hd : decode cc pc = .ok (.aastore, 1)) (ht : w_rc t r.1) (hc : vwCl[ci]? = some r) (hci : ci < 12) (hk : u_is G k t) (hv : u_is G v ci) (hx9 : x = nI j) (hj : j < gN G k) (hn9 : gN G k < 10000)
    (kk : ∀ G2, gx G G2 (fun b => b = k) → (∀ i, gF G2 k i = if i = j then some v else gF G k i) → u_S p l e R s m args below meth c nL D A H0 cells slots Q (pc + 1) lv st G2 M) : u_S p l e R s m args below meth c nL D A H0 cells slots Q pc lv (.ref (gP G v) :: .int x :: .ref (gP G k) :: st) G M := by
  intro H locs ls hP hD hS hl
  obtain ⟨⟨hx, hb, hml, hown, hts⟩, ⟨hK, hN⟩, hA, hcs⟩ := C
  subst hx9
  obtain ⟨q, hq, hw⟩ := u_get (M := M) hk.1
  obtain ⟨q2, hq2, hw2⟩ := u_get (M := M) hv.1
  have hcell : w_cell G M k = .inl (gC G (t - 12), gN G k, .inr (.inr (.inr (.inr (fun i => (gF G k i).map (gP G)))))) := w_cellR hk ht.2.1
  rw [hcell] at hw
  rw [w_cellO hv hci] at hw2
  have hj2 : (nI j).toNatClampNeg = j := nI_clamp (by omega)
  have e : (u_W G M).set q (gP G k, .inl (gC G (t - 12), gN G k, .inr (.inr (.inr (.inr (va_up (fun i => (gF G k i).map (gP G)) (nI j).toNatClampNeg (some (gP G v)))))))) = u_W (gR G k j v) M := by
    have hk2 : u_is (gR G k j v) k t := hk
    have e2 : w_cell (gR G k j v) M k = .inl (gC G (t - 12), gN G k, .inr (.inr (.inr (.inr (va_up (fun i => (gF G k i).map (gP G)) (nI j).toNatClampNeg (some (gP G v))))))) := by
      rw [w_cellR hk2 ht.2.1, hj2]
      have e3 : (fun i => (gF (gR G k j v) k i).map (gP (gR G k j v))) = va_up (fun i => (gF G k i).map (gP G)) j (some (gP G v)) := by
        funext i
        rw [gR_f]
        unfold va_up
        by_cases hi : i = j
        · simp [hi]; rfl
        · simp [hi]; rfl
      rw [e3]
      rfl
    rw [← e2]
    exact gR_setW hD hq
  refine va_astq hx hb hK hP hD hS q (t - 12) q2 ci hw (ht.ty (gC G)) hw2 hc (nI_in hj (by omega)) hd (fun H locs hP hD hS => ?_)
  rw [e] at hP hD
  exact kk (gR G k j v) (gR_x hv.1) gR_f H locs ls hP hD hS hl
end UNEW
