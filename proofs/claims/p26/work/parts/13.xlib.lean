/-! methods that throw: what they need of the tables and of the heap -/
def x_IA : String := "java/lang/IllegalArgumentException"
def x_IS : String := "java/lang/IllegalStateException"
def x_IX : String := "java/lang/IndexOutOfBoundsException"
def x_nm : List String := ["java/lang/RuntimeException", "java/lang/Exception"]
def x_bad (ic : Nat) (cls : String) : List Cond := (vx_atS RX10 ic cls x_nm).filter (fun w => !goodWord w)
def x_isC (w : Cond) : Bool := match w with
  | .castable _ _ => true
  | .declares _ => true
  | _ => false
theorem x_bad_ok : (x_bad 41 x_IA).all x_isC = true ∧ (x_bad 60 x_IS).all x_isC = true ∧ (x_bad 113 x_IX).all x_isC = true := ⟨by decide +kernel, by decide +kernel, by decide +kernel⟩
def x_cls : List (Nat × String) := [(41, x_IA), (60, x_IS), (113, x_IX)]
def x_str : List (Nat × String) := [(39, "period or rise is out of range"), (44, "range or phase is out of range"), (58, "there are 6 turns"), (65, "level is out of range"), (73, "from, to or height is out of range"), (78, "20 surges were told"), (80, "water or silt is out of range"), (85, "mark or lead is out of range"), (96, "area or mud is out of range"), (98, "up or low is out of range"), (103, "there are 8 sections, or an hour went by"), (111, "there is no such section"), (114, "rate or grain is out of range"), (116, "room or use is out of range"), (121, "there are 6 intakes"), (123, "grain or hours is out of range"), (128, "there are 6 oysters"), (139, "amount is out of range"), (154, "amount is out of range, or both sections are the same"), (156, "the dredging is refused"), (158, "hours is out of range"), (160, "now would be above 1000"), (166, "hour is out of range"), (171, "what is out of range"), (189, "there is no such intake"), (198, "there are no such oysters"), (206, "there is no such closure"), (210, "grain is out of range"), (222, "keel or hours is out of range"), (224, "there are no sections")]
def x_nc : List (String × String) := [(x_IA, x_IS), (x_IA, x_IX), (x_IS, x_IA), (x_IS, x_IX), (x_IX, x_IA), (x_IX, x_IS)]
/-- of the tables -/
def u_XT (U : State) : Prop := (∀ q ∈ x_str, ∃ sa : Nat, vk_R RX10 q.1 q.2 sa U) ∧ (∀ q ∈ x_cls, (∀ w ∈ x_bad q.1 q.2, va_Nw w U) ∧ va_Nw (.castable q.2 q.2) U) ∧ (∀ q ∈ x_nc, va_Nc q.1 q.2 U)
/-- of the heap: the two fields of Throwable -/
def u_XH (A : Nat → Prop) (U : State) (H : Heap) : Prop := vx_Zq Bundle.tN "UNASSIGNED_STACK" Bundle.steD A U H ∧ vx_Zq Bundle.tN "SUPPRESSED_SENTINEL" Bundle.listD A U H
theorem x_badC {q : Nat × String} (hq : q ∈ x_cls) : ∀ w ∈ x_bad q.1 q.2, x_isC w = true := by
  simp only [x_cls, List.mem_cons, List.not_mem_nil, or_false] at hq
  rcases hq with rfl | rfl | rfl
  · exact List.all_eq_true.mp x_bad_ok.1
  · exact List.all_eq_true.mp x_bad_ok.2.1
  · exact List.all_eq_true.mp x_bad_ok.2.2
theorem x_warmC {w : Cond} (h : x_isC w = true) {s U : State} (hW : s.WarmedH U.vm) (hw : va_Nw w s) : va_Nw w U := by
  cases w <;> first | exact va_Nw.warmC hW hw | exact va_Nw.warmD hW hw | cases h
theorem x_sameC {w : Cond} (h : x_isC w = true) {u U : State} (hv : u.vm = U.vm) (hw : va_Nw w u) : va_Nw w U := by
  cases w <;> first | exact va_Nw.same rfl hv hw | cases h
theorem u_XT.warm {s U : State} (hW : s.WarmedH U.vm) (h : u_XT s) : u_XT U := by
  refine ⟨fun q hq => ?_, fun q hq => ⟨fun w hw => x_warmC (x_badC hq w hw) hW ((h.2.1 q hq).1 w hw), va_Nw.warmC hW (h.2.1 q hq).2⟩, fun q hq => va_Nc.moved hW.alike (h.2.2 q hq)⟩
  obtain ⟨sa, hs⟩ := h.1 q hq
  exact ⟨sa, hs.warm hW⟩
theorem u_XT.same {u U : State} (hv : u.vm = U.vm) (h : u_XT u) : u_XT U := by
  refine ⟨fun q hq => ?_, fun q hq => ⟨fun w hw => x_sameC (x_badC hq w hw) hv ((h.2.1 q hq).1 w hw), va_Nw.same rfl hv (h.2.1 q hq).2⟩, fun q hq => va_Nc.moved (by rw [hv]; exact Vm.Alike.refl _) (h.2.2 q hq)⟩
  obtain ⟨sa, hs⟩ := h.1 q hq
  exact ⟨sa, vk_R.same hv.symm hs⟩
theorem u_XH.moved {A : Nat → Prop} {u U : State} {H : Heap} (hvm : u.vm.Alike U.vm) (h : u_XH A u H) : u_XH A U H := ⟨h.1.moved hvm, h.2.moved hvm⟩
theorem u_XH.kept {A : Nat → Prop} {U : State} {H H1 : Heap} (h : u_XH A U H) (hq : ∀ a : Nat, a < H.size → ¬ A a → H1[a]? = H[a]?) : u_XH A U H1 := ⟨h.1.kept hq, h.2.kept hq⟩
theorem u_XH.narrow {A B : Nat → Prop} {U : State} {H : Heap} (h : u_XH A U H) (hAB : ∀ q, B q → A q) : u_XH B U H := ⟨h.1.narrow hAB, h.2.narrow hAB⟩
theorem x_hgood : ∀ q ∈ x_cls, ∀ w ∈ vx_atS RX10 q.1 q.2 x_nm, vx_ot w = true := by
  intro q hq
  simp only [x_cls, List.mem_cons, List.not_mem_nil, or_false] at hq
  rcases hq with rfl | rfl | rfl
  · exact List.all_eq_true.mp (by decide +kernel)
  · exact List.all_eq_true.mp (by decide +kernel)
  · exact List.all_eq_true.mp (by decide +kernel)
theorem x_goodin : ∀ q ∈ x_cls, ∀ w ∈ (vx_atS RX10 q.1 q.2 x_nm).filter goodWord, w ∈ wsL_law := by
  intro q hq w hw
  simp only [x_cls, List.mem_cons, List.not_mem_nil, or_false] at hq
  rcases hq with rfl | rfl | rfl
  · exact List.mem_append_left _ (List.mem_append_left _ (List.mem_append_right _ hw))
  · exact List.mem_append_left _ (List.mem_append_right _ hw)
  · exact List.mem_append_right _ hw
theorem x_hat {args : Array Value} {s : State} (hts : ∀ w ∈ wsL_law, w.before args s = true) (hX : u_XT s) {q : Nat × String} (hq : q ∈ x_cls) : ∀ w ∈ vx_atS RX10 q.1 q.2 x_nm, w.before args s = true :=
  vx_hat (B := x_bad q.1 q.2) (fun w hw => hts w (x_goodin q hq w hw)) (fun w hw => hw) (fun w hw => by
    have h1 := (hX.2.1 q hq).1 w hw
    have h2 := x_badC hq w hw
    cases w <;> first | exact va_Nw.use rfl h1 | cases h2)
/-- a site that throws -/
def u_tf (cc : ByteArray) (pc : Nat) (cls : String) : Prop := ∃ (ik is ic : Nat) (text : String), decode cc pc = .ok (.new ik, 3) ∧ decode cc (pc + 3) = .ok (.dup, 1) ∧ decode cc (pc + 4) = .ok (.ldc is, 2) ∧ decode cc (pc + 6) = .ok (.invokespecial ic, 3) ∧ decode cc (pc + 9) = .ok (.athrow, 1) ∧ (is, text) ∈ x_str ∧ (ic, cls) ∈ x_cls ∧ Cond.classLink RX10 ik cls ∈ wsL_law ∧ Cond.initialized cls ∈ wsL_law
def u_rx (f n : Nat) : Room := { frames := f, cells := 1, slots := 6, locals := n }
def u_PreX (D : va_G) (G : w_G) (M : w_M) (sz : Nat) (av : List Value) : Array Value → State → Prop := va_Pc av (fun U => U.heap.size = sz ∧ va_P D vwCl (u_W G M) U.heap ∧ (va_K D vwCl (w_ty (gC G)) U ∧ u_N U) ∧ va_D (fun _ => True) (u_W G M) ∧ u_XT U ∧ u_XH (va_A (u_W G M) sz) U U.heap)
theorem u_blindX {D : va_G} {G : w_G} {M : w_M} {sz : Nat} {av : List Value} : FrameBlind (u_PreX D G M sz av) := fun a U g mk q => by
  obtain ⟨q0, q1, qP, qK, qD, qT, qH⟩ := q
  exact ⟨q0, q1, qP, ⟨va_K.moved (u := U) (U := U.calling g mk a) (Vm.Alike.refl U.vm) qK.1, u_N.same (u := U) (U := U.calling g mk a) rfl qK.2⟩, qD, u_XT.same (u := U) (U := U.calling g mk a) rfl qT, u_XH.moved (u := U) (U := U.calling g mk a) (Vm.Alike.refl U.vm) qH⟩
/-- a method that returns an int, or throws: 'px cls M2' -/
def u_Bt (D : va_G) (G : w_G) (px : String → w_M → Prop) : String → w_M → State → Prop := fun E M2 t => px E M2 ∧ u_Bx D G M2 t
def u_XMi (l : Launch) (D : va_G) (G : w_G) (y : MethodName) (cc : ByteArray) (maxL : Nat) (ret : Option FieldType) (f n : Nat) (av : List Value) (M : w_M) (post : Int32 → w_M → Prop) (px : String → w_M → Prop) : Prop := ∀ sz : Nat, vx_Met l y (u_ws2 y cc maxL ret) (u_rx f n) (u_PreX D G M sz av) (va_Qi post (u_Bx D G) (va_A (u_W G M) sz)) (vx_X (fun _ => True) (u_Bt D G px) (va_A (u_W G M) sz)) 1 6 (va_A (u_W G M) sz)
def u_XMl (l : Launch) (D : va_G) (G : w_G) (y : MethodName) (cc : ByteArray) (maxL : Nat) (ret : Option FieldType) (f n : Nat) (av : List Value) (M : w_M) (post : Int64 → w_M → Prop) (px : String → w_M → Prop) : Prop := ∀ sz : Nat, vx_Met l y (u_ws2 y cc maxL ret) (u_rx f n) (u_PreX D G M sz av) (va_Ql post (u_Bx D G) (va_A (u_W G M) sz)) (vx_X (fun _ => True) (u_Bt D G px) (va_A (u_W G M) sz)) 1 6 (va_A (u_W G M) sz)
section UXB
variable {l : Launch} {D : va_G} {G : w_G} {y : MethodName} {cc : ByteArray} {maxL f n : Nat} {av : List Value} {M : w_M}
theorem u_bodyXi {ret : Option FieldType} {post : Int32 → w_M → Prop} {px : String → w_M → Prop} (hst : l.stackTraces = false) (hy : plainName y.cls = true) (hyc : y.cls = RX10) (hav : (lg_sl av).length ≤ maxL) (hf6 : 6 ≤ f ∧ 90 ≤ n) (hret : ret = some .int) (body : ∀ (p : Program) (e : Env) (s : State) (m : MethodId) (args : Array Value) (below : List Frame) (meth : Method) (c : Code) (A : Nat → Prop) (H0 : Heap) (Q : State → Prop), u_C p (u_rx f n) s m args c cc y.cls maxL D A H0 0 0 G → (∀ (pc : Nat) (lv : List (Nat × Value)) (r : Int32) (M2 : w_M), decode cc pc = .ok (.ireturn, 1) → post r M2 → u_S p l e (u_rx f n) s m args below meth c maxL D A H0 0 0 Q pc lv [.int r] G M2) → (∀ (pc : Nat) (lv : List (Nat × Value)) (cls : String) (M2 : w_M), u_tf cc pc cls → px cls M2 → u_S p l e (u_rx f n) s m args below meth c maxL D A H0 0 0 Q pc lv [] G M2) → u_S p l e (u_rx f n) s m args below meth c maxL D A H0 0 0 Q 0 (lv_args 0 av) [] G M) : u_XMi l D G y cc maxL ret f n av M post px := by
  intro sz
  refine vx_ofW (cc := cc) (maxL := maxL) (ret := ret) hy rfl ?_
  intro p e s m args below meth c s₁ B hml htab hv
  obtain ⟨rfl, hsz, hP, hK, hD0, hXT, hXH⟩ := hv
  have hx := B.exec
  have hb := B.bytes
  have hr := B.returns
  have hts := atoms_spec (ws := u_ws2 y cc maxL ret) B.pre
  have hts2 : ∀ w ∈ wsL_law, w.before av.toArray s = true := fun w hw => hts w (List.mem_cons_of_mem _ hw)
  have hown : s.vm.findClass y.cls = some m.cls := findClass_of_methodNamed B.named
  have hlocks := B.notSynchronized
  subst hsz
  have hD := hD0.self (sz := s.heap.size)
  have hA : ∀ q : Nat, s.heap.size ≤ q → va_A (u_W G M) s.heap.size q := fun q h => Or.inr h
  have hS : va_S (va_A (u_W G M) s.heap.size) s.heap s.heap [] := va_S.rf
  have hl := lv_entry av (n := maxL) hav
  rw [lg_entry_eq]
  refine body p e s m av.toArray below meth c _ s.heap _ ⟨⟨hx, hb, hml, hown, hts2⟩, hK, hA, Nat.zero_le _, Nat.zero_le _⟩ ?_ ?_ s.heap [] _ hP hD hS hl
  · intro pc lv r M2 hd hq H locs ls hP hD hS hl
    subst hret
    refine vx_ret (W.widen (k := 1) (n := 6) (Nat.zero_le _) (Nat.zero_le _) ?_)
    exact W.iret hx hb hr (fun t ht hW => ⟨⟨r, M2, rfl, hq, by rw [u_Bx, ht]; exact hP⟩, hS.F ht⟩) hS.2.2 hd
  · intro pc lv cls M2 ⟨ik, is, ic, text, d0, d3, d4, d6, d9, hstr, hcls, hk, hini⟩ hq H locs ls hP hD hS hl
    obtain ⟨sa, hsa⟩ := hXT.1 _ hstr
    rw [hyc] at hown
    refine vx_throwS (sa := sa) (A := va_A (u_W G M) s.heap.size) hx hb hst hown ?_ (by decide) (hts2 _ hk) (hts2 _ hini) hsa (x_hat hts2 hXT hcls) ?_ hXH.1 hXH.2 hS (hl.1.trans hml.symm) d0 d3 d4 d6 d9 (fun x hx => absurd (htab x hx) id) (by show 2 + 3 < f; omega) (by show 0 + (13 * (2 + 1) + 43) ≤ n; omega) (Nat.le_refl 1) (Nat.le_refl 6) hlocks ?_ hS.2.2 (Nat.le_refl 1) (Nat.le_refl 6)
    · simp only [x_cls, List.mem_cons, List.not_mem_nil, or_false, Prod.mk.injEq] at hcls
      rcases hcls with ⟨-, rfl⟩ | ⟨-, rfl⟩ | ⟨-, rfl⟩ <;> decide
    · intro w hw
      rcases List.mem_cons.mp hw with rfl | hw
      · rfl
      · rcases List.mem_cons.mp hw with rfl | hw
        · rfl
        · exact x_hgood _ hcls w hw
    · intro t hvm hsz hkeep
      refine ⟨M2, trivial, ⟨hq, ?_⟩, ?_⟩
      · exact hP.kept (fun k q hk => hkeep q.1 (hP k q hk).lt)
      · exact ⟨Nat.le_trans hS.1 hsz, fun q h1 h2 => by rw [hkeep q (Nat.lt_of_lt_of_le h1 hS.1)]; exact hS.2.1 q h1 h2⟩

theorem u_bodyXz {ret : Option FieldType} {post : Int32 → w_M → Prop} {px : String → w_M → Prop} (hst : l.stackTraces = false) (hy : plainName y.cls = true) (hyc : y.cls = RX10) (hav : (lg_sl av).length ≤ maxL) (hf6 : 6 ≤ f ∧ 90 ≤ n) (hret : ret = some .boolean) (body : ∀ (p : Program) (e : Env) (s : State) (m : MethodId) (args : Array Value) (below : List Frame) (meth : Method) (c : Code) (A : Nat → Prop) (H0 : Heap) (Q : State → Prop), u_C p (u_rx f n) s m args c cc y.cls maxL D A H0 0 0 G → (∀ (pc : Nat) (lv : List (Nat × Value)) (r : Int32) (M2 : w_M), decode cc pc = .ok (.ireturn, 1) → r = 0 ∨ r = 1 → post r M2 → u_S p l e (u_rx f n) s m args below meth c maxL D A H0 0 0 Q pc lv [.int r] G M2) → (∀ (pc : Nat) (lv : List (Nat × Value)) (cls : String) (M2 : w_M), u_tf cc pc cls → px cls M2 → u_S p l e (u_rx f n) s m args below meth c maxL D A H0 0 0 Q pc lv [] G M2) → u_S p l e (u_rx f n) s m args below meth c maxL D A H0 0 0 Q 0 (lv_args 0 av) [] G M) : u_XMi l D G y cc maxL ret f n av M post px := by
  intro sz
  refine vx_ofW (cc := cc) (maxL := maxL) (ret := ret) hy rfl ?_
  intro p e s m args below meth c s₁ B hml htab hv
  obtain ⟨rfl, hsz, hP, hK, hD0, hXT, hXH⟩ := hv
  have hx := B.exec
  have hb := B.bytes
  have hr := B.returns
  have hts := atoms_spec (ws := u_ws2 y cc maxL ret) B.pre
  have hts2 : ∀ w ∈ wsL_law, w.before av.toArray s = true := fun w hw => hts w (List.mem_cons_of_mem _ hw)
  have hown : s.vm.findClass y.cls = some m.cls := findClass_of_methodNamed B.named
  have hlocks := B.notSynchronized
  subst hsz
  have hD := hD0.self (sz := s.heap.size)
  have hA : ∀ q : Nat, s.heap.size ≤ q → va_A (u_W G M) s.heap.size q := fun q h => Or.inr h
  have hS : va_S (va_A (u_W G M) s.heap.size) s.heap s.heap [] := va_S.rf
  have hl := lv_entry av (n := maxL) hav
  rw [lg_entry_eq]
  refine body p e s m av.toArray below meth c _ s.heap _ ⟨⟨hx, hb, hml, hown, hts2⟩, hK, hA, Nat.zero_le _, Nat.zero_le _⟩ ?_ ?_ s.heap [] _ hP hD hS hl
  · intro pc lv r M2 hd h01 hq H locs ls hP hD hS hl
    subst hret
    refine vx_ret (W.widen (k := 1) (n := 6) (Nat.zero_le _) (Nat.zero_le _) ?_)
    exact W.zret hx hb hr (by rcases h01 with rfl | rfl <;> rfl) (fun t ht hW => ⟨⟨r, M2, rfl, hq, by rw [u_Bx, ht]; exact hP⟩, hS.F ht⟩) hS.2.2 hd
  · intro pc lv cls M2 ⟨ik, is, ic, text, d0, d3, d4, d6, d9, hstr, hcls, hk, hini⟩ hq H locs ls hP hD hS hl
    obtain ⟨sa, hsa⟩ := hXT.1 _ hstr
    rw [hyc] at hown
    refine vx_throwS (sa := sa) (A := va_A (u_W G M) s.heap.size) hx hb hst hown ?_ (by decide) (hts2 _ hk) (hts2 _ hini) hsa (x_hat hts2 hXT hcls) ?_ hXH.1 hXH.2 hS (hl.1.trans hml.symm) d0 d3 d4 d6 d9 (fun x hx => absurd (htab x hx) id) (by show 2 + 3 < f; omega) (by show 0 + (13 * (2 + 1) + 43) ≤ n; omega) (Nat.le_refl 1) (Nat.le_refl 6) hlocks ?_ hS.2.2 (Nat.le_refl 1) (Nat.le_refl 6)
    · simp only [x_cls, List.mem_cons, List.not_mem_nil, or_false, Prod.mk.injEq] at hcls
      rcases hcls with ⟨-, rfl⟩ | ⟨-, rfl⟩ | ⟨-, rfl⟩ <;> decide
    · intro w hw
      rcases List.mem_cons.mp hw with rfl | hw
      · rfl
      · rcases List.mem_cons.mp hw with rfl | hw
        · rfl
        · exact x_hgood _ hcls w hw
    · intro t hvm hsz hkeep
      refine ⟨M2, trivial, ⟨hq, ?_⟩, ?_⟩
      · exact hP.kept (fun k q hk => hkeep q.1 (hP k q hk).lt)
      · exact ⟨Nat.le_trans hS.1 hsz, fun q h1 h2 => by rw [hkeep q (Nat.lt_of_lt_of_le h1 hS.1)]; exact hS.2.1 q h1 h2⟩

theorem u_bodyXl {ret : Option FieldType} {post : Int64 → w_M → Prop} {px : String → w_M → Prop} (hst : l.stackTraces = false) (hy : plainName y.cls = true) (hyc : y.cls = RX10) (hav : (lg_sl av).length ≤ maxL) (hf6 : 6 ≤ f ∧ 90 ≤ n) (hret : ret = some .long) (body : ∀ (p : Program) (e : Env) (s : State) (m : MethodId) (args : Array Value) (below : List Frame) (meth : Method) (c : Code) (A : Nat → Prop) (H0 : Heap) (Q : State → Prop), u_C p (u_rx f n) s m args c cc y.cls maxL D A H0 0 0 G → (∀ (pc : Nat) (lv : List (Nat × Value)) (r : Int64) (M2 : w_M), decode cc pc = .ok (.lreturn, 1) → post r M2 → u_S p l e (u_rx f n) s m args below meth c maxL D A H0 0 0 Q pc lv [.long r] G M2) → (∀ (pc : Nat) (lv : List (Nat × Value)) (cls : String) (M2 : w_M), u_tf cc pc cls → px cls M2 → u_S p l e (u_rx f n) s m args below meth c maxL D A H0 0 0 Q pc lv [] G M2) → u_S p l e (u_rx f n) s m args below meth c maxL D A H0 0 0 Q 0 (lv_args 0 av) [] G M) : u_XMl l D G y cc maxL ret f n av M post px := by
  intro sz
  refine vx_ofW (cc := cc) (maxL := maxL) (ret := ret) hy rfl ?_
  intro p e s m args below meth c s₁ B hml htab hv
  obtain ⟨rfl, hsz, hP, hK, hD0, hXT, hXH⟩ := hv
  have hx := B.exec
  have hb := B.bytes
  have hr := B.returns
  have hts := atoms_spec (ws := u_ws2 y cc maxL ret) B.pre
  have hts2 : ∀ w ∈ wsL_law, w.before av.toArray s = true := fun w hw => hts w (List.mem_cons_of_mem _ hw)
  have hown : s.vm.findClass y.cls = some m.cls := findClass_of_methodNamed B.named
  have hlocks := B.notSynchronized
  subst hsz
  have hD := hD0.self (sz := s.heap.size)
  have hA : ∀ q : Nat, s.heap.size ≤ q → va_A (u_W G M) s.heap.size q := fun q h => Or.inr h
  have hS : va_S (va_A (u_W G M) s.heap.size) s.heap s.heap [] := va_S.rf
  have hl := lv_entry av (n := maxL) hav
  rw [lg_entry_eq]
  refine body p e s m av.toArray below meth c _ s.heap _ ⟨⟨hx, hb, hml, hown, hts2⟩, hK, hA, Nat.zero_le _, Nat.zero_le _⟩ ?_ ?_ s.heap [] _ hP hD hS hl
  · intro pc lv r M2 hd hq H locs ls hP hD hS hl
    subst hret
    refine vx_ret (W.widen (k := 1) (n := 6) (Nat.zero_le _) (Nat.zero_le _) ?_)
    exact W.lret hx hb hr (fun t ht hW => ⟨⟨r, M2, rfl, hq, by rw [u_Bx, ht]; exact hP⟩, hS.F ht⟩) hS.2.2 hd
  · intro pc lv cls M2 ⟨ik, is, ic, text, d0, d3, d4, d6, d9, hstr, hcls, hk, hini⟩ hq H locs ls hP hD hS hl
    obtain ⟨sa, hsa⟩ := hXT.1 _ hstr
    rw [hyc] at hown
    refine vx_throwS (sa := sa) (A := va_A (u_W G M) s.heap.size) hx hb hst hown ?_ (by decide) (hts2 _ hk) (hts2 _ hini) hsa (x_hat hts2 hXT hcls) ?_ hXH.1 hXH.2 hS (hl.1.trans hml.symm) d0 d3 d4 d6 d9 (fun x hx => absurd (htab x hx) id) (by show 2 + 3 < f; omega) (by show 0 + (13 * (2 + 1) + 43) ≤ n; omega) (Nat.le_refl 1) (Nat.le_refl 6) hlocks ?_ hS.2.2 (Nat.le_refl 1) (Nat.le_refl 6)
    · simp only [x_cls, List.mem_cons, List.not_mem_nil, or_false, Prod.mk.injEq] at hcls
      rcases hcls with ⟨-, rfl⟩ | ⟨-, rfl⟩ | ⟨-, rfl⟩ <;> decide
    · intro w hw
      rcases List.mem_cons.mp hw with rfl | hw
      · rfl
      · rcases List.mem_cons.mp hw with rfl | hw
        · rfl
        · exact x_hgood _ hcls w hw
    · intro t hvm hsz hkeep
      refine ⟨M2, trivial, ⟨hq, ?_⟩, ?_⟩
      · exact hP.kept (fun k q hk => hkeep q.1 (hP k q hk).lt)
      · exact ⟨Nat.le_trans hS.1 hsz, fun q h1 h2 => by rw [hkeep q (Nat.lt_of_lt_of_le h1 hS.1)]; exact hS.2.1 q h1 h2⟩

end UXB
