section
-- ===== PART A: goes FIRST, ahead of the names: the tables' words, and 'selects' of the private methods out of them =====
/-- a private method of a class that the tables say can be made, by its rows of tables_1 -/
def lw_okq (q : MethodName × Nat) : Prop := (q.1.cls ≠ "java/lang/invoke/MethodHandle" ∧ q.1.cls ≠ "java/lang/invoke/VarHandle") ∧ Cond.instantiable q.1.cls q.2 ∈ tables_1 ∧ Cond.privateMethod q.1 ∈ tables_1 ∧ Cond.instanceMethod q.1 ∈ tables_1
theorem lw_p0 : lw_okq (⟨"java/lang/Throwable", "fillInStackTrace", "(I)Ljava/lang/Throwable;"⟩, 6) := ⟨⟨by decide +kernel, by decide +kernel⟩, List.mem_of_getElem? (i := 384) (by decide +kernel), List.mem_of_getElem? (i := 382) (by decide +kernel), List.mem_of_getElem? (i := 383) (by decide +kernel)⟩
theorem lw_p1 : lw_okq (⟨"Saltwedge", "tell", "(IIIIII)V"⟩, 5) := ⟨⟨by decide +kernel, by decide +kernel⟩, List.mem_of_getElem? (i := 21) (by decide +kernel), List.mem_of_getElem? (i := 431) (by decide +kernel), List.mem_of_getElem? (i := 432) (by decide +kernel)⟩
theorem lw_p2 : lw_okq (⟨"SaltwedgeModel", "holds", "(I)Z"⟩, 43) := ⟨⟨by decide +kernel, by decide +kernel⟩, List.mem_of_getElem? (i := 838) (by decide +kernel), List.mem_of_getElem? (i := 985) (by decide +kernel), List.mem_of_getElem? (i := 986) (by decide +kernel)⟩
theorem lw_p3 : lw_okq (⟨"SaltwedgeModel", "isSection", "(I)Z"⟩, 43) := ⟨⟨by decide +kernel, by decide +kernel⟩, List.mem_of_getElem? (i := 838) (by decide +kernel), List.mem_of_getElem? (i := 1013) (by decide +kernel), List.mem_of_getElem? (i := 1014) (by decide +kernel)⟩
theorem lw_p4 : lw_okq (⟨"SaltwedgeModel", "why", "(II)I"⟩, 43) := ⟨⟨by decide +kernel, by decide +kernel⟩, List.mem_of_getElem? (i := 838) (by decide +kernel), List.mem_of_getElem? (i := 1029) (by decide +kernel), List.mem_of_getElem? (i := 1030) (by decide +kernel)⟩
theorem lw_p5 : lw_okq (⟨"SaltwedgeModel", "hour", "()V"⟩, 43) := ⟨⟨by decide +kernel, by decide +kernel⟩, List.mem_of_getElem? (i := 838) (by decide +kernel), List.mem_of_getElem? (i := 1041) (by decide +kernel), List.mem_of_getElem? (i := 1042) (by decide +kernel)⟩
theorem lw_p6 : lw_okq (⟨"SaltwedgeModel", "seaOf", "(I)I"⟩, 43) := ⟨⟨by decide +kernel, by decide +kernel⟩, List.mem_of_getElem? (i := 838) (by decide +kernel), List.mem_of_getElem? (i := 1045) (by decide +kernel), List.mem_of_getElem? (i := 1046) (by decide +kernel)⟩
theorem lw_p7 : lw_okq (⟨"SaltwedgeModel", "heightOf", "(II)I"⟩, 43) := ⟨⟨by decide +kernel, by decide +kernel⟩, List.mem_of_getElem? (i := 838) (by decide +kernel), List.mem_of_getElem? (i := 1049) (by decide +kernel), List.mem_of_getElem? (i := 1050) (by decide +kernel)⟩
theorem lw_p8 : lw_okq (⟨"SaltwedgeModel", "isShutNow", "()Z"⟩, 43) := ⟨⟨by decide +kernel, by decide +kernel⟩, List.mem_of_getElem? (i := 838) (by decide +kernel), List.mem_of_getElem? (i := 1053) (by decide +kernel), List.mem_of_getElem? (i := 1054) (by decide +kernel)⟩
theorem lw_p9 : lw_okq (⟨"SaltwedgeModel", "closes", "(I)V"⟩, 43) := ⟨⟨by decide +kernel, by decide +kernel⟩, List.mem_of_getElem? (i := 838) (by decide +kernel), List.mem_of_getElem? (i := 1057) (by decide +kernel), List.mem_of_getElem? (i := 1058) (by decide +kernel)⟩
theorem lw_p10 : lw_okq (⟨"SaltwedgeModel", "mouth", "(I)V"⟩, 43) := ⟨⟨by decide +kernel, by decide +kernel⟩, List.mem_of_getElem? (i := 838) (by decide +kernel), List.mem_of_getElem? (i := 1061) (by decide +kernel), List.mem_of_getElem? (i := 1062) (by decide +kernel)⟩
theorem lw_p11 : lw_okq (⟨"SaltwedgeModel", "level", "(I)I"⟩, 43) := ⟨⟨by decide +kernel, by decide +kernel⟩, List.mem_of_getElem? (i := 838) (by decide +kernel), List.mem_of_getElem? (i := 1065) (by decide +kernel), List.mem_of_getElem? (i := 1066) (by decide +kernel)⟩
theorem lw_p12 : lw_okq (⟨"SaltwedgeModel", "bed", "(I)I"⟩, 43) := ⟨⟨by decide +kernel, by decide +kernel⟩, List.mem_of_getElem? (i := 838) (by decide +kernel), List.mem_of_getElem? (i := 1069) (by decide +kernel), List.mem_of_getElem? (i := 1070) (by decide +kernel)⟩
theorem lw_p13 : lw_okq (⟨"SaltwedgeModel", "leaves", "(III)V"⟩, 43) := ⟨⟨by decide +kernel, by decide +kernel⟩, List.mem_of_getElem? (i := 838) (by decide +kernel), List.mem_of_getElem? (i := 1073) (by decide +kernel), List.mem_of_getElem? (i := 1074) (by decide +kernel)⟩
theorem lw_p14 : lw_okq (⟨"SaltwedgeModel", "neighbours", "(I)V"⟩, 43) := ⟨⟨by decide +kernel, by decide +kernel⟩, List.mem_of_getElem? (i := 838) (by decide +kernel), List.mem_of_getElem? (i := 1080) (by decide +kernel), List.mem_of_getElem? (i := 1081) (by decide +kernel)⟩
theorem lw_p15 : lw_okq (⟨"SaltwedgeModel", "flows", "(IIII)V"⟩, 43) := ⟨⟨by decide +kernel, by decide +kernel⟩, List.mem_of_getElem? (i := 838) (by decide +kernel), List.mem_of_getElem? (i := 1084) (by decide +kernel), List.mem_of_getElem? (i := 1085) (by decide +kernel)⟩
def lw_privs_1 : List (MethodName × Nat) := [(⟨"java/lang/Throwable", "fillInStackTrace", "(I)Ljava/lang/Throwable;"⟩, 6), (⟨"Saltwedge", "tell", "(IIIIII)V"⟩, 5), (⟨"SaltwedgeModel", "holds", "(I)Z"⟩, 43), (⟨"SaltwedgeModel", "isSection", "(I)Z"⟩, 43), (⟨"SaltwedgeModel", "why", "(II)I"⟩, 43), (⟨"SaltwedgeModel", "hour", "()V"⟩, 43), (⟨"SaltwedgeModel", "seaOf", "(I)I"⟩, 43), (⟨"SaltwedgeModel", "heightOf", "(II)I"⟩, 43), (⟨"SaltwedgeModel", "isShutNow", "()Z"⟩, 43), (⟨"SaltwedgeModel", "closes", "(I)V"⟩, 43), (⟨"SaltwedgeModel", "mouth", "(I)V"⟩, 43), (⟨"SaltwedgeModel", "level", "(I)I"⟩, 43), (⟨"SaltwedgeModel", "bed", "(I)I"⟩, 43), (⟨"SaltwedgeModel", "leaves", "(III)V"⟩, 43), (⟨"SaltwedgeModel", "neighbours", "(I)V"⟩, 43), (⟨"SaltwedgeModel", "flows", "(IIII)V"⟩, 43)]
theorem lw_r1 : ∀ q ∈ lw_privs_1, lw_okq q := List.forall_mem_cons.mpr ⟨lw_p0, List.forall_mem_cons.mpr ⟨lw_p1, List.forall_mem_cons.mpr ⟨lw_p2, List.forall_mem_cons.mpr ⟨lw_p3, List.forall_mem_cons.mpr ⟨lw_p4, List.forall_mem_cons.mpr ⟨lw_p5, List.forall_mem_cons.mpr ⟨lw_p6, List.forall_mem_cons.mpr ⟨lw_p7, List.forall_mem_cons.mpr ⟨lw_p8, List.forall_mem_cons.mpr ⟨lw_p9, List.forall_mem_cons.mpr ⟨lw_p10, List.forall_mem_cons.mpr ⟨lw_p11, List.forall_mem_cons.mpr ⟨lw_p12, List.forall_mem_cons.mpr ⟨lw_p13, List.forall_mem_cons.mpr ⟨lw_p14, List.forall_mem_cons.mpr ⟨lw_p15, fun _ h => absurd h List.not_mem_nil⟩⟩⟩⟩⟩⟩⟩⟩⟩⟩⟩⟩⟩⟩⟩⟩
theorem lw_p16 : lw_okq (⟨"SaltwedgeModel", "salinity", "(II)I"⟩, 43) := ⟨⟨by decide +kernel, by decide +kernel⟩, List.mem_of_getElem? (i := 838) (by decide +kernel), List.mem_of_getElem? (i := 1088) (by decide +kernel), List.mem_of_getElem? (i := 1089) (by decide +kernel)⟩
theorem lw_p17 : lw_okq (⟨"SaltwedgeModel", "mixes", "(I)V"⟩, 43) := ⟨⟨by decide +kernel, by decide +kernel⟩, List.mem_of_getElem? (i := 838) (by decide +kernel), List.mem_of_getElem? (i := 1092) (by decide +kernel), List.mem_of_getElem? (i := 1093) (by decide +kernel)⟩
theorem lw_p18 : lw_okq (⟨"SaltwedgeModel", "settles", "(I)V"⟩, 43) := ⟨⟨by decide +kernel, by decide +kernel⟩, List.mem_of_getElem? (i := 838) (by decide +kernel), List.mem_of_getElem? (i := 1096) (by decide +kernel), List.mem_of_getElem? (i := 1097) (by decide +kernel)⟩
theorem lw_p19 : lw_okq (⟨"SaltwedgeModel", "drinks", "(I)V"⟩, 43) := ⟨⟨by decide +kernel, by decide +kernel⟩, List.mem_of_getElem? (i := 838) (by decide +kernel), List.mem_of_getElem? (i := 1100) (by decide +kernel), List.mem_of_getElem? (i := 1101) (by decide +kernel)⟩
def lw_privs_2 : List (MethodName × Nat) := [(⟨"SaltwedgeModel", "salinity", "(II)I"⟩, 43), (⟨"SaltwedgeModel", "mixes", "(I)V"⟩, 43), (⟨"SaltwedgeModel", "settles", "(I)V"⟩, 43), (⟨"SaltwedgeModel", "drinks", "(I)V"⟩, 43)]
theorem lw_r2 : ∀ q ∈ lw_privs_2, lw_okq q := List.forall_mem_cons.mpr ⟨lw_p16, List.forall_mem_cons.mpr ⟨lw_p17, List.forall_mem_cons.mpr ⟨lw_p18, List.forall_mem_cons.mpr ⟨lw_p19, fun _ h => absurd h List.not_mem_nil⟩⟩⟩⟩
def lw_privs : List (MethodName × Nat) := lw_privs_1 ++ (lw_privs_2)
def lw_tbl : List Cond := k2_sels lw_privs ++ tables_1
theorem lw_privs_ok : ∀ q ∈ lw_privs, lw_okq q := by
  show ∀ q ∈ lw_privs_1 ++ (lw_privs_2), lw_okq q
  exact List.forall_mem_append.mpr ⟨lw_r1, lw_r2⟩
-- ===== end of PART A; then your names; then what follows =====
end
section
/-! ===== BEGIN words of one list among another's, by their places ===== -/
theorem goodIn_r {big : List Cond} (ws : List Cond) (ps : List Nat) (hp : ws = ps.filterMap (fun i => big[i]?)) (h : ws.all goodWord = true) : GoodIn big ws := by
  intro w hw
  have h1 := List.all_eq_true.mp h w hw
  rw [hp] at hw
  obtain ⟨i, -, hi⟩ := List.mem_filterMap.mp hw
  have hm : w ∈ big := by first | exact List.mem_of_getElem? hi | exact List.getElem?_mem hi
  exact ⟨hm, good_of_word h1⟩
theorem goodIn_app {big a b : List Cond} (ha : GoodIn big a) (hb : GoodIn big b) : GoodIn big (a ++ b) := fun w h => (List.mem_append.mp h).elim (ha w) (hb w)
theorem goodIn_ca {big a b : List Cond} {c : Cond} (ha : GoodIn big (c :: a)) (hb : GoodIn big b) : GoodIn big (c :: (a ++ b)) := fun w h => (List.mem_cons.mp h).elim (fun e => ha w (List.mem_cons.mpr (Or.inl e))) (fun h => (List.mem_append.mp h).elim (fun h => ha w (List.mem_cons.mpr (Or.inr h))) (hb w))
theorem goodIn_sub {big ws : List Cond} (hm : ∀ w ∈ ws, w ∈ big) (h : ws.all goodWord = true) : GoodIn big ws := fun w hw => ⟨hm w hw, good_of_word (List.all_eq_true.mp h w hw)⟩
/-! ===== END ===== -/

/-! ===== BEGIN exceptions that leave a method, and their catching by the caller (launches without stack traces) ===== -/
section VXA
/-! The laws vx_back, vx_callV, vx_callS, vx_callSW, vx_throw0, vx_throwS follow proofs of the library, with one case more: JvmDerived/Free/Laws.lean (Back.of_free), Shelf42/LK1.lean (callV, callS), Shelf/KitTraced.lean (throwNew0V, throwNewS). -/
/-- where a method has thrown q: the class by its name, the cell, what was written, the world -/
def vx_T (XC : String → State → State → Prop) (st : State) (q : Addr) (t : State) (mc ms : Nat) (free : Addr → Prop) : Prop :=
  ∃ (E : String) (ce : Cell) (L : List Loc), XC E st t ∧ t.heap[q]? = some ce ∧ ce.vm = .none ∧ st.vm.findClass E = some ce.cls ∧ st.WarmedH t.vm ∧ st.sameButNew ({ t with vm := st.vm } : State) L mc ms ∧ ∀ z ∈ L, free z.base
def vx_Q (Qc : Array Value → State → Outcome → State → Prop) (XC : String → State → State → Prop) (mc ms : Nat) (free : Addr → Prop) : Array Value → State → Outcome → State → Prop := fun a st o t =>
  (Qc a st o t ∧ ∃ L, FrameEnd st o t L mc ms ∧ ∀ q ∈ L, free q.base) ∨ ∃ q, o = .threw q ∧ vx_T XC st q t mc ms free
/-- a callee that returns or throws -/
def vx_Met (l : Launch) (y : MethodName) (ws : List Cond) (rm : Room) (Pc : Array Value → State → Prop) (Qc : Array Value → State → Outcome → State → Prop) (XC : String → State → State → Prop) (mc ms : Nat) (free : Addr → Prop) : Prop :=
  MetFree l y (headSpec ws rm) Pc (fun _ _ _ _ _ => True) (vx_Q Qc XC mc ms free)
def vx_Post (XC : String → State → State → Prop) (mc ms : Nat) (free : Addr → Prop) : Pt → Array Value → Addr → Pt → Prop := fun A a q B =>
  ∃ (g : JFrame) (mk : MethodId) (t : State) (L : List Loc) (E : String) (ce : Cell), B.U.heap = t.heap ∧ B.U.vm = t.vm ∧ XC E (A.U.calling g mk a) t ∧ t.heap[q]? = some ce ∧ ce.vm = .none ∧ A.U.vm.findClass E = some ce.cls ∧ B.locs = A.locs ++ L ∧ (∀ z ∈ L, free z.base) ∧ B.cells = A.cells + mc ∧ B.slots = A.slots + ms
def vx_Back (l : Launch) (R : Room) (p : Program) (e : Env) (below : List Frame) (s : State) (sargs : Array Value) (y : MethodName) (len W9 : Nat)
    (Pre : Pt → Array Value → Prop) (Post : Pt → Array Value → Option Value → Pt → Prop) (PostX : Pt → Array Value → Addr → Pt → Prop) : Prop :=
  ∀ (m : MethodId) (meth : Method) (c : Code) (A : Pt) (g : JFrame) (ig : Instr) (mk : MethodId) (a : Array Value),
    Stand p l e R s m sargs below meth c A.U A.locs A.cells A.slots → g.method = m → g.locals.size = c.maxLocals → decode c.code g.pc = .ok (ig, len) →
    2 * g.monitorRoom + (g.stack.map fun v => v.category).sum ≤ W9 → A.U.methodNamed? y = some mk → Pre A a →
    (∃ (v : Option Value) (B : Pt), Stand p l e R s m sargs below meth c B.U B.locs B.cells B.slots ∧ Post A a v B ∧
      Steps p.tables e below (doInvoke e (A.U.setTop g) [] mk a).1 (B.U.setTop { g with pc := g.pc + len, stack := v.toList ++ g.stack })) ∨
    (∃ (q : Addr) (B : Pt), Stand p l e R s m sargs below meth c B.U B.locs B.cells B.slots ∧ PostX A a q B ∧
      Steps p.tables e below (doInvoke e (A.U.setTop g) [] mk a).1 ((B.U.setTop g).pushFrame (.throwing q)))
section Payer
variable {l : Launch} {R : Room} {p : Program} {e : Env} {below : List Frame} {s : State} {sargs : Array Value} {y : MethodName} {len W9 : Nat}
theorem vx_back {ws : List Cond} {rm : Room} {Pc : Array Value → State → Prop} {Qc : Array Value → State → Outcome → State → Prop} {XC : String → State → State → Prop} {mc ms : Nat} {free : Addr → Prop} {bytes : ByteArray} {maxL : Nat} {ret : Option FieldType}
    (hM : vx_Met l y ws rm Pc Qc XC mc ms free) (hblind : FrameBlind Pc) (hrc : rm.cells = mc) (hrs : rm.slots = ms)
    (hframes : rm.frames + 1 ≤ R.frames) (hlocals : W9 + (maxL + 11) + rm.locals ≤ R.locals)
    (hws : ∀ w ∈ ws, ∀ a' U, s.WarmedH U.vm → w.before a' U = true) (hcode : Cond.code y bytes maxL ret ∈ ws) (hinit : ∀ a' U, s.WarmedH U.vm → (Cond.initialized y.cls).before a' U = true) :
    vx_Back l R p e below s sargs y len W9 (PreOf R mc ms Pc) (PostOf Qc mc ms free) (vx_Post XC mc ms free) := by
  intro m meth c A g ig mk a X hg hsize hdg hW hn hp
  have h1 : (headSpec ws rm).pre.before a A.U = true := atoms_intro fun w hw => hws w hw _ _ X.warmed
  have h2 : (Cond.code y bytes maxL ret).before a A.U = true := hws _ hcode _ _ X.warmed
  have h3 : (Cond.initialized y.cls).before a A.U = true := hinit _ _ X.warmed
  have h4 : A.cells + (headSpec ws rm).room.cells ≤ R.cells := by rw [show (headSpec ws rm).room.cells = mc from hrc]; exact hp.1
  have h5 : A.slots + (headSpec ws rm).room.slots ≤ R.slots := by rw [show (headSpec ws rm).room.slots = ms from hrs]; exact hp.2.1
  have hPc : Pc a (A.U.calling g mk a) := hblind _ _ _ _ hp.2.2
  obtain ⟨U, Ls, c0, s0⟩ := A
  dsimp only [Pt.U, Pt.locs, Pt.cells, Pt.slots] at h1 h2 h3 h4 h5 X hn hPc ⊢
  obtain ⟨methY, cY, hmY, hcY, -, hlY, -, -, -, -⟩ := Cond.code_spec hn h2
  obtain ⟨kY, hkY, -⟩ := className_of_methodNamed hn
  have hinitY : kY.init = .initialized := Cond.initialized_spec (findClass_of_methodNamed hn) hkY h3
  have h : At U g.method c below := by rw [hg]; exact X.here
  have hlocals9 : W9 + (maxL + 11) + (headSpec ws rm).room.locals ≤ R.locals := hlocals
  have happ : (headSpec ws rm).appliesLoose y e.platform (U.calling g mk a) = true :=
    Spec.appliesLoose_calling (g := g) h hdg hn hkY hinitY
      (X.room_calling (g := g) (R' := (headSpec ws rm).room) hsize hmY hcY hframes (by rw [hlY]; omega) h4 h5) h1
  obtain ⟨mid, hmid⟩ := h.above
  have hfr : (U.setTop g).frames = (.java g :: mid) ++ below := by rw [State.frames_setTop' g h.top, hmid]; rfl
  obtain ⟨o, s₂, hsteps, -, hend, hq⟩ := Steps.callFree hM p X.admits X.cas X.clock (acts := []) hfr happ hPc trivial
  have hq' : vx_Q Qc XC mc ms free a (U.calling g mk a) o s₂ := hq
  rw [State.frames_setTop' g h.top] at hend
  obtain ⟨g₀, hg0⟩ := Option.isSome_iff_exists.mp h.top
  obtain ⟨r, hr⟩ := State.topJava?_eq_some.mp hg0
  have hr' : (({ U with heap := s₂.heap, slotsUsed := s₂.slotsUsed } : State).setVm s₂.vm).frames = .java g₀ :: r := hr
  rcases hq' with ⟨hqc, L, hfe, hL⟩ | ⟨q, rfl, E, ce, L, hx, hce, hcv, hcl, hW₂, hsm, hL⟩
  · obtain ⟨⟨v, rfl⟩, hW₂, e2, q2, q3, q4, q5, q6⟩ := id hfe
    have e3 : s₂ = ({ (U.calling g mk a).setFrames s₂.frames with heap := s₂.heap, slotsUsed := s₂.slotsUsed } : State).setVm s₂.vm := by
      have : s₂ = ({ s₂ with vm := (U.calling g mk a).vm } : State).setVm s₂.vm := rfl
      rw [e2] at this
      exact this
    obtain ⟨c₂, i₂, len₂, hc₂, hd₂, hf₂⟩ := hend
    have hW' : U.WarmedH s₂.vm := hW₂
    have hcc : c₂ = c := by
      have h1 : s₂.code? g.method = U.code? g.method := by
        rw [State.code?_eq, State.code?_eq, hW'.alike.method?]
      exact Option.some.inj (hc₂.symm.trans (h1.trans h.code))
    subst hcc
    have hlen : len₂ = len := by rw [hdg] at hd₂; cases hd₂; rfl
    subst hlen
    have hs₂ : s₂ = (({ U with heap := s₂.heap, slotsUsed := s₂.slotsUsed } : State).setVm s₂.vm).setTop { g with pc := g.pc + len₂, stack := v.toList ++ g.stack } := by
      refine e3.trans ?_
      rw [hf₂, State.calling_eq h.top, State.setFrames_setFrames, State.setTop_of_frames _ hr', hr]
      rfl
    have hsame : U.sameButNew ({ U with heap := s₂.heap, slotsUsed := s₂.slotsUsed } : State) L mc ms := by
      refine ⟨?_, q2, q3, q4, q5, q6⟩
      obtain ⟨t, ht, -⟩ := State.frames_cons hr
      show ({ U with heap := s₂.heap, slotsUsed := s₂.slotsUsed } : State) = { U.setFrames U.frames with heap := s₂.heap, slotsUsed := s₂.slotsUsed }
      rw [State.setFrames_self ht]
    subst hg
    refine Or.inl ⟨v, ⟨(({ U with heap := s₂.heap, slotsUsed := s₂.slotsUsed } : State).setVm s₂.vm), Ls ++ L, c0 + mc, s0 + ms⟩,
      ⟨X.admits, X.cas, X.clock, X.frames, X.room, X.hears, X.method, X.code, (X.here.setHeapUsed s₂.heap s₂.slotsUsed).setVm hW'.alike, X.tail, State.WarmedH.trans X.warmed hW', X.limits, X.bytes, X.same.trans (hsame.setVm s.vm)⟩,
      ⟨g, mk, s₂, L, rfl, rfl, hqc, rfl, hL, rfl, rfl⟩, ?_⟩
    show Steps p.tables e below _ ((({ U with heap := s₂.heap, slotsUsed := s₂.slotsUsed } : State).setVm s₂.vm).setTop { g with pc := g.pc + len₂, stack := v.toList ++ g.stack })
    rw [← hs₂]
    exact hsteps
  · obtain ⟨e2, q2, q3, q4, q5, q6⟩ := id hsm
    have e3 : s₂ = ({ (U.calling g mk a).setFrames s₂.frames with heap := s₂.heap, slotsUsed := s₂.slotsUsed } : State).setVm s₂.vm := by
      have : s₂ = ({ s₂ with vm := (U.calling g mk a).vm } : State).setVm s₂.vm := rfl
      rw [e2] at this
      exact this
    have hf₂ : s₂.frames = .throwing q :: .java g :: U.frames.tail := hend
    have hW' : U.WarmedH s₂.vm := hW₂
    have hs₂ : s₂ = ((({ U with heap := s₂.heap, slotsUsed := s₂.slotsUsed } : State).setVm s₂.vm).setTop g).pushFrame (.throwing q) := by
      refine e3.trans ?_
      rw [hf₂, State.calling_eq h.top, State.setFrames_setFrames, State.pushFrame, State.frames_setTop _ hr', State.setTop_of_frames _ hr', State.setFrames_setFrames, hr]
      rfl
    have hsame : U.sameButNew ({ U with heap := s₂.heap, slotsUsed := s₂.slotsUsed } : State) L mc ms := by
      refine ⟨?_, q2, q3, q4, q5, q6⟩
      obtain ⟨t, ht, -⟩ := State.frames_cons hr
      show ({ U with heap := s₂.heap, slotsUsed := s₂.slotsUsed } : State) = { U.setFrames U.frames with heap := s₂.heap, slotsUsed := s₂.slotsUsed }
      rw [State.setFrames_self ht]
    subst hg
    refine Or.inr ⟨q, ⟨(({ U with heap := s₂.heap, slotsUsed := s₂.slotsUsed } : State).setVm s₂.vm), Ls ++ L, c0 + mc, s0 + ms⟩,
      ⟨X.admits, X.cas, X.clock, X.frames, X.room, X.hears, X.method, X.code, (X.here.setHeapUsed s₂.heap s₂.slotsUsed).setVm hW'.alike, X.tail, State.WarmedH.trans X.warmed hW', X.limits, X.bytes, X.same.trans (hsame.setVm s.vm)⟩,
      ⟨g, mk, s₂, L, E, ce, rfl, rfl, hx, hce, hcv, hcl, rfl, hL, rfl, rfl⟩, ?_⟩
    show Steps p.tables e below _ (((({ U with heap := s₂.heap, slotsUsed := s₂.slotsUsed } : State).setVm s₂.vm).setTop g).pushFrame (.throwing q))
    rw [← hs₂]
    exact hsteps
end Payer
section Calls
variable {p : Program} {l : Launch} {e : Env} {R : Room} {s : State} {m : MethodId} {args : Array Value} {below : List Frame} {meth : Method} {c : Code} {T : State} {locs : List Loc} {cells slots : Nat}
theorem vx_callV (X : Stand p l e R s m args below meth c T locs cells slots) (hexec : p.tables.exec = Jvm.exec) {own C : String} {index : Nat} {y : MethodName} {bytes : ByteArray} {maxL : Nat} {ret : Option FieldType}
    (hown : s.vm.findClass own = some m.cls) (hlink : (Cond.methodLink own index y).before args s = true) (hinst : (Cond.instanceMethod y).before args s = true) (hsel : (Cond.selects C y y).before args s = true)
    (hcode : (Cond.code y bytes maxL ret).before args s = true) (hy : y.cls ≠ "java/lang/invoke/MethodHandle" ∧ y.cls ≠ "java/lang/invoke/VarHandle")
    {W9 : Nat} {Pre : Pt → Array Value → Prop} {Post : Pt → Array Value → Option Value → Pt → Prop} {PostX : Pt → Array Value → Addr → Pt → Prop} (hK : vx_Back l R p e below s args y 3 W9 Pre Post PostX)
    {b : Addr} {cellB : Cell} (hcell : T.heap[b]? = some cellB) (hobj : cellB.vm.isStatics = false) (hcls : s.vm.findClass C = some cellB.cls)
    {g : JFrame} (hg : g.method = m) (hsize : g.locals.size = c.maxLocals) {argsL rest : List Value} (hlen : ∀ sig, parseMethodDescriptor y.desc = some sig → argsL.length = sig.parameters.length)
    (hstack : g.stack = argsL.reverse ++ .ref b :: rest) (hW : 2 * g.monitorRoom + (rest.map fun v => v.category).sum ≤ W9) (hdg : decode c.code g.pc = .ok (.invokevirtual index, 3))
    (hpre : ∀ vm₁, s.WarmedH vm₁ → Pre ⟨T.setVm vm₁, locs, cells, slots⟩ (Value.ref b :: argsL).toArray) :
    (∃ (v : Option Value) (vm₁ : Vm) (B : Pt), s.WarmedH vm₁ ∧ Stand p l e R s m args below meth c B.U B.locs B.cells B.slots ∧ Post ⟨T.setVm vm₁, locs, cells, slots⟩ (Value.ref b :: argsL).toArray v B ∧
      ∀ target, Steps p.tables e below (B.U.setTop { g with pc := g.pc + 3, stack := v.toList ++ rest }) target → Steps p.tables e below (T.setTop g) target) ∨
    (∃ (q : Addr) (vm₁ : Vm) (B : Pt), s.WarmedH vm₁ ∧ Stand p l e R s m args below meth c B.U B.locs B.cells B.slots ∧ PostX ⟨T.setVm vm₁, locs, cells, slots⟩ (Value.ref b :: argsL).toArray q B ∧
      Steps p.tables e below (T.setTop g) ((B.U.setTop { g with stack := rest }).pushFrame (.throwing q))) := by
  obtain ⟨mk, methM, hnamed, hmethM, hstM, habM⟩ := Cond.instanceMethod_spec hinst
  obtain ⟨methM', cM, hmethM', -, -, -, -, -, -, hsigM⟩ := Cond.code_spec hnamed hcode
  cases hmethM.symm.trans hmethM'
  obtain ⟨c2, r2, m2, q1, q2, q3, q4, kP, hkP, hkPi⟩ := Cond.selects_spec hsel
  cases hcls.symm.trans q1
  cases (State.methodFound?_of_named hnamed hy).symm.trans q2
  cases hnamed.symm.trans q3
  have hselP : selectMethod e.platform s.vm cellB.cls mk = .method mk := by rw [Launch.admits_selectMethod X.admits]; exact q4
  obtain ⟨vm₁, X₁, hstep₁⟩ := X.invokevirtual hexec hown hlink hnamed hmethM hstM hkP hkPi hy (a := b) (cell := cellB) hcell
    (fun z h => by rw [h] at hobj; cases hobj) hselP hmethM habM hkP hkPi (g := g) hg (argsL := argsL) (rest := rest) (hlen _ hsigM) hstack hdg
  rcases hK m meth c ⟨T.setVm vm₁, locs, cells, slots⟩ { g with stack := rest } (.invokevirtual index) mk (Value.ref b :: argsL).toArray X₁ hg hsize hdg hW (X₁.named hnamed) (hpre vm₁ X₁.warmed) with ⟨v, B, X', hpost, hsteps⟩ | ⟨q, B, X', hpost, hsteps⟩
  · exact Or.inl ⟨v, vm₁, B, X₁.warmed, X', hpost, fun target h => hstep₁ _ fun acts => by rw [doInvoke_state]; exact hsteps.trans h⟩
  · exact Or.inr ⟨q, vm₁, B, X₁.warmed, X', hpost, hstep₁ _ fun acts => by rw [doInvoke_state]; exact hsteps⟩
theorem vx_callS (X : Stand p l e R s m args below meth c T locs cells slots) (hexec : p.tables.exec = Jvm.exec) {own : String} {index : Nat} {y : MethodName} {bytes : ByteArray} {maxL : Nat} {ret : Option FieldType}
    (hown : s.vm.findClass own = some m.cls) (hlink : (Cond.methodLink own index y).before args s = true) (hstat : (Cond.static y).before args s = true) (hinit : (Cond.initialized y.cls).before args s = true)
    (hcode : (Cond.code y bytes maxL ret).before args s = true) (hy : y.cls ≠ "java/lang/invoke/MethodHandle" ∧ y.cls ≠ "java/lang/invoke/VarHandle")
    {W9 : Nat} {Pre : Pt → Array Value → Prop} {Post : Pt → Array Value → Option Value → Pt → Prop} {PostX : Pt → Array Value → Addr → Pt → Prop} (hK : vx_Back l R p e below s args y 3 W9 Pre Post PostX)
    {g : JFrame} (hg : g.method = m) (hsize : g.locals.size = c.maxLocals) {argsL rest : List Value} (hlen : ∀ sig, parseMethodDescriptor y.desc = some sig → argsL.length = sig.parameters.length)
    (hstack : g.stack = argsL.reverse ++ rest) (hW : 2 * g.monitorRoom + (rest.map fun v => v.category).sum ≤ W9) (hdg : decode c.code g.pc = .ok (.invokestatic index, 3))
    (hpre : ∀ vm₁, s.WarmedH vm₁ → Pre ⟨T.setVm vm₁, locs, cells, slots⟩ argsL.toArray) :
    (∃ (v : Option Value) (vm₁ : Vm) (B : Pt), s.WarmedH vm₁ ∧ Stand p l e R s m args below meth c B.U B.locs B.cells B.slots ∧ Post ⟨T.setVm vm₁, locs, cells, slots⟩ argsL.toArray v B ∧
      ∀ target, Steps p.tables e below (B.U.setTop { g with pc := g.pc + 3, stack := v.toList ++ rest }) target → Steps p.tables e below (T.setTop g) target) ∨
    (∃ (q : Addr) (vm₁ : Vm) (B : Pt), s.WarmedH vm₁ ∧ Stand p l e R s m args below meth c B.U B.locs B.cells B.slots ∧ PostX ⟨T.setVm vm₁, locs, cells, slots⟩ argsL.toArray q B ∧
      Steps p.tables e below (T.setTop g) ((B.U.setTop { g with stack := rest }).pushFrame (.throwing q))) := by
  obtain ⟨mk, hnamed⟩ := Cond.code_named hcode
  obtain ⟨methM, cM, hmethM, -, -, -, -, -, -, hsigM⟩ := Cond.code_spec hnamed hcode
  have hstatic : methM.isStatic = true := Cond.static_spec hnamed hmethM hstat
  obtain ⟨kP, hkP, -⟩ := className_of_methodNamed hnamed
  have hinitP : kP.init = .initialized := Cond.initialized_spec (findClass_of_methodNamed hnamed) hkP hinit
  obtain ⟨vm₁, X₁, hstep₁⟩ := X.invokestatic hexec hown hlink hnamed hmethM hstatic hkP hinitP hy (g := g) hg (argsL := argsL) (rest := rest) (hlen _ hsigM) hstack hdg
  rcases hK m meth c ⟨T.setVm vm₁, locs, cells, slots⟩ { g with stack := rest } (.invokestatic index) mk argsL.toArray X₁ hg hsize hdg hW (X₁.named hnamed) (hpre vm₁ X₁.warmed) with ⟨v, B, X', hpost, hsteps⟩ | ⟨q, B, X', hpost, hsteps⟩
  · exact Or.inl ⟨v, vm₁, B, X₁.warmed, X', hpost, fun target h => hstep₁ _ fun acts => by rw [doInvoke_state]; exact hsteps.trans h⟩
  · exact Or.inr ⟨q, vm₁, B, X₁.warmed, X', hpost, hstep₁ _ fun acts => by rw [doInvoke_state]; exact hsteps⟩
end Calls
theorem vx_cls {s : State} {T : State} {vm₁ : Vm} {E : String} {k : ClassId} (hW : s.WarmedH vm₁) (h : (T.setVm vm₁).vm.findClass E = some k) : s.vm.findClass E = some k := by
  have h1 : vm₁.findClass E = some k := h
  rw [hW.alike.findClass] at h1
  exact h1
/-- the method's frame g, with q thrown over it -/
def vx_W (p : Program) (l : Launch) (e : Env) (R : Room) (s : State) (m : MethodId) (args : Array Value) (below : List Frame) (meth : Method) (c : Code) (H : Heap) (locs : List Loc) (cells slots : Nat) (Q : State → Prop) (g : JFrame) (q : Addr) : Prop :=
  ∀ T : State, T.heap = H → Stand p l e R s m args below meth c T locs cells slots → ∃ t, Steps p.tables e below ((T.setTop g).pushFrame (.throwing q)) t ∧ Q t
def vx_Run (p : Program) (l : Launch) (e : Env) (R : Room) (s : State) (m : MethodId) (args : Array Value) (below : List Frame) (meth : Method) (c : Code) (H : Heap) (locs : List Loc) (cells slots mc ms : Nat) (g : JFrame) (rest : List Value) (Qa : State → Outcome → State → Prop) (XC : String → State → State → Prop) (free : Addr → Prop) : Prop :=
  ∀ T : State, T.heap = H → Stand p l e R s m args below meth c T locs cells slots →
    (∃ (v : Option Value) (st₀ t T' : State) (L : List Loc), st₀.heap = H ∧ Stand p l e R s m args below meth c T' (locs ++ L) (cells + mc) (slots + ms) ∧ (∀ q ∈ L, free q.base) ∧ T'.heap = t.heap ∧ T'.vm = t.vm ∧ Qa st₀ (.returned v) t ∧
      Goes p e below T g T' { g with pc := g.pc + 3, stack := v.toList ++ rest }) ∨
    (∃ (q : Addr) (st₀ t T' : State) (L : List Loc) (E : String) (ce : Cell), st₀.heap = H ∧ Stand p l e R s m args below meth c T' (locs ++ L) (cells + mc) (slots + ms) ∧ (∀ z ∈ L, free z.base) ∧ T'.heap = t.heap ∧ T'.vm = t.vm ∧ XC E st₀ t ∧ t.heap[q]? = some ce ∧ ce.vm = .none ∧ s.vm.findClass E = some ce.cls ∧
      Steps p.tables e below (T.setTop g) ((T'.setTop { g with stack := rest }).pushFrame (.throwing q)))
def vx_X {S : Type} (px : S → Prop) (B : String → S → State → Prop) (A : Nat → Prop) : String → State → State → Prop := fun E st t => ∃ u : S, px u ∧ B E u t ∧ va_F A st t
section Runs
variable {p : Program} {l : Launch} {e : Env} {R : Room} {s : State} {m : MethodId} {args : Array Value} {below : List Frame} {meth : Method} {c : Code} {H : Heap} {locs : List Loc} {cells slots : Nat}
variable {y : MethodName} {bytes cc : ByteArray} {maxL nL mc ms n index : Nat} {ret : Option FieldType} {ws : List Cond} {rm : Room} {Pc : Array Value → State → Prop} {Qc : Array Value → State → Outcome → State → Prop} {XC : String → State → State → Prop} {free : Addr → Prop} {Ts : List Cond} {own C : String} {b : Addr} {As rest : List Value} {g : JFrame}
theorem vx_callBack (cb : CallB R s args own index y bytes maxL ret ws rm mc ms n) (hM : vx_Met l y ws rm Pc Qc XC mc ms free) (hbl : FrameBlind Pc) : vx_Back l R p e below s args y 3 8 (PreOf R mc ms Pc) (PostOf Qc mc ms free) (vx_Post XC mc ms free) := by
  obtain ⟨hrc, hrs, hfr, hlo, hws, hcw, -, hini, -⟩ := cb
  exact vx_back (bytes := bytes) (maxL := maxL) (ret := ret) hM hbl hrc hrs hfr hlo hws hcw (fun a' U hW => word_at hW (Or.inl (by first | rfl | simp [Cond.onTables, Cond.keeps, Cond.steady])) hini)
theorem vx_runV (S : CallFix p m c cc nL s args Ts own) (hM : vx_Met l y ws rm Pc Qc XC mc ms free) (cw : CallW R s args own C index y bytes maxL ret ws rm mc ms n) (hp : PreV s H C b Pc As)
    (hg : g.method = m) (hn : As.length = n) (hsize : g.locals.size = nL) (hstack : g.stack = As.reverse ++ .ref b :: rest) (hW : 2 * g.monitorRoom + (rest.map fun v => v.category).sum ≤ 8) (hdg : decode cc g.pc = .ok (.invokevirtual index, 3)) (hf : cells + mc ≤ R.cells ∧ slots + ms ≤ R.slots) :
    vx_Run p l e R s m args below meth c H locs cells slots mc ms g rest (Qc (Value.ref b :: As).toArray) XC free := by
  have hK : vx_Back l R p e below s args y 3 8 (PreOf R mc ms Pc) (PostOf Qc mc ms free) (vx_Post XC mc ms free) := vx_callBack cw.1 hM hp.1
  obtain ⟨⟨-, -, -, -, -, -, hcode, -, hy, hlen, hl⟩, hin, hse⟩ := cw
  obtain ⟨hx, hb, hml, ho, -⟩ := S
  obtain ⟨-, ⟨cellB, hcB, hoB, hclB⟩, hPc⟩ := hp
  intro T hT X
  rcases vx_callV X hx (C := C) (bytes := bytes) (maxL := maxL) (ret := ret) ho hl hin hse hcode hy hK (by rw [hT]; exact hcB) hoB hclB hg (hsize.trans hml.symm) (argsL := As) (rest := rest) (fun sig h => hn.trans (hlen sig h)) hstack hW (by rw [hb]; exact hdg)
    (fun vm₁ hW₁ => ⟨hf.1, hf.2, hPc (T.setVm vm₁) hT hW₁⟩) with ⟨v, vm₁, ⟨U', l2, c2, s2⟩, hW₁, X', ⟨g', mk, t, L, e1, e2, hq, h1, hL, h2, h3⟩, st⟩ | ⟨q, vm₁, ⟨U', l2, c2, s2⟩, hW₁, X', ⟨g', mk, t, L, E, ce, e1, e2, hq, hce, hcv, hcl, h1, hL, h2, h3⟩, st⟩
  · dsimp only [Pt.U, Pt.locs, Pt.cells, Pt.slots] at X' e1 e2 h1 h2 h3 st
    subst h1; subst h2; subst h3
    exact Or.inl ⟨v, (T.setVm vm₁).calling g' mk (Value.ref b :: As).toArray, t, U', L, hT, X', hL, e1, e2, hq, st⟩
  · dsimp only [Pt.U, Pt.locs, Pt.cells, Pt.slots] at X' e1 e2 h1 h2 h3 st hcl
    subst h1; subst h2; subst h3
    exact Or.inr ⟨q, (T.setVm vm₁).calling g' mk (Value.ref b :: As).toArray, t, U', L, E, ce, hT, X', hL, e1, e2, hq, hce, hcv, vx_cls hW₁ hcl, st⟩
theorem vx_runS (S : CallFix p m c cc nL s args Ts own) (hM : vx_Met l y ws rm Pc Qc XC mc ms free) (cw : CallB R s args own index y bytes maxL ret ws rm mc ms n ∧ (Cond.static y).before args s = true) (hp : PreS s H Pc As)
    (hg : g.method = m) (hn : As.length = n) (hsize : g.locals.size = nL) (hstack : g.stack = As.reverse ++ rest) (hW : 2 * g.monitorRoom + (rest.map fun v => v.category).sum ≤ 8) (hdg : decode cc g.pc = .ok (.invokestatic index, 3)) (hf : cells + mc ≤ R.cells ∧ slots + ms ≤ R.slots) :
    vx_Run p l e R s m args below meth c H locs cells slots mc ms g rest (Qc As.toArray) XC free := by
  have hK : vx_Back l R p e below s args y 3 8 (PreOf R mc ms Pc) (PostOf Qc mc ms free) (vx_Post XC mc ms free) := vx_callBack cw.1 hM hp.1
  obtain ⟨⟨-, -, -, -, -, -, hcode, hini, hy, hlen, hl⟩, hstt⟩ := cw
  obtain ⟨hx, hb, hml, ho, -⟩ := S
  intro T hT X
  rcases vx_callS X hx (bytes := bytes) (maxL := maxL) (ret := ret) ho hl hstt hini hcode hy hK hg (hsize.trans hml.symm) (argsL := As) (rest := rest) (fun sig h => hn.trans (hlen sig h)) hstack hW (by rw [hb]; exact hdg)
    (fun vm₁ hW₁ => ⟨hf.1, hf.2, hp.2 (T.setVm vm₁) hT hW₁⟩) with ⟨v, vm₁, ⟨U', l2, c2, s2⟩, hW₁, X', ⟨g', mk, t, L, e1, e2, hq, h1, hL, h2, h3⟩, st⟩ | ⟨q, vm₁, ⟨U', l2, c2, s2⟩, hW₁, X', ⟨g', mk, t, L, E, ce, e1, e2, hq, hce, hcv, hcl, h1, hL, h2, h3⟩, st⟩
  · dsimp only [Pt.U, Pt.locs, Pt.cells, Pt.slots] at X' e1 e2 h1 h2 h3 st
    subst h1; subst h2; subst h3
    exact Or.inl ⟨v, (T.setVm vm₁).calling g' mk As.toArray, t, U', L, hT, X', hL, e1, e2, hq, st⟩
  · dsimp only [Pt.U, Pt.locs, Pt.cells, Pt.slots] at X' e1 e2 h1 h2 h3 st hcl
    subst h1; subst h2; subst h3
    exact Or.inr ⟨q, (T.setVm vm₁).calling g' mk As.toArray, t, U', L, E, ce, hT, X', hL, e1, e2, hq, hce, hcv, vx_cls hW₁ hcl, st⟩
end Runs
section Rows
variable {p : Program} {l : Launch} {e : Env} {R : Room} {s : State} {m : MethodId} {args : Array Value} {below : List Frame} {meth : Method} {c : Code} {H : Heap} {locs : List Loc} {cells slots : Nat} {Q : State → Prop}
variable {mc ms : Nat} {free : Addr → Prop} {A0 A1 : Nat → Prop} {H0 : Heap} {a : Array Value} {pc : Nat} {ls : Array Slot} {st0 rest : List Value}
theorem vx_keep {st₀ t T' : State} {L : List Loc} (h0 : st₀.heap = H) (e1 : T'.heap = t.heap) (hS : va_S A0 H0 H locs) (hA : ∀ q, q < H.size → A1 q → A0 q) (hf : ∀ q, free q → A0 q) (hL : ∀ q ∈ L, free q.base) (hF : va_F A1 st₀ t) :
    H.size ≤ T'.heap.size ∧ (∀ q : Nat, q < H.size → ¬ A1 q → T'.heap[q]? = H[q]?) ∧ va_S A0 H0 T'.heap (locs ++ L) := by
  obtain ⟨hz, hk⟩ := hF
  rw [h0] at hz hk
  exact ⟨by rw [e1]; exact hz, fun q h1 h2 => by rw [e1]; exact hk q h1 h2,
    ⟨Nat.le_trans hS.1 (by rw [e1]; exact hz), fun q h1 h2 => by rw [e1, hk q (Nat.lt_of_lt_of_le h1 hS.1) (fun z => h2 (hA q (Nat.lt_of_lt_of_le h1 hS.1) z))]; exact hS.2.1 q h1 h2, fun q hq => by
      rcases List.mem_append.mp hq with h | h
      · exact hS.2.2 q h
      · exact hf _ (hL q h)⟩⟩
theorem vx_calli {S SX : Type} {post : Int32 → S → Prop} {px : SX → Prop} {B : S → State → Prop} {BX : String → SX → State → Prop} {AX : Nat → Prop} (hr : vx_Run p l e R s m args below meth c H locs cells slots mc ms (F0 m pc ls st0) rest (va_Qi post B A1 a) (vx_X px BX AX) free) (hS : va_S A0 H0 H locs) (hA : ∀ q, q < H.size → A1 q → A0 q) (hf : ∀ q, free q → A0 q) (hAX : ∀ q, q < H.size → AX q → A0 q)
    (kx : ∀ (E : String) (ce : Cell) (q9 : Addr) (u : SX) (t : State) (H1 : Heap) (locs1 : List Loc), t.heap = H1 → s.vm.Alike t.vm → px u → BX E u t → H.size ≤ H1.size → (∀ q : Nat, q < H.size → ¬ AX q → H1[q]? = H[q]?) → va_S A0 H0 H1 locs1 → H1[q9]? = some ce → ce.vm = .none → s.vm.findClass E = some ce.cls → vx_W p l e R s m args below meth c H1 locs1 (cells + mc) (slots + ms) Q (F0 m pc ls rest) q9)
    (kk : ∀ (r : Int32) (u : S) (t : State) (H1 : Heap) (locs1 : List Loc), t.heap = H1 → s.vm.Alike t.vm → post r u → B u t → H.size ≤ H1.size → (∀ q : Nat, q < H.size → ¬ A1 q → H1[q]? = H[q]?) → va_S A0 H0 H1 locs1 → W p l e R s m args below meth c H1 locs1 (cells + mc) (slots + ms) Q (F0 m (pc + 3) ls (.int r :: rest))) : W p l e R s m args below meth c H locs cells slots Q (F0 m pc ls st0) := by
  intro T hT X
  rcases hr T hT X with ⟨v, st₀, t, T', L, h0, X', hL, e1, e2, ⟨⟨r, u, hv, hp, hb⟩, hF⟩, st⟩ | ⟨q, st₀, t, T', L, E, ce, h0, X', hL, e1, e2, ⟨u, hp, hb, hF⟩, hce, hcv, hcl, st⟩
  · cases hv
    obtain ⟨k1, k2, k3⟩ := vx_keep h0 e1 hS hA hf hL hF
    obtain ⟨t2, a1, b1⟩ := kk r u t T'.heap (locs ++ L) e1.symm (by rw [← e2]; exact X'.warmed.alike) hp hb k1 k2 k3 T' rfl X'
    exact ⟨t2, st t2 a1, b1⟩
  · obtain ⟨k1, k2, k3⟩ := vx_keep h0 e1 hS hAX hf hL hF
    obtain ⟨t2, a1, b1⟩ := kx E ce q u t T'.heap (locs ++ L) e1.symm (by rw [← e2]; exact X'.warmed.alike) hp hb k1 k2 k3 (by rw [e1]; exact hce) hcv hcl T' rfl X'
    exact ⟨t2, st.trans a1, b1⟩
theorem vx_calll {S SX : Type} {post : Int64 → S → Prop} {px : SX → Prop} {B : S → State → Prop} {BX : String → SX → State → Prop} {AX : Nat → Prop} (hr : vx_Run p l e R s m args below meth c H locs cells slots mc ms (F0 m pc ls st0) rest (va_Ql post B A1 a) (vx_X px BX AX) free) (hS : va_S A0 H0 H locs) (hA : ∀ q, q < H.size → A1 q → A0 q) (hf : ∀ q, free q → A0 q) (hAX : ∀ q, q < H.size → AX q → A0 q)
    (kx : ∀ (E : String) (ce : Cell) (q9 : Addr) (u : SX) (t : State) (H1 : Heap) (locs1 : List Loc), t.heap = H1 → s.vm.Alike t.vm → px u → BX E u t → H.size ≤ H1.size → (∀ q : Nat, q < H.size → ¬ AX q → H1[q]? = H[q]?) → va_S A0 H0 H1 locs1 → H1[q9]? = some ce → ce.vm = .none → s.vm.findClass E = some ce.cls → vx_W p l e R s m args below meth c H1 locs1 (cells + mc) (slots + ms) Q (F0 m pc ls rest) q9)
    (kk : ∀ (r : Int64) (u : S) (t : State) (H1 : Heap) (locs1 : List Loc), t.heap = H1 → s.vm.Alike t.vm → post r u → B u t → H.size ≤ H1.size → (∀ q : Nat, q < H.size → ¬ A1 q → H1[q]? = H[q]?) → va_S A0 H0 H1 locs1 → W p l e R s m args below meth c H1 locs1 (cells + mc) (slots + ms) Q (F0 m (pc + 3) ls (.long r :: rest))) : W p l e R s m args below meth c H locs cells slots Q (F0 m pc ls st0) := by
  intro T hT X
  rcases hr T hT X with ⟨v, st₀, t, T', L, h0, X', hL, e1, e2, ⟨⟨r, u, hv, hp, hb⟩, hF⟩, st⟩ | ⟨q, st₀, t, T', L, E, ce, h0, X', hL, e1, e2, ⟨u, hp, hb, hF⟩, hce, hcv, hcl, st⟩
  · cases hv
    obtain ⟨k1, k2, k3⟩ := vx_keep h0 e1 hS hA hf hL hF
    obtain ⟨t2, a1, b1⟩ := kk r u t T'.heap (locs ++ L) e1.symm (by rw [← e2]; exact X'.warmed.alike) hp hb k1 k2 k3 T' rfl X'
    exact ⟨t2, st t2 a1, b1⟩
  · obtain ⟨k1, k2, k3⟩ := vx_keep h0 e1 hS hAX hf hL hF
    obtain ⟨t2, a1, b1⟩ := kx E ce q u t T'.heap (locs ++ L) e1.symm (by rw [← e2]; exact X'.warmed.alike) hp hb k1 k2 k3 (by rw [e1]; exact hce) hcv hcl T' rfl X'
    exact ⟨t2, st.trans a1, b1⟩
theorem vx_callf {S SX : Type} {post : UInt32 → S → Prop} {px : SX → Prop} {B : S → State → Prop} {BX : String → SX → State → Prop} {AX : Nat → Prop} (hr : vx_Run p l e R s m args below meth c H locs cells slots mc ms (F0 m pc ls st0) rest (va_Qf post B A1 a) (vx_X px BX AX) free) (hS : va_S A0 H0 H locs) (hA : ∀ q, q < H.size → A1 q → A0 q) (hf : ∀ q, free q → A0 q) (hAX : ∀ q, q < H.size → AX q → A0 q)
    (kx : ∀ (E : String) (ce : Cell) (q9 : Addr) (u : SX) (t : State) (H1 : Heap) (locs1 : List Loc), t.heap = H1 → s.vm.Alike t.vm → px u → BX E u t → H.size ≤ H1.size → (∀ q : Nat, q < H.size → ¬ AX q → H1[q]? = H[q]?) → va_S A0 H0 H1 locs1 → H1[q9]? = some ce → ce.vm = .none → s.vm.findClass E = some ce.cls → vx_W p l e R s m args below meth c H1 locs1 (cells + mc) (slots + ms) Q (F0 m pc ls rest) q9)
    (kk : ∀ (r : UInt32) (u : S) (t : State) (H1 : Heap) (locs1 : List Loc), t.heap = H1 → s.vm.Alike t.vm → post r u → B u t → H.size ≤ H1.size → (∀ q : Nat, q < H.size → ¬ A1 q → H1[q]? = H[q]?) → va_S A0 H0 H1 locs1 → W p l e R s m args below meth c H1 locs1 (cells + mc) (slots + ms) Q (F0 m (pc + 3) ls (.float r :: rest))) : W p l e R s m args below meth c H locs cells slots Q (F0 m pc ls st0) := by
  intro T hT X
  rcases hr T hT X with ⟨v, st₀, t, T', L, h0, X', hL, e1, e2, ⟨⟨r, u, hv, hp, hb⟩, hF⟩, st⟩ | ⟨q, st₀, t, T', L, E, ce, h0, X', hL, e1, e2, ⟨u, hp, hb, hF⟩, hce, hcv, hcl, st⟩
  · cases hv
    obtain ⟨k1, k2, k3⟩ := vx_keep h0 e1 hS hA hf hL hF
    obtain ⟨t2, a1, b1⟩ := kk r u t T'.heap (locs ++ L) e1.symm (by rw [← e2]; exact X'.warmed.alike) hp hb k1 k2 k3 T' rfl X'
    exact ⟨t2, st t2 a1, b1⟩
  · obtain ⟨k1, k2, k3⟩ := vx_keep h0 e1 hS hAX hf hL hF
    obtain ⟨t2, a1, b1⟩ := kx E ce q u t T'.heap (locs ++ L) e1.symm (by rw [← e2]; exact X'.warmed.alike) hp hb k1 k2 k3 (by rw [e1]; exact hce) hcv hcl T' rfl X'
    exact ⟨t2, st.trans a1, b1⟩
theorem vx_calld {S SX : Type} {post : UInt64 → S → Prop} {px : SX → Prop} {B : S → State → Prop} {BX : String → SX → State → Prop} {AX : Nat → Prop} (hr : vx_Run p l e R s m args below meth c H locs cells slots mc ms (F0 m pc ls st0) rest (va_Qd post B A1 a) (vx_X px BX AX) free) (hS : va_S A0 H0 H locs) (hA : ∀ q, q < H.size → A1 q → A0 q) (hf : ∀ q, free q → A0 q) (hAX : ∀ q, q < H.size → AX q → A0 q)
    (kx : ∀ (E : String) (ce : Cell) (q9 : Addr) (u : SX) (t : State) (H1 : Heap) (locs1 : List Loc), t.heap = H1 → s.vm.Alike t.vm → px u → BX E u t → H.size ≤ H1.size → (∀ q : Nat, q < H.size → ¬ AX q → H1[q]? = H[q]?) → va_S A0 H0 H1 locs1 → H1[q9]? = some ce → ce.vm = .none → s.vm.findClass E = some ce.cls → vx_W p l e R s m args below meth c H1 locs1 (cells + mc) (slots + ms) Q (F0 m pc ls rest) q9)
    (kk : ∀ (r : UInt64) (u : S) (t : State) (H1 : Heap) (locs1 : List Loc), t.heap = H1 → s.vm.Alike t.vm → post r u → B u t → H.size ≤ H1.size → (∀ q : Nat, q < H.size → ¬ A1 q → H1[q]? = H[q]?) → va_S A0 H0 H1 locs1 → W p l e R s m args below meth c H1 locs1 (cells + mc) (slots + ms) Q (F0 m (pc + 3) ls (.double r :: rest))) : W p l e R s m args below meth c H locs cells slots Q (F0 m pc ls st0) := by
  intro T hT X
  rcases hr T hT X with ⟨v, st₀, t, T', L, h0, X', hL, e1, e2, ⟨⟨r, u, hv, hp, hb⟩, hF⟩, st⟩ | ⟨q, st₀, t, T', L, E, ce, h0, X', hL, e1, e2, ⟨u, hp, hb, hF⟩, hce, hcv, hcl, st⟩
  · cases hv
    obtain ⟨k1, k2, k3⟩ := vx_keep h0 e1 hS hA hf hL hF
    obtain ⟨t2, a1, b1⟩ := kk r u t T'.heap (locs ++ L) e1.symm (by rw [← e2]; exact X'.warmed.alike) hp hb k1 k2 k3 T' rfl X'
    exact ⟨t2, st t2 a1, b1⟩
  · obtain ⟨k1, k2, k3⟩ := vx_keep h0 e1 hS hAX hf hL hF
    obtain ⟨t2, a1, b1⟩ := kx E ce q u t T'.heap (locs ++ L) e1.symm (by rw [← e2]; exact X'.warmed.alike) hp hb k1 k2 k3 (by rw [e1]; exact hce) hcv hcl T' rfl X'
    exact ⟨t2, st.trans a1, b1⟩
theorem vx_callv {S SX : Type} {post : S → Prop} {px : SX → Prop} {B : S → State → Prop} {BX : String → SX → State → Prop} {AX : Nat → Prop} (hr : vx_Run p l e R s m args below meth c H locs cells slots mc ms (F0 m pc ls st0) rest (va_Qv post B A1 a) (vx_X px BX AX) free) (hS : va_S A0 H0 H locs) (hA : ∀ q, q < H.size → A1 q → A0 q) (hf : ∀ q, free q → A0 q) (hAX : ∀ q, q < H.size → AX q → A0 q)
    (kx : ∀ (E : String) (ce : Cell) (q9 : Addr) (u : SX) (t : State) (H1 : Heap) (locs1 : List Loc), t.heap = H1 → s.vm.Alike t.vm → px u → BX E u t → H.size ≤ H1.size → (∀ q : Nat, q < H.size → ¬ AX q → H1[q]? = H[q]?) → va_S A0 H0 H1 locs1 → H1[q9]? = some ce → ce.vm = .none → s.vm.findClass E = some ce.cls → vx_W p l e R s m args below meth c H1 locs1 (cells + mc) (slots + ms) Q (F0 m pc ls rest) q9)
    (kk : ∀ (u : S) (t : State) (H1 : Heap) (locs1 : List Loc), t.heap = H1 → s.vm.Alike t.vm → post u → B u t → H.size ≤ H1.size → (∀ q : Nat, q < H.size → ¬ A1 q → H1[q]? = H[q]?) → va_S A0 H0 H1 locs1 → W p l e R s m args below meth c H1 locs1 (cells + mc) (slots + ms) Q (F0 m (pc + 3) ls (rest))) : W p l e R s m args below meth c H locs cells slots Q (F0 m pc ls st0) := by
  intro T hT X
  rcases hr T hT X with ⟨v, st₀, t, T', L, h0, X', hL, e1, e2, ⟨⟨u, hv, hp, hb⟩, hF⟩, st⟩ | ⟨q, st₀, t, T', L, E, ce, h0, X', hL, e1, e2, ⟨u, hp, hb, hF⟩, hce, hcv, hcl, st⟩
  · cases hv
    obtain ⟨k1, k2, k3⟩ := vx_keep h0 e1 hS hA hf hL hF
    obtain ⟨t2, a1, b1⟩ := kk u t T'.heap (locs ++ L) e1.symm (by rw [← e2]; exact X'.warmed.alike) hp hb k1 k2 k3 T' rfl X'
    exact ⟨t2, st t2 a1, b1⟩
  · obtain ⟨k1, k2, k3⟩ := vx_keep h0 e1 hS hAX hf hL hF
    obtain ⟨t2, a1, b1⟩ := kx E ce q u t T'.heap (locs ++ L) e1.symm (by rw [← e2]; exact X'.warmed.alike) hp hb k1 k2 k3 (by rw [e1]; exact hce) hcv hcl T' rfl X'
    exact ⟨t2, st.trans a1, b1⟩
/-- caught by the row x of this method's table; the rows ahead don't take it -/
theorem vx_catch {own name : String} {E : String} {ce : Cell} {q : Addr} (hown : s.vm.findClass own = some m.cls) (pre : List ExceptionTableEntry) (x : ExceptionTableEntry) (suf : List ExceptionTableEntry) (hsplit : c.exceptionTable.toList = pre ++ x :: suf)
    (hpass : ∀ z ∈ pre, covers z pc = false ∨ (z.catchType ≠ 0 ∧ ∃ nm : String, (Cond.classLink own z.catchType nm).before args s = true ∧ va_Nc E nm s)) (hx : covers x pc = true) (h0 : x.catchType ≠ 0)
    (hlink : (Cond.classLink own x.catchType name).before args s = true) (hcast : (Cond.castable E name).before args s = true) (hcell : H[q]? = some ce) (hv : ce.vm = .none) (hcl : s.vm.findClass E = some ce.cls)
    (kk : W p l e R s m args below meth c H locs cells slots Q (F0 m x.handlerPc ls [.ref q])) : vx_W p l e R s m args below meth c H locs cells slots Q (F0 m pc ls rest) q := by
  intro T hT X
  have hpl : e.platform.magicAccessors = ({} : Platform).magicAccessors := by rw [X.admits.platform]
  obtain ⟨c3, c4, hc3, hc4, hasg⟩ := Cond.castable_spec hcast
  cases Option.some.inj (hc3.symm.trans hcl)
  obtain ⟨c5, hc5, hcl5⟩ := Cond.classLink_spec hown hlink e.platform hpl
  cases Option.some.inj (hc4.symm.trans hc5)
  obtain ⟨vm', X', st⟩ := X.thenCaughtThrough q (g := F0 m pc ls rest) rfl (Steps.refl _) (by rw [hT]; exact hcell) (by rw [hv]; rfl) (by obtain ⟨k9, h9, -⟩ := Vm.findClass_spec hcl; exact ⟨k9, h9⟩) pre x suf hsplit
    (fun z hz => by
      rcases hpass z hz with h | ⟨hz0, nm, hl1, hn1⟩
      · exact Or.inl h
      · obtain ⟨c6, hc6, hcl6⟩ := Cond.classLink_spec hown hl1 e.platform hpl
        obtain ⟨a8, b8, h1, h2, h3⟩ := hn1
        cases Option.some.inj (h1.symm.trans hcl)
        cases Option.some.inj (h2.symm.trans hc6)
        exact Or.inr ⟨hz0, _, hcl6, h3⟩) hx (Or.inr ⟨h0, c4, hcl5, hasg⟩)
  obtain ⟨t, a1, b1⟩ := kk (T.setVm vm') hT X'
  exact ⟨t, st.trans a1, b1⟩
end Rows
section Ends
variable {p : Program} {l : Launch} {e : Env} {R : Room} {s : State} {m : MethodId} {args : Array Value} {below : List Frame} {meth : Method} {c : Code} {H : Heap} {locs : List Loc} {cells slots : Nat} {Q : State → Prop}
variable {mc ms : Nat} {free : Addr → Prop} {A0 A1 : Nat → Prop} {H0 : Heap} {a : Array Value} {ls : Array Slot} {st0 rest : List Value}
variable {Qc : Array Value → State → Outcome → State → Prop} {XC : String → State → State → Prop}
/-- what a body that may throw owes at its end -/
def vx_MQ (below : List Frame) (Qc : Array Value → State → Outcome → State → Prop) (XC : String → State → State → Prop) (a : Array Value) (s : State) (mc ms : Nat) (free : Addr → Prop) : State → Prop := fun t =>
  ∃ o, t.status = .running ∧ Ended t below o ∧ vx_Q Qc XC mc ms free a s o t
theorem vx_ret {g : JFrame} {mc ms : Nat} (k : W p l e R s m args below meth c H locs cells slots (MQ below Qc args s mc ms free) g) : W p l e R s m args below meth c H locs cells slots (vx_MQ below Qc XC args s mc ms free) g := by
  intro T hT X
  obtain ⟨t, a1, o, b1, b2, b3, b4⟩ := k T hT X
  exact ⟨t, a1, o, b1, b2, Or.inl ⟨b3, b4⟩⟩
/-- not caught here: it goes on to the caller -/
theorem vx_widen {g : JFrame} {q : Addr} {k n : Nat} (h1 : cells ≤ k) (h2 : slots ≤ n) (kk : vx_W p l e R s m args below meth c H locs k n Q g q) : vx_W p l e R s m args below meth c H locs cells slots Q g q := fun T hT X => kk T hT (stand_widen X h1 h2)
theorem vx_out {pc : Nat} {E : String} {ce : Cell} {q : Addr} {mc ms : Nat} (hout : ∀ x ∈ c.exceptionTable.toList, covers x pc = false) (hlocks : meth.locks = false) (hcell : H[q]? = some ce) (hv : ce.vm = .none) (hcl : s.vm.findClass E = some ce.cls)
    (hx : ∀ t : State, t.heap = H → s.vm.Alike t.vm → XC E s t) (hf : ∀ z ∈ locs, free z.base) (hc : cells ≤ mc) (hs : slots ≤ ms) :
    vx_W p l e R s m args below meth c H locs cells slots (vx_MQ below Qc XC args s mc ms free) (F0 m pc ls rest) q := by
  intro T hT X
  obtain ⟨st1, hrun, hend, hW, hsm⟩ := X.leaveThrown q (g := F0 m pc ls rest) rfl rfl rfl hout hlocks
  have hcell9 : (T.setFrames (.throwing q :: below)).heap[q]? = some ce := by
    show T.heap[q]? = some ce
    rw [hT]; exact hcell
  exact ⟨_, st1, .threw q, hrun, hend, Or.inr ⟨q, rfl, E, ce, locs, hx _ hT hW.alike, hcell9, hv, hcl, hW, hsm.mono hc hs, hf⟩⟩
theorem vx_frame {U : State} {k n : Nat} (h : s.sameButNew ({ U with vm := s.vm } : State) locs k n) : s.heap.size ≤ U.heap.size ∧ ∀ q : Nat, q < s.heap.size → (∀ z ∈ locs, z.base ≠ q) → U.heap[q]? = s.heap[q]? := by
  obtain ⟨-, h2, -, -, -, h6⟩ := h
  refine ⟨h2, fun q hq hz => ?_⟩
  obtain ⟨c9, e1, e2, e3, e4⟩ := h6 q _ (Array.getElem?_eq_getElem hq)
  have hs : c9.slots = (s.heap[q]).slots := Array.ext_getElem? fun i => e4 i fun hm => hz _ hm rfl
  have h9 : c9 = s.heap[q] := by
    rw [hs] at e2
    exact e2
  have e5 : U.heap[q]? = some c9 := e1
  rw [e5, h9, Array.getElem?_eq_getElem hq]
/-- the words of a throw but the four that speak of the heap -/
def vx_no (w : Cond) : Bool := decide (w ≠ .isRef (.static Bundle.tN "UNASSIGNED_STACK" Bundle.steD)) && decide (w ≠ .isRef (.static Bundle.tN "SUPPRESSED_SENTINEL" Bundle.listD)) && decide (w ≠ .laysStatic Bundle.tN "UNASSIGNED_STACK" Bundle.steD) && decide (w ≠ .laysStatic Bundle.tN "SUPPRESSED_SENTINEL" Bundle.listD)
def vx_at0 (own : String) (ic : Nat) (X : String) (names : List String) : List Cond := (Bundle.ownAtoms0 own ic X names).filter vx_no
def vx_atS (own : String) (ic : Nat) (X : String) (names : List String) : List Cond := (Bundle.ownAtoms own ic X names).filter vx_no
/-- a word that the tables alone decide, or a good one -/
def vx_ot (w : Cond) : Bool := w.onTables || goodWord w
theorem vx_ot_at {args a' : Array Value} {s U : State} {w : Cond} (hW : s.WarmedH U.vm) (hvm : s.vm = U.vm) (hg : vx_ot w = true) (h : w.before args s = true) : w.before a' U = true := by
  simp only [vx_ot, Bool.or_eq_true] at hg
  rcases hg with hg | hg
  · exact va_tabs hg hvm h
  · exact word_at hW (good_of_word hg) h
/-- a list's words: the good ones out of the method's own list, the others by premises of their own -/
theorem vx_hat {args : Array Value} {s : State} {L B : List Cond} (h1 : ∀ w ∈ L.filter goodWord, w.before args s = true) (h2 : ∀ w ∈ L.filter (fun w => !goodWord w), w ∈ B) (h3 : ∀ w ∈ B, w.before args s = true) : ∀ w ∈ L, w.before args s = true := by
  intro w hw
  by_cases g : goodWord w = true
  · exact h1 w (List.mem_filter.mpr ⟨hw, g⟩)
  · refine h3 w (h2 w (List.mem_filter.mpr ⟨hw, ?_⟩))
    show (!goodWord w) = true
    cases hgw : goodWord w
    · rfl
    · exact absurd hgw g
theorem vx_c {args : Array Value} {s : State} {w : Cond} {B : List Cond} (h : w.before args s = true) (t : ∀ w ∈ B, w.before args s = true) : ∀ w' ∈ w :: B, w'.before args s = true := fun w' h' => (List.mem_cons.mp h').elim (fun e => by rw [e]; exact h) (t w')
theorem vx_n {args : Array Value} {s : State} : ∀ w ∈ ([] : List Cond), w.before args s = true := fun _ h => nomatch h
theorem vx_own {args : Array Value} {s : State} {L : List Cond} (h1 : ∀ w ∈ L.filter vx_no, w.before args s = true)
    (hU : (Cond.isRef (.static Bundle.tN "UNASSIGNED_STACK" Bundle.steD)).before args s = true) (hN : (Cond.isRef (.static Bundle.tN "SUPPRESSED_SENTINEL" Bundle.listD)).before args s = true)
    (lU : (Cond.laysStatic Bundle.tN "UNASSIGNED_STACK" Bundle.steD).before args s = true) (lN : (Cond.laysStatic Bundle.tN "SUPPRESSED_SENTINEL" Bundle.listD).before args s = true) : ∀ w ∈ L, w.before args s = true := by
  intro w hw
  by_cases e1 : w = .isRef (.static Bundle.tN "UNASSIGNED_STACK" Bundle.steD)
  · rw [e1]; exact hU
  · by_cases e2 : w = .isRef (.static Bundle.tN "SUPPRESSED_SENTINEL" Bundle.listD)
    · rw [e2]; exact hN
    · by_cases e3 : w = .laysStatic Bundle.tN "UNASSIGNED_STACK" Bundle.steD
      · rw [e3]; exact lU
      · by_cases e4 : w = .laysStatic Bundle.tN "SUPPRESSED_SENTINEL" Bundle.listD
        · rw [e4]; exact lN
        · exact h1 w (List.mem_filter.mpr ⟨hw, by unfold vx_no; rw [decide_eq_true e1, decide_eq_true e2, decide_eq_true e3, decide_eq_true e4]; rfl⟩)
/-- where a static field lies, its class's statics cell in H -/
def vx_L (C n d : String) (A : Nat → Prop) (U : State) (H : Heap) : Prop := ∃ (c : ClassId) (k : Class) (i : Nat) (f : Field) (a : Nat) (cell : Cell), U.vm.findClass C = some c ∧ U.fieldFound? C n d = some (c, k, i, f) ∧ f.isStatic = true ∧ k.statics = some a ∧ H[a]? = some cell ∧ cell.vm.isStatics = true ∧ cell.cls = c ∧ f.slot < cell.slots.size ∧ k.staticTypes[f.slot]? = some f.type ∧ ¬ A a
theorem vx_L.moved {C n d : String} {A : Nat → Prop} {u U : State} {H : Heap} (hvm : u.vm.Alike U.vm) (h : vx_L C n d A u H) : vx_L C n d A U H := by
  obtain ⟨c, k, i, f, a, cell, h1, h2, h3, h4, h5, h6, h7, h8, h9, h10⟩ := h
  obtain ⟨k', hi', he⟩ := State.fieldFound?_setVm hvm h2
  exact ⟨c, k', i, f, a, cell, by rw [hvm.findClass]; exact h1, hi', h3, by rw [he]; exact h4, h5, h6, h7, h8, by rw [he]; exact h9, h10⟩
theorem vx_L.kept {C n d : String} {A : Nat → Prop} {U : State} {H H1 : Heap} (h : vx_L C n d A U H) (hq : ∀ a : Nat, a < H.size → ¬ A a → H1[a]? = H[a]?) : vx_L C n d A U H1 := by
  obtain ⟨c, k, i, f, a, cell, h1, h2, h3, h4, h5, h6, h7, h8, h9, h10⟩ := h
  exact ⟨c, k, i, f, a, cell, h1, h2, h3, h4, by rw [hq a (Array.getElem?_eq_some_iff.mp h5).1 h10]; exact h5, h6, h7, h8, h9, h10⟩
theorem vx_L.narrow {C n d : String} {A B : Nat → Prop} {U : State} {H : Heap} (h : vx_L C n d A U H) (hAB : ∀ q, B q → A q) : vx_L C n d B U H := by
  obtain ⟨c, k, i, f, a, cell, h1, h2, h3, h4, h5, h6, h7, h8, h9, h10⟩ := h
  exact ⟨c, k, i, f, a, cell, h1, h2, h3, h4, h5, h6, h7, h8, h9, fun z => h10 (hAB _ z)⟩
theorem vx_L.word {C n d : String} {A : Nat → Prop} {s : State} {args : Array Value} (h : vx_L C n d A s s.heap) : (Cond.laysStatic C n d).before args s = true := by
  obtain ⟨c, k, i, f, a, cell, h1, h2, h3, h4, h5, h6, h7, h8, h9, -⟩ := h
  show (Cond.laysStatic C n d).holds args s none s [] = true
  exact Cond.laysStatic_of h1 h2 h3 h4 h5 h6 h7 h8 h9
/-- .. and what it holds: null or some reference -/
def vx_Zq (C n d : String) (A : Nat → Prop) (U : State) (H : Heap) : Prop := va_Zq C n d A U H ∧ vx_L C n d A U H
theorem vx_Zq.moved {C n d : String} {A : Nat → Prop} {u U : State} {H : Heap} (hvm : u.vm.Alike U.vm) (h : vx_Zq C n d A u H) : vx_Zq C n d A U H := ⟨va_Zq.moved hvm h.1, vx_L.moved hvm h.2⟩
theorem vx_Zq.kept {C n d : String} {A : Nat → Prop} {U : State} {H H1 : Heap} (h : vx_Zq C n d A U H) (hq : ∀ a : Nat, a < H.size → ¬ A a → H1[a]? = H[a]?) : vx_Zq C n d A U H1 := ⟨va_Zq.kept h.1 hq, vx_L.kept h.2 hq⟩
theorem vx_Zq.narrow {C n d : String} {A B : Nat → Prop} {U : State} {H : Heap} (h : vx_Zq C n d A U H) (hAB : ∀ q, B q → A q) : vx_Zq C n d B U H := ⟨va_Zq.narrow h.1 hAB, vx_L.narrow h.2 hAB⟩
theorem vx_Zqof {args : Array Value} {s : State} {C n d : String} {A : Nat → Prop} (hl : (Cond.laysStatic C n d).before args s = true) (hini : (Cond.initialized C).before args s = true) (h : (Cond.isRef (.static C n d)).before args s = true) (hA : ∀ a : Nat, a < s.heap.size → ¬ A a) : vx_Zq C n d A s s.heap := by
  refine ⟨va_Zqof hl hini h hA, ?_⟩
  obtain ⟨c, k, i, f, a, cell, h1, h2, h3, h4, h5, h6, h7, h8, h9⟩ := Cond.laysStatic_spec hl
  exact ⟨c, k, i, f, a, cell, h1, h2, h3, h4, h5, h6, h7, h8, h9, hA a (Array.getElem?_eq_some_iff.mp h5).1⟩
theorem vx_isRef {C n d : String} {v : Value} {A : Nat → Prop} {s : State} {args : Array Value} (h : va_Z C n d v A s s.heap) (hv : v.isRef = true) : (Cond.isRef (.static C n d)).before args s = true := by
  obtain ⟨cf, kf, fi, f, a, cell, h1, h2, h3, h4, h5, h6, h7, -⟩ := h
  have he : (Term.static C n d).eval args s none [] s = some v := by
    simp [Term.eval, State.fieldNamed?, h1, h2, h4, h5, h6, h7]
  simp only [Cond.before, Cond.holds, Cond.value, he]
  cases v <;> simp_all [Value.isRef]
theorem vx_isRefq {C n d : String} {A : Nat → Prop} {s : State} {args : Array Value} (h : va_Zq C n d A s s.heap) : (Cond.isRef (.static C n d)).before args s = true := by
  rcases h with h | ⟨t, h⟩
  · exact vx_isRef h rfl
  · exact vx_isRef h rfl
/-- the same frame, seen from here: as if the method were called anew in this heap -/
theorem vx_rebase {T : State} (X : Stand p l e R s m args below meth c T locs cells slots) {R' : Room} (hf : R'.frames ≤ R.frames) (hl : R'.locals ≤ R.locals) (hc : cells + R'.cells ≤ R.cells) (hs : slots + R'.slots ≤ R.slots) :
    Stand p l e R' ((T.setVm s.vm).setFrames (.invoking m args :: below)) m args below meth c T [] 0 0 := by
  have htop : (T.setVm s.vm).topJava?.isSome := X.here.top
  have hF : ((T.setVm s.vm).setFrames (.invoking m args :: below)).frames = .invoking m args :: below := State.frames_setFrames _ (State.cur_lt_of_top htop)
  obtain ⟨g₀, hg0⟩ := Option.isSome_iff_exists.mp htop
  obtain ⟨r, hr⟩ := State.topJava?_eq_some.mp hg0
  have hl9 : e.platform.stackLimits (T.setVm s.vm).me = e.platform.stackLimits s.me := X.limits
  have hb9 : (T.setVm s.vm).me.stackBytes = s.me.stackBytes := X.bytes
  refine ⟨X.admits, X.cas, X.clock, hF, ?_, X.hears, X.method, X.code, X.here, X.tail, X.warmed, ?_, ?_, ?_⟩
  · have h := X.room
    have hU : ((T.setVm s.vm).setFrames (.invoking m args :: below)).localsInUse = s.localsInUse := by
      rw [State.localsInUse_invoking hF (meth := meth) (c := c) X.method X.code, State.localsInUse_invoking X.frames X.method X.code]
    simp only [State.hasRoom, Bool.and_eq_true, decide_eq_true_eq] at h ⊢
    obtain ⟨⟨⟨⟨h1, h2, h3, h4, h5, h6⟩, h7⟩, h8⟩, h9⟩ := h
    rw [X.frames, List.length_cons] at h2 h3
    have q1 := X.heapSize
    have q2 := X.used
    simp only [hF, hU, List.length_cons, State.stackLimits_setFrames, State.stackBytes_setFrames, hl9, hb9]
    refine ⟨⟨⟨⟨by omega, by omega, by omega, by omega, by omega, h6⟩, ?_⟩, ?_⟩, X.book⟩
    · show T.heap.size + R'.cells ≤ e.platform.maxCells
      omega
    · show T.slotsUsed + R'.slots ≤ e.platform.maxSlots
      omega
  · rw [State.stackLimits_setFrames]; rfl
  · rw [State.stackBytes_setFrames]; rfl
  · refine ⟨?_, Nat.le_refl _, Nat.le_refl _, ?_, ?_, fun a c9 h9 => ⟨c9, h9, rfl, rfl, fun _ _ => rfl⟩⟩
    · obtain ⟨t, ht, -⟩ := State.frames_cons hr
      show T.setVm s.vm = { ((T.setVm s.vm).setFrames (.invoking m args :: below)).setFrames (T.setVm s.vm).frames with heap := T.heap, slotsUsed := T.slotsUsed }
      rw [State.setFrames_setFrames, State.setFrames_self ht]
      rfl
    · show T.slotsUsed = T.slotsUsed + ((T.heap.toList.drop T.heap.size).map (·.slots.size)).sum
      rw [List.drop_eq_nil_of_le (Nat.le_of_eq Array.length_toList)]
      rfl
    · show ((T.heap.toList.drop T.heap.size).map (·.slots.size)).sum ≤ 0
      rw [List.drop_eq_nil_of_le (Nat.le_of_eq Array.length_toList)]
      exact Nat.le_refl _
/-- 'throw new E()': new; dup; invokespecial; athrow -/
theorem vx_throw0 {cc : ByteArray} {pc : Nat} (hexec : p.tables.exec = Jvm.exec) (hb : c.code = cc) (hl : l.stackTraces = false) {own cls : String} {names : List String} {ik ic mc ms : Nat} {A : Nat → Prop}
    (hown : s.vm.findClass own = some m.cls) (hcls : Bundle.fit cls = true) (hnames : ∀ n ∈ names, Bundle.fit n = true)
    (hk : (Cond.classLink own ik cls).before args s = true) (hini : (Cond.initialized cls).before args s = true) (hat : ∀ w ∈ vx_at0 own ic cls names, w.before args s = true)
    (hgood : ∀ w ∈ Cond.classLink own ik cls :: Cond.initialized cls :: vx_at0 own ic cls names, vx_ot w = true)
    (hU : vx_Zq Bundle.tN "UNASSIGNED_STACK" Bundle.steD A s s.heap) (hN : vx_Zq Bundle.tN "SUPPRESSED_SENTINEL" Bundle.listD A s s.heap) (hS : va_S A s.heap H locs) (hsize : ls.size = c.maxLocals)
    (d0 : decode cc pc = .ok (.new ik, 3)) (d3 : decode cc (pc + 3) = .ok (.dup, 1)) (d4 : decode cc (pc + 4) = .ok (.invokespecial ic, 3)) (d7 : decode cc (pc + 7) = .ok (.athrow, 1))
    (hout : ∀ x ∈ c.exceptionTable.toList, covers x (pc + 7) = false)
    (hRframes : names.length + 3 < R.frames) (hRlocals : (rest.map fun v => v.category).sum + (13 * (names.length + 1) + 42) ≤ R.locals) (hRcells : cells + 1 ≤ R.cells) (hRslots : slots + 6 ≤ R.slots) (hlocks : meth.locks = false)
    (hx : ∀ t : State, s.vm.Alike t.vm → H.size ≤ t.heap.size → (∀ q : Nat, q < H.size → t.heap[q]? = H[q]?) → XC cls s t)
    (hf : ∀ z ∈ locs, free z.base) (hc : cells + 1 ≤ mc) (hs : slots + 6 ≤ ms) :
    W p l e R s m args below meth c H locs cells slots (vx_MQ below Qc XC args s mc ms free) (F0 m pc ls rest) := by
  intro T hT X
  have htr : e.platform.stackTraces = false := (show e.platform.stackTraces = l.stackTraces by rw [X.admits.platform]).trans hl
  have Y := vx_rebase X (R' := { frames := R.frames, locals := R.locals, cells := 1, slots := 6 }) (Nat.le_refl _) (Nat.le_refl _) hRcells hRslots
  obtain ⟨s', hA⟩ : ∃ z, z = (T.setVm s.vm).setFrames (.invoking m args :: below) := ⟨_, rfl⟩
  rw [← hA] at Y
  have hvm : s'.vm = s.vm := by rw [hA]; rfl
  have hhp : s'.heap = H := by rw [hA]; exact hT
  have hW0 : s.WarmedH s'.vm := by rw [hvm]; exact State.WarmedH.refl s
  have hat' : ∀ w ∈ vx_at0 own ic cls names, w.before args s' = true := fun w hw => vx_ot_at hW0 hvm.symm (hgood w (List.mem_cons_of_mem _ (List.mem_cons_of_mem _ hw))) (hat w hw)
  have hk' : (Cond.classLink own ik cls).before args s' = true := vx_ot_at hW0 hvm.symm (hgood _ List.mem_cons_self) hk
  have hini' : (Cond.initialized cls).before args s' = true := vx_ot_at hW0 hvm.symm (hgood _ (List.mem_cons_of_mem _ List.mem_cons_self)) hini
  have hU' : vx_Zq Bundle.tN "UNASSIGNED_STACK" Bundle.steD A s' s'.heap := by rw [hhp]; exact vx_Zq.moved hW0.alike (hU.kept hS.2.1)
  have hN' : vx_Zq Bundle.tN "SUPPRESSED_SENTINEL" Bundle.listD A s' s'.heap := by rw [hhp]; exact vx_Zq.moved hW0.alike (hN.kept hS.2.1)
  have h : ∀ w ∈ Bundle.ownAtoms0 own ic cls names, w.before args s' = true := vx_own hat' (vx_isRefq hU'.1) (vx_isRefq hN'.1) hU'.2.word hN'.2.word
  have hown' : s'.vm.findClass own = some m.cls := by rw [hvm]; exact hown
  have hins : (Cond.instantiable cls 6).before args s' = true := h _ (by simp [Bundle.ownAtoms0])
  obtain ⟨vm₁, cX, kX, hfX, hkX, -, -, X₁, st1⟩ := Y.newCold hexec (own := own) (C := cls) (index := ik) (n := 6) hown' hk' hins hini'
    (g := F0 m pc ls rest) rfl (by rw [hb]; exact d0) (Nat.le_refl _) (Nat.le_refl _)
  generalize hT1 : (T.setVm vm₁).pushCell { cls := cX, slots := kX.instanceTypes.map defaultValue, vm := .none } = T1 at X₁ st1
  have hcat : (Value.ref T.heap.size).category = 1 := rfl
  have hcellA : T1.heap[T.heap.size]? = some (freshCell cX kX) := by rw [← hT1]; exact State.heap_pushCell_size _ _
  have d3' : decode c.code (pc + 3) = .ok (.dup, 1) := by rw [hb]; exact d3
  obtain ⟨U, hsteps, hrun, hend, hW, hsame, ce, hce, hO⟩ := X₁.ctorThrow0 hexec htr (own := own) (cls := cls) (names := names) (ic := ic) hown' hcls hnames h (fun x hx => nomatch hx) hfX hkX hcellA (by rw [hhp, hT]; exact Nat.le_refl _)
    (g := { method := m, pc := pc + 4, locals := ls, stack := .ref T.heap.size :: .ref T.heap.size :: rest, locked := none }) rfl hsize rfl rfl (rest := rest) rfl
    (by rw [hb]; exact d4) (by rw [hb]; exact d7) hout hRframes (by simp only [List.map_cons, List.sum_cons, hcat]; omega) hlocks
  obtain ⟨f1, f2⟩ := vx_frame hsame
  rw [hhp] at f1 f2
  have hWs : s.WarmedH U.vm := State.WarmedH.trans hW0 hW
  have hcl : s.vm.findClass cls = some ce.cls := by
    have h9 := hO.cls
    rw [hvm] at h9
    exact h9
  have hall : s.sameButNew ({ U with vm := s.vm } : State) locs mc ms := by
    subst hA
    obtain ⟨e1, e2⟩ := hsame
    rw [State.setFrames_setFrames] at e1
    have h2 : (T.setVm s.vm).sameButNew ({ U with vm := s.vm } : State) [] (0 + 1) (0 + 6) := ⟨e1, e2⟩
    have h3 := X.same.trans h2
    rw [List.append_nil] at h3
    exact h3.mono hc hs
  refine ⟨U, ?_, .threw T.heap.size, hrun, hend, Or.inr ⟨T.heap.size, rfl, cls, ce, locs, hx U hWs.alike f1 (fun q hq => f2 q hq (fun z hz => nomatch hz)), hce, hO.vm, hcl, hWs, hall, hf⟩⟩
  refine st1 _ ?_
  show Steps p.tables e below (T1.setTop { method := m, pc := pc + 3, locals := ls, stack := .ref T.heap.size :: rest, locked := none }) _
  jvm_step X₁.here [X₁.here.top, hexec, d3', Value.category]
  exact hsteps
/-- 'throw new E("text")': new; dup; ldc; invokespecial; athrow -/
theorem vx_throwS {cc : ByteArray} {pc : Nat} (hexec : p.tables.exec = Jvm.exec) (hb : c.code = cc) (hl : l.stackTraces = false) {own cls text : String} {names : List String} {ik is ic mc ms sa : Nat} {A : Nat → Prop}
    (hown : s.vm.findClass own = some m.cls) (hcls : Bundle.fit cls = true) (hnames : ∀ n ∈ names, Bundle.fit n = true)
    (hk : (Cond.classLink own ik cls).before args s = true) (hini : (Cond.initialized cls).before args s = true) (hstr : vk_R own is text sa s) (hat : ∀ w ∈ vx_atS own ic cls names, w.before args s = true)
    (hgood : ∀ w ∈ Cond.classLink own ik cls :: Cond.initialized cls :: vx_atS own ic cls names, vx_ot w = true)
    (hU : vx_Zq Bundle.tN "UNASSIGNED_STACK" Bundle.steD A s s.heap) (hN : vx_Zq Bundle.tN "SUPPRESSED_SENTINEL" Bundle.listD A s s.heap) (hS : va_S A s.heap H locs) (hsize : ls.size = c.maxLocals)
    (d0 : decode cc pc = .ok (.new ik, 3)) (d3 : decode cc (pc + 3) = .ok (.dup, 1)) (d4 : decode cc (pc + 4) = .ok (.ldc is, 2)) (d6 : decode cc (pc + 6) = .ok (.invokespecial ic, 3)) (d9 : decode cc (pc + 9) = .ok (.athrow, 1))
    (hout : ∀ x ∈ c.exceptionTable.toList, covers x (pc + 9) = false)
    (hRframes : names.length + 3 < R.frames) (hRlocals : (rest.map fun v => v.category).sum + (13 * (names.length + 1) + 43) ≤ R.locals) (hRcells : cells + 1 ≤ R.cells) (hRslots : slots + 6 ≤ R.slots) (hlocks : meth.locks = false)
    (hx : ∀ t : State, s.vm.Alike t.vm → H.size ≤ t.heap.size → (∀ q : Nat, q < H.size → t.heap[q]? = H[q]?) → XC cls s t)
    (hf : ∀ z ∈ locs, free z.base) (hc : cells + 1 ≤ mc) (hs : slots + 6 ≤ ms) :
    W p l e R s m args below meth c H locs cells slots (vx_MQ below Qc XC args s mc ms free) (F0 m pc ls rest) := by
  intro T hT X
  have htr : e.platform.stackTraces = false := (show e.platform.stackTraces = l.stackTraces by rw [X.admits.platform]).trans hl
  have Y := vx_rebase X (R' := { frames := R.frames, locals := R.locals, cells := 1, slots := 6 }) (Nat.le_refl _) (Nat.le_refl _) hRcells hRslots
  obtain ⟨s', hA⟩ : ∃ z, z = (T.setVm s.vm).setFrames (.invoking m args :: below) := ⟨_, rfl⟩
  rw [← hA] at Y
  have hvm : s'.vm = s.vm := by rw [hA]; rfl
  have hhp : s'.heap = H := by rw [hA]; exact hT
  have hW0 : s.WarmedH s'.vm := by rw [hvm]; exact State.WarmedH.refl s
  have hat' : ∀ w ∈ vx_atS own ic cls names, w.before args s' = true := fun w hw => vx_ot_at hW0 hvm.symm (hgood w (List.mem_cons_of_mem _ (List.mem_cons_of_mem _ hw))) (hat w hw)
  have hk' : (Cond.classLink own ik cls).before args s' = true := vx_ot_at hW0 hvm.symm (hgood _ List.mem_cons_self) hk
  have hini' : (Cond.initialized cls).before args s' = true := vx_ot_at hW0 hvm.symm (hgood _ (List.mem_cons_of_mem _ List.mem_cons_self)) hini
  have hU' : vx_Zq Bundle.tN "UNASSIGNED_STACK" Bundle.steD A s' s'.heap := by rw [hhp]; exact vx_Zq.moved hW0.alike (hU.kept hS.2.1)
  have hN' : vx_Zq Bundle.tN "SUPPRESSED_SENTINEL" Bundle.listD A s' s'.heap := by rw [hhp]; exact vx_Zq.moved hW0.alike (hN.kept hS.2.1)
  have h : ∀ w ∈ Bundle.ownAtoms own ic cls names, w.before args s' = true := vx_own hat' (vx_isRefq hU'.1) (vx_isRefq hN'.1) hU'.2.word hN'.2.word
  have hown' : s'.vm.findClass own = some m.cls := by rw [hvm]; exact hown
  have hins : (Cond.instantiable cls 6).before args s' = true := h _ (by simp [Bundle.ownAtoms])
  obtain ⟨vm₁, cX, kX, hfX, hkX, -, -, X₁, st1⟩ := Y.newCold hexec (own := own) (C := cls) (index := ik) (n := 6) hown' hk' hins hini'
    (g := F0 m pc ls rest) rfl (by rw [hb]; exact d0) (Nat.le_refl _) (Nat.le_refl _)
  generalize hT1 : (T.setVm vm₁).pushCell { cls := cX, slots := kX.instanceTypes.map defaultValue, vm := .none } = T1 at X₁ st1
  have hcat : (Value.ref T.heap.size).category = 1 := rfl
  have hcellA : T1.heap[T.heap.size]? = some (freshCell cX kX) := by rw [← hT1]; exact State.heap_pushCell_size _ _
  have d3' : decode c.code (pc + 3) = .ok (.dup, 1) := by rw [hb]; exact d3
  have d4' : decode c.code (pc + 4) = .ok (.ldc is, 2) := by rw [hb]; exact d4
  have hstr' : vk_R own is text sa s' := vk_R.warm hW0 hstr
  obtain ⟨U, hsteps, hrun, hend, hW, hsame, ce, hce, hO⟩ := X₁.ctorThrowS hexec htr (own := own) (cls := cls) (names := names) (ic := ic) hown' hcls hnames h (fun x hx => nomatch hx) hfX hkX hcellA (by rw [hhp, hT]; exact Nat.le_refl _) (msg := .ref sa) rfl
    (g := { method := m, pc := pc + 6, locals := ls, stack := .ref sa :: .ref T.heap.size :: .ref T.heap.size :: rest, locked := none }) rfl hsize rfl rfl (rest := rest) rfl
    (by rw [hb]; exact d6) (by rw [hb]; exact d9) hout hRframes (by simp only [List.map_cons, List.sum_cons, hcat]; omega) hlocks
  obtain ⟨f1, f2⟩ := vx_frame hsame
  rw [hhp] at f1 f2
  have hWs : s.WarmedH U.vm := State.WarmedH.trans hW0 hW
  have hcl : s.vm.findClass cls = some ce.cls := by
    have h9 := hO.cls
    rw [hvm] at h9
    exact h9
  have hall : s.sameButNew ({ U with vm := s.vm } : State) locs mc ms := by
    subst hA
    obtain ⟨e1, e2⟩ := hsame
    rw [State.setFrames_setFrames] at e1
    have h2 : (T.setVm s.vm).sameButNew ({ U with vm := s.vm } : State) [] (0 + 1) (0 + 6) := ⟨e1, e2⟩
    have h3 := X.same.trans h2
    rw [List.append_nil] at h3
    exact h3.mono hc hs
  refine ⟨U, ?_, .threw T.heap.size, hrun, hend, Or.inr ⟨T.heap.size, rfl, cls, ce, locs, hx U hWs.alike f1 (fun q hq => f2 q hq (fun z hz => nomatch hz)), hce, hO.vm, hcl, hWs, hall, hf⟩⟩
  refine st1 _ ?_
  show Steps p.tables e below (T1.setTop { method := m, pc := pc + 3, locals := ls, stack := .ref T.heap.size :: rest, locked := none }) _
  jvm_step X₁.here [X₁.here.top, hexec, d3', Value.category]
  exact X₁.ldcString hexec (own := own) (text := text) (index := is) (a := sa) hown' hstr'.1 hstr'.2
    (g := { method := m, pc := pc + 4, locals := ls, stack := .ref T.heap.size :: .ref T.heap.size :: rest, locked := none }) rfl d4' _ hsteps
/-- 'throw new E("text")', the text by a wide index -/
theorem vx_throwSW {cc : ByteArray} {pc : Nat} (hexec : p.tables.exec = Jvm.exec) (hb : c.code = cc) (hl : l.stackTraces = false) {own cls text : String} {names : List String} {ik is ic mc ms sa : Nat} {A : Nat → Prop}
    (hown : s.vm.findClass own = some m.cls) (hcls : Bundle.fit cls = true) (hnames : ∀ n ∈ names, Bundle.fit n = true)
    (hk : (Cond.classLink own ik cls).before args s = true) (hini : (Cond.initialized cls).before args s = true) (hstr : vk_R own is text sa s) (hat : ∀ w ∈ vx_atS own ic cls names, w.before args s = true)
    (hgood : ∀ w ∈ Cond.classLink own ik cls :: Cond.initialized cls :: vx_atS own ic cls names, vx_ot w = true)
    (hU : vx_Zq Bundle.tN "UNASSIGNED_STACK" Bundle.steD A s s.heap) (hN : vx_Zq Bundle.tN "SUPPRESSED_SENTINEL" Bundle.listD A s s.heap) (hS : va_S A s.heap H locs) (hsize : ls.size = c.maxLocals)
    (d0 : decode cc pc = .ok (.new ik, 3)) (d3 : decode cc (pc + 3) = .ok (.dup, 1)) (d4 : decode cc (pc + 4) = .ok (.ldc_w is, 3)) (d7 : decode cc (pc + 7) = .ok (.invokespecial ic, 3)) (d10 : decode cc (pc + 10) = .ok (.athrow, 1))
    (hout : ∀ x ∈ c.exceptionTable.toList, covers x (pc + 10) = false)
    (hRframes : names.length + 3 < R.frames) (hRlocals : (rest.map fun v => v.category).sum + (13 * (names.length + 1) + 43) ≤ R.locals) (hRcells : cells + 1 ≤ R.cells) (hRslots : slots + 6 ≤ R.slots) (hlocks : meth.locks = false)
    (hx : ∀ t : State, s.vm.Alike t.vm → H.size ≤ t.heap.size → (∀ q : Nat, q < H.size → t.heap[q]? = H[q]?) → XC cls s t)
    (hf : ∀ z ∈ locs, free z.base) (hc : cells + 1 ≤ mc) (hs : slots + 6 ≤ ms) :
    W p l e R s m args below meth c H locs cells slots (vx_MQ below Qc XC args s mc ms free) (F0 m pc ls rest) := by
  intro T hT X
  have htr : e.platform.stackTraces = false := (show e.platform.stackTraces = l.stackTraces by rw [X.admits.platform]).trans hl
  have Y := vx_rebase X (R' := { frames := R.frames, locals := R.locals, cells := 1, slots := 6 }) (Nat.le_refl _) (Nat.le_refl _) hRcells hRslots
  obtain ⟨s', hA⟩ : ∃ z, z = (T.setVm s.vm).setFrames (.invoking m args :: below) := ⟨_, rfl⟩
  rw [← hA] at Y
  have hvm : s'.vm = s.vm := by rw [hA]; rfl
  have hhp : s'.heap = H := by rw [hA]; exact hT
  have hW0 : s.WarmedH s'.vm := by rw [hvm]; exact State.WarmedH.refl s
  have hat' : ∀ w ∈ vx_atS own ic cls names, w.before args s' = true := fun w hw => vx_ot_at hW0 hvm.symm (hgood w (List.mem_cons_of_mem _ (List.mem_cons_of_mem _ hw))) (hat w hw)
  have hk' : (Cond.classLink own ik cls).before args s' = true := vx_ot_at hW0 hvm.symm (hgood _ List.mem_cons_self) hk
  have hini' : (Cond.initialized cls).before args s' = true := vx_ot_at hW0 hvm.symm (hgood _ (List.mem_cons_of_mem _ List.mem_cons_self)) hini
  have hU' : vx_Zq Bundle.tN "UNASSIGNED_STACK" Bundle.steD A s' s'.heap := by rw [hhp]; exact vx_Zq.moved hW0.alike (hU.kept hS.2.1)
  have hN' : vx_Zq Bundle.tN "SUPPRESSED_SENTINEL" Bundle.listD A s' s'.heap := by rw [hhp]; exact vx_Zq.moved hW0.alike (hN.kept hS.2.1)
  have h : ∀ w ∈ Bundle.ownAtoms own ic cls names, w.before args s' = true := vx_own hat' (vx_isRefq hU'.1) (vx_isRefq hN'.1) hU'.2.word hN'.2.word
  have hown' : s'.vm.findClass own = some m.cls := by rw [hvm]; exact hown
  have hins : (Cond.instantiable cls 6).before args s' = true := h _ (by simp [Bundle.ownAtoms])
  obtain ⟨vm₁, cX, kX, hfX, hkX, -, -, X₁, st1⟩ := Y.newCold hexec (own := own) (C := cls) (index := ik) (n := 6) hown' hk' hins hini'
    (g := F0 m pc ls rest) rfl (by rw [hb]; exact d0) (Nat.le_refl _) (Nat.le_refl _)
  generalize hT1 : (T.setVm vm₁).pushCell { cls := cX, slots := kX.instanceTypes.map defaultValue, vm := .none } = T1 at X₁ st1
  have hcat : (Value.ref T.heap.size).category = 1 := rfl
  have hcellA : T1.heap[T.heap.size]? = some (freshCell cX kX) := by rw [← hT1]; exact State.heap_pushCell_size _ _
  have d3' : decode c.code (pc + 3) = .ok (.dup, 1) := by rw [hb]; exact d3
  have d4' : decode c.code (pc + 4) = .ok (.ldc_w is, 3) := by rw [hb]; exact d4
  have hstr' : vk_R own is text sa s' := vk_R.warm hW0 hstr
  obtain ⟨U, hsteps, hrun, hend, hW, hsame, ce, hce, hO⟩ := X₁.ctorThrowS hexec htr (own := own) (cls := cls) (names := names) (ic := ic) hown' hcls hnames h (fun x hx => nomatch hx) hfX hkX hcellA (by rw [hhp, hT]; exact Nat.le_refl _) (msg := .ref sa) rfl
    (g := { method := m, pc := pc + 7, locals := ls, stack := .ref sa :: .ref T.heap.size :: .ref T.heap.size :: rest, locked := none }) rfl hsize rfl rfl (rest := rest) rfl
    (by rw [hb]; exact d7) (by rw [hb]; exact d10) hout hRframes (by simp only [List.map_cons, List.sum_cons, hcat]; omega) hlocks
  obtain ⟨f1, f2⟩ := vx_frame hsame
  rw [hhp] at f1 f2
  have hWs : s.WarmedH U.vm := State.WarmedH.trans hW0 hW
  have hcl : s.vm.findClass cls = some ce.cls := by
    have h9 := hO.cls
    rw [hvm] at h9
    exact h9
  have hall : s.sameButNew ({ U with vm := s.vm } : State) locs mc ms := by
    subst hA
    obtain ⟨e1, e2⟩ := hsame
    rw [State.setFrames_setFrames] at e1
    have h2 : (T.setVm s.vm).sameButNew ({ U with vm := s.vm } : State) [] (0 + 1) (0 + 6) := ⟨e1, e2⟩
    have h3 := X.same.trans h2
    rw [List.append_nil] at h3
    exact h3.mono hc hs
  refine ⟨U, ?_, .threw T.heap.size, hrun, hend, Or.inr ⟨T.heap.size, rfl, cls, ce, locs, hx U hWs.alike f1 (fun q hq => f2 q hq (fun z hz => nomatch hz)), hce, hO.vm, hcl, hWs, hall, hf⟩⟩
  refine st1 _ ?_
  show Steps p.tables e below (T1.setTop { method := m, pc := pc + 3, locals := ls, stack := .ref T.heap.size :: rest, locked := none }) _
  jvm_step X₁.here [X₁.here.top, hexec, d3', Value.category]
  exact X₁.ldcStringW hexec (own := own) (text := text) (index := is) (a := sa) hown' hstr'.1 hstr'.2
    (g := { method := m, pc := pc + 4, locals := ls, stack := .ref T.heap.size :: .ref T.heap.size :: rest, locked := none }) rfl d4' _ hsteps
end Ends
section Bodies
variable {l : Launch}
theorem vx_ofW {y : MethodName} {ws ws' : List Cond} {rm : Room} {Pc : Array Value → State → Prop} {Qc : Array Value → State → Outcome → State → Prop} {XC : String → State → State → Prop} {mc ms : Nat} {free : Addr → Prop} {cc : ByteArray} {maxL : Nat} {ret : Option FieldType}
    (hy : plainName y.cls = true) (hw : ws = Cond.code y cc maxL ret :: ws')
    (body : ∀ p e s m args below meth c s₁, BodyLoose p l y (headSpec ws rm) cc maxL ret e s m args below meth c s₁ → c.maxLocals = maxL → (∀ x ∈ c.exceptionTable.toList, False) → Pc args s →
      W p l e (headSpec ws rm).room s m args below meth c s.heap [] 0 0 (vx_MQ below Qc XC args s mc ms free) (entryFrame m args maxL)) : vx_Met l y ws rm Pc Qc XC mc ms free := by
  refine MetFree.of_bodyS (code := cc) (maxLocals := maxL) (ret := ret) hy ?_ ?_
  · intro args s m h hn
    obtain ⟨meth, c, h1, h2, h3, h4, h5, h6, -, -⟩ := Cond.code_spec hn (atoms_spec (ws := ws) h _ (by rw [hw]; exact List.mem_cons_self))
    exact ⟨meth, c, h1, h2, h3, h4, h5, h6⟩
  · intro p e s m args below meth c s₁ B hml hP _
    have hh0 : s₁.heap = s.heap := by rw [B.state]; rfl
    have ht : ∀ x ∈ c.exceptionTable.toList, False := by
      obtain ⟨meth9, c9, h1, h2, -, -, -, -, h7, -⟩ := Cond.code_spec B.named (atoms_spec (ws := ws) B.pre _ (by rw [hw]; exact List.mem_cons_self))
      cases Option.some.inj (h1.symm.trans B.method)
      cases Option.some.inj (h2.symm.trans (Stand.of_body B).code)
      intro x hx
      rw [Array.isEmpty_iff.mp h7] at hx
      cases hx
    obtain ⟨t, a1, o, b1, b2, b3⟩ := body p e s m args below meth c s₁ B hml ht hP s₁ hh0 (Stand.of_body B)
    exact ⟨t, o, a1, b1, b2, b3⟩
/-- the table of a body with handlers -/
theorem vx_table {p : Program} {x y : MethodName} {S : Spec} {cc bytes : ByteArray} {maxL maxL' : Nat} {ret ret' : Option FieldType} {e : Env} {s s₁ : State} {m : MethodId} {args : Array Value} {below : List Frame} {meth : Method} {c : Code} {hh : List (Nat × Nat × Nat × Nat)}
    (B : BodyLoose p l y S cc maxL ret e s m args below meth c s₁) (h : (Cond.codeWith y bytes maxL' ret' hh).before args s = true) : c.exceptionTable.toList = tableOf hh := by
  obtain ⟨m9, meth9, c9, hn9, h1, h2, -, -, h6, -⟩ := Cond.codeWith_spec h
  cases Option.some.inj (hn9.symm.trans B.named)
  cases Option.some.inj (h1.symm.trans B.method)
  cases Option.some.inj (h2.symm.trans (Stand.of_body B).code)
  rw [← h6, table_eq]
end Bodies
end VXA
/-! ===== END ===== -/
/-! ===== BEGIN a static call of a method with an exception table ===== -/
section VXS
variable {p : Program} {l : Launch} {e : Env} {R : Room} {s : State} {m : MethodId} {args : Array Value} {below : List Frame} {meth : Method} {c : Code} {T : State} {H : Heap} {locs : List Loc} {cells slots : Nat}
abbrev vx_CSW (R : Room) (s : State) (args : Array Value) (own : String) (index : Nat) (y : MethodName) (bytes : ByteArray) (maxL : Nat) (ret : Option FieldType) (hh : List (Nat × Nat × Nat × Nat)) (ws : List Cond) (rm : Room) (mc ms n : Nat) : Prop :=
  (rm.cells = mc ∧ rm.slots = ms ∧ rm.frames + 1 ≤ R.frames ∧ 8 + (maxL + 11) + rm.locals ≤ R.locals ∧ (∀ w ∈ ws, ∀ (a' : Array Value) (U : State), s.WarmedH U.vm → w.before a' U = true) ∧ Cond.codeWith y bytes maxL ret hh ∈ ws) ∧
  (Cond.codeWith y bytes maxL ret hh).before args s = true ∧ (Cond.initialized y.cls).before args s = true ∧ (y.cls ≠ "java/lang/invoke/MethodHandle" ∧ y.cls ≠ "java/lang/invoke/VarHandle") ∧
  (∀ sig, parseMethodDescriptor y.desc = some sig → n = sig.parameters.length) ∧ (Cond.methodLink own index y).before args s = true ∧ (Cond.static y).before args s = true
theorem vx_cwSW {own : String} {index maxL mc ms : Nat} {y : MethodName} {bytes : ByteArray} {ret : Option FieldType} {hh : List (Nat × Nat × Nat × Nat)} {Ts ws ws' : List Cond} {rm : Room} (n : Nat) (ht : ∀ w ∈ Ts, w.before args s = true) (hT : GoodIn Ts (va_wsS own index y ws)) (hw : ws = Cond.codeWith y bytes maxL ret hh :: ws') (hrc : rm.cells = mc) (hrs : rm.slots = ms)
    (hd : y.cls ≠ "java/lang/invoke/MethodHandle" ∧ y.cls ≠ "java/lang/invoke/VarHandle" ∧ (parseMethodDescriptor y.desc).map (fun d => d.parameters.length) = some n) (hR : rm.frames + 1 ≤ R.frames ∧ 8 + (maxL + 11) + rm.locals ≤ R.locals) :
    vx_CSW R s args own index y bytes maxL ret hh ws rm mc ms n := by
  have ok : ∀ w ∈ va_wsS own index y ws, w.before args s = true := fun w h => ht w (hT w h).1
  have hG : GoodIn Ts ws := fun w h => hT w (by unfold va_wsS; exact List.mem_append_right _ h)
  have hc : Cond.codeWith y bytes maxL ret hh ∈ ws := by rw [hw]; exact List.mem_cons_self
  refine ⟨⟨hrc, hrs, hR.1, hR.2, pay_in ht hG, hc⟩, ht _ (hG _ hc).1, ok _ (by simp [va_wsS]), ⟨hd.1, hd.2.1⟩, fun sig h => ?_, ok _ (by simp [va_wsS]), ok _ (by simp [va_wsS])⟩
  have h2 := hd.2.2
  rw [h] at h2
  exact (Option.some.inj h2).symm
theorem vx_callSW (X : Stand p l e R s m args below meth c T locs cells slots) (hexec : p.tables.exec = Jvm.exec) {own : String} {index : Nat} {y : MethodName} {bytes : ByteArray} {maxL : Nat} {ret : Option FieldType} {hh : List (Nat × Nat × Nat × Nat)}
    (hown : s.vm.findClass own = some m.cls) (hlink : (Cond.methodLink own index y).before args s = true) (hstat : (Cond.static y).before args s = true) (hinit : (Cond.initialized y.cls).before args s = true)
    (hcode : (Cond.codeWith y bytes maxL ret hh).before args s = true) (hy : y.cls ≠ "java/lang/invoke/MethodHandle" ∧ y.cls ≠ "java/lang/invoke/VarHandle")
    {W9 : Nat} {Pre : Pt → Array Value → Prop} {Post : Pt → Array Value → Option Value → Pt → Prop} (hK : Back l R p e below s args y 3 W9 Pre Post)
    {g : JFrame} (hg : g.method = m) (hsize : g.locals.size = c.maxLocals) {argsL rest : List Value} (hlen : ∀ sig, parseMethodDescriptor y.desc = some sig → argsL.length = sig.parameters.length)
    (hstack : g.stack = argsL.reverse ++ rest) (hW : 2 * g.monitorRoom + (rest.map fun v => v.category).sum ≤ W9) (hdg : decode c.code g.pc = .ok (.invokestatic index, 3))
    (hpre : ∀ vm₁, s.WarmedH vm₁ → Pre ⟨T.setVm vm₁, locs, cells, slots⟩ argsL.toArray) :
    ∃ (v : Option Value) (vm₁ : Vm) (B : Pt), s.WarmedH vm₁ ∧ Stand p l e R s m args below meth c B.U B.locs B.cells B.slots ∧ Post ⟨T.setVm vm₁, locs, cells, slots⟩ argsL.toArray v B ∧
      ∀ target, Steps p.tables e below (B.U.setTop { g with pc := g.pc + 3, stack := v.toList ++ rest }) target → Steps p.tables e below (T.setTop g) target := by
  obtain ⟨mk, methM, cM, hnamed, hmethM, -, -, -, -, -, -, hsigM⟩ := Cond.codeWith_spec hcode
  have hstatic : methM.isStatic = true := Cond.static_spec hnamed hmethM hstat
  obtain ⟨kP, hkP, -⟩ := className_of_methodNamed hnamed
  have hinitP : kP.init = .initialized := Cond.initialized_spec (findClass_of_methodNamed hnamed) hkP hinit
  obtain ⟨vm₁, X₁, hstep₁⟩ := X.invokestatic hexec hown hlink hnamed hmethM hstatic hkP hinitP hy (g := g) hg (argsL := argsL) (rest := rest) (hlen _ hsigM) hstack hdg
  obtain ⟨v, B, X', hpost, hsteps⟩ := hK m meth c ⟨T.setVm vm₁, locs, cells, slots⟩ { g with stack := rest } (.invokestatic index) mk argsL.toArray X₁ hg hsize hdg hW (X₁.named hnamed) (hpre vm₁ X₁.warmed)
  exact ⟨v, vm₁, B, X₁.warmed, X', hpost, fun target h => hstep₁ _ fun acts => by rw [doInvoke_state]; exact hsteps.trans h⟩
theorem vx_runSW {y : MethodName} {bytes cc : ByteArray} {maxL nL mc ms n index : Nat} {ret : Option FieldType} {hh : List (Nat × Nat × Nat × Nat)} {ws : List Cond} {rm : Room} {Pc : Array Value → State → Prop} {Qc : Array Value → State → Outcome → State → Prop} {free : Addr → Prop} {Ts : List Cond} {own : String} {As rest : List Value} {g : JFrame}
    (S : CallFix p m c cc nL s args Ts own) (hM : Met l y ws rm Pc Qc mc ms free) (cw : vx_CSW R s args own index y bytes maxL ret hh ws rm mc ms n) (hp : PreS s H Pc As)
    (hg : g.method = m) (hn : As.length = n) (hsize : g.locals.size = nL) (hstack : g.stack = As.reverse ++ rest) (hW : 2 * g.monitorRoom + (rest.map fun v => v.category).sum ≤ 8) (hdg : decode cc g.pc = .ok (.invokestatic index, 3)) (hf : cells + mc ≤ R.cells ∧ slots + ms ≤ R.slots) :
    va_Run p l e R s m args below meth c H locs cells slots mc ms g rest (Qc As.toArray) (free) := by
  obtain ⟨⟨hrc, hrs, hfr, hlo, hws, hcw⟩, hcode, hini, hy, hlen, hl, hstt⟩ := cw
  have hK : Back l R p e below s args y 3 8 (PreOf R mc ms Pc) (PostOf Qc mc ms free) := va_backW (hh := hh) (bytes := bytes) (maxL := maxL) (ret := ret) hM hp.1 hrc hrs hfr hlo hws hcw (fun a' U hW => word_at hW (Or.inl (by first | rfl | simp [Cond.onTables, Cond.keeps, Cond.steady])) hini)
  obtain ⟨hx, hb, hml, ho, -⟩ := S
  intro T hT X
  obtain ⟨v, vm₁, ⟨U', l2, c2, s2⟩, hW₁, X', ⟨g', mk, t, L, e1, e2, hq, h1, hL, h2, h3⟩, st⟩ := vx_callSW X hx (hh := hh) (bytes := bytes) (maxL := maxL) (ret := ret) ho hl hstt hini hcode hy hK hg (hsize.trans hml.symm) (argsL := As) (rest := rest) (fun sig h => hn.trans (hlen sig h)) hstack hW (by rw [hb]; exact hdg)
    (fun vm₁ hW₁ => ⟨hf.1, hf.2, hp.2 (T.setVm vm₁) hT hW₁⟩)
  dsimp only [Pt.U, Pt.locs, Pt.cells, Pt.slots] at X' e1 e2 h1 h2 h3 st
  subst h1; subst h2; subst h3
  exact ⟨v, (T.setVm vm₁).calling g' mk As.toArray, t, U', L, hT, X', hL, e1, e2, hq, st⟩
/-- not caught here, past rows that name other classes: it goes on to the caller -/
theorem vx_outP {p : Program} {l : Launch} {e : Env} {R : Room} {s : State} {m : MethodId} {args : Array Value} {below : List Frame} {meth : Method} {c : Code} {H : Heap} {locs : List Loc} {cells slots : Nat} {free : Addr → Prop} {ls : Array Slot} {rest : List Value} {Qc : Array Value → State → Outcome → State → Prop} {XC : String → State → State → Prop}
    {pc : Nat} {own E : String} {ce : Cell} {q : Addr} {mc ms : Nat} (hown : s.vm.findClass own = some m.cls) (hlocks : meth.locks = false)
    (hpass : ∀ z ∈ c.exceptionTable.toList, covers z pc = false ∨ (z.catchType ≠ 0 ∧ ∃ nm : String, (Cond.classLink own z.catchType nm).before args s = true ∧ va_Nc E nm s)) (hcell : H[q]? = some ce) (hv : ce.vm = .none) (hcl : s.vm.findClass E = some ce.cls)
    (hx : ∀ t : State, t.heap = H → s.vm.Alike t.vm → XC E s t) (hf : ∀ z ∈ locs, free z.base) (hc : cells ≤ mc) (hs : slots ≤ ms) :
    vx_W p l e R s m args below meth c H locs cells slots (vx_MQ below Qc XC args s mc ms free) (F0 m pc ls rest) q := by
  intro T hT X
  have hpl : e.platform.magicAccessors = ({} : Platform).magicAccessors := by rw [X.admits.platform]
  obtain ⟨vm', hW', X', st⟩ := X.outThrough hlocks q (g := F0 m pc ls rest) rfl rfl rfl (cell := ce) (by rw [hT]; exact hcell) (by rw [hv]; rfl)
    (by obtain ⟨k9, h9, -⟩ := Vm.findClass_spec hcl; exact ⟨k9, h9⟩) (fun z hz => by
      rcases hpass z hz with h | ⟨hz0, nm, hl1, hn1⟩
      · exact Or.inl h
      · obtain ⟨c6, hc6, hcl6⟩ := Cond.classLink_spec hown hl1 e.platform hpl
        obtain ⟨a8, b8, h1, h2, h3⟩ := hn1
        cases Option.some.inj (h1.symm.trans hcl)
        cases Option.some.inj (h2.symm.trans hc6)
        exact Or.inr ⟨hz0, _, hcl6, h3⟩)
  obtain ⟨g₀, hfr⟩ := X'.frames_eq
  have hcell9 : ((T.setVm vm').setFrames (.throwing q :: below)).heap[q]? = some ce := by
    show T.heap[q]? = some ce
    rw [hT]; exact hcell
  have hend : Ended ((T.setVm vm').setFrames (.throwing q :: below)) below (.threw q) := State.frames_setFrames _ (State.cur_lt_of_frames hfr)
  refine ⟨(T.setVm vm').setFrames (.throwing q :: below), ?_, .threw q, X'.here.running, hend, Or.inr ⟨q, rfl, E, ce, locs, hx _ hT (X'.ends _).1.alike, hcell9, hv, hcl, (X'.ends _).1, (X'.ends _).2.mono hc hs, hf⟩⟩
  rw [X.pushThrowing_eq]
  exact st
/-- a thing of a world lies in the heap -/
theorem vx_lt {D : va_G} {cl : List vw_C} {ws : va_W} {H1 : Heap} (h : va_P D cl ws H1) {k : Nat} {q : Nat × va_E} (hk : ws[k]? = some q) : q.1 < H1.size := (h k q hk).lt
end VXS
/-! ===== END ===== -/
/-! ===== BEGIN methods with a table of their own: called by a name, returning or throwing ===== -/
section VXH
/-! vx_backW, vx_callVX, vx_callSX, vx_callVW, vx_runVW, vx_runVX, vx_runSX, vx_ofWH follow the same proofs as their sisters above (Free/Laws.lean, Shelf42/LK1.lean); vx_outP calls Shelf42/NT130.lean (outThrough). -/
section
variable {l : Launch} {R : Room} {p : Program} {e : Env} {below : List Frame} {s : State} {sargs : Array Value} {y : MethodName} {len W9 : Nat}
theorem vx_backW {ws : List Cond} {rm : Room} {Pc : Array Value → State → Prop} {Qc : Array Value → State → Outcome → State → Prop} {XC : String → State → State → Prop} {mc ms : Nat} {free : Addr → Prop} {bytes : ByteArray} {maxL : Nat} {ret : Option FieldType} {hh : List (Nat × Nat × Nat × Nat)}
    (hM : vx_Met l y ws rm Pc Qc XC mc ms free) (hblind : FrameBlind Pc) (hrc : rm.cells = mc) (hrs : rm.slots = ms)
    (hframes : rm.frames + 1 ≤ R.frames) (hlocals : W9 + (maxL + 11) + rm.locals ≤ R.locals)
    (hws : ∀ w ∈ ws, ∀ a' U, s.WarmedH U.vm → w.before a' U = true) (hcode : Cond.codeWith y bytes maxL ret hh ∈ ws) (hinit : ∀ a' U, s.WarmedH U.vm → (Cond.initialized y.cls).before a' U = true) :
    vx_Back l R p e below s sargs y len W9 (PreOf R mc ms Pc) (PostOf Qc mc ms free) (vx_Post XC mc ms free) := by
  intro m meth c A g ig mk a X hg hsize hdg hW hn hp
  have h1 : (headSpec ws rm).pre.before a A.U = true := atoms_intro fun w hw => hws w hw _ _ X.warmed
  have h2 : (Cond.codeWith y bytes maxL ret hh).before a A.U = true := hws _ hcode _ _ X.warmed
  have h3 : (Cond.initialized y.cls).before a A.U = true := hinit _ _ X.warmed
  have h4 : A.cells + (headSpec ws rm).room.cells ≤ R.cells := by rw [show (headSpec ws rm).room.cells = mc from hrc]; exact hp.1
  have h5 : A.slots + (headSpec ws rm).room.slots ≤ R.slots := by rw [show (headSpec ws rm).room.slots = ms from hrs]; exact hp.2.1
  have hPc : Pc a (A.U.calling g mk a) := hblind _ _ _ _ hp.2.2
  obtain ⟨U, Ls, c0, s0⟩ := A
  dsimp only [Pt.U, Pt.locs, Pt.cells, Pt.slots] at h1 h2 h3 h4 h5 X hn hPc ⊢
  obtain ⟨m9, methY, cY, hn9, hmY, hcY, -, hlY, -⟩ := Cond.codeWith_spec h2
  cases Option.some.inj (hn9.symm.trans hn)
  obtain ⟨kY, hkY, -⟩ := className_of_methodNamed hn
  have hinitY : kY.init = .initialized := Cond.initialized_spec (findClass_of_methodNamed hn) hkY h3
  have h : At U g.method c below := by rw [hg]; exact X.here
  have hlocals9 : W9 + (maxL + 11) + (headSpec ws rm).room.locals ≤ R.locals := hlocals
  have happ : (headSpec ws rm).appliesLoose y e.platform (U.calling g mk a) = true :=
    Spec.appliesLoose_calling (g := g) h hdg hn hkY hinitY
      (X.room_calling (g := g) (R' := (headSpec ws rm).room) hsize hmY hcY hframes (by rw [hlY]; omega) h4 h5) h1
  obtain ⟨mid, hmid⟩ := h.above
  have hfr : (U.setTop g).frames = (.java g :: mid) ++ below := by rw [State.frames_setTop' g h.top, hmid]; rfl
  obtain ⟨o, s₂, hsteps, -, hend, hq⟩ := Steps.callFree hM p X.admits X.cas X.clock (acts := []) hfr happ hPc trivial
  have hq' : vx_Q Qc XC mc ms free a (U.calling g mk a) o s₂ := hq
  rw [State.frames_setTop' g h.top] at hend
  obtain ⟨g₀, hg0⟩ := Option.isSome_iff_exists.mp h.top
  obtain ⟨r, hr⟩ := State.topJava?_eq_some.mp hg0
  have hr' : (({ U with heap := s₂.heap, slotsUsed := s₂.slotsUsed } : State).setVm s₂.vm).frames = .java g₀ :: r := hr
  rcases hq' with ⟨hqc, L, hfe, hL⟩ | ⟨q, rfl, E, ce, L, hx, hce, hcv, hcl, hW₂, hsm, hL⟩
  · obtain ⟨⟨v, rfl⟩, hW₂, e2, q2, q3, q4, q5, q6⟩ := id hfe
    have e3 : s₂ = ({ (U.calling g mk a).setFrames s₂.frames with heap := s₂.heap, slotsUsed := s₂.slotsUsed } : State).setVm s₂.vm := by
      have : s₂ = ({ s₂ with vm := (U.calling g mk a).vm } : State).setVm s₂.vm := rfl
      rw [e2] at this
      exact this
    obtain ⟨c₂, i₂, len₂, hc₂, hd₂, hf₂⟩ := hend
    have hW' : U.WarmedH s₂.vm := hW₂
    have hcc : c₂ = c := by
      have h1 : s₂.code? g.method = U.code? g.method := by
        rw [State.code?_eq, State.code?_eq, hW'.alike.method?]
      exact Option.some.inj (hc₂.symm.trans (h1.trans h.code))
    subst hcc
    have hlen : len₂ = len := by rw [hdg] at hd₂; cases hd₂; rfl
    subst hlen
    have hs₂ : s₂ = (({ U with heap := s₂.heap, slotsUsed := s₂.slotsUsed } : State).setVm s₂.vm).setTop { g with pc := g.pc + len₂, stack := v.toList ++ g.stack } := by
      refine e3.trans ?_
      rw [hf₂, State.calling_eq h.top, State.setFrames_setFrames, State.setTop_of_frames _ hr', hr]
      rfl
    have hsame : U.sameButNew ({ U with heap := s₂.heap, slotsUsed := s₂.slotsUsed } : State) L mc ms := by
      refine ⟨?_, q2, q3, q4, q5, q6⟩
      obtain ⟨t, ht, -⟩ := State.frames_cons hr
      show ({ U with heap := s₂.heap, slotsUsed := s₂.slotsUsed } : State) = { U.setFrames U.frames with heap := s₂.heap, slotsUsed := s₂.slotsUsed }
      rw [State.setFrames_self ht]
    subst hg
    refine Or.inl ⟨v, ⟨(({ U with heap := s₂.heap, slotsUsed := s₂.slotsUsed } : State).setVm s₂.vm), Ls ++ L, c0 + mc, s0 + ms⟩,
      ⟨X.admits, X.cas, X.clock, X.frames, X.room, X.hears, X.method, X.code, (X.here.setHeapUsed s₂.heap s₂.slotsUsed).setVm hW'.alike, X.tail, State.WarmedH.trans X.warmed hW', X.limits, X.bytes, X.same.trans (hsame.setVm s.vm)⟩,
      ⟨g, mk, s₂, L, rfl, rfl, hqc, rfl, hL, rfl, rfl⟩, ?_⟩
    show Steps p.tables e below _ ((({ U with heap := s₂.heap, slotsUsed := s₂.slotsUsed } : State).setVm s₂.vm).setTop { g with pc := g.pc + len₂, stack := v.toList ++ g.stack })
    rw [← hs₂]
    exact hsteps
  · obtain ⟨e2, q2, q3, q4, q5, q6⟩ := id hsm
    have e3 : s₂ = ({ (U.calling g mk a).setFrames s₂.frames with heap := s₂.heap, slotsUsed := s₂.slotsUsed } : State).setVm s₂.vm := by
      have : s₂ = ({ s₂ with vm := (U.calling g mk a).vm } : State).setVm s₂.vm := rfl
      rw [e2] at this
      exact this
    have hf₂ : s₂.frames = .throwing q :: .java g :: U.frames.tail := hend
    have hW' : U.WarmedH s₂.vm := hW₂
    have hs₂ : s₂ = ((({ U with heap := s₂.heap, slotsUsed := s₂.slotsUsed } : State).setVm s₂.vm).setTop g).pushFrame (.throwing q) := by
      refine e3.trans ?_
      rw [hf₂, State.calling_eq h.top, State.setFrames_setFrames, State.pushFrame, State.frames_setTop _ hr', State.setTop_of_frames _ hr', State.setFrames_setFrames, hr]
      rfl
    have hsame : U.sameButNew ({ U with heap := s₂.heap, slotsUsed := s₂.slotsUsed } : State) L mc ms := by
      refine ⟨?_, q2, q3, q4, q5, q6⟩
      obtain ⟨t, ht, -⟩ := State.frames_cons hr
      show ({ U with heap := s₂.heap, slotsUsed := s₂.slotsUsed } : State) = { U.setFrames U.frames with heap := s₂.heap, slotsUsed := s₂.slotsUsed }
      rw [State.setFrames_self ht]
    subst hg
    refine Or.inr ⟨q, ⟨(({ U with heap := s₂.heap, slotsUsed := s₂.slotsUsed } : State).setVm s₂.vm), Ls ++ L, c0 + mc, s0 + ms⟩,
      ⟨X.admits, X.cas, X.clock, X.frames, X.room, X.hears, X.method, X.code, (X.here.setHeapUsed s₂.heap s₂.slotsUsed).setVm hW'.alike, X.tail, State.WarmedH.trans X.warmed hW', X.limits, X.bytes, X.same.trans (hsame.setVm s.vm)⟩,
      ⟨g, mk, s₂, L, E, ce, rfl, rfl, hx, hce, hcv, hcl, rfl, hL, rfl, rfl⟩, ?_⟩
    show Steps p.tables e below _ (((({ U with heap := s₂.heap, slotsUsed := s₂.slotsUsed } : State).setVm s₂.vm).setTop g).pushFrame (.throwing q))
    rw [← hs₂]
    exact hsteps
end
variable {p : Program} {l : Launch} {e : Env} {R : Room} {s : State} {m : MethodId} {args : Array Value} {below : List Frame} {meth : Method} {c : Code} {T : State} {H : Heap} {locs : List Loc} {cells slots : Nat}
theorem vx_callVX (X : Stand p l e R s m args below meth c T locs cells slots) (hexec : p.tables.exec = Jvm.exec) {own C : String} {index : Nat} {y : MethodName} {bytes : ByteArray} {maxL : Nat} {ret : Option FieldType} {hh : List (Nat × Nat × Nat × Nat)}
    (hown : s.vm.findClass own = some m.cls) (hlink : (Cond.methodLink own index y).before args s = true) (hinst : (Cond.instanceMethod y).before args s = true) (hsel : (Cond.selects C y y).before args s = true)
    (hcode : (Cond.codeWith y bytes maxL ret hh).before args s = true) (hy : y.cls ≠ "java/lang/invoke/MethodHandle" ∧ y.cls ≠ "java/lang/invoke/VarHandle")
    {W9 : Nat} {Pre : Pt → Array Value → Prop} {Post : Pt → Array Value → Option Value → Pt → Prop} {PostX : Pt → Array Value → Addr → Pt → Prop} (hK : vx_Back l R p e below s args y 3 W9 Pre Post PostX)
    {b : Addr} {cellB : Cell} (hcell : T.heap[b]? = some cellB) (hobj : cellB.vm.isStatics = false) (hcls : s.vm.findClass C = some cellB.cls)
    {g : JFrame} (hg : g.method = m) (hsize : g.locals.size = c.maxLocals) {argsL rest : List Value} (hlen : ∀ sig, parseMethodDescriptor y.desc = some sig → argsL.length = sig.parameters.length)
    (hstack : g.stack = argsL.reverse ++ .ref b :: rest) (hW : 2 * g.monitorRoom + (rest.map fun v => v.category).sum ≤ W9) (hdg : decode c.code g.pc = .ok (.invokevirtual index, 3))
    (hpre : ∀ vm₁, s.WarmedH vm₁ → Pre ⟨T.setVm vm₁, locs, cells, slots⟩ (Value.ref b :: argsL).toArray) :
    (∃ (v : Option Value) (vm₁ : Vm) (B : Pt), s.WarmedH vm₁ ∧ Stand p l e R s m args below meth c B.U B.locs B.cells B.slots ∧ Post ⟨T.setVm vm₁, locs, cells, slots⟩ (Value.ref b :: argsL).toArray v B ∧
      ∀ target, Steps p.tables e below (B.U.setTop { g with pc := g.pc + 3, stack := v.toList ++ rest }) target → Steps p.tables e below (T.setTop g) target) ∨
    (∃ (q : Addr) (vm₁ : Vm) (B : Pt), s.WarmedH vm₁ ∧ Stand p l e R s m args below meth c B.U B.locs B.cells B.slots ∧ PostX ⟨T.setVm vm₁, locs, cells, slots⟩ (Value.ref b :: argsL).toArray q B ∧
      Steps p.tables e below (T.setTop g) ((B.U.setTop { g with stack := rest }).pushFrame (.throwing q))) := by
  obtain ⟨mk, methM, hnamed, hmethM, hstM, habM⟩ := Cond.instanceMethod_spec hinst
  obtain ⟨m8, methM', cM, hn8, hmethM', -, -, -, -, -, -, hsigM⟩ := Cond.codeWith_spec hcode
  cases Option.some.inj (hn8.symm.trans hnamed)
  cases hmethM.symm.trans hmethM'
  obtain ⟨c2, r2, m2, q1, q2, q3, q4, kP, hkP, hkPi⟩ := Cond.selects_spec hsel
  cases hcls.symm.trans q1
  cases (State.methodFound?_of_named hnamed hy).symm.trans q2
  cases hnamed.symm.trans q3
  have hselP : selectMethod e.platform s.vm cellB.cls mk = .method mk := by rw [Launch.admits_selectMethod X.admits]; exact q4
  obtain ⟨vm₁, X₁, hstep₁⟩ := X.invokevirtual hexec hown hlink hnamed hmethM hstM hkP hkPi hy (a := b) (cell := cellB) hcell
    (fun z h => by rw [h] at hobj; cases hobj) hselP hmethM habM hkP hkPi (g := g) hg (argsL := argsL) (rest := rest) (hlen _ hsigM) hstack hdg
  rcases hK m meth c ⟨T.setVm vm₁, locs, cells, slots⟩ { g with stack := rest } (.invokevirtual index) mk (Value.ref b :: argsL).toArray X₁ hg hsize hdg hW (X₁.named hnamed) (hpre vm₁ X₁.warmed) with ⟨v, B, X', hpost, hsteps⟩ | ⟨q, B, X', hpost, hsteps⟩
  · exact Or.inl ⟨v, vm₁, B, X₁.warmed, X', hpost, fun target h => hstep₁ _ fun acts => by rw [doInvoke_state]; exact hsteps.trans h⟩
  · exact Or.inr ⟨q, vm₁, B, X₁.warmed, X', hpost, hstep₁ _ fun acts => by rw [doInvoke_state]; exact hsteps⟩
theorem vx_callSX (X : Stand p l e R s m args below meth c T locs cells slots) (hexec : p.tables.exec = Jvm.exec) {own : String} {index : Nat} {y : MethodName} {bytes : ByteArray} {maxL : Nat} {ret : Option FieldType} {hh : List (Nat × Nat × Nat × Nat)}
    (hown : s.vm.findClass own = some m.cls) (hlink : (Cond.methodLink own index y).before args s = true) (hstat : (Cond.static y).before args s = true) (hinit : (Cond.initialized y.cls).before args s = true)
    (hcode : (Cond.codeWith y bytes maxL ret hh).before args s = true) (hy : y.cls ≠ "java/lang/invoke/MethodHandle" ∧ y.cls ≠ "java/lang/invoke/VarHandle")
    {W9 : Nat} {Pre : Pt → Array Value → Prop} {Post : Pt → Array Value → Option Value → Pt → Prop} {PostX : Pt → Array Value → Addr → Pt → Prop} (hK : vx_Back l R p e below s args y 3 W9 Pre Post PostX)
    {g : JFrame} (hg : g.method = m) (hsize : g.locals.size = c.maxLocals) {argsL rest : List Value} (hlen : ∀ sig, parseMethodDescriptor y.desc = some sig → argsL.length = sig.parameters.length)
    (hstack : g.stack = argsL.reverse ++ rest) (hW : 2 * g.monitorRoom + (rest.map fun v => v.category).sum ≤ W9) (hdg : decode c.code g.pc = .ok (.invokestatic index, 3))
    (hpre : ∀ vm₁, s.WarmedH vm₁ → Pre ⟨T.setVm vm₁, locs, cells, slots⟩ argsL.toArray) :
    (∃ (v : Option Value) (vm₁ : Vm) (B : Pt), s.WarmedH vm₁ ∧ Stand p l e R s m args below meth c B.U B.locs B.cells B.slots ∧ Post ⟨T.setVm vm₁, locs, cells, slots⟩ argsL.toArray v B ∧
      ∀ target, Steps p.tables e below (B.U.setTop { g with pc := g.pc + 3, stack := v.toList ++ rest }) target → Steps p.tables e below (T.setTop g) target) ∨
    (∃ (q : Addr) (vm₁ : Vm) (B : Pt), s.WarmedH vm₁ ∧ Stand p l e R s m args below meth c B.U B.locs B.cells B.slots ∧ PostX ⟨T.setVm vm₁, locs, cells, slots⟩ argsL.toArray q B ∧
      Steps p.tables e below (T.setTop g) ((B.U.setTop { g with stack := rest }).pushFrame (.throwing q))) := by
  obtain ⟨mk, methM, cM, hnamed, hmethM, -, -, -, -, -, -, hsigM⟩ := Cond.codeWith_spec hcode
  have hstatic : methM.isStatic = true := Cond.static_spec hnamed hmethM hstat
  obtain ⟨kP, hkP, -⟩ := className_of_methodNamed hnamed
  have hinitP : kP.init = .initialized := Cond.initialized_spec (findClass_of_methodNamed hnamed) hkP hinit
  obtain ⟨vm₁, X₁, hstep₁⟩ := X.invokestatic hexec hown hlink hnamed hmethM hstatic hkP hinitP hy (g := g) hg (argsL := argsL) (rest := rest) (hlen _ hsigM) hstack hdg
  rcases hK m meth c ⟨T.setVm vm₁, locs, cells, slots⟩ { g with stack := rest } (.invokestatic index) mk argsL.toArray X₁ hg hsize hdg hW (X₁.named hnamed) (hpre vm₁ X₁.warmed) with ⟨v, B, X', hpost, hsteps⟩ | ⟨q, B, X', hpost, hsteps⟩
  · exact Or.inl ⟨v, vm₁, B, X₁.warmed, X', hpost, fun target h => hstep₁ _ fun acts => by rw [doInvoke_state]; exact hsteps.trans h⟩
  · exact Or.inr ⟨q, vm₁, B, X₁.warmed, X', hpost, hstep₁ _ fun acts => by rw [doInvoke_state]; exact hsteps⟩
theorem vx_callVW (X : Stand p l e R s m args below meth c T locs cells slots) (hexec : p.tables.exec = Jvm.exec) {own C : String} {index : Nat} {y : MethodName} {bytes : ByteArray} {maxL : Nat} {ret : Option FieldType} {hh : List (Nat × Nat × Nat × Nat)}
    (hown : s.vm.findClass own = some m.cls) (hlink : (Cond.methodLink own index y).before args s = true) (hinst : (Cond.instanceMethod y).before args s = true) (hsel : (Cond.selects C y y).before args s = true)
    (hcode : (Cond.codeWith y bytes maxL ret hh).before args s = true) (hy : y.cls ≠ "java/lang/invoke/MethodHandle" ∧ y.cls ≠ "java/lang/invoke/VarHandle")
    {W9 : Nat} {Pre : Pt → Array Value → Prop} {Post : Pt → Array Value → Option Value → Pt → Prop} (hK : Back l R p e below s args y 3 W9 Pre Post)
    {b : Addr} {cellB : Cell} (hcell : T.heap[b]? = some cellB) (hobj : cellB.vm.isStatics = false) (hcls : s.vm.findClass C = some cellB.cls)
    {g : JFrame} (hg : g.method = m) (hsize : g.locals.size = c.maxLocals) {argsL rest : List Value} (hlen : ∀ sig, parseMethodDescriptor y.desc = some sig → argsL.length = sig.parameters.length)
    (hstack : g.stack = argsL.reverse ++ .ref b :: rest) (hW : 2 * g.monitorRoom + (rest.map fun v => v.category).sum ≤ W9) (hdg : decode c.code g.pc = .ok (.invokevirtual index, 3))
    (hpre : ∀ vm₁, s.WarmedH vm₁ → Pre ⟨T.setVm vm₁, locs, cells, slots⟩ (Value.ref b :: argsL).toArray) :
    ∃ (v : Option Value) (vm₁ : Vm) (B : Pt), s.WarmedH vm₁ ∧ Stand p l e R s m args below meth c B.U B.locs B.cells B.slots ∧ Post ⟨T.setVm vm₁, locs, cells, slots⟩ (Value.ref b :: argsL).toArray v B ∧
      ∀ target, Steps p.tables e below (B.U.setTop { g with pc := g.pc + 3, stack := v.toList ++ rest }) target → Steps p.tables e below (T.setTop g) target := by
  obtain ⟨mk, methM, hnamed, hmethM, hstM, habM⟩ := Cond.instanceMethod_spec hinst
  obtain ⟨m8, methM', cM, hn8, hmethM', -, -, -, -, -, -, hsigM⟩ := Cond.codeWith_spec hcode
  cases Option.some.inj (hn8.symm.trans hnamed)
  cases hmethM.symm.trans hmethM'
  obtain ⟨c2, r2, m2, q1, q2, q3, q4, kP, hkP, hkPi⟩ := Cond.selects_spec hsel
  cases hcls.symm.trans q1
  cases (State.methodFound?_of_named hnamed hy).symm.trans q2
  cases hnamed.symm.trans q3
  have hselP : selectMethod e.platform s.vm cellB.cls mk = .method mk := by rw [Launch.admits_selectMethod X.admits]; exact q4
  obtain ⟨vm₁, X₁, hstep₁⟩ := X.invokevirtual hexec hown hlink hnamed hmethM hstM hkP hkPi hy (a := b) (cell := cellB) hcell
    (fun z h => by rw [h] at hobj; cases hobj) hselP hmethM habM hkP hkPi (g := g) hg (argsL := argsL) (rest := rest) (hlen _ hsigM) hstack hdg
  obtain ⟨v, B, X', hpost, hsteps⟩ := hK m meth c ⟨T.setVm vm₁, locs, cells, slots⟩ { g with stack := rest } (.invokevirtual index) mk (Value.ref b :: argsL).toArray X₁ hg hsize hdg hW (X₁.named hnamed) (hpre vm₁ X₁.warmed)
  exact ⟨v, vm₁, B, X₁.warmed, X', hpost, fun target h => hstep₁ _ fun acts => by rw [doInvoke_state]; exact hsteps.trans h⟩
abbrev vx_CVW (R : Room) (s : State) (args : Array Value) (own C : String) (index : Nat) (y : MethodName) (bytes : ByteArray) (maxL : Nat) (ret : Option FieldType) (hh : List (Nat × Nat × Nat × Nat)) (ws : List Cond) (rm : Room) (mc ms n : Nat) : Prop :=
  (rm.cells = mc ∧ rm.slots = ms ∧ rm.frames + 1 ≤ R.frames ∧ 8 + (maxL + 11) + rm.locals ≤ R.locals ∧ (∀ w ∈ ws, ∀ (a' : Array Value) (U : State), s.WarmedH U.vm → w.before a' U = true) ∧ Cond.codeWith y bytes maxL ret hh ∈ ws) ∧
  (Cond.codeWith y bytes maxL ret hh).before args s = true ∧ (Cond.initialized y.cls).before args s = true ∧ (y.cls ≠ "java/lang/invoke/MethodHandle" ∧ y.cls ≠ "java/lang/invoke/VarHandle") ∧
  (∀ sig, parseMethodDescriptor y.desc = some sig → n = sig.parameters.length) ∧ (Cond.methodLink own index y).before args s = true ∧ (Cond.instanceMethod y).before args s = true ∧ (Cond.selects C y y).before args s = true
theorem vx_cwVW {own C : String} {index maxL mc ms : Nat} {y : MethodName} {bytes : ByteArray} {ret : Option FieldType} {hh : List (Nat × Nat × Nat × Nat)} {Ts ws ws' : List Cond} {rm : Room} (n : Nat) (ht : ∀ w ∈ Ts, w.before args s = true) (hT : GoodIn Ts (wsV own index C y ws)) (hw : ws = Cond.codeWith y bytes maxL ret hh :: ws') (hrc : rm.cells = mc) (hrs : rm.slots = ms)
    (hd : y.cls = C ∧ y.cls ≠ "java/lang/invoke/MethodHandle" ∧ y.cls ≠ "java/lang/invoke/VarHandle" ∧ (parseMethodDescriptor y.desc).map (fun d => d.parameters.length) = some n) (hR : rm.frames + 1 ≤ R.frames ∧ 8 + (maxL + 11) + rm.locals ≤ R.locals) :
    vx_CVW R s args own C index y bytes maxL ret hh ws rm mc ms n := by
  obtain ⟨hC, hd⟩ := hd
  subst hC
  have ok : ∀ w ∈ wsV own index y.cls y ws, w.before args s = true := fun w h => ht w (hT w h).1
  have hG : GoodIn Ts ws := fun w h => hT w (by unfold wsV; exact List.mem_append_right _ h)
  have hc : Cond.codeWith y bytes maxL ret hh ∈ ws := by rw [hw]; exact List.mem_cons_self
  refine ⟨⟨hrc, hrs, hR.1, hR.2, pay_in ht hG, hc⟩, ht _ (hG _ hc).1, ok _ (by simp [wsV]), ⟨hd.1, hd.2.1⟩, fun sig h => ?_, ok _ (by simp [wsV]), ok _ (by simp [wsV]), ok _ (by simp [wsV])⟩
  have h2 := hd.2.2
  rw [h] at h2
  exact (Option.some.inj h2).symm
theorem vx_runVW {y : MethodName} {bytes cc : ByteArray} {maxL nL mc ms n index : Nat} {ret : Option FieldType} {hh : List (Nat × Nat × Nat × Nat)} {ws : List Cond} {rm : Room} {Pc : Array Value → State → Prop} {Qc : Array Value → State → Outcome → State → Prop} {free : Addr → Prop} {Ts : List Cond} {own C : String} {b : Addr} {As rest : List Value} {g : JFrame}
    (S : CallFix p m c cc nL s args Ts own) (hM : Met l y ws rm Pc Qc mc ms free) (cw : vx_CVW R s args own C index y bytes maxL ret hh ws rm mc ms n) (hp : PreV s H C b Pc As)
    (hg : g.method = m) (hn : As.length = n) (hsize : g.locals.size = nL) (hstack : g.stack = As.reverse ++ .ref b :: rest) (hW : 2 * g.monitorRoom + (rest.map fun v => v.category).sum ≤ 8) (hdg : decode cc g.pc = .ok (.invokevirtual index, 3)) (hf : cells + mc ≤ R.cells ∧ slots + ms ≤ R.slots) :
    va_Run p l e R s m args below meth c H locs cells slots mc ms g rest (Qc (Value.ref b :: As).toArray) free := by
  obtain ⟨⟨hrc, hrs, hfr, hlo, hws, hcw⟩, hcode, hini, hy, hlen, hl, hin, hse⟩ := cw
  have hK : Back l R p e below s args y 3 8 (PreOf R mc ms Pc) (PostOf Qc mc ms free) := va_backW (hh := hh) (bytes := bytes) (maxL := maxL) (ret := ret) hM hp.1 hrc hrs hfr hlo hws hcw (fun a' U hW => word_at hW (Or.inl (by first | rfl | simp [Cond.onTables, Cond.keeps, Cond.steady])) hini)
  obtain ⟨hx, hb, hml, ho, -⟩ := S
  obtain ⟨-, ⟨cellB, hcB, hoB, hclB⟩, hPc⟩ := hp
  intro T hT X
  obtain ⟨v, vm₁, ⟨U', l2, c2, s2⟩, hW₁, X', ⟨g', mk, t, L, e1, e2, hq, h1, hL, h2, h3⟩, st⟩ := vx_callVW X hx (C := C) (hh := hh) (bytes := bytes) (maxL := maxL) (ret := ret) ho hl hin hse hcode hy hK (by rw [hT]; exact hcB) hoB hclB hg (hsize.trans hml.symm) (argsL := As) (rest := rest) (fun sig h => hn.trans (hlen sig h)) hstack hW (by rw [hb]; exact hdg)
    (fun vm₁ hW₁ => ⟨hf.1, hf.2, hPc (T.setVm vm₁) hT hW₁⟩)
  dsimp only [Pt.U, Pt.locs, Pt.cells, Pt.slots] at X' e1 e2 h1 h2 h3 st
  subst h1; subst h2; subst h3
  exact ⟨v, (T.setVm vm₁).calling g' mk (Value.ref b :: As).toArray, t, U', L, hT, X', hL, e1, e2, hq, st⟩
section
variable {y : MethodName} {bytes cc : ByteArray} {maxL nL mc ms n index : Nat} {ret : Option FieldType} {ws : List Cond} {rm : Room} {Pc : Array Value → State → Prop} {Qc : Array Value → State → Outcome → State → Prop} {XC : String → State → State → Prop} {free : Addr → Prop} {Ts : List Cond} {own C : String} {b : Addr} {As rest : List Value} {g : JFrame}
theorem vx_runVX {hh : List (Nat × Nat × Nat × Nat)} (S : CallFix p m c cc nL s args Ts own) (hM : vx_Met l y ws rm Pc Qc XC mc ms free) (cw : vx_CVW R s args own C index y bytes maxL ret hh ws rm mc ms n) (hp : PreV s H C b Pc As)
    (hg : g.method = m) (hn : As.length = n) (hsize : g.locals.size = nL) (hstack : g.stack = As.reverse ++ .ref b :: rest) (hW : 2 * g.monitorRoom + (rest.map fun v => v.category).sum ≤ 8) (hdg : decode cc g.pc = .ok (.invokevirtual index, 3)) (hf : cells + mc ≤ R.cells ∧ slots + ms ≤ R.slots) :
    vx_Run p l e R s m args below meth c H locs cells slots mc ms g rest (Qc (Value.ref b :: As).toArray) XC free := by
  obtain ⟨⟨hrc, hrs, hfr, hlo, hws, hcw⟩, hcode, hini, hy, hlen, hl, hin, hse⟩ := cw
  have hK : vx_Back l R p e below s args y 3 8 (PreOf R mc ms Pc) (PostOf Qc mc ms free) (vx_Post XC mc ms free) := vx_backW (hh := hh) (bytes := bytes) (maxL := maxL) (ret := ret) hM hp.1 hrc hrs hfr hlo hws hcw (fun a' U hW => word_at hW (Or.inl (by first | rfl | simp [Cond.onTables, Cond.keeps, Cond.steady])) hini)
  obtain ⟨hx, hb, hml, ho, -⟩ := S
  obtain ⟨-, ⟨cellB, hcB, hoB, hclB⟩, hPc⟩ := hp
  intro T hT X
  rcases vx_callVX X hx (C := C) (hh := hh) (bytes := bytes) (maxL := maxL) (ret := ret) ho hl hin hse hcode hy hK (by rw [hT]; exact hcB) hoB hclB hg (hsize.trans hml.symm) (argsL := As) (rest := rest) (fun sig h => hn.trans (hlen sig h)) hstack hW (by rw [hb]; exact hdg)
    (fun vm₁ hW₁ => ⟨hf.1, hf.2, hPc (T.setVm vm₁) hT hW₁⟩) with ⟨v, vm₁, ⟨U', l2, c2, s2⟩, hW₁, X', ⟨g', mk, t, L, e1, e2, hq, h1, hL, h2, h3⟩, st⟩ | ⟨q, vm₁, ⟨U', l2, c2, s2⟩, hW₁, X', ⟨g', mk, t, L, E, ce, e1, e2, hq, hce, hcv, hcl, h1, hL, h2, h3⟩, st⟩
  · dsimp only [Pt.U, Pt.locs, Pt.cells, Pt.slots] at X' e1 e2 h1 h2 h3 st
    subst h1; subst h2; subst h3
    exact Or.inl ⟨v, (T.setVm vm₁).calling g' mk (Value.ref b :: As).toArray, t, U', L, hT, X', hL, e1, e2, hq, st⟩
  · dsimp only [Pt.U, Pt.locs, Pt.cells, Pt.slots] at X' e1 e2 h1 h2 h3 st hcl
    subst h1; subst h2; subst h3
    exact Or.inr ⟨q, (T.setVm vm₁).calling g' mk (Value.ref b :: As).toArray, t, U', L, E, ce, hT, X', hL, e1, e2, hq, hce, hcv, vx_cls hW₁ hcl, st⟩
theorem vx_runSX {hh : List (Nat × Nat × Nat × Nat)} (S : CallFix p m c cc nL s args Ts own) (hM : vx_Met l y ws rm Pc Qc XC mc ms free) (cw : vx_CSW R s args own index y bytes maxL ret hh ws rm mc ms n) (hp : PreS s H Pc As)
    (hg : g.method = m) (hn : As.length = n) (hsize : g.locals.size = nL) (hstack : g.stack = As.reverse ++ rest) (hW : 2 * g.monitorRoom + (rest.map fun v => v.category).sum ≤ 8) (hdg : decode cc g.pc = .ok (.invokestatic index, 3)) (hf : cells + mc ≤ R.cells ∧ slots + ms ≤ R.slots) :
    vx_Run p l e R s m args below meth c H locs cells slots mc ms g rest (Qc As.toArray) XC free := by
  obtain ⟨⟨hrc, hrs, hfr, hlo, hws, hcw⟩, hcode, hini, hy, hlen, hl, hstt⟩ := cw
  have hK : vx_Back l R p e below s args y 3 8 (PreOf R mc ms Pc) (PostOf Qc mc ms free) (vx_Post XC mc ms free) := vx_backW (hh := hh) (bytes := bytes) (maxL := maxL) (ret := ret) hM hp.1 hrc hrs hfr hlo hws hcw (fun a' U hW => word_at hW (Or.inl (by first | rfl | simp [Cond.onTables, Cond.keeps, Cond.steady])) hini)
  obtain ⟨hx, hb, hml, ho, -⟩ := S
  intro T hT X
  rcases vx_callSX X hx (hh := hh) (bytes := bytes) (maxL := maxL) (ret := ret) ho hl hstt hini hcode hy hK hg (hsize.trans hml.symm) (argsL := As) (rest := rest) (fun sig h => hn.trans (hlen sig h)) hstack hW (by rw [hb]; exact hdg)
    (fun vm₁ hW₁ => ⟨hf.1, hf.2, hp.2 (T.setVm vm₁) hT hW₁⟩) with ⟨v, vm₁, ⟨U', l2, c2, s2⟩, hW₁, X', ⟨g', mk, t, L, e1, e2, hq, h1, hL, h2, h3⟩, st⟩ | ⟨q, vm₁, ⟨U', l2, c2, s2⟩, hW₁, X', ⟨g', mk, t, L, E, ce, e1, e2, hq, hce, hcv, hcl, h1, hL, h2, h3⟩, st⟩
  · dsimp only [Pt.U, Pt.locs, Pt.cells, Pt.slots] at X' e1 e2 h1 h2 h3 st
    subst h1; subst h2; subst h3
    exact Or.inl ⟨v, (T.setVm vm₁).calling g' mk As.toArray, t, U', L, hT, X', hL, e1, e2, hq, st⟩
  · dsimp only [Pt.U, Pt.locs, Pt.cells, Pt.slots] at X' e1 e2 h1 h2 h3 st hcl
    subst h1; subst h2; subst h3
    exact Or.inr ⟨q, (T.setVm vm₁).calling g' mk As.toArray, t, U', L, E, ce, hT, X', hL, e1, e2, hq, hce, hcv, vx_cls hW₁ hcl, st⟩
end
end VXH
theorem vx_ofWH {l : Launch} {y : MethodName} {ws ws' : List Cond} {rm : Room} {Pc : Array Value → State → Prop} {Qc : Array Value → State → Outcome → State → Prop} {XC : String → State → State → Prop} {mc ms : Nat} {free : Addr → Prop} {cc : ByteArray} {maxL : Nat} {ret : Option FieldType} {hh : List (Nat × Nat × Nat × Nat)}
    (hy : plainName y.cls = true) (hw : ws = Cond.codeWith y cc maxL ret hh :: ws')
    (body : ∀ p e s m args below meth c s₁, BodyLoose p l y (headSpec ws rm) cc maxL ret e s m args below meth c s₁ → c.maxLocals = maxL → Pc args s →
      W p l e (headSpec ws rm).room s m args below meth c s.heap [] 0 0 (vx_MQ below Qc XC args s mc ms free) (entryFrame m args maxL)) : vx_Met l y ws rm Pc Qc XC mc ms free := by
  refine MetFree.of_bodyS (code := cc) (maxLocals := maxL) (ret := ret) hy ?_ ?_
  · intro args s m h hn
    obtain ⟨m9, meth, c, hn9, h1, h2, h3, h4, -, h5, h6, -⟩ := Cond.codeWith_spec (atoms_spec (ws := ws) h _ (by rw [hw]; exact List.mem_cons_self))
    cases hn.symm.trans hn9
    exact ⟨meth, c, h1, h2, h3, h4, h5, h6⟩
  · intro p e s m args below meth c s₁ B hml hP _
    have hh0 : s₁.heap = s.heap := by rw [B.state]; rfl
    obtain ⟨t, a1, o, b1, b2, b3⟩ := body p e s m args below meth c s₁ B hml hP s₁ hh0 (Stand.of_body B)
    exact ⟨t, o, a1, b1, b2, b3⟩
/-! ===== END ===== -/
end
section
/-! ===== BEGIN printed: names, fields, word lists, decode rows ===== -/
def RX0 : String := "Saltwedge$Barrier"
def TX0 : u_T := fun k => match k with
  | 0 => ("Saltwedge$Barrier", "first", "[I", true)
  | 1 => ("Saltwedge$Barrier", "last", "[I", true)
  | 2 => ("Saltwedge$Barrier", "right", "[Z", true)
  | 3 => ("Saltwedge$Barrier", "closureCount", "I", false)
  | 4 => ("Saltwedge$Barrier", "mark", "I", false)
  | 5 => ("Saltwedge$Barrier", "lead", "I", false)
  | _ => ("Saltwedge$Barrier", "closed", "Z", false)
def tyX0 : Nat → FieldType := fun k => match k with
  | 0 => .array .int
  | 1 => .array .int
  | 2 => .array .boolean
  | 3 => .int
  | 4 => .int
  | 5 => .int
  | _ => .boolean
abbrev wsX00 : List Cond := u_ws RX0 TX0 7
theorem nmX0 : ∀ a, a < 7 → ∀ b, b < 7 → a ≠ b → (TX0 a).2.1 ≠ (TX0 b).2.1 := by decide +kernel
theorem tyX0_ok : ∀ k, k < 7 → parseFieldDescriptor (TX0 k).2.2.1 = some (tyX0 k) := by decide +kernel
abbrev cX0_init : ByteArray := prog_2_method_1_code
def yX0_init : MethodName := ⟨RX0, "<init>", "()V"⟩
abbrev cX0_begin : ByteArray := prog_2_method_2_code
def yX0_begin : MethodName := ⟨RX0, "begin", "()V"⟩
abbrev cX0_look : ByteArray := prog_2_method_3_code
def yX0_look : MethodName := ⟨RX0, "look", "(LSaltwedge$Sea;I)V"⟩
abbrev cX0_answer : ByteArray := prog_2_method_4_code
def yX0_answer : MethodName := ⟨RX0, "answer", "(II)I"⟩
def RX1 : String := "Saltwedge$Intake"
def TX1 : u_T := fun k => match k with
  | 0 => ("Saltwedge$Intake", "section", "I", false)
  | 1 => ("Saltwedge$Intake", "rate", "I", false)
  | 2 => ("Saltwedge$Intake", "grain", "I", false)
  | 3 => ("Saltwedge$Intake", "room", "I", false)
  | 4 => ("Saltwedge$Intake", "use", "I", false)
  | 5 => ("Saltwedge$Intake", "held", "I", false)
  | 6 => ("Saltwedge$Intake", "taken", "I", false)
  | 7 => ("Saltwedge$Intake", "lacking", "I", false)
  | 8 => ("Saltwedge$Intake", "stoppedHours", "I", false)
  | _ => ("Saltwedge$Intake", "stopped", "Z", false)
def tyX1 : Nat → FieldType := fun k => match k with
  | 0 => .int
  | 1 => .int
  | 2 => .int
  | 3 => .int
  | 4 => .int
  | 5 => .int
  | 6 => .int
  | 7 => .int
  | 8 => .int
  | _ => .boolean
abbrev wsX10 : List Cond := u_ws RX1 TX1 10
theorem nmX1 : ∀ a, a < 10 → ∀ b, b < 10 → a ≠ b → (TX1 a).2.1 ≠ (TX1 b).2.1 := by decide +kernel
theorem tyX1_ok : ∀ k, k < 10 → parseFieldDescriptor (TX1 k).2.2.1 = some (tyX1 k) := by decide +kernel
abbrev cX1_init : ByteArray := prog_3_method_1_code
def yX1_init : MethodName := ⟨RX1, "<init>", "()V"⟩
abbrev cX1_begin : ByteArray := prog_3_method_2_code
def yX1_begin : MethodName := ⟨RX1, "begin", "(IIIII)V"⟩
abbrev cX1_take : ByteArray := prog_3_method_3_code
def yX1_take : MethodName := ⟨RX1, "take", "(LSaltwedge$Layer;[J)V"⟩
abbrev cX1_supply : ByteArray := prog_3_method_4_code
def yX1_supply : MethodName := ⟨RX1, "supply", "()V"⟩
abbrev cX1_answer : ByteArray := prog_3_method_5_code
def yX1_answer : MethodName := ⟨RX1, "answer", "(I)I"⟩
def RX2 : String := "Saltwedge$Layer"
def TX2 : u_T := fun k => match k with
  | 0 => ("Saltwedge$Layer", "water", "I", false)
  | _ => ("Saltwedge$Layer", "salt", "I", false)
def tyX2 : Nat → FieldType := fun k => match k with
  | 0 => .int
  | _ => .int
abbrev wsX20 : List Cond := u_ws RX2 TX2 2
theorem nmX2 : ∀ a, a < 2 → ∀ b, b < 2 → a ≠ b → (TX2 a).2.1 ≠ (TX2 b).2.1 := by decide +kernel
theorem tyX2_ok : ∀ k, k < 2 → parseFieldDescriptor (TX2 k).2.2.1 = some (tyX2 k) := by decide +kernel
abbrev cX2_init : ByteArray := prog_4_method_1_code
def yX2_init : MethodName := ⟨RX2, "<init>", "()V"⟩
abbrev cX2_begin : ByteArray := prog_4_method_2_code
def yX2_begin : MethodName := ⟨RX2, "begin", "(I)V"⟩
abbrev cX2_salinity : ByteArray := prog_4_method_3_code
def yX2_salinity : MethodName := ⟨RX2, "salinity", "()I"⟩
abbrev cX2_saltWith : ByteArray := prog_4_method_4_code
def yX2_saltWith : MethodName := ⟨RX2, "saltWith", "(I)I"⟩
abbrev cX2_giveOut : ByteArray := prog_4_method_5_code
def yX2_giveOut : MethodName := ⟨RX2, "giveOut", "(I)I"⟩
abbrev cX2_takeIn : ByteArray := prog_4_method_6_code
def yX2_takeIn : MethodName := ⟨RX2, "takeIn", "(II)V"⟩
def RX3 : String := "Saltwedge$Mouth"
def TX3 : u_T := fun k => match k with
  | 0 => ("Saltwedge$Mouth", "sea", "LSaltwedge$Sea;", true)
  | 1 => ("Saltwedge$Mouth", "barrier", "LSaltwedge$Barrier;", true)
  | 2 => ("Saltwedge$Mouth", "sections", "[LSaltwedge$Section;", true)
  | 3 => ("Saltwedge$Mouth", "intakes", "[LSaltwedge$Intake;", true)
  | 4 => ("Saltwedge$Mouth", "sums", "[J", true)
  | 5 => ("Saltwedge$Mouth", "sectionCount", "I", false)
  | 6 => ("Saltwedge$Mouth", "intakeCount", "I", false)
  | 7 => ("Saltwedge$Mouth", "riverWater", "I", false)
  | 8 => ("Saltwedge$Mouth", "riverSilt", "I", false)
  | _ => ("Saltwedge$Mouth", "now", "I", false)
def tyX3 : Nat → FieldType := fun k => match k with
  | 0 => .object "Saltwedge$Sea"
  | 1 => .object "Saltwedge$Barrier"
  | 2 => .array (.object "Saltwedge$Section")
  | 3 => .array (.object "Saltwedge$Intake")
  | 4 => .array .long
  | 5 => .int
  | 6 => .int
  | 7 => .int
  | 8 => .int
  | _ => .int
abbrev wsX30 : List Cond := u_ws RX3 TX3 10
theorem nmX3 : ∀ a, a < 10 → ∀ b, b < 10 → a ≠ b → (TX3 a).2.1 ≠ (TX3 b).2.1 := by decide +kernel
theorem tyX3_ok : ∀ k, k < 10 → parseFieldDescriptor (TX3 k).2.2.1 = some (tyX3 k) := by decide +kernel
abbrev cX3_init : ByteArray := prog_5_method_1_code
def yX3_init : MethodName := ⟨RX3, "<init>", "()V"⟩
abbrev cX3_begin : ByteArray := prog_5_method_2_code
def yX3_begin : MethodName := ⟨RX3, "begin", "()V"⟩
abbrev cX3_hasSection : ByteArray := prog_5_method_3_code
def yX3_hasSection : MethodName := ⟨RX3, "hasSection", "(I)Z"⟩
abbrev cX3_hear : ByteArray := prog_5_method_4_code
def yX3_hear : MethodName := ⟨RX3, "hear", "(IIIIII)V"⟩
abbrev cX3_addSection : ByteArray := prog_5_method_5_code
def yX3_addSection : MethodName := ⟨RX3, "addSection", "(IIII)V"⟩
abbrev cX3_addIntake : ByteArray := prog_5_method_6_code
def yX3_addIntake : MethodName := ⟨RX3, "addIntake", "(IIIII)V"⟩
abbrev cX3_setPermit : ByteArray := prog_5_method_7_code
def yX3_setPermit : MethodName := ⟨RX3, "setPermit", "(II)V"⟩
abbrev cX3_moveMud : ByteArray := prog_5_method_8_code
def yX3_moveMud : MethodName := ⟨RX3, "moveMud", "(III)V"⟩
abbrev cX3_seaOf : ByteArray := prog_5_method_9_code
def yX3_seaOf : MethodName := ⟨RX3, "seaOf", "(I)I"⟩
abbrev cX3_firstHourAt : ByteArray := prog_5_method_10_code
def yX3_firstHourAt : MethodName := ⟨RX3, "firstHourAt", "(II)I"⟩
abbrev cX3_goOnTo : ByteArray := prog_5_method_11_code
def yX3_goOnTo : MethodName := ⟨RX3, "goOnTo", "(I)V"⟩
abbrev cX3_letHourGoBy : ByteArray := prog_5_method_12_code
def yX3_letHourGoBy : MethodName := ⟨RX3, "letHourGoBy", "()V"⟩
abbrev cX3_meetSea : ByteArray := prog_5_method_13_code
def yX3_meetSea : MethodName := ⟨RX3, "meetSea", "(LSaltwedge$Section;I)V"⟩
abbrev cX3_meetRiver : ByteArray := prog_5_method_14_code
def yX3_meetRiver : MethodName := ⟨RX3, "meetRiver", "(LSaltwedge$Section;)V"⟩
abbrev cX3_level : ByteArray := prog_5_method_15_code
def yX3_level : MethodName := ⟨RX3, "level", "(LSaltwedge$Section;LSaltwedge$Section;)V"⟩
abbrev cX3_creep : ByteArray := prog_5_method_16_code
def yX3_creep : MethodName := ⟨RX3, "creep", "(LSaltwedge$Section;LSaltwedge$Section;)V"⟩
abbrev cX3_flowInLow : ByteArray := prog_5_method_17_code
def yX3_flowInLow : MethodName := ⟨RX3, "flowInLow", "(LSaltwedge$Section;LSaltwedge$Section;I)V"⟩
abbrev cX3_flowInUp : ByteArray := prog_5_method_18_code
def yX3_flowInUp : MethodName := ⟨RX3, "flowInUp", "(LSaltwedge$Section;LSaltwedge$Section;I)V"⟩
abbrev cX3_serveIntakes : ByteArray := prog_5_method_19_code
def yX3_serveIntakes : MethodName := ⟨RX3, "serveIntakes", "()V"⟩
def RX4 : String := "Saltwedge$Oysters"
def TX4 : u_T := fun k => match k with
  | 0 => ("Saltwedge$Oysters", "section", "I", false)
  | 1 => ("Saltwedge$Oysters", "grain", "I", false)
  | _ => ("Saltwedge$Oysters", "hours", "I", false)
def tyX4 : Nat → FieldType := fun k => match k with
  | 0 => .int
  | 1 => .int
  | _ => .int
abbrev wsX40 : List Cond := u_ws RX4 TX4 3
theorem nmX4 : ∀ a, a < 3 → ∀ b, b < 3 → a ≠ b → (TX4 a).2.1 ≠ (TX4 b).2.1 := by decide +kernel
theorem tyX4_ok : ∀ k, k < 3 → parseFieldDescriptor (TX4 k).2.2.1 = some (tyX4 k) := by decide +kernel
abbrev cX4_init : ByteArray := prog_6_method_1_code
def yX4_init : MethodName := ⟨RX4, "<init>", "()V"⟩
def RX5 : String := "Saltwedge$Sea"
def TX5 : u_T := fun k => match k with
  | 0 => ("Saltwedge$Sea", "turns", "[LSaltwedge$Turn;", true)
  | 1 => ("Saltwedge$Sea", "surges", "[LSaltwedge$Surge;", true)
  | 2 => ("Saltwedge$Sea", "past", "[I", true)
  | 3 => ("Saltwedge$Sea", "turnCount", "I", false)
  | 4 => ("Saltwedge$Sea", "surgeCount", "I", false)
  | _ => ("Saltwedge$Sea", "mean", "I", false)
def tyX5 : Nat → FieldType := fun k => match k with
  | 0 => .array (.object "Saltwedge$Turn")
  | 1 => .array (.object "Saltwedge$Surge")
  | 2 => .array .int
  | 3 => .int
  | 4 => .int
  | _ => .int
abbrev wsX50 : List Cond := u_ws RX5 TX5 6
theorem nmX5 : ∀ a, a < 6 → ∀ b, b < 6 → a ≠ b → (TX5 a).2.1 ≠ (TX5 b).2.1 := by decide +kernel
theorem tyX5_ok : ∀ k, k < 6 → parseFieldDescriptor (TX5 k).2.2.1 = some (tyX5 k) := by decide +kernel
abbrev cX5_init : ByteArray := prog_7_method_1_code
def yX5_init : MethodName := ⟨RX5, "<init>", "()V"⟩
abbrev cX5_begin : ByteArray := prog_7_method_2_code
def yX5_begin : MethodName := ⟨RX5, "begin", "()V"⟩
abbrev cX5_addTurn : ByteArray := prog_7_method_3_code
def yX5_addTurn : MethodName := ⟨RX5, "addTurn", "(IIII)V"⟩
abbrev cX5_addSurge : ByteArray := prog_7_method_4_code
def yX5_addSurge : MethodName := ⟨RX5, "addSurge", "(III)V"⟩
abbrev cX5_foretold : ByteArray := prog_7_method_5_code
def yX5_foretold : MethodName := ⟨RX5, "foretold", "(I)I"⟩
abbrev cX5_foretoldAbove : ByteArray := prog_7_method_6_code
def yX5_foretoldAbove : MethodName := ⟨RX5, "foretoldAbove", "(III)Z"⟩
abbrev cX5_keep : ByteArray := prog_7_method_7_code
def yX5_keep : MethodName := ⟨RX5, "keep", "(II)V"⟩
def RX6 : String := "Saltwedge$Section"
def TX6 : u_T := fun k => match k with
  | 0 => ("Saltwedge$Section", "up", "LSaltwedge$Layer;", true)
  | 1 => ("Saltwedge$Section", "low", "LSaltwedge$Layer;", true)
  | 2 => ("Saltwedge$Section", "lowAtEnd", "[I", true)
  | 3 => ("Saltwedge$Section", "area", "I", false)
  | 4 => ("Saltwedge$Section", "mud", "I", false)
  | 5 => ("Saltwedge$Section", "cloud", "I", false)
  | 6 => ("Saltwedge$Section", "run", "I", false)
  | _ => ("Saltwedge$Section", "permit", "I", false)
def tyX6 : Nat → FieldType := fun k => match k with
  | 0 => .object "Saltwedge$Layer"
  | 1 => .object "Saltwedge$Layer"
  | 2 => .array .int
  | 3 => .int
  | 4 => .int
  | 5 => .int
  | 6 => .int
  | _ => .int
abbrev wsX60 : List Cond := u_ws RX6 TX6 8
theorem nmX6 : ∀ a, a < 8 → ∀ b, b < 8 → a ≠ b → (TX6 a).2.1 ≠ (TX6 b).2.1 := by decide +kernel
theorem tyX6_ok : ∀ k, k < 8 → parseFieldDescriptor (TX6 k).2.2.1 = some (tyX6 k) := by decide +kernel
abbrev cX6_init : ByteArray := prog_8_method_1_code
def yX6_init : MethodName := ⟨RX6, "<init>", "()V"⟩
abbrev cX6_begin : ByteArray := prog_8_method_2_code
def yX6_begin : MethodName := ⟨RX6, "begin", "(IIII)V"⟩
abbrev cX6_bed : ByteArray := prog_8_method_3_code
def yX6_bed : MethodName := ⟨RX6, "bed", "()I"⟩
abbrev cX6_level : ByteArray := prog_8_method_4_code
def yX6_level : MethodName := ⟨RX6, "level", "()I"⟩
abbrev cX6_giveCloud : ByteArray := prog_8_method_5_code
def yX6_giveCloud : MethodName := ⟨RX6, "giveCloud", "(I)I"⟩
abbrev cX6_refusal : ByteArray := prog_8_method_6_code
def yX6_refusal : MethodName := ⟨RX6, "refusal", "(I)I"⟩
abbrev cX6_mix : ByteArray := prog_8_method_7_code
def yX6_mix : MethodName := ⟨RX6, "mix", "()V"⟩
abbrev cX6_settleOrLift : ByteArray := prog_8_method_8_code
def yX6_settleOrLift : MethodName := ⟨RX6, "settleOrLift", "()V"⟩
abbrev cX6_endHour : ByteArray := prog_8_method_9_code
def yX6_endHour : MethodName := ⟨RX6, "endHour", "(I)V"⟩
abbrev cX6_wasFresher : ByteArray := prog_8_method_10_code
def yX6_wasFresher : MethodName := ⟨RX6, "wasFresher", "(III)Z"⟩
abbrev cX6_answer : ByteArray := prog_8_method_11_code
def yX6_answer : MethodName := ⟨RX6, "answer", "(I)I"⟩
def RX7 : String := "Saltwedge$Surge"
def TX7 : u_T := fun k => match k with
  | 0 => ("Saltwedge$Surge", "from", "I", false)
  | 1 => ("Saltwedge$Surge", "to", "I", false)
  | _ => ("Saltwedge$Surge", "height", "I", false)
def tyX7 : Nat → FieldType := fun k => match k with
  | 0 => .int
  | 1 => .int
  | _ => .int
abbrev wsX70 : List Cond := u_ws RX7 TX7 3
theorem nmX7 : ∀ a, a < 3 → ∀ b, b < 3 → a ≠ b → (TX7 a).2.1 ≠ (TX7 b).2.1 := by decide +kernel
theorem tyX7_ok : ∀ k, k < 3 → parseFieldDescriptor (TX7 k).2.2.1 = some (tyX7 k) := by decide +kernel
abbrev cX7_init : ByteArray := prog_9_method_1_code
def yX7_init : MethodName := ⟨RX7, "<init>", "()V"⟩
def RX8 : String := "Saltwedge$Told"
def TX8 : u_T := fun k => match k with
  | 0 => ("Saltwedge$Told", "rows", "[I", true)
  | _ => ("Saltwedge$Told", "count", "I", false)
def tyX8 : Nat → FieldType := fun k => match k with
  | 0 => .array .int
  | _ => .int
abbrev wsX80 : List Cond := u_ws RX8 TX8 2
theorem nmX8 : ∀ a, a < 2 → ∀ b, b < 2 → a ≠ b → (TX8 a).2.1 ≠ (TX8 b).2.1 := by decide +kernel
theorem tyX8_ok : ∀ k, k < 2 → parseFieldDescriptor (TX8 k).2.2.1 = some (tyX8 k) := by decide +kernel
abbrev cX8_init : ByteArray := prog_10_method_1_code
def yX8_init : MethodName := ⟨RX8, "<init>", "()V"⟩
abbrev cX8_keep : ByteArray := prog_10_method_2_code
def yX8_keep : MethodName := ⟨RX8, "keep", "(IIIIIII)V"⟩
abbrev cX8_part : ByteArray := prog_10_method_3_code
def yX8_part : MethodName := ⟨RX8, "part", "(II)I"⟩
def RX9 : String := "Saltwedge$Turn"
def TX9 : u_T := fun k => match k with
  | 0 => ("Saltwedge$Turn", "period", "I", false)
  | 1 => ("Saltwedge$Turn", "rise", "I", false)
  | 2 => ("Saltwedge$Turn", "range", "I", false)
  | _ => ("Saltwedge$Turn", "phase", "I", false)
def tyX9 : Nat → FieldType := fun k => match k with
  | 0 => .int
  | 1 => .int
  | 2 => .int
  | _ => .int
abbrev wsX90 : List Cond := u_ws RX9 TX9 4
theorem nmX9 : ∀ a, a < 4 → ∀ b, b < 4 → a ≠ b → (TX9 a).2.1 ≠ (TX9 b).2.1 := by decide +kernel
theorem tyX9_ok : ∀ k, k < 4 → parseFieldDescriptor (TX9 k).2.2.1 = some (tyX9 k) := by decide +kernel
abbrev cX9_init : ByteArray := prog_11_method_1_code
def yX9_init : MethodName := ⟨RX9, "<init>", "()V"⟩
abbrev cX9_height : ByteArray := prog_11_method_2_code
def yX9_height : MethodName := ⟨RX9, "height", "(I)I"⟩
def RX10 : String := "Saltwedge"
def TX10 : u_T := fun k => match k with
  | 0 => ("Saltwedge", "live", "LSaltwedge$Mouth;", true)
  | 1 => ("Saltwedge", "anew", "LSaltwedge$Mouth;", true)
  | 2 => ("Saltwedge", "told", "LSaltwedge$Told;", true)
  | 3 => ("Saltwedge", "oysters", "[LSaltwedge$Oysters;", true)
  | _ => ("Saltwedge", "oysterCount", "I", false)
def tyX10 : Nat → FieldType := fun k => match k with
  | 0 => .object "Saltwedge$Mouth"
  | 1 => .object "Saltwedge$Mouth"
  | 2 => .object "Saltwedge$Told"
  | 3 => .array (.object "Saltwedge$Oysters")
  | _ => .int
abbrev wsX100 : List Cond := u_ws RX10 TX10 5
theorem nmX10 : ∀ a, a < 5 → ∀ b, b < 5 → a ≠ b → (TX10 a).2.1 ≠ (TX10 b).2.1 := by decide +kernel
theorem tyX10_ok : ∀ k, k < 5 → parseFieldDescriptor (TX10 k).2.2.1 = some (tyX10 k) := by decide +kernel
abbrev cX10_init : ByteArray := prog_1_method_1_code
def yX10_init : MethodName := ⟨RX10, "<init>", "()V"⟩
abbrev cX10_turn : ByteArray := prog_1_method_2_code
def yX10_turn : MethodName := ⟨RX10, "turn", "(IIII)I"⟩
abbrev cX10_mean : ByteArray := prog_1_method_3_code
def yX10_mean : MethodName := ⟨RX10, "mean", "(I)I"⟩
abbrev cX10_surge : ByteArray := prog_1_method_4_code
def yX10_surge : MethodName := ⟨RX10, "surge", "(III)I"⟩
abbrev cX10_river : ByteArray := prog_1_method_5_code
def yX10_river : MethodName := ⟨RX10, "river", "(II)I"⟩
abbrev cX10_barrier : ByteArray := prog_1_method_6_code
def yX10_barrier : MethodName := ⟨RX10, "barrier", "(II)I"⟩
abbrev cX10_section : ByteArray := prog_1_method_7_code
def yX10_section : MethodName := ⟨RX10, "section", "(IIII)I"⟩
abbrev cX10_intake : ByteArray := prog_1_method_8_code
def yX10_intake : MethodName := ⟨RX10, "intake", "(IIIII)I"⟩
abbrev cX10_oysters : ByteArray := prog_1_method_9_code
def yX10_oysters : MethodName := ⟨RX10, "oysters", "(III)I"⟩
abbrev cX10_permit : ByteArray := prog_1_method_10_code
def yX10_permit : MethodName := ⟨RX10, "permit", "(II)I"⟩
abbrev cX10_whyNot : ByteArray := prog_1_method_11_code
def yX10_whyNot : MethodName := ⟨RX10, "whyNot", "(II)I"⟩
abbrev cX10_dredge : ByteArray := prog_1_method_12_code
def yX10_dredge : MethodName := ⟨RX10, "dredge", "(III)I"⟩
abbrev cX10_pass : ByteArray := prog_1_method_13_code
def yX10_pass : MethodName := ⟨RX10, "pass", "(I)I"⟩
abbrev cX10_now : ByteArray := prog_1_method_14_code
def yX10_now : MethodName := ⟨RX10, "now", "()I"⟩
abbrev cX10_sea : ByteArray := prog_1_method_15_code
def yX10_sea : MethodName := ⟨RX10, "sea", "(I)I"⟩
abbrev cX10_ofSection : ByteArray := prog_1_method_16_code
def yX10_ofSection : MethodName := ⟨RX10, "ofSection", "(II)I"⟩
abbrev cX10_ofSectionAnew : ByteArray := prog_1_method_17_code
def yX10_ofSectionAnew : MethodName := ⟨RX10, "ofSectionAnew", "(II)I"⟩
abbrev cX10_ofIntake : ByteArray := prog_1_method_18_code
def yX10_ofIntake : MethodName := ⟨RX10, "ofIntake", "(II)I"⟩
abbrev cX10_isClosed : ByteArray := prog_1_method_19_code
def yX10_isClosed : MethodName := ⟨RX10, "isClosed", "(I)Z"⟩
abbrev cX10_closures : ByteArray := prog_1_method_20_code
def yX10_closures : MethodName := ⟨RX10, "closures", "()I"⟩
abbrev cX10_closure : ByteArray := prog_1_method_21_code
def yX10_closure : MethodName := ⟨RX10, "closure", "(II)I"⟩
abbrev cX10_intrusion : ByteArray := prog_1_method_22_code
def yX10_intrusion : MethodName := ⟨RX10, "intrusion", "(I)I"⟩
abbrev cX10_window : ByteArray := prog_1_method_23_code
def yX10_window : MethodName := ⟨RX10, "window", "(II)I"⟩
abbrev cX10_sum : ByteArray := prog_1_method_24_code
def yX10_sum : MethodName := ⟨RX10, "sum", "(I)J"⟩
abbrev cX10_within : ByteArray := prog_1_method_25_code
def yX10_within : MethodName := ⟨RX10, "within", "(III)Z"⟩
abbrev cX10_goesWith : ByteArray := prog_1_method_26_code
def yX10_goesWith : MethodName := ⟨RX10, "goesWith", "(III)I"⟩
abbrev cX10_tell : ByteArray := prog_1_method_27_code
def yX10_tell : MethodName := ⟨RX10, "tell", "(IIIIII)V"⟩
def RX11 : String := "SaltwedgeModel"
def TX11 : u_T := fun k => match k with
  | 0 => ("SaltwedgeModel", "thrown", "I", false)
  | 1 => ("SaltwedgeModel", "now", "I", false)
  | 2 => ("SaltwedgeModel", "mean", "I", false)
  | 3 => ("SaltwedgeModel", "turns", "I", false)
  | 4 => ("SaltwedgeModel", "turn", "[I", true)
  | 5 => ("SaltwedgeModel", "surges", "I", false)
  | 6 => ("SaltwedgeModel", "surge", "[I", true)
  | 7 => ("SaltwedgeModel", "was", "[I", true)
  | 8 => ("SaltwedgeModel", "riverWater", "I", false)
  | 9 => ("SaltwedgeModel", "riverSilt", "I", false)
  | 10 => ("SaltwedgeModel", "mark", "I", false)
  | 11 => ("SaltwedgeModel", "lead", "I", false)
  | 12 => ("SaltwedgeModel", "closures", "I", false)
  | 13 => ("SaltwedgeModel", "first", "[I", true)
  | 14 => ("SaltwedgeModel", "latest", "[I", true)
  | 15 => ("SaltwedgeModel", "isRight", "[Z", true)
  | 16 => ("SaltwedgeModel", "sections", "I", false)
  | 17 => ("SaltwedgeModel", "area", "[I", true)
  | 18 => ("SaltwedgeModel", "mud", "[I", true)
  | 19 => ("SaltwedgeModel", "cloud", "[I", true)
  | 20 => ("SaltwedgeModel", "run", "[I", true)
  | 21 => ("SaltwedgeModel", "permit", "[I", true)
  | 22 => ("SaltwedgeModel", "water", "[I", true)
  | 23 => ("SaltwedgeModel", "salt", "[I", true)
  | 24 => ("SaltwedgeModel", "tasted", "[I", true)
  | 25 => ("SaltwedgeModel", "intakes", "I", false)
  | 26 => ("SaltwedgeModel", "intakeAt", "[I", true)
  | 27 => ("SaltwedgeModel", "rate", "[I", true)
  | 28 => ("SaltwedgeModel", "intakeGrain", "[I", true)
  | 29 => ("SaltwedgeModel", "room", "[I", true)
  | 30 => ("SaltwedgeModel", "use", "[I", true)
  | 31 => ("SaltwedgeModel", "kept", "[I", true)
  | 32 => ("SaltwedgeModel", "took", "[I", true)
  | 33 => ("SaltwedgeModel", "lacking", "[I", true)
  | 34 => ("SaltwedgeModel", "stops", "[I", true)
  | 35 => ("SaltwedgeModel", "isStopped", "[Z", true)
  | 36 => ("SaltwedgeModel", "oysters", "I", false)
  | 37 => ("SaltwedgeModel", "oystersAt", "[I", true)
  | 38 => ("SaltwedgeModel", "oysterGrain", "[I", true)
  | 39 => ("SaltwedgeModel", "oysterHours", "[I", true)
  | 40 => ("SaltwedgeModel", "sums", "[J", true)
  | 41 => ("SaltwedgeModel", "saltGone", "I", false)
  | _ => ("SaltwedgeModel", "cloudGone", "I", false)
def tyX11 : Nat → FieldType := fun k => match k with
  | 0 => .int
  | 1 => .int
  | 2 => .int
  | 3 => .int
  | 4 => .array .int
  | 5 => .int
  | 6 => .array .int
  | 7 => .array .int
  | 8 => .int
  | 9 => .int
  | 10 => .int
  | 11 => .int
  | 12 => .int
  | 13 => .array .int
  | 14 => .array .int
  | 15 => .array .boolean
  | 16 => .int
  | 17 => .array .int
  | 18 => .array .int
  | 19 => .array .int
  | 20 => .array .int
  | 21 => .array .int
  | 22 => .array .int
  | 23 => .array .int
  | 24 => .array .int
  | 25 => .int
  | 26 => .array .int
  | 27 => .array .int
  | 28 => .array .int
  | 29 => .array .int
  | 30 => .array .int
  | 31 => .array .int
  | 32 => .array .int
  | 33 => .array .int
  | 34 => .array .int
  | 35 => .array .boolean
  | 36 => .int
  | 37 => .array .int
  | 38 => .array .int
  | 39 => .array .int
  | 40 => .array .long
  | 41 => .int
  | _ => .int
abbrev wsX110 : List Cond := u_ws RX11 TX11 43
theorem nmX11 : ∀ a, a < 43 → ∀ b, b < 43 → a ≠ b → (TX11 a).2.1 ≠ (TX11 b).2.1 := by decide +kernel
theorem tyX11_ok : ∀ k, k < 43 → parseFieldDescriptor (TX11 k).2.2.1 = some (tyX11 k) := by decide +kernel
abbrev cX11_init : ByteArray := prog_13_method_1_code
def yX11_init : MethodName := ⟨RX11, "<init>", "()V"⟩
abbrev cX11_thrown : ByteArray := prog_13_method_2_code
def yX11_thrown : MethodName := ⟨RX11, "thrown", "()I"⟩
abbrev cX11_holds : ByteArray := prog_13_method_3_code
def yX11_holds : MethodName := ⟨RX11, "holds", "(I)Z"⟩
abbrev cX11_isIn : ByteArray := prog_13_method_4_code
def yX11_isIn : MethodName := ⟨RX11, "isIn", "(III)Z"⟩
abbrev cX11_isSection : ByteArray := prog_13_method_5_code
def yX11_isSection : MethodName := ⟨RX11, "isSection", "(I)Z"⟩
abbrev cX11_turn : ByteArray := prog_13_method_6_code
def yX11_turn : MethodName := ⟨RX11, "turn", "(IIII)I"⟩
abbrev cX11_mean : ByteArray := prog_13_method_7_code
def yX11_mean : MethodName := ⟨RX11, "mean", "(I)I"⟩
abbrev cX11_surge : ByteArray := prog_13_method_8_code
def yX11_surge : MethodName := ⟨RX11, "surge", "(III)I"⟩
abbrev cX11_river : ByteArray := prog_13_method_9_code
def yX11_river : MethodName := ⟨RX11, "river", "(II)I"⟩
abbrev cX11_barrier : ByteArray := prog_13_method_10_code
def yX11_barrier : MethodName := ⟨RX11, "barrier", "(II)I"⟩
abbrev cX11_heightOf : ByteArray := prog_13_method_11_code
def yX11_heightOf : MethodName := ⟨RX11, "heightOf", "(II)I"⟩
abbrev cX11_seaOf : ByteArray := prog_13_method_12_code
def yX11_seaOf : MethodName := ⟨RX11, "seaOf", "(I)I"⟩
abbrev cX11_section : ByteArray := prog_13_method_13_code
def yX11_section : MethodName := ⟨RX11, "section", "(IIII)I"⟩
abbrev cX11_intake : ByteArray := prog_13_method_14_code
def yX11_intake : MethodName := ⟨RX11, "intake", "(IIIII)I"⟩
abbrev cX11_oysters : ByteArray := prog_13_method_15_code
def yX11_oysters : MethodName := ⟨RX11, "oysters", "(III)I"⟩
abbrev cX11_permit : ByteArray := prog_13_method_16_code
def yX11_permit : MethodName := ⟨RX11, "permit", "(II)I"⟩
abbrev cX11_why : ByteArray := prog_13_method_17_code
def yX11_why : MethodName := ⟨RX11, "why", "(II)I"⟩
abbrev cX11_whyNot : ByteArray := prog_13_method_18_code
def yX11_whyNot : MethodName := ⟨RX11, "whyNot", "(II)I"⟩
abbrev cX11_dredge : ByteArray := prog_13_method_19_code
def yX11_dredge : MethodName := ⟨RX11, "dredge", "(III)I"⟩
abbrev cX11_bed : ByteArray := prog_13_method_20_code
def yX11_bed : MethodName := ⟨RX11, "bed", "(I)I"⟩
abbrev cX11_level : ByteArray := prog_13_method_21_code
def yX11_level : MethodName := ⟨RX11, "level", "(I)I"⟩
abbrev cX11_salinity : ByteArray := prog_13_method_22_code
def yX11_salinity : MethodName := ⟨RX11, "salinity", "(II)I"⟩
abbrev cX11_share : ByteArray := prog_13_method_23_code
def yX11_share : MethodName := ⟨RX11, "share", "(III)I"⟩
abbrev cX11_leaves : ByteArray := prog_13_method_24_code
def yX11_leaves : MethodName := ⟨RX11, "leaves", "(III)V"⟩
abbrev cX11_flows : ByteArray := prog_13_method_25_code
def yX11_flows : MethodName := ⟨RX11, "flows", "(IIII)V"⟩
abbrev cX11_isShutNow : ByteArray := prog_13_method_26_code
def yX11_isShutNow : MethodName := ⟨RX11, "isShutNow", "()Z"⟩
abbrev cX11_closes : ByteArray := prog_13_method_27_code
def yX11_closes : MethodName := ⟨RX11, "closes", "(I)V"⟩
abbrev cX11_mouth : ByteArray := prog_13_method_28_code
def yX11_mouth : MethodName := ⟨RX11, "mouth", "(I)V"⟩
abbrev cX11_neighbours : ByteArray := prog_13_method_29_code
def yX11_neighbours : MethodName := ⟨RX11, "neighbours", "(I)V"⟩
abbrev cX11_mixes : ByteArray := prog_13_method_30_code
def yX11_mixes : MethodName := ⟨RX11, "mixes", "(I)V"⟩
abbrev cX11_settles : ByteArray := prog_13_method_31_code
def yX11_settles : MethodName := ⟨RX11, "settles", "(I)V"⟩
abbrev cX11_drinks : ByteArray := prog_13_method_32_code
def yX11_drinks : MethodName := ⟨RX11, "drinks", "(I)V"⟩
abbrev cX11_hour : ByteArray := prog_13_method_33_code
def yX11_hour : MethodName := ⟨RX11, "hour", "()V"⟩
abbrev cX11_pass : ByteArray := prog_13_method_34_code
def yX11_pass : MethodName := ⟨RX11, "pass", "(I)I"⟩
abbrev cX11_now : ByteArray := prog_13_method_35_code
def yX11_now : MethodName := ⟨RX11, "now", "()I"⟩
abbrev cX11_sea : ByteArray := prog_13_method_36_code
def yX11_sea : MethodName := ⟨RX11, "sea", "(I)I"⟩
abbrev cX11_ofSection : ByteArray := prog_13_method_37_code
def yX11_ofSection : MethodName := ⟨RX11, "ofSection", "(II)I"⟩
abbrev cX11_ofSectionAnew : ByteArray := prog_13_method_38_code
def yX11_ofSectionAnew : MethodName := ⟨RX11, "ofSectionAnew", "(II)I"⟩
abbrev cX11_ofIntake : ByteArray := prog_13_method_39_code
def yX11_ofIntake : MethodName := ⟨RX11, "ofIntake", "(II)I"⟩
abbrev cX11_isClosed : ByteArray := prog_13_method_40_code
def yX11_isClosed : MethodName := ⟨RX11, "isClosed", "(I)Z"⟩
abbrev cX11_closures : ByteArray := prog_13_method_41_code
def yX11_closures : MethodName := ⟨RX11, "closures", "()I"⟩
abbrev cX11_closure : ByteArray := prog_13_method_42_code
def yX11_closure : MethodName := ⟨RX11, "closure", "(II)I"⟩
abbrev cX11_intrusion : ByteArray := prog_13_method_43_code
def yX11_intrusion : MethodName := ⟨RX11, "intrusion", "(I)I"⟩
abbrev cX11_window : ByteArray := prog_13_method_44_code
def yX11_window : MethodName := ⟨RX11, "window", "(II)I"⟩
abbrev cX11_sum : ByteArray := prog_13_method_45_code
def yX11_sum : MethodName := ⟨RX11, "sum", "(I)J"⟩
def RJ9 : String := "java/lang/Math"
def TJ9 : u_T := fun k => match k with
  | _ => ("", "", "", false)
def tyJ9 : Nat → FieldType := fun k => match k with
  | _ => .int
abbrev wsJ90 : List Cond := u_ws RJ9 TJ9 0
theorem nmJ9 : ∀ a, a < 0 → ∀ b, b < 0 → a ≠ b → (TJ9 a).2.1 ≠ (TJ9 b).2.1 := by decide +kernel
theorem tyJ9_ok : ∀ k, k < 0 → parseFieldDescriptor (TJ9 k).2.2.1 = some (tyJ9 k) := by decide +kernel
abbrev cJ9_floorMod_7cf53 : ByteArray := prog_18_method_50_code
def yJ9_floorMod_7cf53 : MethodName := ⟨RJ9, "floorMod", "(II)I"⟩
abbrev cJ9_max_7cf53 : ByteArray := prog_18_method_65_code
def yJ9_max_7cf53 : MethodName := ⟨RJ9, "max", "(II)I"⟩
abbrev cJ9_min_7cf53 : ByteArray := prog_18_method_69_code
def yJ9_min_7cf53 : MethodName := ⟨RJ9, "min", "(II)I"⟩
def RJ0 : String := "java/lang/String"
def TJ0 : u_T := fun k => match k with
  | _ => ("", "", "", false)
def tyJ0 : Nat → FieldType := fun k => match k with
  | _ => .int
abbrev wsJ00 : List Cond := u_ws RJ0 TJ0 0
theorem nmJ0 : ∀ a, a < 0 → ∀ b, b < 0 → a ≠ b → (TJ0 a).2.1 ≠ (TJ0 b).2.1 := by decide +kernel
theorem tyJ0_ok : ∀ k, k < 0 → parseFieldDescriptor (TJ0 k).2.2.1 = some (tyJ0 k) := by decide +kernel
def RL : String := "SaltwedgeLaw"
abbrev cL_turn : ByteArray := method_3_code
def yL_turn : MethodName := ⟨RL, "turn", "(LSaltwedge;IIII[J)I"⟩
abbrev cL_mean : ByteArray := method_4_code
def yL_mean : MethodName := ⟨RL, "mean", "(LSaltwedge;I[J)I"⟩
abbrev cL_surge : ByteArray := method_5_code
def yL_surge : MethodName := ⟨RL, "surge", "(LSaltwedge;III[J)I"⟩
abbrev cL_river : ByteArray := method_6_code
def yL_river : MethodName := ⟨RL, "river", "(LSaltwedge;II[J)I"⟩
abbrev cL_barrier : ByteArray := method_7_code
def yL_barrier : MethodName := ⟨RL, "barrier", "(LSaltwedge;II[J)I"⟩
abbrev cL_section : ByteArray := method_8_code
def yL_section : MethodName := ⟨RL, "section", "(LSaltwedge;IIII[J)I"⟩
abbrev cL_intake : ByteArray := method_9_code
def yL_intake : MethodName := ⟨RL, "intake", "(LSaltwedge;IIIII[J)I"⟩
abbrev cL_oysters : ByteArray := method_10_code
def yL_oysters : MethodName := ⟨RL, "oysters", "(LSaltwedge;III[J)I"⟩
abbrev cL_permit : ByteArray := method_11_code
def yL_permit : MethodName := ⟨RL, "permit", "(LSaltwedge;II[J)I"⟩
abbrev cL_whyNot : ByteArray := method_12_code
def yL_whyNot : MethodName := ⟨RL, "whyNot", "(LSaltwedge;II[J)I"⟩
abbrev cL_dredge : ByteArray := method_13_code
def yL_dredge : MethodName := ⟨RL, "dredge", "(LSaltwedge;III[J)I"⟩
abbrev cL_pass : ByteArray := method_14_code
def yL_pass : MethodName := ⟨RL, "pass", "(LSaltwedge;I[J)I"⟩
abbrev cL_sea : ByteArray := method_15_code
def yL_sea : MethodName := ⟨RL, "sea", "(LSaltwedge;I[J)I"⟩
abbrev cL_ofSection : ByteArray := method_16_code
def yL_ofSection : MethodName := ⟨RL, "ofSection", "(LSaltwedge;II[J)I"⟩
abbrev cL_ofSectionAnew : ByteArray := method_17_code
def yL_ofSectionAnew : MethodName := ⟨RL, "ofSectionAnew", "(LSaltwedge;II[J)I"⟩
abbrev cL_ofIntake : ByteArray := method_18_code
def yL_ofIntake : MethodName := ⟨RL, "ofIntake", "(LSaltwedge;II[J)I"⟩
abbrev cL_isClosed : ByteArray := method_19_code
def yL_isClosed : MethodName := ⟨RL, "isClosed", "(LSaltwedge;I[J)I"⟩
abbrev cL_closure : ByteArray := method_20_code
def yL_closure : MethodName := ⟨RL, "closure", "(LSaltwedge;II[J)I"⟩
abbrev cL_intrusion : ByteArray := method_21_code
def yL_intrusion : MethodName := ⟨RL, "intrusion", "(LSaltwedge;I[J)I"⟩
abbrev cL_window : ByteArray := method_22_code
def yL_window : MethodName := ⟨RL, "window", "(LSaltwedge;II[J)I"⟩
abbrev cL_sum : ByteArray := method_23_code
def yL_sum : MethodName := ⟨RL, "sum", "(LSaltwedge;I[J)I"⟩
abbrev cL_law : ByteArray := code
def yL_law : MethodName := ⟨RL, "law", "([I)Z"⟩
def wsL_law0_r1 : List Cond := [Cond.classLink RL 8 RX10, Cond.instantiable RX10 5, Cond.initialized RX10, Cond.classLink RL 86 RX11, Cond.instantiable RX11 43, Cond.initialized RX11, Cond.arrayClass .long, Cond.methodLink RL 85 yX10_init, Cond.instanceMethod yX10_init, Cond.code yX10_init cX10_init 2 none, Cond.methodLink RX10 1 objectInit, Cond.instanceMethod objectInit, Cond.code objectInit ⟨#[0xb1]⟩ 1 none, Cond.classLink RX10 7 RX3, Cond.instantiable RX3 10, Cond.initialized RX3, Cond.fieldLink RX10 10 "Saltwedge" "live" "LSaltwedge$Mouth;", Cond.fieldLink RX10 16 "Saltwedge" "anew" "LSaltwedge$Mouth;", Cond.classLink RX10 19 RX8, Cond.instantiable RX8 2, Cond.initialized RX8, Cond.fieldLink RX10 22 "Saltwedge" "told" "LSaltwedge$Told;", Cond.classLink RX10 26 RX4, Cond.fieldLink RX10 28 "Saltwedge" "oysters" "[LSaltwedge$Oysters;"]
def wsL_law0_r2 : List Cond := [Cond.instantiable RX4 3, Cond.initialized RX4, Cond.methodLink RX10 9 yX3_init, Cond.instanceMethod yX3_init, Cond.code yX3_init cX3_init 2 none, Cond.methodLink RX3 3 objectInit, Cond.classLink RX3 9 RX5, Cond.instantiable RX5 6, Cond.initialized RX5, Cond.fieldLink RX3 12 "Saltwedge$Mouth" "sea" "LSaltwedge$Sea;", Cond.classLink RX3 18 RX0, Cond.instantiable RX0 7, Cond.initialized RX0, Cond.fieldLink RX3 21 "Saltwedge$Mouth" "barrier" "LSaltwedge$Barrier;", Cond.classLink RX3 25 RX6, Cond.fieldLink RX3 27 "Saltwedge$Mouth" "sections" "[LSaltwedge$Section;", Cond.classLink RX3 31 RX1, Cond.fieldLink RX3 33 "Saltwedge$Mouth" "intakes" "[LSaltwedge$Intake;", Cond.fieldLink RX3 37 "Saltwedge$Mouth" "sums" "[J", Cond.instantiable RX6 8, Cond.initialized RX6, Cond.instantiable RX1 10, Cond.initialized RX1, Cond.methodLink RX3 11 yX5_init]
def wsL_law0_r3 : List Cond := [Cond.instanceMethod yX5_init, Cond.code yX5_init cX5_init 2 none, Cond.methodLink RX5 3 objectInit, Cond.classLink RX5 9 RX9, Cond.fieldLink RX5 11 "Saltwedge$Sea" "turns" "[LSaltwedge$Turn;", Cond.classLink RX5 17 RX7, Cond.fieldLink RX5 19 "Saltwedge$Sea" "surges" "[LSaltwedge$Surge;", Cond.arrayClass .int, Cond.fieldLink RX5 23 "Saltwedge$Sea" "past" "[I", Cond.fieldLink RX5 27 "Saltwedge$Sea" "mean" "I", Cond.instantiable RX9 4, Cond.initialized RX9, Cond.instantiable RX7 3, Cond.initialized RX7, Cond.instanceMethod yX9_init, Cond.code yX9_init cX9_init 1 none, Cond.methodLink RX9 1 objectInit, Cond.instanceMethod yX7_init, Cond.code yX7_init cX7_init 1 none, Cond.methodLink RX7 1 objectInit, Cond.instanceMethod yX0_init, Cond.code yX0_init cX0_init 1 none, Cond.methodLink RX0 3 objectInit, Cond.fieldLink RX0 9 "Saltwedge$Barrier" "first" "[I"]
def wsL_law0_r4 : List Cond := [Cond.fieldLink RX0 15 "Saltwedge$Barrier" "last" "[I", Cond.arrayClass .boolean, Cond.fieldLink RX0 18 "Saltwedge$Barrier" "right" "[Z", Cond.fieldLink RX0 22 "Saltwedge$Barrier" "mark" "I", Cond.instanceMethod yX6_init, Cond.code yX6_init cX6_init 1 none, Cond.methodLink RX6 3 objectInit, Cond.classLink RX6 9 RX2, Cond.instantiable RX2 2, Cond.initialized RX2, Cond.fieldLink RX6 12 "Saltwedge$Section" "up" "LSaltwedge$Layer;", Cond.fieldLink RX6 18 "Saltwedge$Section" "low" "LSaltwedge$Layer;", Cond.fieldLink RX6 21 "Saltwedge$Section" "lowAtEnd" "[I", Cond.fieldLink RX6 25 "Saltwedge$Section" "area" "I", Cond.instanceMethod yX2_init, Cond.code yX2_init cX2_init 1 none, Cond.methodLink RX2 1 objectInit, Cond.instanceMethod yX1_init, Cond.code yX1_init cX1_init 1 none, Cond.methodLink RX1 3 objectInit, Cond.instanceMethod yX8_init, Cond.code yX8_init cX8_init 1 none, Cond.methodLink RX8 3 objectInit, Cond.fieldLink RX8 11 "Saltwedge$Told" "rows" "[I"]
def wsL_law0_r5 : List Cond := [Cond.instanceMethod yX4_init, Cond.code yX4_init cX4_init 1 none, Cond.methodLink RX4 1 objectInit, Cond.methodLink RL 88 yX11_init, Cond.instanceMethod yX11_init, Cond.code yX11_init cX11_init 1 none, Cond.methodLink RX11 1 objectInit, Cond.fieldLink RX11 7 "SaltwedgeModel" "mean" "I", Cond.fieldLink RX11 13 "SaltwedgeModel" "turn" "[I", Cond.fieldLink RX11 17 "SaltwedgeModel" "surge" "[I", Cond.fieldLink RX11 20 "SaltwedgeModel" "was" "[I", Cond.fieldLink RX11 23 "SaltwedgeModel" "mark" "I", Cond.fieldLink RX11 26 "SaltwedgeModel" "first" "[I", Cond.fieldLink RX11 29 "SaltwedgeModel" "latest" "[I", Cond.fieldLink RX11 32 "SaltwedgeModel" "isRight" "[Z", Cond.fieldLink RX11 36 "SaltwedgeModel" "area" "[I", Cond.fieldLink RX11 39 "SaltwedgeModel" "mud" "[I", Cond.fieldLink RX11 42 "SaltwedgeModel" "cloud" "[I", Cond.fieldLink RX11 45 "SaltwedgeModel" "run" "[I", Cond.fieldLink RX11 48 "SaltwedgeModel" "permit" "[I", Cond.fieldLink RX11 51 "SaltwedgeModel" "water" "[I", Cond.fieldLink RX11 54 "SaltwedgeModel" "salt" "[I", Cond.fieldLink RX11 57 "SaltwedgeModel" "tasted" "[I", Cond.fieldLink RX11 60 "SaltwedgeModel" "intakeAt" "[I"]
def wsL_law0_r6 : List Cond := [Cond.fieldLink RX11 63 "SaltwedgeModel" "rate" "[I", Cond.fieldLink RX11 66 "SaltwedgeModel" "intakeGrain" "[I", Cond.fieldLink RX11 69 "SaltwedgeModel" "room" "[I", Cond.fieldLink RX11 72 "SaltwedgeModel" "use" "[I", Cond.fieldLink RX11 75 "SaltwedgeModel" "kept" "[I", Cond.fieldLink RX11 78 "SaltwedgeModel" "took" "[I", Cond.fieldLink RX11 81 "SaltwedgeModel" "lacking" "[I", Cond.fieldLink RX11 84 "SaltwedgeModel" "stops" "[I", Cond.fieldLink RX11 87 "SaltwedgeModel" "isStopped" "[Z", Cond.fieldLink RX11 90 "SaltwedgeModel" "oystersAt" "[I", Cond.fieldLink RX11 93 "SaltwedgeModel" "oysterGrain" "[I", Cond.fieldLink RX11 96 "SaltwedgeModel" "oysterHours" "[I", Cond.fieldLink RX11 99 "SaltwedgeModel" "sums" "[J", Cond.methodLink RL 89 yL_turn, Cond.static yL_turn, Cond.initialized RL, Cond.codeWith yL_turn cL_turn 7 (some .int) [(0, 14, 17, 13), (0, 14, 21, 15)], Cond.classLink RL 13 "java/lang/IllegalArgumentException", Cond.classLink RL 15 "java/lang/IllegalStateException", Cond.methodLink RL 7 yX10_turn, Cond.instanceMethod yX10_turn, Cond.selects RX10 yX10_turn yX10_turn, Cond.code yX10_turn cX10_turn 6 (some .int), Cond.classLink RX10 37 "java/lang/IllegalArgumentException"]
def wsL_law0_r7 : List Cond := [Cond.initialized "java/lang/IllegalArgumentException", Cond.classLink RX10 56 "java/lang/IllegalStateException", Cond.initialized "java/lang/IllegalStateException", Cond.fieldLink RX10 46 "Saltwedge$Mouth" "sea" "LSaltwedge$Sea;", Cond.fieldLink RX10 50 "Saltwedge$Sea" "turnCount" "I", Cond.methodLink RX10 33 yX10_within, Cond.static yX10_within, Cond.code yX10_within cX10_within 3 (some .boolean), Cond.methodLink RX10 61 yX10_tell, Cond.instanceMethod yX10_tell, Cond.selects RX10 yX10_tell yX10_tell, Cond.code yX10_tell cX10_tell 7 none, Cond.fieldLink RX10 70 "Saltwedge$Mouth" "now" "I", Cond.methodLink RX10 236 yX8_keep, Cond.instanceMethod yX8_keep, Cond.selects RX8 yX8_keep yX8_keep, Cond.code yX8_keep cX8_keep 9 none, Cond.fieldLink RX8 15 "Saltwedge$Told" "count" "I", Cond.methodLink RX10 186 yX3_hear, Cond.instanceMethod yX3_hear, Cond.selects RX3 yX3_hear yX3_hear, Cond.code yX3_hear cX3_hear 7 none, Cond.fieldLink RX3 67 "Saltwedge$Sea" "mean" "I", Cond.fieldLink RX3 54 "Saltwedge$Mouth" "riverWater" "I"]
def wsL_law0_r8 : List Cond := [Cond.fieldLink RX3 57 "Saltwedge$Mouth" "riverSilt" "I", Cond.fieldLink RX3 74 "Saltwedge$Barrier" "mark" "I", Cond.fieldLink RX3 77 "Saltwedge$Barrier" "lead" "I", Cond.methodLink RX3 63 yX5_addTurn, Cond.instanceMethod yX5_addTurn, Cond.selects RX5 yX5_addTurn yX5_addTurn, Cond.code yX5_addTurn cX5_addTurn 6 none, Cond.fieldLink RX5 33 "Saltwedge$Sea" "turnCount" "I", Cond.fieldLink RX5 39 "Saltwedge$Turn" "period" "I", Cond.fieldLink RX5 42 "Saltwedge$Turn" "rise" "I", Cond.fieldLink RX5 45 "Saltwedge$Turn" "range" "I", Cond.fieldLink RX5 48 "Saltwedge$Turn" "phase" "I", Cond.methodLink RX3 70 yX5_addSurge, Cond.instanceMethod yX5_addSurge, Cond.selects RX5 yX5_addSurge yX5_addSurge, Cond.code yX5_addSurge cX5_addSurge 5 none, Cond.fieldLink RX5 36 "Saltwedge$Sea" "surgeCount" "I", Cond.fieldLink RX5 51 "Saltwedge$Surge" "from" "I", Cond.fieldLink RX5 54 "Saltwedge$Surge" "to" "I", Cond.fieldLink RX5 57 "Saltwedge$Surge" "height" "I", Cond.methodLink RX3 80 yX3_addSection, Cond.instanceMethod yX3_addSection, Cond.selects RX3 yX3_addSection yX3_addSection, Cond.code yX3_addSection cX3_addSection 5 none]
def wsL_law0_r9 : List Cond := [Cond.fieldLink RX3 47 "Saltwedge$Mouth" "sectionCount" "I", Cond.methodLink RX3 94 yX6_begin, Cond.instanceMethod yX6_begin, Cond.selects RX6 yX6_begin yX6_begin, Cond.code yX6_begin cX6_begin 5 none, Cond.fieldLink RX6 29 "Saltwedge$Section" "mud" "I", Cond.fieldLink RX6 36 "Saltwedge$Section" "cloud" "I", Cond.fieldLink RX6 39 "Saltwedge$Section" "run" "I", Cond.fieldLink RX6 42 "Saltwedge$Section" "permit" "I", Cond.methodLink RX6 32 yX2_begin, Cond.instanceMethod yX2_begin, Cond.selects RX2 yX2_begin yX2_begin, Cond.code yX2_begin cX2_begin 2 none, Cond.fieldLink RX2 7 "Saltwedge$Layer" "water" "I", Cond.fieldLink RX2 13 "Saltwedge$Layer" "salt" "I", Cond.methodLink RX3 83 yX3_addIntake, Cond.instanceMethod yX3_addIntake, Cond.selects RX3 yX3_addIntake yX3_addIntake, Cond.code yX3_addIntake cX3_addIntake 6 none, Cond.fieldLink RX3 51 "Saltwedge$Mouth" "intakeCount" "I", Cond.methodLink RX3 96 yX1_begin, Cond.instanceMethod yX1_begin, Cond.selects RX1 yX1_begin yX1_begin, Cond.code yX1_begin cX1_begin 6 none]
def wsL_law0_r10 : List Cond := [Cond.fieldLink RX1 9 "Saltwedge$Intake" "section" "I", Cond.fieldLink RX1 15 "Saltwedge$Intake" "rate" "I", Cond.fieldLink RX1 18 "Saltwedge$Intake" "grain" "I", Cond.fieldLink RX1 21 "Saltwedge$Intake" "room" "I", Cond.fieldLink RX1 24 "Saltwedge$Intake" "use" "I", Cond.fieldLink RX1 27 "Saltwedge$Intake" "held" "I", Cond.fieldLink RX1 30 "Saltwedge$Intake" "taken" "I", Cond.fieldLink RX1 33 "Saltwedge$Intake" "lacking" "I", Cond.fieldLink RX1 36 "Saltwedge$Intake" "stoppedHours" "I", Cond.fieldLink RX1 39 "Saltwedge$Intake" "stopped" "Z", Cond.methodLink RX3 87 yX3_setPermit, Cond.instanceMethod yX3_setPermit, Cond.selects RX3 yX3_setPermit yX3_setPermit, Cond.code yX3_setPermit cX3_setPermit 3 none, Cond.fieldLink RX3 102 "Saltwedge$Section" "permit" "I", Cond.methodLink RX3 98 yX3_hasSection, Cond.instanceMethod yX3_hasSection, Cond.selects RX3 yX3_hasSection yX3_hasSection, Cond.code yX3_hasSection cX3_hasSection 2 (some .boolean), Cond.methodLink RX3 91 yX3_moveMud, Cond.instanceMethod yX3_moveMud, Cond.selects RX3 yX3_moveMud yX3_moveMud, Cond.code yX3_moveMud cX3_moveMud 4 none, Cond.fieldLink RX3 105 "Saltwedge$Section" "mud" "I"]
def wsL_law0_r11 : List Cond := [Cond.fieldLink RX3 108 "Saltwedge$Section" "cloud" "I", Cond.methodLink RL 94 yX11_turn, Cond.instanceMethod yX11_turn, Cond.selects RX11 yX11_turn yX11_turn, Cond.code yX11_turn cX11_turn 6 (some .int), Cond.fieldLink RX11 113 "SaltwedgeModel" "turns" "I", Cond.methodLink RX11 109 yX11_isIn, Cond.static yX11_isIn, Cond.code yX11_isIn cX11_isIn 3 (some .boolean), Cond.methodLink RX11 116 yX11_holds, Cond.instanceMethod yX11_holds, Cond.selects RX11 yX11_holds yX11_holds, Cond.code yX11_holds cX11_holds 2 (some .boolean), Cond.fieldLink RX11 103 "SaltwedgeModel" "thrown" "I", Cond.methodLink RL 95 yX11_thrown, Cond.instanceMethod yX11_thrown, Cond.selects RX11 yX11_thrown yX11_thrown, Cond.code yX11_thrown cX11_thrown 1 (some .int), Cond.methodLink RL 99 yL_mean, Cond.static yL_mean, Cond.codeWith yL_mean cL_mean 4 (some .int) [(0, 9, 12, 13)], Cond.methodLink RL 17 yX10_mean, Cond.instanceMethod yX10_mean, Cond.selects RX10 yX10_mean yX10_mean]
def wsL_law0_r12 : List Cond := [Cond.code yX10_mean cX10_mean 3 (some .int), Cond.fieldLink RX10 67 "Saltwedge$Sea" "mean" "I", Cond.methodLink RL 102 yX11_mean, Cond.instanceMethod yX11_mean, Cond.selects RX11 yX11_mean yX11_mean, Cond.code yX11_mean cX11_mean 3 (some .int), Cond.methodLink RL 103 yL_surge, Cond.static yL_surge, Cond.codeWith yL_surge cL_surge 6 (some .int) [(0, 12, 15, 13), (0, 12, 19, 15)], Cond.methodLink RL 21 yX10_surge, Cond.instanceMethod yX10_surge, Cond.selects RX10 yX10_surge yX10_surge, Cond.code yX10_surge cX10_surge 4 (some .int), Cond.fieldLink RX10 75 "Saltwedge$Sea" "surgeCount" "I", Cond.methodLink RL 106 yX11_surge, Cond.instanceMethod yX11_surge, Cond.selects RX11 yX11_surge yX11_surge, Cond.code yX11_surge cX11_surge 5 (some .int), Cond.fieldLink RX11 120 "SaltwedgeModel" "now" "I", Cond.fieldLink RX11 123 "SaltwedgeModel" "surges" "I", Cond.methodLink RL 107 yL_river, Cond.static yL_river, Cond.codeWith yL_river cL_river 5 (some .int) [(0, 10, 13, 13)], Cond.methodLink RL 25 yX10_river]
def wsL_law0_r13 : List Cond := [Cond.instanceMethod yX10_river, Cond.selects RX10 yX10_river yX10_river, Cond.code yX10_river cX10_river 4 (some .int), Cond.fieldLink RX10 82 "Saltwedge$Mouth" "riverWater" "I", Cond.methodLink RL 110 yX11_river, Cond.instanceMethod yX11_river, Cond.selects RX11 yX11_river yX11_river, Cond.code yX11_river cX11_river 4 (some .int), Cond.fieldLink RX11 126 "SaltwedgeModel" "riverWater" "I", Cond.fieldLink RX11 129 "SaltwedgeModel" "riverSilt" "I", Cond.methodLink RL 111 yL_barrier, Cond.static yL_barrier, Cond.codeWith yL_barrier cL_barrier 5 (some .int) [(0, 10, 13, 13)], Cond.methodLink RL 29 yX10_barrier, Cond.instanceMethod yX10_barrier, Cond.selects RX10 yX10_barrier yX10_barrier, Cond.code yX10_barrier cX10_barrier 4 (some .int), Cond.fieldLink RX10 87 "Saltwedge$Mouth" "barrier" "LSaltwedge$Barrier;", Cond.fieldLink RX10 91 "Saltwedge$Barrier" "mark" "I", Cond.methodLink RL 113 yX11_barrier, Cond.instanceMethod yX11_barrier, Cond.selects RX11 yX11_barrier yX11_barrier, Cond.code yX11_barrier cX11_barrier 4 (some .int), Cond.fieldLink RX11 132 "SaltwedgeModel" "lead" "I"]
def wsL_law0_r14 : List Cond := [Cond.methodLink RL 114 yL_section, Cond.static yL_section, Cond.codeWith yL_section cL_section 7 (some .int) [(0, 14, 17, 13), (0, 14, 21, 15)], Cond.methodLink RL 32 yX10_section, Cond.instanceMethod yX10_section, Cond.selects RX10 yX10_section yX10_section, Cond.code yX10_section cX10_section 6 (some .int), Cond.fieldLink RX10 100 "Saltwedge$Mouth" "sectionCount" "I", Cond.methodLink RL 116 yX11_section, Cond.instanceMethod yX11_section, Cond.selects RX11 yX11_section yX11_section, Cond.code yX11_section cX11_section 6 (some .int), Cond.fieldLink RX11 106 "SaltwedgeModel" "sections" "I", Cond.methodLink RL 117 yL_intake, Cond.static yL_intake, Cond.codeWith yL_intake cL_intake 8 (some .int) [(0, 16, 19, 39), (0, 16, 23, 13), (0, 16, 27, 15)], Cond.classLink RL 39 "java/lang/IndexOutOfBoundsException", Cond.methodLink RL 35 yX10_intake, Cond.instanceMethod yX10_intake, Cond.selects RX10 yX10_intake yX10_intake, Cond.code yX10_intake cX10_intake 7 (some .int), Cond.classLink RX10 109 "java/lang/IndexOutOfBoundsException", Cond.initialized "java/lang/IndexOutOfBoundsException", Cond.fieldLink RX10 118 "Saltwedge$Mouth" "intakeCount" "I"]
def wsL_law0_r15 : List Cond := [Cond.methodLink RX10 105 yX3_hasSection, Cond.methodLink RL 120 yX11_intake, Cond.instanceMethod yX11_intake, Cond.selects RX11 yX11_intake yX11_intake, Cond.code yX11_intake cX11_intake 7 (some .int), Cond.fieldLink RX11 142 "SaltwedgeModel" "intakes" "I", Cond.methodLink RX11 139 yX11_isSection, Cond.instanceMethod yX11_isSection, Cond.selects RX11 yX11_isSection yX11_isSection, Cond.code yX11_isSection cX11_isSection 2 (some .boolean), Cond.methodLink RL 121 yL_oysters, Cond.static yL_oysters, Cond.codeWith yL_oysters cL_oysters 6 (some .int) [(0, 12, 15, 39), (0, 12, 19, 13), (0, 12, 23, 15)], Cond.methodLink RL 41 yX10_oysters, Cond.instanceMethod yX10_oysters, Cond.selects RX10 yX10_oysters yX10_oysters, Cond.code yX10_oysters cX10_oysters 5 (some .int), Cond.fieldLink RX10 125 "Saltwedge" "oysterCount" "I", Cond.fieldLink RX10 130 "Saltwedge$Oysters" "section" "I", Cond.fieldLink RX10 133 "Saltwedge$Oysters" "grain" "I", Cond.fieldLink RX10 136 "Saltwedge$Oysters" "hours" "I", Cond.methodLink RL 123 yX11_oysters, Cond.instanceMethod yX11_oysters, Cond.selects RX11 yX11_oysters yX11_oysters]
def wsL_law0_r16 : List Cond := [Cond.code yX11_oysters cX11_oysters 5 (some .int), Cond.fieldLink RX11 145 "SaltwedgeModel" "oysters" "I", Cond.methodLink RL 124 yL_permit, Cond.static yL_permit, Cond.codeWith yL_permit cL_permit 5 (some .int) [(0, 10, 13, 39), (0, 10, 17, 13)], Cond.methodLink RL 44 yX10_permit, Cond.instanceMethod yX10_permit, Cond.selects RX10 yX10_permit yX10_permit, Cond.code yX10_permit cX10_permit 4 (some .int), Cond.fieldLink RX10 141 "Saltwedge$Mouth" "sections" "[LSaltwedge$Section;", Cond.fieldLink RX10 145 "Saltwedge$Section" "permit" "I", Cond.methodLink RL 126 yX11_permit, Cond.instanceMethod yX11_permit, Cond.selects RX11 yX11_permit yX11_permit, Cond.code yX11_permit cX11_permit 4 (some .int), Cond.methodLink RL 127 yL_whyNot, Cond.static yL_whyNot, Cond.codeWith yL_whyNot cL_whyNot 5 (some .int) [(0, 10, 13, 39), (0, 10, 17, 13)], Cond.methodLink RL 47 yX10_whyNot, Cond.instanceMethod yX10_whyNot, Cond.selects RX10 yX10_whyNot yX10_whyNot, Cond.code yX10_whyNot cX10_whyNot 3 (some .int), Cond.methodLink RX10 150 yX6_refusal, Cond.instanceMethod yX6_refusal]
def wsL_law0_r17 : List Cond := [Cond.selects RX6 yX6_refusal yX6_refusal, Cond.code yX6_refusal cX6_refusal 2 (some .int), Cond.methodLink RL 129 yX11_whyNot, Cond.instanceMethod yX11_whyNot, Cond.selects RX11 yX11_whyNot yX11_whyNot, Cond.code yX11_whyNot cX11_whyNot 3 (some .int), Cond.methodLink RX11 148 yX11_why, Cond.instanceMethod yX11_why, Cond.selects RX11 yX11_why yX11_why, Cond.code yX11_why cX11_why 3 (some .int), Cond.methodLink RL 130 yL_dredge, Cond.static yL_dredge, Cond.codeWith yL_dredge cL_dredge 6 (some .int) [(0, 12, 15, 39), (0, 12, 19, 13), (0, 12, 23, 15)], Cond.methodLink RL 50 yX10_dredge, Cond.instanceMethod yX10_dredge, Cond.selects RX10 yX10_dredge yX10_dredge, Cond.code yX10_dredge cX10_dredge 4 (some .int), Cond.methodLink RL 132 yX11_dredge, Cond.instanceMethod yX11_dredge, Cond.selects RX11 yX11_dredge yX11_dredge, Cond.code yX11_dredge cX11_dredge 5 (some .int), Cond.methodLink RL 133 yL_pass, Cond.static yL_pass, Cond.codeWith yL_pass cL_pass 4 (some .int) [(0, 9, 12, 13), (0, 9, 15, 15)]]
def wsL_law0_r18 : List Cond := [Cond.methodLink RL 53 yX10_pass, Cond.instanceMethod yX10_pass, Cond.selects RX10 yX10_pass yX10_pass, Cond.code yX10_pass cX10_pass 2 (some .int), Cond.methodLink RX10 162 yX3_goOnTo, Cond.instanceMethod yX3_goOnTo, Cond.selects RX3 yX3_goOnTo yX3_goOnTo, Cond.code yX3_goOnTo cX3_goOnTo 3 none, Cond.methodLink RX3 119 Lib.Math.min.name, Cond.static Lib.Math.min.name, Cond.initialized "java/lang/Math", Cond.code Lib.Math.min.name Lib.Math.min.code 2 (some .int), Cond.fieldLink RX3 60 "Saltwedge$Mouth" "now" "I", Cond.methodLink RX3 125 yX3_letHourGoBy, Cond.instanceMethod yX3_letHourGoBy, Cond.selects RX3 yX3_letHourGoBy yX3_letHourGoBy, Cond.code yX3_letHourGoBy cX3_letHourGoBy 3 none, Cond.fieldLink RX3 128 "Saltwedge$Section" "run" "I", Cond.fieldLink RX3 135 "Saltwedge$Barrier" "closed" "Z", Cond.methodLink RX3 115 yX5_foretold, Cond.instanceMethod yX5_foretold, Cond.selects RX5 yX5_foretold yX5_foretold, Cond.code yX5_foretold cX5_foretold 4 (some .int), Cond.methodLink RX5 60 yX9_height]
def wsL_law0_r19 : List Cond := [Cond.instanceMethod yX9_height, Cond.selects RX9 yX9_height yX9_height, Cond.code yX9_height cX9_height 3 (some .int), Cond.fieldLink RX9 7 "Saltwedge$Turn" "rise" "I", Cond.fieldLink RX9 13 "Saltwedge$Turn" "period" "I", Cond.fieldLink RX9 16 "Saltwedge$Turn" "phase" "I", Cond.fieldLink RX9 19 "Saltwedge$Turn" "range" "I", Cond.methodLink RX3 131 yX0_look, Cond.instanceMethod yX0_look, Cond.selects RX0 yX0_look yX0_look, Cond.code yX0_look cX0_look 5 none, Cond.fieldLink RX0 32 "Saltwedge$Barrier" "closed" "Z", Cond.fieldLink RX0 29 "Saltwedge$Barrier" "lead" "I", Cond.fieldLink RX0 26 "Saltwedge$Barrier" "closureCount" "I", Cond.methodLink RX0 36 yX5_foretoldAbove, Cond.instanceMethod yX5_foretoldAbove, Cond.selects RX5 yX5_foretoldAbove yX5_foretoldAbove, Cond.code yX5_foretoldAbove cX5_foretoldAbove 5 (some .boolean), Cond.methodLink RX5 63 yX5_foretold, Cond.methodLink RX0 42 yX5_foretold, Cond.methodLink RX3 139 yX3_meetSea, Cond.instanceMethod yX3_meetSea, Cond.selects RX3 yX3_meetSea yX3_meetSea, Cond.code yX3_meetSea cX3_meetSea 5 none]
def wsL_law0_r20 : List Cond := [Cond.fieldLink RX3 173 "Saltwedge$Section" "area" "I", Cond.fieldLink RX3 176 "Saltwedge$Section" "low" "LSaltwedge$Layer;", Cond.fieldLink RX3 185 "Saltwedge$Section" "up" "LSaltwedge$Layer;", Cond.fieldLink RX3 188 "Saltwedge$Layer" "water" "I", Cond.methodLink RX3 170 yX6_level, Cond.instanceMethod yX6_level, Cond.selects RX6 yX6_level yX6_level, Cond.code yX6_level cX6_level 1 (some .int), Cond.fieldLink RX6 49 "Saltwedge$Layer" "water" "I", Cond.methodLink RX6 45 yX6_bed, Cond.instanceMethod yX6_bed, Cond.selects RX6 yX6_bed yX6_bed, Cond.code yX6_bed cX6_bed 1 (some .int), Cond.methodLink RX3 180 yX2_takeIn, Cond.instanceMethod yX2_takeIn, Cond.selects RX2 yX2_takeIn yX2_takeIn, Cond.code yX2_takeIn cX2_takeIn 3 none, Cond.methodLink RX3 191 yX6_giveCloud, Cond.instanceMethod yX6_giveCloud, Cond.selects RX6 yX6_giveCloud yX6_giveCloud, Cond.code yX6_giveCloud cX6_giveCloud 3 (some .int), Cond.static yX10_goesWith, Cond.code yX10_goesWith cX10_goesWith 3 (some .int), Cond.methodLink RX3 194 yX2_giveOut]
def wsL_law0_r21 : List Cond := [Cond.instanceMethod yX2_giveOut, Cond.selects RX2 yX2_giveOut yX2_giveOut, Cond.code yX2_giveOut cX2_giveOut 3 (some .int), Cond.methodLink RX3 143 yX3_meetRiver, Cond.instanceMethod yX3_meetRiver, Cond.selects RX3 yX3_meetRiver yX3_meetRiver, Cond.code yX3_meetRiver cX3_meetRiver 2 none, Cond.methodLink RX3 147 yX3_level, Cond.instanceMethod yX3_level, Cond.selects RX3 yX3_level yX3_level, Cond.code yX3_level cX3_level 6 none, Cond.methodLink RX3 197 yX3_flowInLow, Cond.instanceMethod yX3_flowInLow, Cond.selects RX3 yX3_flowInLow yX3_flowInLow, Cond.code yX3_flowInLow cX3_flowInLow 5 none, Cond.methodLink RX3 201 yX3_flowInUp, Cond.instanceMethod yX3_flowInUp, Cond.selects RX3 yX3_flowInUp yX3_flowInUp, Cond.code yX3_flowInUp cX3_flowInUp 6 none, Cond.methodLink RX3 151 yX3_creep, Cond.instanceMethod yX3_creep, Cond.selects RX3 yX3_creep yX3_creep, Cond.code yX3_creep cX3_creep 4 none, Cond.methodLink RX3 204 yX2_salinity]
def wsL_law0_r22 : List Cond := [Cond.instanceMethod yX2_salinity, Cond.selects RX2 yX2_salinity yX2_salinity, Cond.code yX2_salinity cX2_salinity 1 (some .int), Cond.methodLink RX3 154 yX6_mix, Cond.instanceMethod yX6_mix, Cond.selects RX6 yX6_mix yX6_mix, Cond.code yX6_mix cX6_mix 3 none, Cond.methodLink RX6 56 Lib.Math.min.name, Cond.fieldLink RX6 66 "Saltwedge$Layer" "salt" "I", Cond.methodLink RX6 62 yX2_saltWith, Cond.instanceMethod yX2_saltWith, Cond.selects RX2 yX2_saltWith yX2_saltWith, Cond.code yX2_saltWith cX2_saltWith 2 (some .int), Cond.methodLink RX3 157 yX6_settleOrLift, Cond.instanceMethod yX6_settleOrLift, Cond.selects RX6 yX6_settleOrLift yX6_settleOrLift, Cond.code yX6_settleOrLift cX6_settleOrLift 2 none, Cond.methodLink RX3 160 yX3_serveIntakes, Cond.instanceMethod yX3_serveIntakes, Cond.selects RX3 yX3_serveIntakes yX3_serveIntakes, Cond.code yX3_serveIntakes cX3_serveIntakes 3 none, Cond.fieldLink RX3 207 "Saltwedge$Intake" "section" "I", Cond.methodLink RX3 210 yX1_take, Cond.instanceMethod yX1_take]
def wsL_law0_r23 : List Cond := [Cond.selects RX1 yX1_take yX1_take, Cond.code yX1_take cX1_take 5 none, Cond.fieldLink RX1 43 "Saltwedge$Layer" "water" "I", Cond.methodLink RX1 52 Lib.Math.min.name, Cond.methodLink RX1 48 yX2_salinity, Cond.methodLink RX1 58 yX2_giveOut, Cond.methodLink RX3 214 yX1_supply, Cond.instanceMethod yX1_supply, Cond.selects RX1 yX1_supply yX1_supply, Cond.code yX1_supply cX1_supply 2 none, Cond.methodLink RX3 163 yX6_endHour, Cond.instanceMethod yX6_endHour, Cond.selects RX6 yX6_endHour yX6_endHour, Cond.code yX6_endHour cX6_endHour 2 none, Cond.methodLink RX6 69 yJ9_floorMod_7cf53, Cond.static yJ9_floorMod_7cf53, Cond.initialized RJ9, Cond.code yJ9_floorMod_7cf53 cJ9_floorMod_7cf53 3 (some .int), Cond.methodLink RX6 72 yX2_salinity, Cond.methodLink RX3 167 yX5_keep, Cond.instanceMethod yX5_keep, Cond.selects RX5 yX5_keep yX5_keep, Cond.code yX5_keep cX5_keep 3 none, Cond.methodLink RL 135 yX11_pass]
def wsL_law0_r24 : List Cond := [Cond.instanceMethod yX11_pass, Cond.selects RX11 yX11_pass yX11_pass, Cond.code yX11_pass cX11_pass 3 (some .int), Cond.methodLink RX11 208 yX11_hour, Cond.instanceMethod yX11_hour, Cond.selects RX11 yX11_hour yX11_hour, Cond.code yX11_hour cX11_hour 4 none, Cond.methodLink RX11 169 yX11_seaOf, Cond.instanceMethod yX11_seaOf, Cond.selects RX11 yX11_seaOf yX11_seaOf, Cond.code yX11_seaOf cX11_seaOf 4 (some .int), Cond.methodLink RX11 135 yX11_heightOf, Cond.instanceMethod yX11_heightOf, Cond.selects RX11 yX11_heightOf yX11_heightOf, Cond.code yX11_heightOf cX11_heightOf 7 (some .int), Cond.methodLink RX11 185 yX11_isShutNow, Cond.instanceMethod yX11_isShutNow, Cond.selects RX11 yX11_isShutNow yX11_isShutNow, Cond.code yX11_isShutNow cX11_isShutNow 3 (some .boolean), Cond.methodLink RX11 189 yX11_closes, Cond.instanceMethod yX11_closes, Cond.selects RX11 yX11_closes yX11_closes, Cond.code yX11_closes cX11_closes 3 none, Cond.fieldLink RX11 172 "SaltwedgeModel" "closures" "I"]
def wsL_law0_r25 : List Cond := [Cond.methodLink RX11 193 yX11_mouth, Cond.instanceMethod yX11_mouth, Cond.selects RX11 yX11_mouth yX11_mouth, Cond.code yX11_mouth cX11_mouth 4 none, Cond.fieldLink RX11 159 "SaltwedgeModel" "saltGone" "I", Cond.fieldLink RX11 162 "SaltwedgeModel" "cloudGone" "I", Cond.methodLink RX11 175 yX11_level, Cond.instanceMethod yX11_level, Cond.selects RX11 yX11_level yX11_level, Cond.code yX11_level cX11_level 2 (some .int), Cond.methodLink RX11 151 yX11_bed, Cond.instanceMethod yX11_bed, Cond.selects RX11 yX11_bed yX11_bed, Cond.code yX11_bed cX11_bed 2 (some .int), Cond.methodLink RX11 165 yX11_leaves, Cond.instanceMethod yX11_leaves, Cond.selects RX11 yX11_leaves yX11_leaves, Cond.code yX11_leaves cX11_leaves 5 none, Cond.methodLink RX11 155 yX11_share, Cond.static yX11_share, Cond.code yX11_share cX11_share 3 (some .int), Cond.methodLink RX11 196 yX11_neighbours, Cond.instanceMethod yX11_neighbours, Cond.selects RX11 yX11_neighbours yX11_neighbours]
def wsL_law0_r26 : List Cond := [Cond.code yX11_neighbours cX11_neighbours 7 none, Cond.methodLink RX11 178 yX11_flows, Cond.instanceMethod yX11_flows, Cond.selects RX11 yX11_flows yX11_flows, Cond.code yX11_flows cX11_flows 5 none, Cond.methodLink RX11 182 yX11_salinity, Cond.instanceMethod yX11_salinity, Cond.selects RX11 yX11_salinity yX11_salinity, Cond.code yX11_salinity cX11_salinity 4 (some .int), Cond.methodLink RX11 199 yX11_mixes, Cond.instanceMethod yX11_mixes, Cond.selects RX11 yX11_mixes yX11_mixes, Cond.code yX11_mixes cX11_mixes 4 none, Cond.methodLink RX11 202 yX11_settles, Cond.instanceMethod yX11_settles, Cond.selects RX11 yX11_settles yX11_settles, Cond.code yX11_settles cX11_settles 3 none, Cond.methodLink RX11 205 yX11_drinks, Cond.instanceMethod yX11_drinks, Cond.selects RX11 yX11_drinks yX11_drinks, Cond.code yX11_drinks cX11_drinks 5 none, Cond.methodLink RL 136 yX10_now, Cond.instanceMethod yX10_now, Cond.selects RX10 yX10_now yX10_now]
def wsL_law0_r27 : List Cond := [Cond.code yX10_now cX10_now 1 (some .int), Cond.methodLink RL 139 yX11_now, Cond.instanceMethod yX11_now, Cond.selects RX11 yX11_now yX11_now, Cond.code yX11_now cX11_now 1 (some .int), Cond.methodLink RL 140 yL_sea, Cond.static yL_sea, Cond.codeWith yL_sea cL_sea 4 (some .int) [(0, 9, 12, 13)], Cond.methodLink RL 56 yX10_sea, Cond.instanceMethod yX10_sea, Cond.selects RX10 yX10_sea yX10_sea, Cond.code yX10_sea cX10_sea 2 (some .int), Cond.methodLink RX10 168 yX3_seaOf, Cond.instanceMethod yX3_seaOf, Cond.selects RX3 yX3_seaOf yX3_seaOf, Cond.code yX3_seaOf cX3_seaOf 2 (some .int), Cond.fieldLink RX3 111 "Saltwedge$Sea" "past" "[I", Cond.methodLink RL 142 yX11_sea, Cond.instanceMethod yX11_sea, Cond.selects RX11 yX11_sea yX11_sea, Cond.code yX11_sea cX11_sea 2 (some .int), Cond.methodLink RL 143 yL_ofSection, Cond.static yL_ofSection, Cond.codeWith yL_ofSection cL_ofSection 5 (some .int) [(0, 10, 13, 39), (0, 10, 17, 13)]]
def wsL_law0_r28 : List Cond := [Cond.methodLink RL 59 yX10_ofSection, Cond.instanceMethod yX10_ofSection, Cond.selects RX10 yX10_ofSection yX10_ofSection, Cond.code yX10_ofSection cX10_ofSection 3 (some .int), Cond.methodLink RX10 173 yX6_answer, Cond.instanceMethod yX6_answer, Cond.selects RX6 yX6_answer yX6_answer, Cond.code yX6_answer cX6_answer 2 (some .int), Cond.methodLink RX6 78 yX6_level, Cond.methodLink RL 145 yX11_ofSection, Cond.instanceMethod yX11_ofSection, Cond.selects RX11 yX11_ofSection yX11_ofSection, Cond.code yX11_ofSection cX11_ofSection 4 (some .int), Cond.methodLink RL 146 yL_ofSectionAnew, Cond.static yL_ofSectionAnew, Cond.codeWith yL_ofSectionAnew cL_ofSectionAnew 5 (some .int) [(0, 10, 13, 39), (0, 10, 17, 13)], Cond.methodLink RL 62 yX10_ofSectionAnew, Cond.instanceMethod yX10_ofSectionAnew, Cond.selects RX10 yX10_ofSectionAnew yX10_ofSectionAnew, Cond.code yX10_ofSectionAnew cX10_ofSectionAnew 4 (some .int), Cond.fieldLink RX10 179 "Saltwedge$Told" "count" "I", Cond.methodLink RX10 176 yX3_begin, Cond.instanceMethod yX3_begin, Cond.selects RX3 yX3_begin yX3_begin]
def wsL_law0_r29 : List Cond := [Cond.code yX3_begin cX3_begin 2 none, Cond.methodLink RX3 43 yX5_begin, Cond.instanceMethod yX5_begin, Cond.selects RX5 yX5_begin yX5_begin, Cond.code yX5_begin cX5_begin 1 none, Cond.methodLink RX3 46 yX0_begin, Cond.instanceMethod yX0_begin, Cond.selects RX0 yX0_begin yX0_begin, Cond.code yX0_begin cX0_begin 1 none, Cond.methodLink RX10 182 yX8_part, Cond.instanceMethod yX8_part, Cond.selects RX8 yX8_part yX8_part, Cond.code yX8_part cX8_part 4 (some .int), Cond.methodLink RL 148 yX11_ofSectionAnew, Cond.instanceMethod yX11_ofSectionAnew, Cond.selects RX11 yX11_ofSectionAnew yX11_ofSectionAnew, Cond.code yX11_ofSectionAnew cX11_ofSectionAnew 3 (some .int), Cond.methodLink RX11 211 yX11_ofSection, Cond.methodLink RL 149 yL_ofIntake, Cond.static yL_ofIntake, Cond.codeWith yL_ofIntake cL_ofIntake 5 (some .int) [(0, 10, 13, 39), (0, 10, 17, 13)], Cond.methodLink RL 65 yX10_ofIntake, Cond.instanceMethod yX10_ofIntake, Cond.selects RX10 yX10_ofIntake yX10_ofIntake]
def wsL_law0_r30 : List Cond := [Cond.code yX10_ofIntake cX10_ofIntake 3 (some .int), Cond.fieldLink RX10 191 "Saltwedge$Mouth" "intakes" "[LSaltwedge$Intake;", Cond.methodLink RX10 195 yX1_answer, Cond.instanceMethod yX1_answer, Cond.selects RX1 yX1_answer yX1_answer, Cond.code yX1_answer cX1_answer 2 (some .int), Cond.methodLink RL 151 yX11_ofIntake, Cond.instanceMethod yX11_ofIntake, Cond.selects RX11 yX11_ofIntake yX11_ofIntake, Cond.code yX11_ofIntake cX11_ofIntake 3 (some .int), Cond.methodLink RL 152 yL_isClosed, Cond.static yL_isClosed, Cond.codeWith yL_isClosed cL_isClosed 4 (some .int) [(0, 16, 19, 39)], Cond.methodLink RL 68 yX10_isClosed, Cond.instanceMethod yX10_isClosed, Cond.selects RX10 yX10_isClosed yX10_isClosed, Cond.code yX10_isClosed cX10_isClosed 3 (some .boolean), Cond.methodLink RX10 200 yX6_wasFresher, Cond.instanceMethod yX6_wasFresher, Cond.selects RX6 yX6_wasFresher yX6_wasFresher, Cond.code yX6_wasFresher cX6_wasFresher 5 (some .boolean), Cond.methodLink RX6 75 Lib.Math.max.name, Cond.static Lib.Math.max.name, Cond.code Lib.Math.max.name Lib.Math.max.code 2 (some .int)]
def wsL_law0_r31 : List Cond := [Cond.methodLink RL 154 yX11_isClosed, Cond.instanceMethod yX11_isClosed, Cond.selects RX11 yX11_isClosed yX11_isClosed, Cond.code yX11_isClosed cX11_isClosed 4 (some .boolean), Cond.methodLink RL 155 yX10_closures, Cond.instanceMethod yX10_closures, Cond.selects RX10 yX10_closures yX10_closures, Cond.code yX10_closures cX10_closures 1 (some .int), Cond.fieldLink RX10 203 "Saltwedge$Barrier" "closureCount" "I", Cond.methodLink RL 158 yX11_closures, Cond.instanceMethod yX11_closures, Cond.selects RX11 yX11_closures yX11_closures, Cond.code yX11_closures cX11_closures 1 (some .int), Cond.methodLink RL 159 yL_closure, Cond.static yL_closure, Cond.codeWith yL_closure cL_closure 5 (some .int) [(0, 10, 13, 39), (0, 10, 17, 13)], Cond.methodLink RL 72 yX10_closure, Cond.instanceMethod yX10_closure, Cond.selects RX10 yX10_closure yX10_closure, Cond.code yX10_closure cX10_closure 3 (some .int), Cond.methodLink RX10 208 yX0_answer, Cond.instanceMethod yX0_answer, Cond.selects RX0 yX0_answer yX0_answer, Cond.code yX0_answer cX0_answer 3 (some .int)]
def wsL_law0_r32 : List Cond := [Cond.methodLink RL 161 yX11_closure, Cond.instanceMethod yX11_closure, Cond.selects RX11 yX11_closure yX11_closure, Cond.code yX11_closure cX11_closure 3 (some .int), Cond.methodLink RL 162 yL_intrusion, Cond.static yL_intrusion, Cond.codeWith yL_intrusion cL_intrusion 4 (some .int) [(0, 9, 12, 13)], Cond.methodLink RL 75 yX10_intrusion, Cond.instanceMethod yX10_intrusion, Cond.selects RX10 yX10_intrusion yX10_intrusion, Cond.code yX10_intrusion cX10_intrusion 3 (some .int), Cond.fieldLink RX10 212 "Saltwedge$Section" "low" "LSaltwedge$Layer;", Cond.methodLink RX10 216 yX2_salinity, Cond.methodLink RL 164 yX11_intrusion, Cond.instanceMethod yX11_intrusion, Cond.selects RX11 yX11_intrusion yX11_intrusion, Cond.code yX11_intrusion cX11_intrusion 3 (some .int), Cond.methodLink RL 165 yL_window, Cond.static yL_window, Cond.codeWith yL_window cL_window 5 (some .int) [(0, 10, 13, 13), (0, 10, 17, 15)], Cond.methodLink RL 78 yX10_window, Cond.instanceMethod yX10_window, Cond.selects RX10 yX10_window yX10_window, Cond.code yX10_window cX10_window 3 (some .int)]
def wsL_law0_r33 : List Cond := [Cond.methodLink RX10 226 yX6_bed, Cond.methodLink RX10 229 yX3_firstHourAt, Cond.instanceMethod yX3_firstHourAt, Cond.selects RX3 yX3_firstHourAt yX3_firstHourAt, Cond.code yX3_firstHourAt cX3_firstHourAt 5 (some .int), Cond.methodLink RL 167 yX11_window, Cond.instanceMethod yX11_window, Cond.selects RX11 yX11_window yX11_window, Cond.code yX11_window cX11_window 6 (some .int), Cond.methodLink RL 168 yL_sum, Cond.static yL_sum, Cond.codeWith yL_sum cL_sum 4 (some .int) [(0, 8, 11, 13)], Cond.methodLink RL 81 yX10_sum, Cond.instanceMethod yX10_sum, Cond.selects RX10 yX10_sum yX10_sum, Cond.code yX10_sum cX10_sum 2 (some .long), Cond.fieldLink RX10 232 "Saltwedge$Mouth" "sums" "[J", Cond.methodLink RL 170 yX11_sum, Cond.instanceMethod yX11_sum, Cond.selects RX11 yX11_sum yX11_sum, Cond.code yX11_sum cX11_sum 2 (some .long)]
def wsL_law0 : List Cond := (wsL_law0_r1 ++ (wsL_law0_r2 ++ (wsL_law0_r3 ++ (wsL_law0_r4 ++ (wsL_law0_r5 ++ (wsL_law0_r6 ++ (wsL_law0_r7 ++ (wsL_law0_r8 ++ (wsL_law0_r9 ++ (wsL_law0_r10 ++ (wsL_law0_r11 ++ (wsL_law0_r12 ++ (wsL_law0_r13 ++ (wsL_law0_r14 ++ (wsL_law0_r15 ++ (wsL_law0_r16 ++ (wsL_law0_r17 ++ (wsL_law0_r18 ++ (wsL_law0_r19 ++ (wsL_law0_r20 ++ (wsL_law0_r21 ++ (wsL_law0_r22 ++ (wsL_law0_r23 ++ (wsL_law0_r24 ++ (wsL_law0_r25 ++ (wsL_law0_r26 ++ (wsL_law0_r27 ++ (wsL_law0_r28 ++ (wsL_law0_r29 ++ (wsL_law0_r30 ++ (wsL_law0_r31 ++ (wsL_law0_r32 ++ wsL_law0_r33)))))))))))))))))))))))))))))))) ++ wsX100 ++ wsX110 ++ wsX30 ++ wsX80 ++ wsX40 ++ wsX50 ++ wsX00 ++ wsX60 ++ wsX10 ++ wsX90 ++ wsX70 ++ wsX20 ++ ([] : List Cond)
def wsL_law : List Cond := wsL_law0 ++ (vx_atS RX10 41 "java/lang/IllegalArgumentException" ["java/lang/RuntimeException", "java/lang/Exception"]).filter goodWord ++ (vx_atS RX10 60 "java/lang/IllegalStateException" ["java/lang/RuntimeException", "java/lang/Exception"]).filter goodWord ++ (vx_atS RX10 113 "java/lang/IndexOutOfBoundsException" ["java/lang/RuntimeException", "java/lang/Exception"]).filter goodWord
theorem inlX0 : ∀ w ∈ wsX00, w ∈ wsL_law := fun _ h => List.mem_append_left _ (List.mem_append_left _ (List.mem_append_left _ (List.mem_append_left _ (List.mem_append_left _ (List.mem_append_left _ (List.mem_append_left _ (List.mem_append_left _ (List.mem_append_left _ (List.mem_append_right _ h)))))))))
theorem inlX1 : ∀ w ∈ wsX10, w ∈ wsL_law := fun _ h => List.mem_append_left _ (List.mem_append_left _ (List.mem_append_left _ (List.mem_append_left _ (List.mem_append_left _ (List.mem_append_left _ (List.mem_append_left _ (List.mem_append_right _ h)))))))
theorem inlX2 : ∀ w ∈ wsX20, w ∈ wsL_law := fun _ h => List.mem_append_left _ (List.mem_append_left _ (List.mem_append_left _ (List.mem_append_left _ (List.mem_append_right _ h))))
theorem inlX3 : ∀ w ∈ wsX30, w ∈ wsL_law := fun _ h => List.mem_append_left _ (List.mem_append_left _ (List.mem_append_left _ (List.mem_append_left _ (List.mem_append_left _ (List.mem_append_left _ (List.mem_append_left _ (List.mem_append_left _ (List.mem_append_left _ (List.mem_append_left _ (List.mem_append_left _ (List.mem_append_left _ (List.mem_append_left _ (List.mem_append_right _ h)))))))))))))
theorem inlX4 : ∀ w ∈ wsX40, w ∈ wsL_law := fun _ h => List.mem_append_left _ (List.mem_append_left _ (List.mem_append_left _ (List.mem_append_left _ (List.mem_append_left _ (List.mem_append_left _ (List.mem_append_left _ (List.mem_append_left _ (List.mem_append_left _ (List.mem_append_left _ (List.mem_append_left _ (List.mem_append_right _ h)))))))))))
theorem inlX5 : ∀ w ∈ wsX50, w ∈ wsL_law := fun _ h => List.mem_append_left _ (List.mem_append_left _ (List.mem_append_left _ (List.mem_append_left _ (List.mem_append_left _ (List.mem_append_left _ (List.mem_append_left _ (List.mem_append_left _ (List.mem_append_left _ (List.mem_append_left _ (List.mem_append_right _ h))))))))))
theorem inlX6 : ∀ w ∈ wsX60, w ∈ wsL_law := fun _ h => List.mem_append_left _ (List.mem_append_left _ (List.mem_append_left _ (List.mem_append_left _ (List.mem_append_left _ (List.mem_append_left _ (List.mem_append_left _ (List.mem_append_left _ (List.mem_append_right _ h))))))))
theorem inlX7 : ∀ w ∈ wsX70, w ∈ wsL_law := fun _ h => List.mem_append_left _ (List.mem_append_left _ (List.mem_append_left _ (List.mem_append_left _ (List.mem_append_left _ (List.mem_append_right _ h)))))
theorem inlX8 : ∀ w ∈ wsX80, w ∈ wsL_law := fun _ h => List.mem_append_left _ (List.mem_append_left _ (List.mem_append_left _ (List.mem_append_left _ (List.mem_append_left _ (List.mem_append_left _ (List.mem_append_left _ (List.mem_append_left _ (List.mem_append_left _ (List.mem_append_left _ (List.mem_append_left _ (List.mem_append_left _ (List.mem_append_right _ h))))))))))))
theorem inlX9 : ∀ w ∈ wsX90, w ∈ wsL_law := fun _ h => List.mem_append_left _ (List.mem_append_left _ (List.mem_append_left _ (List.mem_append_left _ (List.mem_append_left _ (List.mem_append_left _ (List.mem_append_right _ h))))))
theorem inlX10 : ∀ w ∈ wsX100, w ∈ wsL_law := fun _ h => List.mem_append_left _ (List.mem_append_left _ (List.mem_append_left _ (List.mem_append_left _ (List.mem_append_left _ (List.mem_append_left _ (List.mem_append_left _ (List.mem_append_left _ (List.mem_append_left _ (List.mem_append_left _ (List.mem_append_left _ (List.mem_append_left _ (List.mem_append_left _ (List.mem_append_left _ (List.mem_append_left _ (List.mem_append_right _ h)))))))))))))))
theorem inlX11 : ∀ w ∈ wsX110, w ∈ wsL_law := fun _ h => List.mem_append_left _ (List.mem_append_left _ (List.mem_append_left _ (List.mem_append_left _ (List.mem_append_left _ (List.mem_append_left _ (List.mem_append_left _ (List.mem_append_left _ (List.mem_append_left _ (List.mem_append_left _ (List.mem_append_left _ (List.mem_append_left _ (List.mem_append_left _ (List.mem_append_left _ (List.mem_append_right _ h))))))))))))))
abbrev vwCl : List vw_C := [(RX0, TX0, 7), (RX1, TX1, 10), (RX2, TX2, 2), (RX3, TX3, 10), (RX4, TX4, 3), (RX5, TX5, 6), (RX6, TX6, 8), (RX7, TX7, 3), (RX8, TX8, 2), (RX9, TX9, 4), (RX10, TX10, 5), (RX11, TX11, 43)]


theorem u_0in : ∀ w ∈ wsL_law0, w ∈ wsL_law := fun w h => List.mem_append_left _ (List.mem_append_left _ (List.mem_append_left _ h))
theorem u_r1 : ∀ w ∈ wsL_law0_r1, w ∈ wsL_law := fun w h => u_0in w (List.mem_append_left _ (List.mem_append_left _ (List.mem_append_left _ (List.mem_append_left _ (List.mem_append_left _ (List.mem_append_left _ (List.mem_append_left _ (List.mem_append_left _ (List.mem_append_left _ (List.mem_append_left _ (List.mem_append_left _ (List.mem_append_left _ (List.mem_append_left _ (List.mem_append_left _ h))))))))))))))
theorem u_r2 : ∀ w ∈ wsL_law0_r2, w ∈ wsL_law := fun w h => u_0in w (List.mem_append_left _ (List.mem_append_left _ (List.mem_append_left _ (List.mem_append_left _ (List.mem_append_left _ (List.mem_append_left _ (List.mem_append_left _ (List.mem_append_left _ (List.mem_append_left _ (List.mem_append_left _ (List.mem_append_left _ (List.mem_append_left _ (List.mem_append_left _ (List.mem_append_right _ (List.mem_append_left _ h)))))))))))))))
theorem u_r3 : ∀ w ∈ wsL_law0_r3, w ∈ wsL_law := fun w h => u_0in w (List.mem_append_left _ (List.mem_append_left _ (List.mem_append_left _ (List.mem_append_left _ (List.mem_append_left _ (List.mem_append_left _ (List.mem_append_left _ (List.mem_append_left _ (List.mem_append_left _ (List.mem_append_left _ (List.mem_append_left _ (List.mem_append_left _ (List.mem_append_left _ (List.mem_append_right _ (List.mem_append_right _ (List.mem_append_left _ h))))))))))))))))
theorem u_r4 : ∀ w ∈ wsL_law0_r4, w ∈ wsL_law := fun w h => u_0in w (List.mem_append_left _ (List.mem_append_left _ (List.mem_append_left _ (List.mem_append_left _ (List.mem_append_left _ (List.mem_append_left _ (List.mem_append_left _ (List.mem_append_left _ (List.mem_append_left _ (List.mem_append_left _ (List.mem_append_left _ (List.mem_append_left _ (List.mem_append_left _ (List.mem_append_right _ (List.mem_append_right _ (List.mem_append_right _ (List.mem_append_left _ h)))))))))))))))))
theorem u_r5 : ∀ w ∈ wsL_law0_r5, w ∈ wsL_law := fun w h => u_0in w (List.mem_append_left _ (List.mem_append_left _ (List.mem_append_left _ (List.mem_append_left _ (List.mem_append_left _ (List.mem_append_left _ (List.mem_append_left _ (List.mem_append_left _ (List.mem_append_left _ (List.mem_append_left _ (List.mem_append_left _ (List.mem_append_left _ (List.mem_append_left _ (List.mem_append_right _ (List.mem_append_right _ (List.mem_append_right _ (List.mem_append_right _ (List.mem_append_left _ h))))))))))))))))))
theorem u_r6 : ∀ w ∈ wsL_law0_r6, w ∈ wsL_law := fun w h => u_0in w (List.mem_append_left _ (List.mem_append_left _ (List.mem_append_left _ (List.mem_append_left _ (List.mem_append_left _ (List.mem_append_left _ (List.mem_append_left _ (List.mem_append_left _ (List.mem_append_left _ (List.mem_append_left _ (List.mem_append_left _ (List.mem_append_left _ (List.mem_append_left _ (List.mem_append_right _ (List.mem_append_right _ (List.mem_append_right _ (List.mem_append_right _ (List.mem_append_right _ (List.mem_append_left _ h)))))))))))))))))))
theorem u_r7 : ∀ w ∈ wsL_law0_r7, w ∈ wsL_law := fun w h => u_0in w (List.mem_append_left _ (List.mem_append_left _ (List.mem_append_left _ (List.mem_append_left _ (List.mem_append_left _ (List.mem_append_left _ (List.mem_append_left _ (List.mem_append_left _ (List.mem_append_left _ (List.mem_append_left _ (List.mem_append_left _ (List.mem_append_left _ (List.mem_append_left _ (List.mem_append_right _ (List.mem_append_right _ (List.mem_append_right _ (List.mem_append_right _ (List.mem_append_right _ (List.mem_append_right _ (List.mem_append_left _ h))))))))))))))))))))
theorem u_r8 : ∀ w ∈ wsL_law0_r8, w ∈ wsL_law := fun w h => u_0in w (List.mem_append_left _ (List.mem_append_left _ (List.mem_append_left _ (List.mem_append_left _ (List.mem_append_left _ (List.mem_append_left _ (List.mem_append_left _ (List.mem_append_left _ (List.mem_append_left _ (List.mem_append_left _ (List.mem_append_left _ (List.mem_append_left _ (List.mem_append_left _ (List.mem_append_right _ (List.mem_append_right _ (List.mem_append_right _ (List.mem_append_right _ (List.mem_append_right _ (List.mem_append_right _ (List.mem_append_right _ (List.mem_append_left _ h)))))))))))))))))))))
theorem u_r9 : ∀ w ∈ wsL_law0_r9, w ∈ wsL_law := fun w h => u_0in w (List.mem_append_left _ (List.mem_append_left _ (List.mem_append_left _ (List.mem_append_left _ (List.mem_append_left _ (List.mem_append_left _ (List.mem_append_left _ (List.mem_append_left _ (List.mem_append_left _ (List.mem_append_left _ (List.mem_append_left _ (List.mem_append_left _ (List.mem_append_left _ (List.mem_append_right _ (List.mem_append_right _ (List.mem_append_right _ (List.mem_append_right _ (List.mem_append_right _ (List.mem_append_right _ (List.mem_append_right _ (List.mem_append_right _ (List.mem_append_left _ h))))))))))))))))))))))
theorem u_r10 : ∀ w ∈ wsL_law0_r10, w ∈ wsL_law := fun w h => u_0in w (List.mem_append_left _ (List.mem_append_left _ (List.mem_append_left _ (List.mem_append_left _ (List.mem_append_left _ (List.mem_append_left _ (List.mem_append_left _ (List.mem_append_left _ (List.mem_append_left _ (List.mem_append_left _ (List.mem_append_left _ (List.mem_append_left _ (List.mem_append_left _ (List.mem_append_right _ (List.mem_append_right _ (List.mem_append_right _ (List.mem_append_right _ (List.mem_append_right _ (List.mem_append_right _ (List.mem_append_right _ (List.mem_append_right _ (List.mem_append_right _ (List.mem_append_left _ h)))))))))))))))))))))))
theorem u_r11 : ∀ w ∈ wsL_law0_r11, w ∈ wsL_law := fun w h => u_0in w (List.mem_append_left _ (List.mem_append_left _ (List.mem_append_left _ (List.mem_append_left _ (List.mem_append_left _ (List.mem_append_left _ (List.mem_append_left _ (List.mem_append_left _ (List.mem_append_left _ (List.mem_append_left _ (List.mem_append_left _ (List.mem_append_left _ (List.mem_append_left _ (List.mem_append_right _ (List.mem_append_right _ (List.mem_append_right _ (List.mem_append_right _ (List.mem_append_right _ (List.mem_append_right _ (List.mem_append_right _ (List.mem_append_right _ (List.mem_append_right _ (List.mem_append_right _ (List.mem_append_left _ h))))))))))))))))))))))))
theorem u_r12 : ∀ w ∈ wsL_law0_r12, w ∈ wsL_law := fun w h => u_0in w (List.mem_append_left _ (List.mem_append_left _ (List.mem_append_left _ (List.mem_append_left _ (List.mem_append_left _ (List.mem_append_left _ (List.mem_append_left _ (List.mem_append_left _ (List.mem_append_left _ (List.mem_append_left _ (List.mem_append_left _ (List.mem_append_left _ (List.mem_append_left _ (List.mem_append_right _ (List.mem_append_right _ (List.mem_append_right _ (List.mem_append_right _ (List.mem_append_right _ (List.mem_append_right _ (List.mem_append_right _ (List.mem_append_right _ (List.mem_append_right _ (List.mem_append_right _ (List.mem_append_right _ (List.mem_append_left _ h)))))))))))))))))))))))))
theorem u_r13 : ∀ w ∈ wsL_law0_r13, w ∈ wsL_law := fun w h => u_0in w (List.mem_append_left _ (List.mem_append_left _ (List.mem_append_left _ (List.mem_append_left _ (List.mem_append_left _ (List.mem_append_left _ (List.mem_append_left _ (List.mem_append_left _ (List.mem_append_left _ (List.mem_append_left _ (List.mem_append_left _ (List.mem_append_left _ (List.mem_append_left _ (List.mem_append_right _ (List.mem_append_right _ (List.mem_append_right _ (List.mem_append_right _ (List.mem_append_right _ (List.mem_append_right _ (List.mem_append_right _ (List.mem_append_right _ (List.mem_append_right _ (List.mem_append_right _ (List.mem_append_right _ (List.mem_append_right _ (List.mem_append_left _ h))))))))))))))))))))))))))
theorem u_r14 : ∀ w ∈ wsL_law0_r14, w ∈ wsL_law := fun w h => u_0in w (List.mem_append_left _ (List.mem_append_left _ (List.mem_append_left _ (List.mem_append_left _ (List.mem_append_left _ (List.mem_append_left _ (List.mem_append_left _ (List.mem_append_left _ (List.mem_append_left _ (List.mem_append_left _ (List.mem_append_left _ (List.mem_append_left _ (List.mem_append_left _ (List.mem_append_right _ (List.mem_append_right _ (List.mem_append_right _ (List.mem_append_right _ (List.mem_append_right _ (List.mem_append_right _ (List.mem_append_right _ (List.mem_append_right _ (List.mem_append_right _ (List.mem_append_right _ (List.mem_append_right _ (List.mem_append_right _ (List.mem_append_right _ (List.mem_append_left _ h)))))))))))))))))))))))))))
theorem u_r15 : ∀ w ∈ wsL_law0_r15, w ∈ wsL_law := fun w h => u_0in w (List.mem_append_left _ (List.mem_append_left _ (List.mem_append_left _ (List.mem_append_left _ (List.mem_append_left _ (List.mem_append_left _ (List.mem_append_left _ (List.mem_append_left _ (List.mem_append_left _ (List.mem_append_left _ (List.mem_append_left _ (List.mem_append_left _ (List.mem_append_left _ (List.mem_append_right _ (List.mem_append_right _ (List.mem_append_right _ (List.mem_append_right _ (List.mem_append_right _ (List.mem_append_right _ (List.mem_append_right _ (List.mem_append_right _ (List.mem_append_right _ (List.mem_append_right _ (List.mem_append_right _ (List.mem_append_right _ (List.mem_append_right _ (List.mem_append_right _ (List.mem_append_left _ h))))))))))))))))))))))))))))
theorem u_r16 : ∀ w ∈ wsL_law0_r16, w ∈ wsL_law := fun w h => u_0in w (List.mem_append_left _ (List.mem_append_left _ (List.mem_append_left _ (List.mem_append_left _ (List.mem_append_left _ (List.mem_append_left _ (List.mem_append_left _ (List.mem_append_left _ (List.mem_append_left _ (List.mem_append_left _ (List.mem_append_left _ (List.mem_append_left _ (List.mem_append_left _ (List.mem_append_right _ (List.mem_append_right _ (List.mem_append_right _ (List.mem_append_right _ (List.mem_append_right _ (List.mem_append_right _ (List.mem_append_right _ (List.mem_append_right _ (List.mem_append_right _ (List.mem_append_right _ (List.mem_append_right _ (List.mem_append_right _ (List.mem_append_right _ (List.mem_append_right _ (List.mem_append_right _ (List.mem_append_left _ h)))))))))))))))))))))))))))))
theorem u_r17 : ∀ w ∈ wsL_law0_r17, w ∈ wsL_law := fun w h => u_0in w (List.mem_append_left _ (List.mem_append_left _ (List.mem_append_left _ (List.mem_append_left _ (List.mem_append_left _ (List.mem_append_left _ (List.mem_append_left _ (List.mem_append_left _ (List.mem_append_left _ (List.mem_append_left _ (List.mem_append_left _ (List.mem_append_left _ (List.mem_append_left _ (List.mem_append_right _ (List.mem_append_right _ (List.mem_append_right _ (List.mem_append_right _ (List.mem_append_right _ (List.mem_append_right _ (List.mem_append_right _ (List.mem_append_right _ (List.mem_append_right _ (List.mem_append_right _ (List.mem_append_right _ (List.mem_append_right _ (List.mem_append_right _ (List.mem_append_right _ (List.mem_append_right _ (List.mem_append_right _ (List.mem_append_left _ h))))))))))))))))))))))))))))))
theorem u_r18 : ∀ w ∈ wsL_law0_r18, w ∈ wsL_law := fun w h => u_0in w (List.mem_append_left _ (List.mem_append_left _ (List.mem_append_left _ (List.mem_append_left _ (List.mem_append_left _ (List.mem_append_left _ (List.mem_append_left _ (List.mem_append_left _ (List.mem_append_left _ (List.mem_append_left _ (List.mem_append_left _ (List.mem_append_left _ (List.mem_append_left _ (List.mem_append_right _ (List.mem_append_right _ (List.mem_append_right _ (List.mem_append_right _ (List.mem_append_right _ (List.mem_append_right _ (List.mem_append_right _ (List.mem_append_right _ (List.mem_append_right _ (List.mem_append_right _ (List.mem_append_right _ (List.mem_append_right _ (List.mem_append_right _ (List.mem_append_right _ (List.mem_append_right _ (List.mem_append_right _ (List.mem_append_right _ (List.mem_append_left _ h)))))))))))))))))))))))))))))))
theorem u_r19 : ∀ w ∈ wsL_law0_r19, w ∈ wsL_law := fun w h => u_0in w (List.mem_append_left _ (List.mem_append_left _ (List.mem_append_left _ (List.mem_append_left _ (List.mem_append_left _ (List.mem_append_left _ (List.mem_append_left _ (List.mem_append_left _ (List.mem_append_left _ (List.mem_append_left _ (List.mem_append_left _ (List.mem_append_left _ (List.mem_append_left _ (List.mem_append_right _ (List.mem_append_right _ (List.mem_append_right _ (List.mem_append_right _ (List.mem_append_right _ (List.mem_append_right _ (List.mem_append_right _ (List.mem_append_right _ (List.mem_append_right _ (List.mem_append_right _ (List.mem_append_right _ (List.mem_append_right _ (List.mem_append_right _ (List.mem_append_right _ (List.mem_append_right _ (List.mem_append_right _ (List.mem_append_right _ (List.mem_append_right _ (List.mem_append_left _ h))))))))))))))))))))))))))))))))
theorem u_r20 : ∀ w ∈ wsL_law0_r20, w ∈ wsL_law := fun w h => u_0in w (List.mem_append_left _ (List.mem_append_left _ (List.mem_append_left _ (List.mem_append_left _ (List.mem_append_left _ (List.mem_append_left _ (List.mem_append_left _ (List.mem_append_left _ (List.mem_append_left _ (List.mem_append_left _ (List.mem_append_left _ (List.mem_append_left _ (List.mem_append_left _ (List.mem_append_right _ (List.mem_append_right _ (List.mem_append_right _ (List.mem_append_right _ (List.mem_append_right _ (List.mem_append_right _ (List.mem_append_right _ (List.mem_append_right _ (List.mem_append_right _ (List.mem_append_right _ (List.mem_append_right _ (List.mem_append_right _ (List.mem_append_right _ (List.mem_append_right _ (List.mem_append_right _ (List.mem_append_right _ (List.mem_append_right _ (List.mem_append_right _ (List.mem_append_right _ (List.mem_append_left _ h)))))))))))))))))))))))))))))))))
theorem u_r21 : ∀ w ∈ wsL_law0_r21, w ∈ wsL_law := fun w h => u_0in w (List.mem_append_left _ (List.mem_append_left _ (List.mem_append_left _ (List.mem_append_left _ (List.mem_append_left _ (List.mem_append_left _ (List.mem_append_left _ (List.mem_append_left _ (List.mem_append_left _ (List.mem_append_left _ (List.mem_append_left _ (List.mem_append_left _ (List.mem_append_left _ (List.mem_append_right _ (List.mem_append_right _ (List.mem_append_right _ (List.mem_append_right _ (List.mem_append_right _ (List.mem_append_right _ (List.mem_append_right _ (List.mem_append_right _ (List.mem_append_right _ (List.mem_append_right _ (List.mem_append_right _ (List.mem_append_right _ (List.mem_append_right _ (List.mem_append_right _ (List.mem_append_right _ (List.mem_append_right _ (List.mem_append_right _ (List.mem_append_right _ (List.mem_append_right _ (List.mem_append_right _ (List.mem_append_left _ h))))))))))))))))))))))))))))))))))
theorem u_r22 : ∀ w ∈ wsL_law0_r22, w ∈ wsL_law := fun w h => u_0in w (List.mem_append_left _ (List.mem_append_left _ (List.mem_append_left _ (List.mem_append_left _ (List.mem_append_left _ (List.mem_append_left _ (List.mem_append_left _ (List.mem_append_left _ (List.mem_append_left _ (List.mem_append_left _ (List.mem_append_left _ (List.mem_append_left _ (List.mem_append_left _ (List.mem_append_right _ (List.mem_append_right _ (List.mem_append_right _ (List.mem_append_right _ (List.mem_append_right _ (List.mem_append_right _ (List.mem_append_right _ (List.mem_append_right _ (List.mem_append_right _ (List.mem_append_right _ (List.mem_append_right _ (List.mem_append_right _ (List.mem_append_right _ (List.mem_append_right _ (List.mem_append_right _ (List.mem_append_right _ (List.mem_append_right _ (List.mem_append_right _ (List.mem_append_right _ (List.mem_append_right _ (List.mem_append_right _ (List.mem_append_left _ h)))))))))))))))))))))))))))))))))))
theorem u_r23 : ∀ w ∈ wsL_law0_r23, w ∈ wsL_law := fun w h => u_0in w (List.mem_append_left _ (List.mem_append_left _ (List.mem_append_left _ (List.mem_append_left _ (List.mem_append_left _ (List.mem_append_left _ (List.mem_append_left _ (List.mem_append_left _ (List.mem_append_left _ (List.mem_append_left _ (List.mem_append_left _ (List.mem_append_left _ (List.mem_append_left _ (List.mem_append_right _ (List.mem_append_right _ (List.mem_append_right _ (List.mem_append_right _ (List.mem_append_right _ (List.mem_append_right _ (List.mem_append_right _ (List.mem_append_right _ (List.mem_append_right _ (List.mem_append_right _ (List.mem_append_right _ (List.mem_append_right _ (List.mem_append_right _ (List.mem_append_right _ (List.mem_append_right _ (List.mem_append_right _ (List.mem_append_right _ (List.mem_append_right _ (List.mem_append_right _ (List.mem_append_right _ (List.mem_append_right _ (List.mem_append_right _ (List.mem_append_left _ h))))))))))))))))))))))))))))))))))))
theorem u_r24 : ∀ w ∈ wsL_law0_r24, w ∈ wsL_law := fun w h => u_0in w (List.mem_append_left _ (List.mem_append_left _ (List.mem_append_left _ (List.mem_append_left _ (List.mem_append_left _ (List.mem_append_left _ (List.mem_append_left _ (List.mem_append_left _ (List.mem_append_left _ (List.mem_append_left _ (List.mem_append_left _ (List.mem_append_left _ (List.mem_append_left _ (List.mem_append_right _ (List.mem_append_right _ (List.mem_append_right _ (List.mem_append_right _ (List.mem_append_right _ (List.mem_append_right _ (List.mem_append_right _ (List.mem_append_right _ (List.mem_append_right _ (List.mem_append_right _ (List.mem_append_right _ (List.mem_append_right _ (List.mem_append_right _ (List.mem_append_right _ (List.mem_append_right _ (List.mem_append_right _ (List.mem_append_right _ (List.mem_append_right _ (List.mem_append_right _ (List.mem_append_right _ (List.mem_append_right _ (List.mem_append_right _ (List.mem_append_right _ (List.mem_append_left _ h)))))))))))))))))))))))))))))))))))))
theorem u_r25 : ∀ w ∈ wsL_law0_r25, w ∈ wsL_law := fun w h => u_0in w (List.mem_append_left _ (List.mem_append_left _ (List.mem_append_left _ (List.mem_append_left _ (List.mem_append_left _ (List.mem_append_left _ (List.mem_append_left _ (List.mem_append_left _ (List.mem_append_left _ (List.mem_append_left _ (List.mem_append_left _ (List.mem_append_left _ (List.mem_append_left _ (List.mem_append_right _ (List.mem_append_right _ (List.mem_append_right _ (List.mem_append_right _ (List.mem_append_right _ (List.mem_append_right _ (List.mem_append_right _ (List.mem_append_right _ (List.mem_append_right _ (List.mem_append_right _ (List.mem_append_right _ (List.mem_append_right _ (List.mem_append_right _ (List.mem_append_right _ (List.mem_append_right _ (List.mem_append_right _ (List.mem_append_right _ (List.mem_append_right _ (List.mem_append_right _ (List.mem_append_right _ (List.mem_append_right _ (List.mem_append_right _ (List.mem_append_right _ (List.mem_append_right _ (List.mem_append_left _ h))))))))))))))))))))))))))))))))))))))
theorem u_r26 : ∀ w ∈ wsL_law0_r26, w ∈ wsL_law := fun w h => u_0in w (List.mem_append_left _ (List.mem_append_left _ (List.mem_append_left _ (List.mem_append_left _ (List.mem_append_left _ (List.mem_append_left _ (List.mem_append_left _ (List.mem_append_left _ (List.mem_append_left _ (List.mem_append_left _ (List.mem_append_left _ (List.mem_append_left _ (List.mem_append_left _ (List.mem_append_right _ (List.mem_append_right _ (List.mem_append_right _ (List.mem_append_right _ (List.mem_append_right _ (List.mem_append_right _ (List.mem_append_right _ (List.mem_append_right _ (List.mem_append_right _ (List.mem_append_right _ (List.mem_append_right _ (List.mem_append_right _ (List.mem_append_right _ (List.mem_append_right _ (List.mem_append_right _ (List.mem_append_right _ (List.mem_append_right _ (List.mem_append_right _ (List.mem_append_right _ (List.mem_append_right _ (List.mem_append_right _ (List.mem_append_right _ (List.mem_append_right _ (List.mem_append_right _ (List.mem_append_right _ (List.mem_append_left _ h)))))))))))))))))))))))))))))))))))))))
theorem u_r27 : ∀ w ∈ wsL_law0_r27, w ∈ wsL_law := fun w h => u_0in w (List.mem_append_left _ (List.mem_append_left _ (List.mem_append_left _ (List.mem_append_left _ (List.mem_append_left _ (List.mem_append_left _ (List.mem_append_left _ (List.mem_append_left _ (List.mem_append_left _ (List.mem_append_left _ (List.mem_append_left _ (List.mem_append_left _ (List.mem_append_left _ (List.mem_append_right _ (List.mem_append_right _ (List.mem_append_right _ (List.mem_append_right _ (List.mem_append_right _ (List.mem_append_right _ (List.mem_append_right _ (List.mem_append_right _ (List.mem_append_right _ (List.mem_append_right _ (List.mem_append_right _ (List.mem_append_right _ (List.mem_append_right _ (List.mem_append_right _ (List.mem_append_right _ (List.mem_append_right _ (List.mem_append_right _ (List.mem_append_right _ (List.mem_append_right _ (List.mem_append_right _ (List.mem_append_right _ (List.mem_append_right _ (List.mem_append_right _ (List.mem_append_right _ (List.mem_append_right _ (List.mem_append_right _ (List.mem_append_left _ h))))))))))))))))))))))))))))))))))))))))
theorem u_r28 : ∀ w ∈ wsL_law0_r28, w ∈ wsL_law := fun w h => u_0in w (List.mem_append_left _ (List.mem_append_left _ (List.mem_append_left _ (List.mem_append_left _ (List.mem_append_left _ (List.mem_append_left _ (List.mem_append_left _ (List.mem_append_left _ (List.mem_append_left _ (List.mem_append_left _ (List.mem_append_left _ (List.mem_append_left _ (List.mem_append_left _ (List.mem_append_right _ (List.mem_append_right _ (List.mem_append_right _ (List.mem_append_right _ (List.mem_append_right _ (List.mem_append_right _ (List.mem_append_right _ (List.mem_append_right _ (List.mem_append_right _ (List.mem_append_right _ (List.mem_append_right _ (List.mem_append_right _ (List.mem_append_right _ (List.mem_append_right _ (List.mem_append_right _ (List.mem_append_right _ (List.mem_append_right _ (List.mem_append_right _ (List.mem_append_right _ (List.mem_append_right _ (List.mem_append_right _ (List.mem_append_right _ (List.mem_append_right _ (List.mem_append_right _ (List.mem_append_right _ (List.mem_append_right _ (List.mem_append_right _ (List.mem_append_left _ h)))))))))))))))))))))))))))))))))))))))))
theorem u_r29 : ∀ w ∈ wsL_law0_r29, w ∈ wsL_law := fun w h => u_0in w (List.mem_append_left _ (List.mem_append_left _ (List.mem_append_left _ (List.mem_append_left _ (List.mem_append_left _ (List.mem_append_left _ (List.mem_append_left _ (List.mem_append_left _ (List.mem_append_left _ (List.mem_append_left _ (List.mem_append_left _ (List.mem_append_left _ (List.mem_append_left _ (List.mem_append_right _ (List.mem_append_right _ (List.mem_append_right _ (List.mem_append_right _ (List.mem_append_right _ (List.mem_append_right _ (List.mem_append_right _ (List.mem_append_right _ (List.mem_append_right _ (List.mem_append_right _ (List.mem_append_right _ (List.mem_append_right _ (List.mem_append_right _ (List.mem_append_right _ (List.mem_append_right _ (List.mem_append_right _ (List.mem_append_right _ (List.mem_append_right _ (List.mem_append_right _ (List.mem_append_right _ (List.mem_append_right _ (List.mem_append_right _ (List.mem_append_right _ (List.mem_append_right _ (List.mem_append_right _ (List.mem_append_right _ (List.mem_append_right _ (List.mem_append_right _ (List.mem_append_left _ h))))))))))))))))))))))))))))))))))))))))))
theorem u_r30 : ∀ w ∈ wsL_law0_r30, w ∈ wsL_law := fun w h => u_0in w (List.mem_append_left _ (List.mem_append_left _ (List.mem_append_left _ (List.mem_append_left _ (List.mem_append_left _ (List.mem_append_left _ (List.mem_append_left _ (List.mem_append_left _ (List.mem_append_left _ (List.mem_append_left _ (List.mem_append_left _ (List.mem_append_left _ (List.mem_append_left _ (List.mem_append_right _ (List.mem_append_right _ (List.mem_append_right _ (List.mem_append_right _ (List.mem_append_right _ (List.mem_append_right _ (List.mem_append_right _ (List.mem_append_right _ (List.mem_append_right _ (List.mem_append_right _ (List.mem_append_right _ (List.mem_append_right _ (List.mem_append_right _ (List.mem_append_right _ (List.mem_append_right _ (List.mem_append_right _ (List.mem_append_right _ (List.mem_append_right _ (List.mem_append_right _ (List.mem_append_right _ (List.mem_append_right _ (List.mem_append_right _ (List.mem_append_right _ (List.mem_append_right _ (List.mem_append_right _ (List.mem_append_right _ (List.mem_append_right _ (List.mem_append_right _ (List.mem_append_right _ (List.mem_append_left _ h)))))))))))))))))))))))))))))))))))))))))))
theorem u_r31 : ∀ w ∈ wsL_law0_r31, w ∈ wsL_law := fun w h => u_0in w (List.mem_append_left _ (List.mem_append_left _ (List.mem_append_left _ (List.mem_append_left _ (List.mem_append_left _ (List.mem_append_left _ (List.mem_append_left _ (List.mem_append_left _ (List.mem_append_left _ (List.mem_append_left _ (List.mem_append_left _ (List.mem_append_left _ (List.mem_append_left _ (List.mem_append_right _ (List.mem_append_right _ (List.mem_append_right _ (List.mem_append_right _ (List.mem_append_right _ (List.mem_append_right _ (List.mem_append_right _ (List.mem_append_right _ (List.mem_append_right _ (List.mem_append_right _ (List.mem_append_right _ (List.mem_append_right _ (List.mem_append_right _ (List.mem_append_right _ (List.mem_append_right _ (List.mem_append_right _ (List.mem_append_right _ (List.mem_append_right _ (List.mem_append_right _ (List.mem_append_right _ (List.mem_append_right _ (List.mem_append_right _ (List.mem_append_right _ (List.mem_append_right _ (List.mem_append_right _ (List.mem_append_right _ (List.mem_append_right _ (List.mem_append_right _ (List.mem_append_right _ (List.mem_append_right _ (List.mem_append_left _ h))))))))))))))))))))))))))))))))))))))))))))
theorem u_r32 : ∀ w ∈ wsL_law0_r32, w ∈ wsL_law := fun w h => u_0in w (List.mem_append_left _ (List.mem_append_left _ (List.mem_append_left _ (List.mem_append_left _ (List.mem_append_left _ (List.mem_append_left _ (List.mem_append_left _ (List.mem_append_left _ (List.mem_append_left _ (List.mem_append_left _ (List.mem_append_left _ (List.mem_append_left _ (List.mem_append_left _ (List.mem_append_right _ (List.mem_append_right _ (List.mem_append_right _ (List.mem_append_right _ (List.mem_append_right _ (List.mem_append_right _ (List.mem_append_right _ (List.mem_append_right _ (List.mem_append_right _ (List.mem_append_right _ (List.mem_append_right _ (List.mem_append_right _ (List.mem_append_right _ (List.mem_append_right _ (List.mem_append_right _ (List.mem_append_right _ (List.mem_append_right _ (List.mem_append_right _ (List.mem_append_right _ (List.mem_append_right _ (List.mem_append_right _ (List.mem_append_right _ (List.mem_append_right _ (List.mem_append_right _ (List.mem_append_right _ (List.mem_append_right _ (List.mem_append_right _ (List.mem_append_right _ (List.mem_append_right _ (List.mem_append_right _ (List.mem_append_right _ (List.mem_append_left _ h)))))))))))))))))))))))))))))))))))))))))))))
theorem u_r33 : ∀ w ∈ wsL_law0_r33, w ∈ wsL_law := fun w h => u_0in w (List.mem_append_left _ (List.mem_append_left _ (List.mem_append_left _ (List.mem_append_left _ (List.mem_append_left _ (List.mem_append_left _ (List.mem_append_left _ (List.mem_append_left _ (List.mem_append_left _ (List.mem_append_left _ (List.mem_append_left _ (List.mem_append_left _ (List.mem_append_left _ (List.mem_append_right _ (List.mem_append_right _ (List.mem_append_right _ (List.mem_append_right _ (List.mem_append_right _ (List.mem_append_right _ (List.mem_append_right _ (List.mem_append_right _ (List.mem_append_right _ (List.mem_append_right _ (List.mem_append_right _ (List.mem_append_right _ (List.mem_append_right _ (List.mem_append_right _ (List.mem_append_right _ (List.mem_append_right _ (List.mem_append_right _ (List.mem_append_right _ (List.mem_append_right _ (List.mem_append_right _ (List.mem_append_right _ (List.mem_append_right _ (List.mem_append_right _ (List.mem_append_right _ (List.mem_append_right _ (List.mem_append_right _ (List.mem_append_right _ (List.mem_append_right _ (List.mem_append_right _ (List.mem_append_right _ (List.mem_append_right _ (List.mem_append_right _ h)))))))))))))))))))))))))))))))))))))))))))))
end
section
/-! flat memory: cells by logical numbers; the walk in one predicate u_S -/
theorem u_good0 : wsL_law0.all goodWord = true := by decide +kernel
theorem u_good : wsL_law.all goodWord = true := by
  have f : ∀ l : List Cond, (l.filter goodWord).all goodWord = true := fun l => List.all_eq_true.mpr fun w hw => (List.mem_filter.mp hw).2
  unfold wsL_law
  rw [List.all_append, List.all_append, List.all_append, u_good0, f, f, f]
  rfl
def u_ws2 (y : MethodName) (cc : ByteArray) (maxL : Nat) (ret : Option FieldType) : List Cond := Cond.code y cc maxL ret :: wsL_law
theorem u_goodIn {y : MethodName} {cc : ByteArray} {maxL : Nat} {ret : Option FieldType} (h : Cond.code y cc maxL ret ∈ wsL_law) : GoodIn wsL_law (u_ws2 y cc maxL ret) := by
  intro w hw
  have hm : w ∈ wsL_law := by
    rcases List.mem_cons.mp hw with rfl | hw
    · exact h
    · exact hw
  exact ⟨hm, good_of_word (List.all_eq_true.mp u_good w hm)⟩
/-- the classes' fields: how many, which hold references -/
def w_nf (ci : Nat) : Nat := match ci with
  | 0 => 7 | 1 => 10 | 2 => 2 | 3 => 10 | 4 => 3 | 5 => 6 | 6 => 8 | 7 => 3 | 8 => 2 | 9 => 4 | 10 => 5 | _ => 43
def w_rf (ci j : Nat) : Bool := match ci with
  | 0 => Nat.blt j 3 | 3 => Nat.blt j 5 | 5 => Nat.blt j 3 | 6 => Nat.blt j 3 | 8 => Nat.blt j 1 | 10 => Nat.blt j 4
  | 11 => (j == 4) || (j == 6) || (j == 7) || (j == 13) || (j == 14) || (j == 15) || (Nat.blt 16 j && Nat.blt j 25) || (Nat.blt 25 j && Nat.blt j 36) || (Nat.blt 36 j && Nat.blt j 41)
  | _ => false
/-- the fixed part: array classes, addresses, kinds, lengths, references, numbers in use -/
abbrev w_G : Type := (Nat → ClassId) × (Nat → Nat) × (Nat → Nat) × (Nat → Nat) × (Nat → Nat → Option Nat) × List Nat
def gC (G : w_G) : Nat → ClassId := G.1
def gP (G : w_G) : Nat → Nat := G.2.1
def gK (G : w_G) : Nat → Nat := G.2.2.1
def gN (G : w_G) : Nat → Nat := G.2.2.2.1
def gF (G : w_G) : Nat → Nat → Option Nat := G.2.2.2.2.1
def gL (G : w_G) : List Nat := G.2.2.2.2.2
/-- what changes: ints (fields and elements) and longs -/
abbrev w_M : Type := (Nat → Nat → Int32) × (Nat → Nat → Int64)
def iv (M : w_M) (a j : Nat) : Int32 := M.1 a j
def jv (M : w_M) (a j : Nat) : Int64 := M.2 a j
def wi (M : w_M) (a j : Nat) (x : Int32) : w_M := (fun b k => if b = a ∧ k = j then x else M.1 b k, M.2)
def wj (M : w_M) (a j : Nat) (x : Int64) : w_M := (M.1, fun b k => if b = a ∧ k = j then x else M.2 b k)
theorem iv_wi (M : w_M) (a j : Nat) (x : Int32) (b k : Nat) : iv (wi M a j x) b k = if b = a ∧ k = j then x else iv M b k := rfl
theorem jv_wj (M : w_M) (a j : Nat) (x : Int64) (b k : Nat) : jv (wj M a j x) b k = if b = a ∧ k = j then x else jv M b k := rfl
theorem iv_wj (M : w_M) (a j : Nat) (x : Int64) (b k : Nat) : iv (wj M a j x) b k = iv M b k := rfl
theorem jv_wi (M : w_M) (a j : Nat) (x : Int32) (b k : Nat) : jv (wi M a j x) b k = jv M b k := rfl
theorem w_ext {M M' : w_M} (h1 : ∀ a j, iv M a j = iv M' a j) (h2 : ∀ a j, jv M a j = jv M' a j) : M = M' := Prod.ext (funext fun a => funext fun j => h1 a j) (funext fun a => funext fun j => h2 a j)
def w_fv (G : w_G) (M : w_M) (ci k j : Nat) : Value := if w_rf ci j then va_rf ((gF G k j).map (gP G)) else .int (iv M k j)
def w_fs (G : w_G) (M : w_M) (ci k : Nat) : List Value := (List.range (w_nf ci)).map (w_fv G M ci k)
def w_cell (G : w_G) (M : w_M) (k : Nat) : va_E :=
  if gK G k < 12 then .inr (gK G k, w_fs G M (gK G k) k)
  else if gK G k = 12 then .inl (gC G 0, gN G k, .inl (fun j => iv M k j))
  else if gK G k = 13 then .inl (gC G 1, gN G k, .inr (.inl (fun j => jv M k j)))
  else if gK G k = 14 then .inl (gC G 2, gN G k, .inl (fun j => iv M k j))
  else .inl (gC G (gK G k - 12), gN G k, .inr (.inr (.inr (.inr (fun i => (gF G k i).map (gP G))))))
def w_ty (cy : Nat → ClassId) : List (ClassId × FieldType) := [(cy 0, .int), (cy 1, .long), (cy 2, .boolean), (cy 3, .object RX1), (cy 4, .object RX4), (cy 5, .object RX6), (cy 6, .object RX7), (cy 7, .object RX9)]
def u_W (G : w_G) (M : w_M) : va_W := (gL G).map (fun k => (gP G k, w_cell G M k))
/-- a number in use, of that kind -/
def u_is (G : w_G) (k ci : Nat) : Prop := k ∈ gL G ∧ gK G k = ci
theorem u_get {G : w_G} {M : w_M} {k : Nat} (h : k ∈ gL G) : ∃ q : Nat, (gL G)[q]? = some k ∧ (u_W G M)[q]? = some (gP G k, w_cell G M k) := by
  obtain ⟨q, hq⟩ := List.getElem?_of_mem h
  exact ⟨q, hq, by simp [u_W, hq]⟩
theorem u_inj {A : Nat → Prop} {G : w_G} {M : w_M} (hD : va_D A (u_W G M)) {i j k : Nat} (hi : (gL G)[i]? = some k) (hj : (gL G)[j]? = some k) : i = j :=
  hD.1 i j (gP G k, w_cell G M k) (gP G k, w_cell G M k) (by simp [u_W, hi]) (by simp [u_W, hj]) rfl
theorem u_setW {A : Nat → Prop} {G : w_G} {M M' : w_M} (hD : va_D A (u_W G M)) {k q : Nat} (hq : (gL G)[q]? = some k) (ho : ∀ b, b ≠ k → w_cell G M' b = w_cell G M b) : (u_W G M).set q (gP G k, w_cell G M' k) = u_W G M' := by
  refine List.ext_getElem? fun i => ?_
  by_cases hi : i = q
  · subst hi
    rw [List.getElem?_set_self (by simp [u_W]; exact (List.getElem?_eq_some_iff.mp hq).1)]
    simp [u_W, hq]
  · rw [List.getElem?_set_ne (Ne.symm hi)]
    simp only [u_W, List.getElem?_map]
    cases h : (gL G)[i]? with
    | none => rfl
    | some b =>
      have hb : b ≠ k := fun z => hi (u_inj hD (z ▸ h) hq)
      simp [ho b hb]
theorem u_DM {A : Nat → Prop} {G : w_G} {M : w_M} (M' : w_M) (hD : va_D A (u_W G M)) : va_D A (u_W G M') := by
  have key : ∀ (i : Nat) (p : Nat × va_E), (u_W G M')[i]? = some p → ∃ p', (u_W G M)[i]? = some p' ∧ p'.1 = p.1 := by
    intro i p h
    simp only [u_W, List.getElem?_map] at h ⊢
    cases hb : (gL G)[i]? with
    | none => rw [hb] at h; cases h
    | some b => rw [hb] at h; cases h; exact ⟨_, rfl, rfl⟩
  refine ⟨fun i j p q hi hj e => ?_, fun i p hi => ?_⟩
  · obtain ⟨p', h1, h2⟩ := key i p hi
    obtain ⟨q', h3, h4⟩ := key j q hj
    exact hD.1 i j p' q' h1 h3 (by rw [h2, h4, e])
  · obtain ⟨p', h1, h2⟩ := key i p hi
    rw [← h2]
    exact hD.2 i p' h1
theorem u_AM {G : w_G} (M M' : w_M) (sz : Nat) : va_A (u_W G M') sz = va_A (u_W G M) sz := by
  have key : ∀ (M M' : w_M) (q : Nat), va_A (u_W G M') sz q → va_A (u_W G M) sz q := by
    intro M M' q h
    rcases h with ⟨k, e, h⟩ | h
    · simp only [u_W, List.getElem?_map] at h
      cases hb : (gL G)[k]? with
      | none => rw [hb] at h; cases h
      | some b =>
        rw [hb] at h
        cases h
        exact Or.inl ⟨k, w_cell G M b, by simp [u_W, hb]⟩
    · exact Or.inr h
  funext q
  exact propext ⟨key M M' q, key M' M q⟩
theorem w_fs_len (G : w_G) (M : w_M) (ci k : Nat) : (w_fs G M ci k).length = w_nf ci := by simp [w_fs]
theorem w_fs_at {G : w_G} {M : w_M} {ci k j : Nat} (hj : j < w_nf ci) : (w_fs G M ci k)[j]? = some (w_fv G M ci k j) := by simp [w_fs, List.getElem?_range hj]
theorem w_cellO {G : w_G} {M : w_M} {k ci : Nat} (h : u_is G k ci) (hc : ci < 12) : w_cell G M k = .inr (ci, w_fs G M ci k) := by
  unfold w_cell
  rw [h.2, if_pos hc]
theorem w_cellI {G : w_G} {M : w_M} {k : Nat} (h : u_is G k 12) : w_cell G M k = .inl (gC G 0, gN G k, .inl (fun j => iv M k j)) := by
  unfold w_cell
  rw [h.2]
  rfl
theorem w_cellJ {G : w_G} {M : w_M} {k : Nat} (h : u_is G k 13) : w_cell G M k = .inl (gC G 1, gN G k, .inr (.inl (fun j => jv M k j))) := by
  unfold w_cell
  rw [h.2]
  rfl
theorem w_cellZ {G : w_G} {M : w_M} {k : Nat} (h : u_is G k 14) : w_cell G M k = .inl (gC G 2, gN G k, .inl (fun j => iv M k j)) := by
  unfold w_cell
  rw [h.2]
  rfl
theorem w_cellR {G : w_G} {M : w_M} {k t : Nat} (h : u_is G k t) (ht : 15 ≤ t) : w_cell G M k = .inl (gC G (t - 12), gN G k, .inr (.inr (.inr (.inr (fun i => (gF G k i).map (gP G)))))) := by
  unfold w_cell
  rw [h.2, if_neg (by omega), if_neg (by omega), if_neg (by omega), if_neg (by omega)]
theorem w_oi {G : w_G} {M : w_M} {k j : Nat} {x : Int32} {b : Nat} (hb : b ≠ k) : w_cell G (wi M k j x) b = w_cell G M b := by
  have e : ∀ i, iv (wi M k j x) b i = iv M b i := fun i => by rw [iv_wi, if_neg (fun z => hb z.1)]
  have e2 : ∀ i, jv (wi M k j x) b i = jv M b i := fun i => rfl
  have e3 : w_fs G (wi M k j x) (gK G b) b = w_fs G M (gK G b) b := by
    unfold w_fs
    refine List.map_congr_left fun i _ => ?_
    unfold w_fv
    rw [e]
  unfold w_cell
  rw [e3]
  simp only [e, e2]
theorem w_oj {G : w_G} {M : w_M} {k j : Nat} {x : Int64} {b : Nat} (hb : b ≠ k) : w_cell G (wj M k j x) b = w_cell G M b := by
  have e : ∀ i, jv (wj M k j x) b i = jv M b i := fun i => by rw [jv_wj, if_neg (fun z => hb z.1)]
  have e3 : w_fs G (wj M k j x) (gK G b) b = w_fs G M (gK G b) b := rfl
  unfold w_cell
  rw [e3]
  simp only [e, iv_wj]
theorem w_fs_wi {G : w_G} {M : w_M} {ci k j : Nat} {x : Int32} (hr : w_rf ci j = false) : (w_fs G M ci k).set j (.int x) = w_fs G (wi M k j x) ci k := by
  refine List.ext_getElem? fun i => ?_
  by_cases hi : i < w_nf ci
  · by_cases hij : i = j
    · subst hij
      rw [List.getElem?_set_self (by rw [w_fs_len]; exact hi), w_fs_at hi]
      simp [w_fv, hr, iv_wi]
    · rw [List.getElem?_set_ne (Ne.symm hij), w_fs_at hi, w_fs_at hi]
      simp [w_fv, iv_wi, hij]
  · rw [List.getElem?_eq_none (by simp [w_fs_len]; omega), List.getElem?_eq_none (by simp [w_fs_len]; omega)]
/-- locals by number -/
def lv_get : List (Nat × Value) → Nat → Option Value
  | [], _ => none
  | (j, v) :: t, i => if j = i then some v else lv_get t i
def lv_put (lv : List (Nat × Value)) (i : Nat) (v : Value) : List (Nat × Value) := (i, v) :: lv.filter (fun q => !(q.1 == i) && !(q.1 + 1 == i && q.2.category == 2))
def lv_put2 (lv : List (Nat × Value)) (i : Nat) (v : Value) : List (Nat × Value) := (i, v) :: lv.filter (fun q => !(q.1 == i) && (!(q.1 == i + 1) && !(q.1 + 1 == i && q.2.category == 2)))
theorem lv_get_mem {lv : List (Nat × Value)} {i : Nat} {v : Value} (h : lv_get lv i = some v) : (i, v) ∈ lv := by
  induction lv with
  | nil => cases h
  | cons q t ih =>
    obtain ⟨j, w⟩ := q
    simp only [lv_get] at h
    split at h
    · next e => subst e; cases h; exact List.mem_cons_self
    · exact List.mem_cons_of_mem _ (ih h)
theorem lv_gat {ls : Array Slot} {nL : Nat} {lv : List (Nat × Value)} {i : Nat} {v : Value} (h : lv_has ls nL lv) (hg : lv_get lv i = some v) : ls[i]? = some (.val v) := h.2.2 (i, v) (lv_get_mem hg)
def lv_re (lv : List (Nat × Value)) (ks : List Nat) : List (Nat × Value) := ks.filterMap (fun i => (lv_get lv i).map (fun v => (i, v)))
theorem lv_rehas {ls : Array Slot} {nL : Nat} {lv : List (Nat × Value)} (h : lv_has ls nL lv) (ks : List Nat) : lv_has ls nL (lv_re lv ks) := by
  refine ⟨h.1, h.2.1, fun q hq => ?_⟩
  obtain ⟨i, -, hi⟩ := List.mem_filterMap.mp hq
  cases hv : lv_get lv i with
  | none => rw [hv] at hi; cases hi
  | some v => rw [hv] at hi; cases hi; exact lv_gat h hv
section US
variable {p : Program} {l : Launch} {e : Env} {R : Room} {s : State} {m : MethodId} {args : Array Value} {below : List Frame} {meth : Method} {c : Code} {Q : State → Prop} {cells slots : Nat}
variable {cc : ByteArray} {own : String} {nL : Nat} {D : va_G} {A : Nat → Prop} {H0 : Heap}
/-- the machine at pc, with locals lv, stack st, the world (G, M): it comes to Q -/
def u_S (p : Program) (l : Launch) (e : Env) (R : Room) (s : State) (m : MethodId) (args : Array Value) (below : List Frame) (meth : Method) (c : Code) (nL : Nat) (D : va_G) (A : Nat → Prop) (H0 : Heap) (cells slots : Nat) (Q : State → Prop) (pc : Nat) (lv : List (Nat × Value)) (st : List Value) (G : w_G) (M : w_M) : Prop :=
  ∀ (H : Heap) (locs : List Loc) (ls : Array Slot), va_P D vwCl (u_W G M) H → va_D A (u_W G M) → va_S A H0 H locs → lv_has ls nL lv → W p l e R s m args below meth c H locs cells slots Q (F0 m pc ls st)
/-- what stays through a method -/
def u_C (p : Program) (R : Room) (s : State) (m : MethodId) (args : Array Value) (c : Code) (cc : ByteArray) (own : String) (nL : Nat) (D : va_G) (A : Nat → Prop) (H0 : Heap) (cells slots : Nat) (G : w_G) : Prop :=
  CallFix p m c cc nL s args wsL_law own ∧ va_K D vwCl (w_ty (gC G)) s ∧ (∀ q, H0.size ≤ q → A q) ∧ cells ≤ R.cells ∧ slots ≤ R.slots
variable {G : w_G} {M : w_M} {pc : Nat} {lv : List (Nat × Value)} {st : List Value}

theorem u_iload_n (C : u_C p R s m args c cc own nL D A H0 cells slots G) {n : Fin 4} {x : Int32} (hd : decode cc pc = .ok (.iload_n n, 1)) (hv : lv_get lv (n : Nat) = some (.int x)) (k : u_S p l e R s m args below meth c nL D A H0 cells slots Q (pc + 1) lv (.int x :: st) G M) : u_S p l e R s m args below meth c nL D A H0 cells slots Q pc lv (st) G M := by
  intro H locs ls hP hD hS hl
  obtain ⟨⟨hx, hb, hml, hown, hts⟩, hK, hA, hcs⟩ := C
  exact lv_iload_n hx hb hd rfl (lv_gat hl hv) (k H locs ls hP hD hS hl)

theorem u_iload (C : u_C p R s m args c cc own nL D A H0 cells slots G) {i : Nat} {x : Int32} (hd : decode cc pc = .ok (.iload i, 2)) (hv : lv_get lv i = some (.int x)) (k : u_S p l e R s m args below meth c nL D A H0 cells slots Q (pc + 2) lv (.int x :: st) G M) : u_S p l e R s m args below meth c nL D A H0 cells slots Q pc lv (st) G M := by
  intro H locs ls hP hD hS hl
  obtain ⟨⟨hx, hb, hml, hown, hts⟩, hK, hA, hcs⟩ := C
  exact lv_iload hx hb hd (lv_gat hl hv) (k H locs ls hP hD hS hl)

theorem u_lload (C : u_C p R s m args c cc own nL D A H0 cells slots G) {i : Nat} {x : Int64} (hd : decode cc pc = .ok (.lload i, 2)) (hv : lv_get lv i = some (.long x)) (k : u_S p l e R s m args below meth c nL D A H0 cells slots Q (pc + 2) lv (.long x :: st) G M) : u_S p l e R s m args below meth c nL D A H0 cells slots Q pc lv (st) G M := by
  intro H locs ls hP hD hS hl
  obtain ⟨⟨hx, hb, hml, hown, hts⟩, hK, hA, hcs⟩ := C
  exact lv_lload hx hb hd (lv_gat hl hv) (k H locs ls hP hD hS hl)

theorem u_aload_n (C : u_C p R s m args c cc own nL D A H0 cells slots G) {n : Fin 4} {x : Nat} (hd : decode cc pc = .ok (.aload_n n, 1)) (hv : lv_get lv (n : Nat) = some (.ref x)) (k : u_S p l e R s m args below meth c nL D A H0 cells slots Q (pc + 1) lv (.ref x :: st) G M) : u_S p l e R s m args below meth c nL D A H0 cells slots Q pc lv (st) G M := by
  intro H locs ls hP hD hS hl
  obtain ⟨⟨hx, hb, hml, hown, hts⟩, hK, hA, hcs⟩ := C
  exact lv_aload_n hx hb hd rfl (lv_gat hl hv) (k H locs ls hP hD hS hl)

theorem u_aload (C : u_C p R s m args c cc own nL D A H0 cells slots G) {i : Nat} {x : Nat} (hd : decode cc pc = .ok (.aload i, 2)) (hv : lv_get lv i = some (.ref x)) (k : u_S p l e R s m args below meth c nL D A H0 cells slots Q (pc + 2) lv (.ref x :: st) G M) : u_S p l e R s m args below meth c nL D A H0 cells slots Q pc lv (st) G M := by
  intro H locs ls hP hD hS hl
  obtain ⟨⟨hx, hb, hml, hown, hts⟩, hK, hA, hcs⟩ := C
  exact lv_aload hx hb hd (lv_gat hl hv) (k H locs ls hP hD hS hl)

theorem u_istore_n (C : u_C p R s m args c cc own nL D A H0 cells slots G) {n : Fin 4} {x : Int32} (hd : decode cc pc = .ok (.istore_n n, 1)) (hn : (n : Nat) < nL) (k : u_S p l e R s m args below meth c nL D A H0 cells slots Q (pc + 1) (lv_put lv (n : Nat) (.int x)) st G M) : u_S p l e R s m args below meth c nL D A H0 cells slots Q pc lv (.int x :: st) G M := by
  intro H locs ls hP hD hS hl
  obtain ⟨⟨hx, hb, hml, hown, hts⟩, hK, hA, hcs⟩ := C
  exact lv_istore_n hx hb hd rfl hl hn rfl (fun ls hl => k H locs ls hP hD hS hl)

theorem u_istore (C : u_C p R s m args c cc own nL D A H0 cells slots G) {i : Nat} {x : Int32} (hd : decode cc pc = .ok (.istore i, 2)) (hn : i < nL) (k : u_S p l e R s m args below meth c nL D A H0 cells slots Q (pc + 2) (lv_put lv i (.int x)) st G M) : u_S p l e R s m args below meth c nL D A H0 cells slots Q pc lv (.int x :: st) G M := by
  intro H locs ls hP hD hS hl
  obtain ⟨⟨hx, hb, hml, hown, hts⟩, hK, hA, hcs⟩ := C
  exact lv_istore hx hb hd hl hn rfl (fun ls hl => k H locs ls hP hD hS hl)

theorem u_astore_n (C : u_C p R s m args c cc own nL D A H0 cells slots G) {n : Fin 4} {x : Nat} (hd : decode cc pc = .ok (.astore_n n, 1)) (hn : (n : Nat) < nL) (k : u_S p l e R s m args below meth c nL D A H0 cells slots Q (pc + 1) (lv_put lv (n : Nat) (.ref x)) st G M) : u_S p l e R s m args below meth c nL D A H0 cells slots Q pc lv (.ref x :: st) G M := by
  intro H locs ls hP hD hS hl
  obtain ⟨⟨hx, hb, hml, hown, hts⟩, hK, hA, hcs⟩ := C
  exact lv_astore_n hx hb hd rfl hl hn rfl (fun ls hl => k H locs ls hP hD hS hl)

theorem u_astore (C : u_C p R s m args c cc own nL D A H0 cells slots G) {i : Nat} {x : Nat} (hd : decode cc pc = .ok (.astore i, 2)) (hn : i < nL) (k : u_S p l e R s m args below meth c nL D A H0 cells slots Q (pc + 2) (lv_put lv i (.ref x)) st G M) : u_S p l e R s m args below meth c nL D A H0 cells slots Q pc lv (.ref x :: st) G M := by
  intro H locs ls hP hD hS hl
  obtain ⟨⟨hx, hb, hml, hown, hts⟩, hK, hA, hcs⟩ := C
  exact lv_astore hx hb hd hl hn rfl (fun ls hl => k H locs ls hP hD hS hl)

theorem u_lstore (C : u_C p R s m args c cc own nL D A H0 cells slots G) {i : Nat} {x : Int64} (hd : decode cc pc = .ok (.lstore i, 2)) (hn : i + 1 < nL) (k : u_S p l e R s m args below meth c nL D A H0 cells slots Q (pc + 2) (lv_put2 lv i (.long x)) st G M) : u_S p l e R s m args below meth c nL D A H0 cells slots Q pc lv (.long x :: st) G M := by
  intro H locs ls hP hD hS hl
  obtain ⟨⟨hx, hb, hml, hown, hts⟩, hK, hA, hcs⟩ := C
  exact lv_lstore hx hb hd hl hn rfl (fun ls hl => k H locs ls hP hD hS hl)

theorem u_iinc (C : u_C p R s m args c cc own nL D A H0 cells slots G) {i : Nat} {n : Int} {x : Int32} (hd : decode cc pc = .ok (.iinc i n, 3)) (hn : i < nL) (hv : lv_get lv i = some (.int x)) (k : u_S p l e R s m args below meth c nL D A H0 cells slots Q (pc + 3) (lv_put lv i (.int (x + Int32.ofInt n))) st G M) : u_S p l e R s m args below meth c nL D A H0 cells slots Q pc lv st G M := by
  intro H locs ls hP hD hS hl
  obtain ⟨⟨hx, hb, hml, hown, hts⟩, hK, hA, hcs⟩ := C
  obtain ⟨q, hq⟩ := List.getElem?_of_mem (lv_get_mem hv)
  exact lv_iinc hx hb hd hl (k := q) hq rfl hn rfl (fun ls hl => k H locs ls hP hD hS hl)

theorem u_iconst (C : u_C p R s m args c cc own nL D A H0 cells slots G) {n : Int} {v : Int32} (hd : decode cc pc = .ok (.iconst n, 1)) (hv : Int32.ofInt n = v) (k : u_S p l e R s m args below meth c nL D A H0 cells slots Q (pc + 1) lv (.int v :: st) G M) : u_S p l e R s m args below meth c nL D A H0 cells slots Q pc lv (st) G M := by
  intro H locs ls hP hD hS hl
  obtain ⟨⟨hx, hb, hml, hown, hts⟩, hK, hA, hcs⟩ := C
  exact lv_iconst hx hb hd hv (k H locs ls hP hD hS hl)

theorem u_bipush (C : u_C p R s m args c cc own nL D A H0 cells slots G) {n : Int} {v : Int32} (hd : decode cc pc = .ok (.bipush n, 2)) (hv : (Int8.ofInt n).toInt32 = v) (k : u_S p l e R s m args below meth c nL D A H0 cells slots Q (pc + 2) lv (.int v :: st) G M) : u_S p l e R s m args below meth c nL D A H0 cells slots Q pc lv (st) G M := by
  intro H locs ls hP hD hS hl
  obtain ⟨⟨hx, hb, hml, hown, hts⟩, hK, hA, hcs⟩ := C
  exact lv_bipush hx hb hd hv (k H locs ls hP hD hS hl)

theorem u_sipush (C : u_C p R s m args c cc own nL D A H0 cells slots G) {n : Int} {v : Int32} (hd : decode cc pc = .ok (.sipush n, 3)) (hv : (Int16.ofInt n).toInt32 = v) (k : u_S p l e R s m args below meth c nL D A H0 cells slots Q (pc + 3) lv (.int v :: st) G M) : u_S p l e R s m args below meth c nL D A H0 cells slots Q pc lv (st) G M := by
  intro H locs ls hP hD hS hl
  obtain ⟨⟨hx, hb, hml, hown, hts⟩, hK, hA, hcs⟩ := C
  exact lv_sipush hx hb hd hv (k H locs ls hP hD hS hl)

theorem u_lconst (C : u_C p R s m args c cc own nL D A H0 cells slots G) {n : Fin 2} {v : Int64} (hd : decode cc pc = .ok (.lconst n, 1)) (hv : Int64.ofNat (n : Nat) = v) (k : u_S p l e R s m args below meth c nL D A H0 cells slots Q (pc + 1) lv (.long v :: st) G M) : u_S p l e R s m args below meth c nL D A H0 cells slots Q pc lv (st) G M := by
  intro H locs ls hP hD hS hl
  obtain ⟨⟨hx, hb, hml, hown, hts⟩, hK, hA, hcs⟩ := C
  exact lv_lconst hx hb hd hv (k H locs ls hP hD hS hl)

theorem u_iadd (C : u_C p R s m args c cc own nL D A H0 cells slots G) {x y : Int32} (hd : decode cc pc = .ok (.iadd, 1)) (k : u_S p l e R s m args below meth c nL D A H0 cells slots Q (pc + 1) lv (.int (x + y) :: st) G M) : u_S p l e R s m args below meth c nL D A H0 cells slots Q pc lv (.int y :: .int x :: st) G M := by
  intro H locs ls hP hD hS hl
  obtain ⟨⟨hx, hb, hml, hown, hts⟩, hK, hA, hcs⟩ := C
  exact lv_iadd hx hb hd (k H locs ls hP hD hS hl)

theorem u_isub (C : u_C p R s m args c cc own nL D A H0 cells slots G) {x y : Int32} (hd : decode cc pc = .ok (.isub, 1)) (k : u_S p l e R s m args below meth c nL D A H0 cells slots Q (pc + 1) lv (.int (x - y) :: st) G M) : u_S p l e R s m args below meth c nL D A H0 cells slots Q pc lv (.int y :: .int x :: st) G M := by
  intro H locs ls hP hD hS hl
  obtain ⟨⟨hx, hb, hml, hown, hts⟩, hK, hA, hcs⟩ := C
  exact lv_isub hx hb hd (k H locs ls hP hD hS hl)

theorem u_imul (C : u_C p R s m args c cc own nL D A H0 cells slots G) {x y : Int32} (hd : decode cc pc = .ok (.imul, 1)) (k : u_S p l e R s m args below meth c nL D A H0 cells slots Q (pc + 1) lv (.int (x * y) :: st) G M) : u_S p l e R s m args below meth c nL D A H0 cells slots Q pc lv (.int y :: .int x :: st) G M := by
  intro H locs ls hP hD hS hl
  obtain ⟨⟨hx, hb, hml, hown, hts⟩, hK, hA, hcs⟩ := C
  exact lv_imul hx hb hd (k H locs ls hP hD hS hl)

theorem u_iand (C : u_C p R s m args c cc own nL D A H0 cells slots G) {x y : Int32} (hd : decode cc pc = .ok (.iand, 1)) (k : u_S p l e R s m args below meth c nL D A H0 cells slots Q (pc + 1) lv (.int (x &&& y) :: st) G M) : u_S p l e R s m args below meth c nL D A H0 cells slots Q pc lv (.int y :: .int x :: st) G M := by
  intro H locs ls hP hD hS hl
  obtain ⟨⟨hx, hb, hml, hown, hts⟩, hK, hA, hcs⟩ := C
  exact lv_iand hx hb hd (k H locs ls hP hD hS hl)

theorem u_ixor (C : u_C p R s m args c cc own nL D A H0 cells slots G) {x y : Int32} (hd : decode cc pc = .ok (.ixor, 1)) (k : u_S p l e R s m args below meth c nL D A H0 cells slots Q (pc + 1) lv (.int (x ^^^ y) :: st) G M) : u_S p l e R s m args below meth c nL D A H0 cells slots Q pc lv (.int y :: .int x :: st) G M := by
  intro H locs ls hP hD hS hl
  obtain ⟨⟨hx, hb, hml, hown, hts⟩, hK, hA, hcs⟩ := C
  exact lv_ixor hx hb hd (k H locs ls hP hD hS hl)

theorem u_idiv (C : u_C p R s m args c cc own nL D A H0 cells slots G) {x y : Int32} (hd : decode cc pc = .ok (.idiv, 1)) (hne : ¬ y = 0) (k : u_S p l e R s m args below meth c nL D A H0 cells slots Q (pc + 1) lv (.int (x / y) :: st) G M) : u_S p l e R s m args below meth c nL D A H0 cells slots Q pc lv (.int y :: .int x :: st) G M := by
  intro H locs ls hP hD hS hl
  obtain ⟨⟨hx, hb, hml, hown, hts⟩, hK, hA, hcs⟩ := C
  exact lv_idiv hx hb hd hne (k H locs ls hP hD hS hl)

theorem u_irem (C : u_C p R s m args c cc own nL D A H0 cells slots G) {x y : Int32} (hd : decode cc pc = .ok (.irem, 1)) (hne : ¬ y = 0) (k : u_S p l e R s m args below meth c nL D A H0 cells slots Q (pc + 1) lv (.int (x - x / y * y) :: st) G M) : u_S p l e R s m args below meth c nL D A H0 cells slots Q pc lv (.int y :: .int x :: st) G M := by
  intro H locs ls hP hD hS hl
  obtain ⟨⟨hx, hb, hml, hown, hts⟩, hK, hA, hcs⟩ := C
  exact lv_irem hx hb hd hne (k H locs ls hP hD hS hl)

theorem u_ineg (C : u_C p R s m args c cc own nL D A H0 cells slots G) {x : Int32} (hd : decode cc pc = .ok (.ineg, 1)) (k : u_S p l e R s m args below meth c nL D A H0 cells slots Q (pc + 1) lv (.int (-x) :: st) G M) : u_S p l e R s m args below meth c nL D A H0 cells slots Q pc lv (.int x :: st) G M := by
  intro H locs ls hP hD hS hl
  obtain ⟨⟨hx, hb, hml, hown, hts⟩, hK, hA, hcs⟩ := C
  exact lv_ineg hx hb hd (k H locs ls hP hD hS hl)

theorem u_ladd (C : u_C p R s m args c cc own nL D A H0 cells slots G) {x y : Int64} (hd : decode cc pc = .ok (.ladd, 1)) (k : u_S p l e R s m args below meth c nL D A H0 cells slots Q (pc + 1) lv (.long (x + y) :: st) G M) : u_S p l e R s m args below meth c nL D A H0 cells slots Q pc lv (.long y :: .long x :: st) G M := by
  intro H locs ls hP hD hS hl
  obtain ⟨⟨hx, hb, hml, hown, hts⟩, hK, hA, hcs⟩ := C
  exact lv_ladd hx hb hd (k H locs ls hP hD hS hl)

theorem u_lmul (C : u_C p R s m args c cc own nL D A H0 cells slots G) {x y : Int64} (hd : decode cc pc = .ok (.lmul, 1)) (k : u_S p l e R s m args below meth c nL D A H0 cells slots Q (pc + 1) lv (.long (x * y) :: st) G M) : u_S p l e R s m args below meth c nL D A H0 cells slots Q pc lv (.long y :: .long x :: st) G M := by
  intro H locs ls hP hD hS hl
  obtain ⟨⟨hx, hb, hml, hown, hts⟩, hK, hA, hcs⟩ := C
  exact lv_lmul hx hb hd (k H locs ls hP hD hS hl)

theorem u_ldiv (C : u_C p R s m args c cc own nL D A H0 cells slots G) {x y : Int64} (hd : decode cc pc = .ok (.ldiv, 1)) (hne : ¬ y = 0) (k : u_S p l e R s m args below meth c nL D A H0 cells slots Q (pc + 1) lv (.long (x / y) :: st) G M) : u_S p l e R s m args below meth c nL D A H0 cells slots Q pc lv (.long y :: .long x :: st) G M := by
  intro H locs ls hP hD hS hl
  obtain ⟨⟨hx, hb, hml, hown, hts⟩, hK, hA, hcs⟩ := C
  exact lv_ldiv hx hb hd hne (k H locs ls hP hD hS hl)

theorem u_lcmp (C : u_C p R s m args c cc own nL D A H0 cells slots G) {x y : Int64} (hd : decode cc pc = .ok (.lcmp, 1)) (k : u_S p l e R s m args below meth c nL D A H0 cells slots Q (pc + 1) lv (.int (lg_cmp x y) :: st) G M) : u_S p l e R s m args below meth c nL D A H0 cells slots Q pc lv (.long y :: .long x :: st) G M := by
  intro H locs ls hP hD hS hl
  obtain ⟨⟨hx, hb, hml, hown, hts⟩, hK, hA, hcs⟩ := C
  exact W.lcmp hx hb hd (k H locs ls hP hD hS hl)

theorem u_i2l (C : u_C p R s m args c cc own nL D A H0 cells slots G) {x : Int32} (hd : decode cc pc = .ok (.i2l, 1)) (k : u_S p l e R s m args below meth c nL D A H0 cells slots Q (pc + 1) lv (.long x.toInt64 :: st) G M) : u_S p l e R s m args below meth c nL D A H0 cells slots Q pc lv (.int x :: st) G M := by
  intro H locs ls hP hD hS hl
  obtain ⟨⟨hx, hb, hml, hown, hts⟩, hK, hA, hcs⟩ := C
  exact lv_i2l hx hb hd rfl (k H locs ls hP hD hS hl)

theorem u_l2i (C : u_C p R s m args c cc own nL D A H0 cells slots G) {x : Int64} (hd : decode cc pc = .ok (.l2i, 1)) (k : u_S p l e R s m args below meth c nL D A H0 cells slots Q (pc + 1) lv (.int x.toInt32 :: st) G M) : u_S p l e R s m args below meth c nL D A H0 cells slots Q pc lv (.long x :: st) G M := by
  intro H locs ls hP hD hS hl
  obtain ⟨⟨hx, hb, hml, hown, hts⟩, hK, hA, hcs⟩ := C
  exact lv_l2i hx hb hd rfl (k H locs ls hP hD hS hl)

theorem u_dup (C : u_C p R s m args c cc own nL D A H0 cells slots G) {v : Value} (hd : decode cc pc = .ok (.dup, 1)) (hc : v.category = 1) (k : u_S p l e R s m args below meth c nL D A H0 cells slots Q (pc + 1) lv (v :: v :: st) G M) : u_S p l e R s m args below meth c nL D A H0 cells slots Q pc lv (v :: st) G M := by
  intro H locs ls hP hD hS hl
  obtain ⟨⟨hx, hb, hml, hown, hts⟩, hK, hA, hcs⟩ := C
  exact lv_dup hx hb hd hc (k H locs ls hP hD hS hl)

theorem u_pop (C : u_C p R s m args c cc own nL D A H0 cells slots G) {v : Value} (hd : decode cc pc = .ok (.pop, 1)) (hc : v.category = 1) (k : u_S p l e R s m args below meth c nL D A H0 cells slots Q (pc + 1) lv (st) G M) : u_S p l e R s m args below meth c nL D A H0 cells slots Q pc lv (v :: st) G M := by
  intro H locs ls hP hD hS hl
  obtain ⟨⟨hx, hb, hml, hown, hts⟩, hK, hA, hcs⟩ := C
  exact lv_pop hx hb hd hc (k H locs ls hP hD hS hl)

theorem u_dup2 (C : u_C p R s m args c cc own nL D A H0 cells slots G) {v w : Value} (hd : decode cc pc = .ok (.dup2, 1)) (hc : v.category = 1) (hc2 : w.category = 1) (k : u_S p l e R s m args below meth c nL D A H0 cells slots Q (pc + 1) lv (v :: w :: v :: w :: st) G M) : u_S p l e R s m args below meth c nL D A H0 cells slots Q pc lv (v :: w :: st) G M := by
  intro H locs ls hP hD hS hl
  obtain ⟨⟨hx, hb, hml, hown, hts⟩, hK, hA, hcs⟩ := C
  exact lv_dup2_11 hx hb hd hc hc2 (k H locs ls hP hD hS hl)

theorem u_if_eq (C : u_C p R s m args c cc own nL D A H0 cells slots G) {x : Int32} {off : Int} {tgt : Nat} (hd : decode cc pc = .ok (.ifCond .eq off, 3)) (ht : (pc : Int) + off = (tgt : Int)) (kt : x = 0 → u_S p l e R s m args below meth c nL D A H0 cells slots Q tgt lv st G M) (kf : ¬ (x = 0) → u_S p l e R s m args below meth c nL D A H0 cells slots Q (pc + 3) lv st G M) : u_S p l e R s m args below meth c nL D A H0 cells slots Q pc lv (.int x :: st) G M := by
  intro H locs ls hP hD hS hl
  obtain ⟨⟨hx, hb, hml, hown, hts⟩, hK, hA, hcs⟩ := C
  exact lv_if_eq hx hb hd ht (fun z => kt z H locs ls hP hD hS hl) (fun z => kf z H locs ls hP hD hS hl)

theorem u_if_ne (C : u_C p R s m args c cc own nL D A H0 cells slots G) {x : Int32} {off : Int} {tgt : Nat} (hd : decode cc pc = .ok (.ifCond .ne off, 3)) (ht : (pc : Int) + off = (tgt : Int)) (kt : ¬ x = 0 → u_S p l e R s m args below meth c nL D A H0 cells slots Q tgt lv st G M) (kf : x = 0 → u_S p l e R s m args below meth c nL D A H0 cells slots Q (pc + 3) lv st G M) : u_S p l e R s m args below meth c nL D A H0 cells slots Q pc lv (.int x :: st) G M := by
  intro H locs ls hP hD hS hl
  obtain ⟨⟨hx, hb, hml, hown, hts⟩, hK, hA, hcs⟩ := C
  exact lv_if_ne hx hb hd ht (fun z => kt z H locs ls hP hD hS hl) (fun z => kf z H locs ls hP hD hS hl)

theorem u_if_lt (C : u_C p R s m args c cc own nL D A H0 cells slots G) {x : Int32} {off : Int} {tgt : Nat} (hd : decode cc pc = .ok (.ifCond .lt off, 3)) (ht : (pc : Int) + off = (tgt : Int)) (kt : x < 0 → u_S p l e R s m args below meth c nL D A H0 cells slots Q tgt lv st G M) (kf : ¬ (x < 0) → u_S p l e R s m args below meth c nL D A H0 cells slots Q (pc + 3) lv st G M) : u_S p l e R s m args below meth c nL D A H0 cells slots Q pc lv (.int x :: st) G M := by
  intro H locs ls hP hD hS hl
  obtain ⟨⟨hx, hb, hml, hown, hts⟩, hK, hA, hcs⟩ := C
  exact lv_if_lt hx hb hd ht (fun z => kt z H locs ls hP hD hS hl) (fun z => kf z H locs ls hP hD hS hl)

theorem u_if_ge (C : u_C p R s m args c cc own nL D A H0 cells slots G) {x : Int32} {off : Int} {tgt : Nat} (hd : decode cc pc = .ok (.ifCond .ge off, 3)) (ht : (pc : Int) + off = (tgt : Int)) (kt : 0 ≤ x → u_S p l e R s m args below meth c nL D A H0 cells slots Q tgt lv st G M) (kf : ¬ (0 ≤ x) → u_S p l e R s m args below meth c nL D A H0 cells slots Q (pc + 3) lv st G M) : u_S p l e R s m args below meth c nL D A H0 cells slots Q pc lv (.int x :: st) G M := by
  intro H locs ls hP hD hS hl
  obtain ⟨⟨hx, hb, hml, hown, hts⟩, hK, hA, hcs⟩ := C
  exact lv_if_ge hx hb hd ht (fun z => kt z H locs ls hP hD hS hl) (fun z => kf z H locs ls hP hD hS hl)

theorem u_if_gt (C : u_C p R s m args c cc own nL D A H0 cells slots G) {x : Int32} {off : Int} {tgt : Nat} (hd : decode cc pc = .ok (.ifCond .gt off, 3)) (ht : (pc : Int) + off = (tgt : Int)) (kt : 0 < x → u_S p l e R s m args below meth c nL D A H0 cells slots Q tgt lv st G M) (kf : ¬ (0 < x) → u_S p l e R s m args below meth c nL D A H0 cells slots Q (pc + 3) lv st G M) : u_S p l e R s m args below meth c nL D A H0 cells slots Q pc lv (.int x :: st) G M := by
  intro H locs ls hP hD hS hl
  obtain ⟨⟨hx, hb, hml, hown, hts⟩, hK, hA, hcs⟩ := C
  exact lv_if_gt hx hb hd ht (fun z => kt z H locs ls hP hD hS hl) (fun z => kf z H locs ls hP hD hS hl)

theorem u_if_le (C : u_C p R s m args c cc own nL D A H0 cells slots G) {x : Int32} {off : Int} {tgt : Nat} (hd : decode cc pc = .ok (.ifCond .le off, 3)) (ht : (pc : Int) + off = (tgt : Int)) (kt : x ≤ 0 → u_S p l e R s m args below meth c nL D A H0 cells slots Q tgt lv st G M) (kf : ¬ (x ≤ 0) → u_S p l e R s m args below meth c nL D A H0 cells slots Q (pc + 3) lv st G M) : u_S p l e R s m args below meth c nL D A H0 cells slots Q pc lv (.int x :: st) G M := by
  intro H locs ls hP hD hS hl
  obtain ⟨⟨hx, hb, hml, hown, hts⟩, hK, hA, hcs⟩ := C
  exact lv_if_le hx hb hd ht (fun z => kt z H locs ls hP hD hS hl) (fun z => kf z H locs ls hP hD hS hl)

theorem u_icmp_eq (C : u_C p R s m args c cc own nL D A H0 cells slots G) {x y : Int32} {off : Int} {tgt : Nat} (hd : decode cc pc = .ok (.if_icmp .eq off, 3)) (ht : (pc : Int) + off = (tgt : Int)) (kt : x = y → u_S p l e R s m args below meth c nL D A H0 cells slots Q tgt lv st G M) (kf : ¬ (x = y) → u_S p l e R s m args below meth c nL D A H0 cells slots Q (pc + 3) lv st G M) : u_S p l e R s m args below meth c nL D A H0 cells slots Q pc lv (.int y :: .int x :: st) G M := by
  intro H locs ls hP hD hS hl
  obtain ⟨⟨hx, hb, hml, hown, hts⟩, hK, hA, hcs⟩ := C
  exact lv_icmp_eq hx hb hd ht (fun z => kt z H locs ls hP hD hS hl) (fun z => kf z H locs ls hP hD hS hl)

theorem u_icmp_ne (C : u_C p R s m args c cc own nL D A H0 cells slots G) {x y : Int32} {off : Int} {tgt : Nat} (hd : decode cc pc = .ok (.if_icmp .ne off, 3)) (ht : (pc : Int) + off = (tgt : Int)) (kt : ¬ x = y → u_S p l e R s m args below meth c nL D A H0 cells slots Q tgt lv st G M) (kf : x = y → u_S p l e R s m args below meth c nL D A H0 cells slots Q (pc + 3) lv st G M) : u_S p l e R s m args below meth c nL D A H0 cells slots Q pc lv (.int y :: .int x :: st) G M := by
  intro H locs ls hP hD hS hl
  obtain ⟨⟨hx, hb, hml, hown, hts⟩, hK, hA, hcs⟩ := C
  exact lv_icmp_ne hx hb hd ht (fun z => kt z H locs ls hP hD hS hl) (fun z => kf z H locs ls hP hD hS hl)

theorem u_icmp_lt (C : u_C p R s m args c cc own nL D A H0 cells slots G) {x y : Int32} {off : Int} {tgt : Nat} (hd : decode cc pc = .ok (.if_icmp .lt off, 3)) (ht : (pc : Int) + off = (tgt : Int)) (kt : x < y → u_S p l e R s m args below meth c nL D A H0 cells slots Q tgt lv st G M) (kf : ¬ (x < y) → u_S p l e R s m args below meth c nL D A H0 cells slots Q (pc + 3) lv st G M) : u_S p l e R s m args below meth c nL D A H0 cells slots Q pc lv (.int y :: .int x :: st) G M := by
  intro H locs ls hP hD hS hl
  obtain ⟨⟨hx, hb, hml, hown, hts⟩, hK, hA, hcs⟩ := C
  exact lv_icmp_lt hx hb hd ht (fun z => kt z H locs ls hP hD hS hl) (fun z => kf z H locs ls hP hD hS hl)

theorem u_icmp_ge (C : u_C p R s m args c cc own nL D A H0 cells slots G) {x y : Int32} {off : Int} {tgt : Nat} (hd : decode cc pc = .ok (.if_icmp .ge off, 3)) (ht : (pc : Int) + off = (tgt : Int)) (kt : y ≤ x → u_S p l e R s m args below meth c nL D A H0 cells slots Q tgt lv st G M) (kf : ¬ (y ≤ x) → u_S p l e R s m args below meth c nL D A H0 cells slots Q (pc + 3) lv st G M) : u_S p l e R s m args below meth c nL D A H0 cells slots Q pc lv (.int y :: .int x :: st) G M := by
  intro H locs ls hP hD hS hl
  obtain ⟨⟨hx, hb, hml, hown, hts⟩, hK, hA, hcs⟩ := C
  exact lv_icmp_ge hx hb hd ht (fun z => kt z H locs ls hP hD hS hl) (fun z => kf z H locs ls hP hD hS hl)

theorem u_icmp_gt (C : u_C p R s m args c cc own nL D A H0 cells slots G) {x y : Int32} {off : Int} {tgt : Nat} (hd : decode cc pc = .ok (.if_icmp .gt off, 3)) (ht : (pc : Int) + off = (tgt : Int)) (kt : y < x → u_S p l e R s m args below meth c nL D A H0 cells slots Q tgt lv st G M) (kf : ¬ (y < x) → u_S p l e R s m args below meth c nL D A H0 cells slots Q (pc + 3) lv st G M) : u_S p l e R s m args below meth c nL D A H0 cells slots Q pc lv (.int y :: .int x :: st) G M := by
  intro H locs ls hP hD hS hl
  obtain ⟨⟨hx, hb, hml, hown, hts⟩, hK, hA, hcs⟩ := C
  exact lv_icmp_gt hx hb hd ht (fun z => kt z H locs ls hP hD hS hl) (fun z => kf z H locs ls hP hD hS hl)

theorem u_icmp_le (C : u_C p R s m args c cc own nL D A H0 cells slots G) {x y : Int32} {off : Int} {tgt : Nat} (hd : decode cc pc = .ok (.if_icmp .le off, 3)) (ht : (pc : Int) + off = (tgt : Int)) (kt : x ≤ y → u_S p l e R s m args below meth c nL D A H0 cells slots Q tgt lv st G M) (kf : ¬ (x ≤ y) → u_S p l e R s m args below meth c nL D A H0 cells slots Q (pc + 3) lv st G M) : u_S p l e R s m args below meth c nL D A H0 cells slots Q pc lv (.int y :: .int x :: st) G M := by
  intro H locs ls hP hD hS hl
  obtain ⟨⟨hx, hb, hml, hown, hts⟩, hK, hA, hcs⟩ := C
  exact lv_icmp_le hx hb hd ht (fun z => kt z H locs ls hP hD hS hl) (fun z => kf z H locs ls hP hD hS hl)

theorem u_goto (C : u_C p R s m args c cc own nL D A H0 cells slots G) {off : Int} {tgt : Nat} (hd : decode cc pc = .ok (.goto off, 3)) (ht : (pc : Int) + off = (tgt : Int)) (k : u_S p l e R s m args below meth c nL D A H0 cells slots Q tgt lv st G M) : u_S p l e R s m args below meth c nL D A H0 cells slots Q pc lv st G M := by
  intro H locs ls hP hD hS hl
  obtain ⟨⟨hx, hb, hml, hown, hts⟩, hK, hA, hcs⟩ := C
  exact lv_goto hx hb hd ht (k H locs ls hP hD hS hl)

theorem u_tin (C : u_C p R s m args c cc own nL D A H0 cells slots G) {dflt lo hi : Int} {offs : Array Int} {len : Nat} {x : Int32} {off : Int} {tgt : Nat} (hd : decode cc pc = .ok (.tableswitch dflt lo hi offs, len)) (h1 : ¬ x.toInt < lo) (h2 : ¬ hi < x.toInt) (ho : offs[(x.toInt - lo).toNat]? = some off) (ht : (pc : Int) + off = (tgt : Int)) (k : u_S p l e R s m args below meth c nL D A H0 cells slots Q tgt lv st G M) : u_S p l e R s m args below meth c nL D A H0 cells slots Q pc lv (.int x :: st) G M := by
  intro H locs ls hP hD hS hl
  obtain ⟨⟨hx, hb, hml, hown, hts⟩, hK, hA, hcs⟩ := C
  exact lv_tableIn hx hb hd h1 h2 ho ht (k H locs ls hP hD hS hl)

theorem u_tout (C : u_C p R s m args c cc own nL D A H0 cells slots G) {dflt lo hi : Int} {offs : Array Int} {len : Nat} {x : Int32} {tgt : Nat} (hd : decode cc pc = .ok (.tableswitch dflt lo hi offs, len)) (h : x.toInt < lo ∨ hi < x.toInt) (ht : (pc : Int) + dflt = (tgt : Int)) (k : u_S p l e R s m args below meth c nL D A H0 cells slots Q tgt lv st G M) : u_S p l e R s m args below meth c nL D A H0 cells slots Q pc lv (.int x :: st) G M := by
  intro H locs ls hP hD hS hl
  obtain ⟨⟨hx, hb, hml, hown, hts⟩, hK, hA, hcs⟩ := C
  exact lv_tableOut hx hb hd h ht (k H locs ls hP hD hS hl)

def u_gf (cc : ByteArray) (own : String) (pc ci j : Nat) : Prop := ∃ (index : Nat) (Cn : String) (T : u_T) (N : Nat), decode cc pc = .ok (.getfield index, 3) ∧ vwCl[ci]? = some (Cn, T, N) ∧ (∀ w ∈ u_ws Cn T N, w ∈ wsL_law) ∧ j < N ∧ Cond.fieldLink own index (T j).1 (T j).2.1 (T j).2.2.1 ∈ wsL_law ∧ j < w_nf ci ∧ ci < 12
def u_pf (cc : ByteArray) (own : String) (pc ci j : Nat) (fin : Bool) (t : FieldType) : Prop := ∃ (index : Nat) (Cn : String) (T : u_T) (N : Nat) (ty0 : Nat → FieldType), decode cc pc = .ok (.putfield index, 3) ∧ vwCl[ci]? = some (Cn, T, N) ∧ (∀ w ∈ u_ws Cn T N, w ∈ wsL_law) ∧ (∀ k, k < N → parseFieldDescriptor (T k).2.2.1 = some (ty0 k)) ∧ (∀ a, a < N → ∀ b, b < N → a ≠ b → (T a).2.1 ≠ (T b).2.1) ∧ j < N ∧ Cond.fieldLink own index (T j).1 (T j).2.1 (T j).2.2.1 ∈ wsL_law ∧ j < w_nf ci ∧ ci < 12 ∧ (T j).2.2.2 = fin ∧ parseFieldDescriptor (T j).2.2.1 = some t ∧ (fin = true → (T j).1 = own)
theorem u_getI (C : u_C p R s m args c cc own nL D A H0 cells slots G) {ci j k : Nat} (hg : u_gf cc own pc ci j) (hr : w_rf ci j = false) (hk : u_is G k ci) (kk : u_S p l e R s m args below meth c nL D A H0 cells slots Q (pc + 3) lv (.int (iv M k j) :: st) G M) : u_S p l e R s m args below meth c nL D A H0 cells slots Q pc lv (.ref (gP G k) :: st) G M := by
  intro H locs ls hP hD hS hl
  obtain ⟨⟨hx, hb, hml, hown, hts⟩, hK, hA, hcs⟩ := C
  obtain ⟨index, Cn, T, N, hd, hc, hin, hj, hlk, hj', hci⟩ := hg
  obtain ⟨q, hq, hw⟩ := u_get (M := M) hk.1
  rw [w_cellO hk hci] at hw
  exact va_get hx hb hts hin hown hK hP q hw hc j hj (hts _ hlk) (fun _ h => h) (v := .int (iv M k j)) (by rw [w_fs_at hj']; simp [w_fv, hr]) hd (kk H locs ls hP hD hS hl)

theorem u_getR (C : u_C p R s m args c cc own nL D A H0 cells slots G) {ci j k k2 : Nat} (hg : u_gf cc own pc ci j) (hr : w_rf ci j = true) (hk : u_is G k ci) (hf : gF G k j = some k2) (kk : u_S p l e R s m args below meth c nL D A H0 cells slots Q (pc + 3) lv (.ref (gP G k2) :: st) G M) : u_S p l e R s m args below meth c nL D A H0 cells slots Q pc lv (.ref (gP G k) :: st) G M := by
  intro H locs ls hP hD hS hl
  obtain ⟨⟨hx, hb, hml, hown, hts⟩, hK, hA, hcs⟩ := C
  obtain ⟨index, Cn, T, N, hd, hc, hin, hj, hlk, hj', hci⟩ := hg
  obtain ⟨q, hq, hw⟩ := u_get (M := M) hk.1
  rw [w_cellO hk hci] at hw
  exact va_get hx hb hts hin hown hK hP q hw hc j hj (hts _ hlk) (fun _ h => h) (v := .ref (gP G k2)) (by rw [w_fs_at hj']; simp [w_fv, hr, hf, va_rf]) hd (kk H locs ls hP hD hS hl)

theorem u_putI (C : u_C p R s m args c cc own nL D A H0 cells slots G) {ci j k : Nat} {x : Int32} (hg : u_pf cc own pc ci j false .int) (hr : w_rf ci j = false) (hk : u_is G k ci)  (kk : u_S p l e R s m args below meth c nL D A H0 cells slots Q (pc + 3) lv st G (wi M k j x)) : u_S p l e R s m args below meth c nL D A H0 cells slots Q pc lv (.int x :: .ref (gP G k) :: st) G M := by
  intro H locs ls hP hD hS hl
  obtain ⟨⟨hx, hb, hml, hown, hts⟩, hK, hA, hcs⟩ := C
  obtain ⟨index, Cn, T, N, ty0, hd, hc, hin, hty, hnm, hj, hlk, hj', hci, hfin, hd9, -⟩ := hg
  obtain ⟨q, hq, hw⟩ := u_get (M := M) hk.1
  rw [w_cellO hk hci] at hw
  have e : (u_W G M).set q (gP G k, .inr (ci, (w_fs G M ci k).set j (.int x))) = u_W G (wi M k j x) := by
    rw [w_fs_wi hr, ← w_cellO hk hci]
    exact u_setW hD hq (fun b hb => w_oi hb)
  refine va_put hx hb hts hin ty0 hty hnm hown hK hP hD hS q hw hc j hj (hts _ hlk) (fun _ h => h) hfin (v := .int x) hd9 rfl rfl (by rw [w_fs_len]; exact hj') hd (fun H locs hP hD hS => ?_)
  rw [e] at hP hD
  exact kk H locs ls hP hD hS hl

theorem u_putZ (C : u_C p R s m args c cc own nL D A H0 cells slots G) {ci j k : Nat} {x : Int32} (hg : u_pf cc own pc ci j false .boolean) (hr : w_rf ci j = false) (hk : u_is G k ci) (hx9 : x = 0 ∨ x = 1)  (kk : u_S p l e R s m args below meth c nL D A H0 cells slots Q (pc + 3) lv st G (wi M k j x)) : u_S p l e R s m args below meth c nL D A H0 cells slots Q pc lv (.int x :: .ref (gP G k) :: st) G M := by
  intro H locs ls hP hD hS hl
  obtain ⟨⟨hx, hb, hml, hown, hts⟩, hK, hA, hcs⟩ := C
  obtain ⟨index, Cn, T, N, ty0, hd, hc, hin, hty, hnm, hj, hlk, hj', hci, hfin, hd9, -⟩ := hg
  obtain ⟨q, hq, hw⟩ := u_get (M := M) hk.1
  rw [w_cellO hk hci] at hw
  have e : (u_W G M).set q (gP G k, .inr (ci, (w_fs G M ci k).set j (.int x))) = u_W G (wi M k j x) := by
    rw [w_fs_wi hr, ← w_cellO hk hci]
    exact u_setW hD hq (fun b hb => w_oi hb)
  refine va_put hx hb hts hin ty0 hty hnm hown hK hP hD hS q hw hc j hj (hts _ hlk) (fun _ h => h) hfin (v := .int x) hd9 (by rcases hx9 with rfl | rfl <;> rfl) (by rcases hx9 with rfl | rfl <;> rfl) (by rw [w_fs_len]; exact hj') hd (fun H locs hP hD hS => ?_)
  rw [e] at hP hD
  exact kk H locs ls hP hD hS hl

theorem u_upd {M : w_M} {k i : Nat} {x : Int32} : upd (fun j => iv M k j) i x = fun j => iv (wi M k i x) k j := by
  funext j
  simp [upd, iv_wi]

theorem u_updL {M : w_M} {k i : Nat} {x : Int64} : vp_updL (fun j => jv M k j) i x = fun j => jv (wj M k i x) k j := by
  funext j
  simp [vp_updL, jv_wj]

theorem u_iald (C : u_C p R s m args c cc own nL D A H0 cells slots G) {k : Nat} {i : Int32} (hd : decode cc pc = .ok (.iaload, 1)) (hk : u_is G k 12) (hi : vp_in i (gN G k)) (kk : u_S p l e R s m args below meth c nL D A H0 cells slots Q (pc + 1) lv (.int (iv M k i.toNatClampNeg) :: st) G M) : u_S p l e R s m args below meth c nL D A H0 cells slots Q pc lv (.int i :: .ref (gP G k) :: st) G M := by
  intro H locs ls hP hD hS hl
  obtain ⟨⟨hx, hb, hml, hown, hts⟩, hK, hA, hcs⟩ := C
  obtain ⟨q, hq, hw⟩ := u_get (M := M) hk.1
  rw [w_cellI hk] at hw
  exact va_iald hx hb hK hP q 0 hw rfl hi hd (kk H locs ls hP hD hS hl)

theorem u_zald (C : u_C p R s m args c cc own nL D A H0 cells slots G) {k : Nat} {i : Int32} (hd : decode cc pc = .ok (.baload, 1)) (hk : u_is G k 14) (hi : vp_in i (gN G k)) (kk : u_S p l e R s m args below meth c nL D A H0 cells slots Q (pc + 1) lv (.int (iv M k i.toNatClampNeg) :: st) G M) : u_S p l e R s m args below meth c nL D A H0 cells slots Q pc lv (.int i :: .ref (gP G k) :: st) G M := by
  intro H locs ls hP hD hS hl
  obtain ⟨⟨hx, hb, hml, hown, hts⟩, hK, hA, hcs⟩ := C
  obtain ⟨q, hq, hw⟩ := u_get (M := M) hk.1
  rw [w_cellZ hk] at hw
  exact va_zald hx hb hK hP q 2 hw rfl hi hd (kk H locs ls hP hD hS hl)

theorem u_lald (C : u_C p R s m args c cc own nL D A H0 cells slots G) {k : Nat} {i : Int32} (hd : decode cc pc = .ok (.laload, 1)) (hk : u_is G k 13) (hi : vp_in i (gN G k)) (kk : u_S p l e R s m args below meth c nL D A H0 cells slots Q (pc + 1) lv (.long (jv M k i.toNatClampNeg) :: st) G M) : u_S p l e R s m args below meth c nL D A H0 cells slots Q pc lv (.int i :: .ref (gP G k) :: st) G M := by
  intro H locs ls hP hD hS hl
  obtain ⟨⟨hx, hb, hml, hown, hts⟩, hK, hA, hcs⟩ := C
  obtain ⟨q, hq, hw⟩ := u_get (M := M) hk.1
  rw [w_cellJ hk] at hw
  exact va_lald hx hb hK hP q 1 hw rfl hi hd (kk H locs ls hP hD hS hl)

theorem u_iast (C : u_C p R s m args c cc own nL D A H0 cells slots G) {k : Nat} {i : Int32} {x : Int32} (hd : decode cc pc = .ok (.iastore, 1)) (hk : u_is G k 12) (hi : vp_in i (gN G k))  (kk : u_S p l e R s m args below meth c nL D A H0 cells slots Q (pc + 1) lv st G (wi M k i.toNatClampNeg x)) : u_S p l e R s m args below meth c nL D A H0 cells slots Q pc lv (.int x :: .int i :: .ref (gP G k) :: st) G M := by
  intro H locs ls hP hD hS hl
  obtain ⟨⟨hx, hb, hml, hown, hts⟩, hK, hA, hcs⟩ := C
  obtain ⟨q, hq, hw⟩ := u_get (M := M) hk.1
  rw [w_cellI hk] at hw
  have e : (u_W G M).set q (gP G k, .inl (gC G 0, gN G k, .inl (upd (fun j => iv M k j) i.toNatClampNeg x))) = u_W G (wi M k i.toNatClampNeg x) := by
    rw [u_upd, ← w_cellI hk]
    exact u_setW hD hq (fun b hb => w_oi hb)
  refine va_iast hx hb hK hP hD hS q 0 hw rfl hi hd (fun H locs hP hD hS => ?_)
  rw [e] at hP hD
  exact kk H locs ls hP hD hS hl

theorem u_zast (C : u_C p R s m args c cc own nL D A H0 cells slots G) {k : Nat} {i : Int32} {x : Int32} (hd : decode cc pc = .ok (.bastore, 1)) (hk : u_is G k 14) (hi : vp_in i (gN G k)) (hx9 : x = 0 ∨ x = 1) (kk : u_S p l e R s m args below meth c nL D A H0 cells slots Q (pc + 1) lv st G (wi M k i.toNatClampNeg x)) : u_S p l e R s m args below meth c nL D A H0 cells slots Q pc lv (.int x :: .int i :: .ref (gP G k) :: st) G M := by
  intro H locs ls hP hD hS hl
  obtain ⟨⟨hx, hb, hml, hown, hts⟩, hK, hA, hcs⟩ := C
  obtain ⟨q, hq, hw⟩ := u_get (M := M) hk.1
  rw [w_cellZ hk] at hw
  have e : (u_W G M).set q (gP G k, .inl (gC G 2, gN G k, .inl (upd (fun j => iv M k j) i.toNatClampNeg x))) = u_W G (wi M k i.toNatClampNeg x) := by
    rw [u_upd, ← w_cellZ hk]
    exact u_setW hD hq (fun b hb => w_oi hb)
  refine va_zast hx hb hK hP hD hS q 2 hw rfl hi hd (fun H locs hP hD hS => ?_)
  rw [show vp_nar .boolean x = x by rcases hx9 with rfl | rfl <;> rfl] at hP hD
  rw [e] at hP hD
  exact kk H locs ls hP hD hS hl

theorem u_last (C : u_C p R s m args c cc own nL D A H0 cells slots G) {k : Nat} {i : Int32} {x : Int64} (hd : decode cc pc = .ok (.lastore, 1)) (hk : u_is G k 13) (hi : vp_in i (gN G k))  (kk : u_S p l e R s m args below meth c nL D A H0 cells slots Q (pc + 1) lv st G (wj M k i.toNatClampNeg x)) : u_S p l e R s m args below meth c nL D A H0 cells slots Q pc lv (.long x :: .int i :: .ref (gP G k) :: st) G M := by
  intro H locs ls hP hD hS hl
  obtain ⟨⟨hx, hb, hml, hown, hts⟩, hK, hA, hcs⟩ := C
  obtain ⟨q, hq, hw⟩ := u_get (M := M) hk.1
  rw [w_cellJ hk] at hw
  have e : (u_W G M).set q (gP G k, .inl (gC G 1, gN G k, .inr (.inl (vp_updL (fun j => jv M k j) i.toNatClampNeg x)))) = u_W G (wj M k i.toNatClampNeg x) := by
    rw [u_updL, ← w_cellJ hk]
    exact u_setW hD hq (fun b hb => w_oj hb)
  refine va_last hx hb hK hP hD hS q 1 hw rfl hi hd (fun H locs hP hD hS => ?_)
  rw [e] at hP hD
  exact kk H locs ls hP hD hS hl

theorem u_aald (C : u_C p R s m args c cc own nL D A H0 cells slots G) {k k2 t : Nat} {i : Int32} (hd : decode cc pc = .ok (.aaload, 1)) (hk : u_is G k t) (ht : 15 ≤ t ∧ t ≤ 19) (hi : vp_in i (gN G k)) (hf : gF G k i.toNatClampNeg = some k2) (kk : u_S p l e R s m args below meth c nL D A H0 cells slots Q (pc + 1) lv (.ref (gP G k2) :: st) G M) : u_S p l e R s m args below meth c nL D A H0 cells slots Q pc lv (.int i :: .ref (gP G k) :: st) G M := by
  intro H locs ls hP hD hS hl
  obtain ⟨⟨hx, hb, hml, hown, hts⟩, hK, hA, hcs⟩ := C
  obtain ⟨q, hq, hw⟩ := u_get (M := M) hk.1
  rw [w_cellR hk ht.1] at hw
  obtain ⟨Cn, h9⟩ : ∃ Cn : String, (w_ty (gC G))[t - 12]? = some (gC G (t - 12), .object Cn) := by
    obtain ⟨h1, h2⟩ := ht
    rcases (show t = 15 ∨ t = 16 ∨ t = 17 ∨ t = 18 ∨ t = 19 by omega) with rfl | rfl | rfl | rfl | rfl <;> exact ⟨_, rfl⟩
  refine va_aldq hx hb hK hP q (t - 12) hw h9 hi hd ?_
  rw [hf]
  exact kk H locs ls hP hD hS hl

theorem u_alenI (C : u_C p R s m args c cc own nL D A H0 cells slots G) {k : Nat} (hd : decode cc pc = .ok (.arraylength, 1)) (hk : u_is G k 12) (kk : u_S p l e R s m args below meth c nL D A H0 cells slots Q (pc + 1) lv (.int (Int32.ofNat (gN G k)) :: st) G M) : u_S p l e R s m args below meth c nL D A H0 cells slots Q pc lv (.ref (gP G k) :: st) G M := by
  intro H locs ls hP hD hS hl
  obtain ⟨⟨hx, hb, hml, hown, hts⟩, hK, hA, hcs⟩ := C
  obtain ⟨q, hq, hw⟩ := u_get (M := M) hk.1
  rw [w_cellI hk] at hw
  exact va_alen hx hb hK hP q 0 hw rfl rfl hd (kk H locs ls hP hD hS hl)

theorem u_alenJ (C : u_C p R s m args c cc own nL D A H0 cells slots G) {k : Nat} (hd : decode cc pc = .ok (.arraylength, 1)) (hk : u_is G k 13) (kk : u_S p l e R s m args below meth c nL D A H0 cells slots Q (pc + 1) lv (.int (Int32.ofNat (gN G k)) :: st) G M) : u_S p l e R s m args below meth c nL D A H0 cells slots Q pc lv (.ref (gP G k) :: st) G M := by
  intro H locs ls hP hD hS hl
  obtain ⟨⟨hx, hb, hml, hown, hts⟩, hK, hA, hcs⟩ := C
  obtain ⟨q, hq, hw⟩ := u_get (M := M) hk.1
  rw [w_cellJ hk] at hw
  exact va_alen hx hb hK hP q 1 hw rfl rfl hd (kk H locs ls hP hD hS hl)

theorem u_alenR (C : u_C p R s m args c cc own nL D A H0 cells slots G) {k t : Nat} (hd : decode cc pc = .ok (.arraylength, 1)) (hk : u_is G k t) (ht : 15 ≤ t ∧ t ≤ 19) (kk : u_S p l e R s m args below meth c nL D A H0 cells slots Q (pc + 1) lv (.int (Int32.ofNat (gN G k)) :: st) G M) : u_S p l e R s m args below meth c nL D A H0 cells slots Q pc lv (.ref (gP G k) :: st) G M := by
  intro H locs ls hP hD hS hl
  obtain ⟨⟨hx, hb, hml, hown, hts⟩, hK, hA, hcs⟩ := C
  obtain ⟨q, hq, hw⟩ := u_get (M := M) hk.1
  rw [w_cellR hk ht.1] at hw
  obtain ⟨Cn, h9⟩ : ∃ Cn : String, (w_ty (gC G))[t - 12]? = some (gC G (t - 12), .object Cn) := by
    obtain ⟨h1, h2⟩ := ht
    rcases (show t = 15 ∨ t = 16 ∨ t = 17 ∨ t = 18 ∨ t = 19 by omega) with rfl | rfl | rfl | rfl | rfl <;> exact ⟨_, rfl⟩
  exact va_alen hx hb hK hP q (t - 12) hw h9 rfl hd (kk H locs ls hP hD hS hl)

theorem u_loc (ks : List Nat) {lv2 : List (Nat × Value)} (hs : lv_re lv ks = lv2) (k : u_S p l e R s m args below meth c nL D A H0 cells slots Q pc lv2 st G M) : u_S p l e R s m args below meth c nL D A H0 cells slots Q pc lv st G M := fun H locs ls hP hD hS hl => k H locs ls hP hD hS (hs ▸ lv_rehas hl ks)
theorem u_eq {lv2 : List (Nat × Value)} {st2 : List Value} {M2 : w_M} (k : u_S p l e R s m args below meth c nL D A H0 cells slots Q pc lv2 st2 G M2) (h1 : lv = lv2) (h2 : st = st2) (h3 : M = M2) : u_S p l e R s m args below meth c nL D A H0 cells slots Q pc lv st G M := by subst h1 h2 h3; exact k
theorem u_mmin (C : u_C p R s m args c cc own nL D A H0 cells slots G) {x y : Int32} {index : Nat} (hd : decode cc pc = .ok (.invokestatic index, 3)) (hlk : Cond.methodLink own index Lib.Math.min.name ∈ wsL_law) (hw : Cond.static Lib.Math.min.name ∈ wsL_law ∧ Cond.initialized "java/lang/Math" ∈ wsL_law ∧ Cond.code Lib.Math.min.name Lib.Math.min.code 2 (some .int) ∈ wsL_law) (hR : 1 ≤ R.frames ∧ 21 ≤ R.locals) (hcat : (st.map fun v => v.category).sum ≤ 8) (kk : u_S p l e R s m args below meth c nL D A H0 cells slots Q (pc + 3) lv (.int (if y < x then y else x) :: st) G M) : u_S p l e R s m args below meth c nL D A H0 cells slots Q pc lv (.int y :: .int x :: st) G M := by
  intro H locs ls hP hD hS hl
  obtain ⟨⟨hx, hb, hml, hown, hts⟩, hK, hA, hcs⟩ := C
  exact va_mmin hx hb (hml.trans hl.1.symm) hown (hts _ hlk) (hts _ hw.1) (hts _ hw.2.1) (hts _ hw.2.2) hR.1 (by omega) hcs.1 hcs.2 hd (kk H locs ls hP hD hS hl)

theorem u_mmax (C : u_C p R s m args c cc own nL D A H0 cells slots G) {x y : Int32} {index : Nat} (hd : decode cc pc = .ok (.invokestatic index, 3)) (hlk : Cond.methodLink own index Lib.Math.max.name ∈ wsL_law) (hw : Cond.static Lib.Math.max.name ∈ wsL_law ∧ Cond.initialized "java/lang/Math" ∈ wsL_law ∧ Cond.code Lib.Math.max.name Lib.Math.max.code 2 (some .int) ∈ wsL_law) (hR : 1 ≤ R.frames ∧ 21 ≤ R.locals) (hcat : (st.map fun v => v.category).sum ≤ 8) (kk : u_S p l e R s m args below meth c nL D A H0 cells slots Q (pc + 3) lv (.int (if x < y then y else x) :: st) G M) : u_S p l e R s m args below meth c nL D A H0 cells slots Q pc lv (.int y :: .int x :: st) G M := by
  intro H locs ls hP hD hS hl
  obtain ⟨⟨hx, hb, hml, hown, hts⟩, hK, hA, hcs⟩ := C
  exact va_mmax hx hb (hml.trans hl.1.symm) hown (hts _ hlk) (hts _ hw.1) (hts _ hw.2.1) (hts _ hw.2.2) hR.1 (by omega) hcs.1 hcs.2 hd (kk H locs ls hP hD hS hl)

end US
def u_rm (f n : Nat) : Room := { frames := f, cells := 0, slots := 0, locals := n }
def u_Pre (D : va_G) (G : w_G) (M : w_M) (sz : Nat) (av : List Value) : Array Value → State → Prop := va_Pc av (fun U => U.heap.size = sz ∧ va_P D vwCl (u_W G M) U.heap ∧ va_K D vwCl (w_ty (gC G)) U ∧ va_D (fun _ => True) (u_W G M))
def u_Bx (D : va_G) (G : w_G) (M : w_M) (t : State) : Prop := va_P D vwCl (u_W G M) t.heap ∧ va_K D vwCl (w_ty (gC G)) t
theorem u_blind {D : va_G} {G : w_G} {M : w_M} {sz : Nat} {av : List Value} : FrameBlind (u_Pre D G M sz av) := fun a U g mk q => by
  obtain ⟨q0, q1, qP, qK, qD⟩ := q
  exact ⟨q0, q1, qP, va_K.moved (u := U) (U := U.calling g mk a) (Vm.Alike.refl U.vm) qK, qD⟩
def u_Mi (l : Launch) (D : va_G) (G : w_G) (y : MethodName) (cc : ByteArray) (maxL : Nat) (ret : Option FieldType) (f n : Nat) (av : List Value) (M : w_M) (post : Int32 → w_M → Prop) : Prop := ∀ sz : Nat, Met l y (u_ws2 y cc maxL ret) (u_rm f n) (u_Pre D G M sz av) (va_Qi post (u_Bx D G) (va_A (u_W G M) sz)) 0 0 (va_A (u_W G M) sz)
def u_Ml (l : Launch) (D : va_G) (G : w_G) (y : MethodName) (cc : ByteArray) (maxL : Nat) (ret : Option FieldType) (f n : Nat) (av : List Value) (M : w_M) (post : Int64 → w_M → Prop) : Prop := ∀ sz : Nat, Met l y (u_ws2 y cc maxL ret) (u_rm f n) (u_Pre D G M sz av) (va_Ql post (u_Bx D G) (va_A (u_W G M) sz)) 0 0 (va_A (u_W G M) sz)
def u_Mv (l : Launch) (D : va_G) (G : w_G) (y : MethodName) (cc : ByteArray) (maxL : Nat) (ret : Option FieldType) (f n : Nat) (av : List Value) (M : w_M) (post : w_M → Prop) : Prop := ∀ sz : Nat, Met l y (u_ws2 y cc maxL ret) (u_rm f n) (u_Pre D G M sz av) (va_Qv post (u_Bx D G) (va_A (u_W G M) sz)) 0 0 (va_A (u_W G M) sz)
/-- what the tables say of a callee -/
def u_me (y : MethodName) (cc : ByteArray) (maxL : Nat) (ret : Option FieldType) (n : Nat) : Prop := (y.cls ≠ "java/lang/invoke/MethodHandle" ∧ y.cls ≠ "java/lang/invoke/VarHandle" ∧ (parseMethodDescriptor y.desc).map (fun d => d.parameters.length) = some n) ∧ Cond.initialized y.cls ∈ wsL_law ∧ Cond.code y cc maxL ret ∈ wsL_law
def u_mev (y : MethodName) (cc : ByteArray) (maxL : Nat) (ret : Option FieldType) (n : Nat) : Prop := u_me y cc maxL ret n ∧ Cond.instanceMethod y ∈ wsL_law ∧ Cond.selects y.cls y y ∈ wsL_law
def u_mes (y : MethodName) (cc : ByteArray) (maxL : Nat) (ret : Option FieldType) (n : Nat) : Prop := u_me y cc maxL ret n ∧ Cond.static y ∈ wsL_law
section UB
variable {l : Launch} {D : va_G} {G : w_G} {y : MethodName} {cc : ByteArray} {maxL f n : Nat} {av : List Value} {M : w_M}

theorem u_bodyi {ret : Option FieldType} {post : Int32 → w_M → Prop} (hy : plainName y.cls = true) (hav : (lg_sl av).length ≤ maxL) (hret : ret = some .int) (body : ∀ (p : Program) (e : Env) (s : State) (m : MethodId) (args : Array Value) (below : List Frame) (meth : Method) (c : Code) (A : Nat → Prop) (H0 : Heap) (Q : State → Prop), u_C p (u_rm f n) s m args c cc y.cls maxL D A H0 0 0 G → (∀ (pc : Nat) (lv : List (Nat × Value)) (r : Int32) (M2 : w_M), decode cc pc = .ok (.ireturn, 1) → post r M2 → u_S p l e (u_rm f n) s m args below meth c maxL D A H0 0 0 Q pc lv [.int r] G M2) → u_S p l e (u_rm f n) s m args below meth c maxL D A H0 0 0 Q 0 (lv_args 0 av) [] G M) : u_Mi l D G y cc maxL ret f n av M post := by
  intro sz
  refine Met.ofW (cc := cc) (maxL := maxL) (ret := ret) hy rfl ?_
  intro p e s m args below meth c s₁ B hml hv
  obtain ⟨rfl, hsz, hP, hK, hD0⟩ := hv
  have hx := B.exec
  have hb := B.bytes
  have hr := B.returns
  have hts := atoms_spec (ws := u_ws2 y cc maxL ret) B.pre
  have hown : s.vm.findClass y.cls = some m.cls := findClass_of_methodNamed B.named
  have hlocks := B.notSynchronized
  subst hsz
  have hD := hD0.self (sz := s.heap.size)
  have hA : ∀ q : Nat, s.heap.size ≤ q → va_A (u_W G M) s.heap.size q := fun q h => Or.inr h
  have hS : va_S (va_A (u_W G M) s.heap.size) s.heap s.heap [] := va_S.rf
  have hl := lv_entry av (n := maxL) hav
  rw [lg_entry_eq]
  refine body p e s m av.toArray below meth c _ s.heap _ ⟨⟨hx, hb, hml, hown, fun w hw => hts w (List.mem_cons_of_mem _ hw)⟩, hK, hA, Nat.le_refl 0, Nat.le_refl 0⟩ ?_ s.heap [] _ hP hD hS hl
  intro pc lv r M2 hd hq H locs ls hP hD hS hl
  subst hret
  exact W.iret hx hb hr (fun t ht hW => ⟨⟨r, M2, rfl, hq, by rw [ht]; exact hP, va_K.moved hW.alike hK⟩, hS.F ht⟩) hS.2.2 hd

theorem u_bodyz {ret : Option FieldType} {post : Int32 → w_M → Prop} (hy : plainName y.cls = true) (hav : (lg_sl av).length ≤ maxL) (hret : ret = some .boolean) (body : ∀ (p : Program) (e : Env) (s : State) (m : MethodId) (args : Array Value) (below : List Frame) (meth : Method) (c : Code) (A : Nat → Prop) (H0 : Heap) (Q : State → Prop), u_C p (u_rm f n) s m args c cc y.cls maxL D A H0 0 0 G → (∀ (pc : Nat) (lv : List (Nat × Value)) (r : Int32) (M2 : w_M), decode cc pc = .ok (.ireturn, 1) → r = 0 ∨ r = 1 → post r M2 → u_S p l e (u_rm f n) s m args below meth c maxL D A H0 0 0 Q pc lv [.int r] G M2) → u_S p l e (u_rm f n) s m args below meth c maxL D A H0 0 0 Q 0 (lv_args 0 av) [] G M) : u_Mi l D G y cc maxL ret f n av M post := by
  intro sz
  refine Met.ofW (cc := cc) (maxL := maxL) (ret := ret) hy rfl ?_
  intro p e s m args below meth c s₁ B hml hv
  obtain ⟨rfl, hsz, hP, hK, hD0⟩ := hv
  have hx := B.exec
  have hb := B.bytes
  have hr := B.returns
  have hts := atoms_spec (ws := u_ws2 y cc maxL ret) B.pre
  have hown : s.vm.findClass y.cls = some m.cls := findClass_of_methodNamed B.named
  have hlocks := B.notSynchronized
  subst hsz
  have hD := hD0.self (sz := s.heap.size)
  have hA : ∀ q : Nat, s.heap.size ≤ q → va_A (u_W G M) s.heap.size q := fun q h => Or.inr h
  have hS : va_S (va_A (u_W G M) s.heap.size) s.heap s.heap [] := va_S.rf
  have hl := lv_entry av (n := maxL) hav
  rw [lg_entry_eq]
  refine body p e s m av.toArray below meth c _ s.heap _ ⟨⟨hx, hb, hml, hown, fun w hw => hts w (List.mem_cons_of_mem _ hw)⟩, hK, hA, Nat.le_refl 0, Nat.le_refl 0⟩ ?_ s.heap [] _ hP hD hS hl
  intro pc lv r M2 hd h01 hq H locs ls hP hD hS hl
  subst hret
  exact W.zret hx hb hr (by rcases h01 with rfl | rfl <;> rfl) (fun t ht hW => ⟨⟨r, M2, rfl, hq, by rw [ht]; exact hP, va_K.moved hW.alike hK⟩, hS.F ht⟩) hS.2.2 hd

theorem u_bodyl {ret : Option FieldType} {post : Int64 → w_M → Prop} (hy : plainName y.cls = true) (hav : (lg_sl av).length ≤ maxL) (hret : ret = some .long) (body : ∀ (p : Program) (e : Env) (s : State) (m : MethodId) (args : Array Value) (below : List Frame) (meth : Method) (c : Code) (A : Nat → Prop) (H0 : Heap) (Q : State → Prop), u_C p (u_rm f n) s m args c cc y.cls maxL D A H0 0 0 G → (∀ (pc : Nat) (lv : List (Nat × Value)) (r : Int64) (M2 : w_M), decode cc pc = .ok (.lreturn, 1) → post r M2 → u_S p l e (u_rm f n) s m args below meth c maxL D A H0 0 0 Q pc lv [.long r] G M2) → u_S p l e (u_rm f n) s m args below meth c maxL D A H0 0 0 Q 0 (lv_args 0 av) [] G M) : u_Ml l D G y cc maxL ret f n av M post := by
  intro sz
  refine Met.ofW (cc := cc) (maxL := maxL) (ret := ret) hy rfl ?_
  intro p e s m args below meth c s₁ B hml hv
  obtain ⟨rfl, hsz, hP, hK, hD0⟩ := hv
  have hx := B.exec
  have hb := B.bytes
  have hr := B.returns
  have hts := atoms_spec (ws := u_ws2 y cc maxL ret) B.pre
  have hown : s.vm.findClass y.cls = some m.cls := findClass_of_methodNamed B.named
  have hlocks := B.notSynchronized
  subst hsz
  have hD := hD0.self (sz := s.heap.size)
  have hA : ∀ q : Nat, s.heap.size ≤ q → va_A (u_W G M) s.heap.size q := fun q h => Or.inr h
  have hS : va_S (va_A (u_W G M) s.heap.size) s.heap s.heap [] := va_S.rf
  have hl := lv_entry av (n := maxL) hav
  rw [lg_entry_eq]
  refine body p e s m av.toArray below meth c _ s.heap _ ⟨⟨hx, hb, hml, hown, fun w hw => hts w (List.mem_cons_of_mem _ hw)⟩, hK, hA, Nat.le_refl 0, Nat.le_refl 0⟩ ?_ s.heap [] _ hP hD hS hl
  intro pc lv r M2 hd hq H locs ls hP hD hS hl
  subst hret
  exact W.lret hx hb hr (fun t ht hW => ⟨⟨r, M2, rfl, hq, by rw [ht]; exact hP, va_K.moved hW.alike hK⟩, hS.F ht⟩) hS.2.2 hd

theorem u_bodyv {ret : Option FieldType} {post : w_M → Prop} (hy : plainName y.cls = true) (hav : (lg_sl av).length ≤ maxL) (hret : ret = none) (body : ∀ (p : Program) (e : Env) (s : State) (m : MethodId) (args : Array Value) (below : List Frame) (meth : Method) (c : Code) (A : Nat → Prop) (H0 : Heap) (Q : State → Prop), u_C p (u_rm f n) s m args c cc y.cls maxL D A H0 0 0 G → (∀ (pc : Nat) (lv : List (Nat × Value)) (M2 : w_M), decode cc pc = .ok (.return_, 1) → post M2 → u_S p l e (u_rm f n) s m args below meth c maxL D A H0 0 0 Q pc lv [] G M2) → u_S p l e (u_rm f n) s m args below meth c maxL D A H0 0 0 Q 0 (lv_args 0 av) [] G M) : u_Mv l D G y cc maxL ret f n av M post := by
  intro sz
  refine Met.ofW (cc := cc) (maxL := maxL) (ret := ret) hy rfl ?_
  intro p e s m args below meth c s₁ B hml hv
  obtain ⟨rfl, hsz, hP, hK, hD0⟩ := hv
  have hx := B.exec
  have hb := B.bytes
  have hr := B.returns
  have hts := atoms_spec (ws := u_ws2 y cc maxL ret) B.pre
  have hown : s.vm.findClass y.cls = some m.cls := findClass_of_methodNamed B.named
  have hlocks := B.notSynchronized
  subst hsz
  have hD := hD0.self (sz := s.heap.size)
  have hA : ∀ q : Nat, s.heap.size ≤ q → va_A (u_W G M) s.heap.size q := fun q h => Or.inr h
  have hS : va_S (va_A (u_W G M) s.heap.size) s.heap s.heap [] := va_S.rf
  have hl := lv_entry av (n := maxL) hav
  rw [lg_entry_eq]
  refine body p e s m av.toArray below meth c _ s.heap _ ⟨⟨hx, hb, hml, hown, fun w hw => hts w (List.mem_cons_of_mem _ hw)⟩, hK, hA, Nat.le_refl 0, Nat.le_refl 0⟩ ?_ s.heap [] _ hP hD hS hl
  intro pc lv M2 hd hq H locs ls hP hD hS hl
  subst hret
  exact W.vret hx hb hr (fun t ht hW => ⟨⟨M2, rfl, hq, by rw [ht]; exact hP, va_K.moved hW.alike hK⟩, hS.F ht⟩) hS.2.2 hd

end UB
section UCALL
variable {p : Program} {l : Launch} {e : Env} {R : Room} {s : State} {m : MethodId} {args : Array Value} {below : List Frame} {meth : Method} {c : Code} {Q : State → Prop} {cells slots : Nat}
variable {cc : ByteArray} {own : String} {nL : Nat} {D : va_G} {A : Nat → Prop} {H0 : Heap} {G : w_G} {M : w_M} {pc : Nat} {lv : List (Nat × Value)} {st st0 : List Value}
variable {y : MethodName} {bytes : ByteArray} {maxL f n na index : Nat} {ret : Option FieldType} {As : List Value}
theorem u_cb (C : u_C p R s m args c cc own nL D A H0 cells slots G) (hm : u_me y bytes maxL ret na) (hlk : Cond.methodLink own index y ∈ wsL_law) (hR : f + 1 ≤ R.frames ∧ 8 + (maxL + 11) + n ≤ R.locals) : CallB R s args own index y bytes maxL ret (u_ws2 y bytes maxL ret) (u_rm f n) 0 0 na := by
  obtain ⟨⟨hx, hb, hml, hown, hts⟩, hK, hA, hcs⟩ := C
  exact callB_of na hts (u_goodIn hm.2.2) rfl rfl rfl (hts _ hm.2.1) (hts _ hlk) hm.1 hR
theorem u_pres {H : Heap} {M : w_M} (hK : va_K D vwCl (w_ty (gC G)) s) (hP : va_P D vwCl (u_W G M) H) (hD : va_D A (u_W G M)) (av : List Value) : PreS s H (u_Pre D G M H.size av) av :=
  ⟨u_blind, fun U hU hW => ⟨rfl, by rw [hU], by rw [hU]; exact hP, va_K.moved hW.alike hK, hD.weaken (fun _ _ _ _ => trivial)⟩⟩
theorem u_hf {H : Heap} {locs : List Loc} (hA : ∀ q, H0.size ≤ q → A q) (hD : va_D A (u_W G M)) (hS : va_S A H0 H locs) : ∀ q, va_A (u_W G M) H.size q → A q := by
  intro q h
  rcases h with ⟨k, e, h⟩ | h
  · exact hD.2 k (q, e) h
  · exact hA q (Nat.le_trans hS.1 h)
theorem u_calliV {post : Int32 → w_M → Prop} (C : u_C p R s m args c cc own nL D A H0 cells slots G) (hm : u_mev y bytes maxL ret na) (hd : decode cc pc = .ok (.invokevirtual index, 3)) (hlk : Cond.methodLink own index y ∈ wsL_law) {b ci : Nat} (hb9 : u_is G b ci) (hcl : (vwCl[ci]?).map (fun q => q.1) = some y.cls) (hci : ci < 12) (hM : u_Mi l D G y bytes maxL ret f n (.ref (gP G b) :: As) M post) (hR : f + 1 ≤ R.frames ∧ 8 + (maxL + 11) + n ≤ R.locals) (hn : As.length = na) (hst : st0 = As.reverse ++ .ref (gP G b) :: st) (hcat : (st.map fun v => v.category).sum ≤ 8) (kk : ∀ (r : Int32) (M2 : w_M), post r M2 → u_S p l e R s m args below meth c nL D A H0 cells slots Q (pc + 3) lv (.int r :: st) G M2) : u_S p l e R s m args below meth c nL D A H0 cells slots Q pc lv st0 G M := by
  intro H locs ls hP hD hS hl
  obtain ⟨⟨hx, hb, hml, hown, hts⟩, hK, hA, hcs⟩ := id C
  obtain ⟨q9, hq9, hw9⟩ := u_get (M := M) hb9.1
  rw [w_cellO hb9 hci] at hw9
  obtain ⟨r9, hr9, hr8⟩ := Option.map_eq_some_iff.mp hcl
  have hrecv : ∃ cellB : Cell, H[gP G b]? = some cellB ∧ cellB.vm.isStatics = false ∧ s.vm.findClass y.cls = some cellB.cls := by
    rw [← hr8]
    exact va_recv hK hP hr9 hw9
  have hf := u_hf hA hD hS
  refine va_calli (va_runV (As := As) (rest := st) ⟨hx, hb, hml, hown, hts⟩ (hM H.size) ⟨u_cb C hm.1 hlk hR, hts _ hm.2.1, hts _ hm.2.2⟩ ⟨u_blind, hrecv, (u_pres hK hP hD _).2⟩ rfl hn hl.1 hst (lv_room hcat) hd ⟨hcs.1, hcs.2⟩) hS (fun q _ h => hf q h) hf (fun r u t H1 locs ht hvm hw hB hz1 hk1 hS => ?_)
  have hP1 := hB.1
  rw [ht] at hP1
  exact kk r u hw H1 locs ls hP1 (u_DM u hD) hS hl

theorem u_calliV0 {post : Int32 → w_M → Prop} (C : u_C p R s m args c cc own nL D A H0 cells slots G) (hm : u_mev y bytes maxL ret 0) (hd : decode cc pc = .ok (.invokevirtual index, 3)) (hlk : Cond.methodLink own index y ∈ wsL_law) {b ci : Nat} (hb9 : u_is G b ci) (hcl : (vwCl[ci]?).map (fun q => q.1) = some y.cls) (hci : ci < 12) (hM : u_Mi l D G y bytes maxL ret f n (.ref (gP G b) :: []) M post) (hR : f + 1 ≤ R.frames ∧ 8 + (maxL + 11) + n ≤ R.locals) (hcat : (st.map fun v => v.category).sum ≤ 8) (kk : ∀ (r : Int32) (M2 : w_M), post r M2 → u_S p l e R s m args below meth c nL D A H0 cells slots Q (pc + 3) lv (.int r :: st) G M2) : u_S p l e R s m args below meth c nL D A H0 cells slots Q pc lv (.ref (gP G b) :: st) G M := u_calliV C hm hd hlk hb9 hcl hci hM hR (As := []) rfl rfl hcat kk
theorem u_calliV1 {post : Int32 → w_M → Prop} {a0 : Value} (C : u_C p R s m args c cc own nL D A H0 cells slots G) (hm : u_mev y bytes maxL ret 1) (hd : decode cc pc = .ok (.invokevirtual index, 3)) (hlk : Cond.methodLink own index y ∈ wsL_law) {b ci : Nat} (hb9 : u_is G b ci) (hcl : (vwCl[ci]?).map (fun q => q.1) = some y.cls) (hci : ci < 12) (hM : u_Mi l D G y bytes maxL ret f n (.ref (gP G b) :: [a0]) M post) (hR : f + 1 ≤ R.frames ∧ 8 + (maxL + 11) + n ≤ R.locals) (hcat : (st.map fun v => v.category).sum ≤ 8) (kk : ∀ (r : Int32) (M2 : w_M), post r M2 → u_S p l e R s m args below meth c nL D A H0 cells slots Q (pc + 3) lv (.int r :: st) G M2) : u_S p l e R s m args below meth c nL D A H0 cells slots Q pc lv (a0 :: .ref (gP G b) :: st) G M := u_calliV C hm hd hlk hb9 hcl hci hM hR (As := [a0]) rfl rfl hcat kk
theorem u_calliV2 {post : Int32 → w_M → Prop} {a0 a1 : Value} (C : u_C p R s m args c cc own nL D A H0 cells slots G) (hm : u_mev y bytes maxL ret 2) (hd : decode cc pc = .ok (.invokevirtual index, 3)) (hlk : Cond.methodLink own index y ∈ wsL_law) {b ci : Nat} (hb9 : u_is G b ci) (hcl : (vwCl[ci]?).map (fun q => q.1) = some y.cls) (hci : ci < 12) (hM : u_Mi l D G y bytes maxL ret f n (.ref (gP G b) :: [a0, a1]) M post) (hR : f + 1 ≤ R.frames ∧ 8 + (maxL + 11) + n ≤ R.locals) (hcat : (st.map fun v => v.category).sum ≤ 8) (kk : ∀ (r : Int32) (M2 : w_M), post r M2 → u_S p l e R s m args below meth c nL D A H0 cells slots Q (pc + 3) lv (.int r :: st) G M2) : u_S p l e R s m args below meth c nL D A H0 cells slots Q pc lv (a1 :: a0 :: .ref (gP G b) :: st) G M := u_calliV C hm hd hlk hb9 hcl hci hM hR (As := [a0, a1]) rfl rfl hcat kk
theorem u_calliV3 {post : Int32 → w_M → Prop} {a0 a1 a2 : Value} (C : u_C p R s m args c cc own nL D A H0 cells slots G) (hm : u_mev y bytes maxL ret 3) (hd : decode cc pc = .ok (.invokevirtual index, 3)) (hlk : Cond.methodLink own index y ∈ wsL_law) {b ci : Nat} (hb9 : u_is G b ci) (hcl : (vwCl[ci]?).map (fun q => q.1) = some y.cls) (hci : ci < 12) (hM : u_Mi l D G y bytes maxL ret f n (.ref (gP G b) :: [a0, a1, a2]) M post) (hR : f + 1 ≤ R.frames ∧ 8 + (maxL + 11) + n ≤ R.locals) (hcat : (st.map fun v => v.category).sum ≤ 8) (kk : ∀ (r : Int32) (M2 : w_M), post r M2 → u_S p l e R s m args below meth c nL D A H0 cells slots Q (pc + 3) lv (.int r :: st) G M2) : u_S p l e R s m args below meth c nL D A H0 cells slots Q pc lv (a2 :: a1 :: a0 :: .ref (gP G b) :: st) G M := u_calliV C hm hd hlk hb9 hcl hci hM hR (As := [a0, a1, a2]) rfl rfl hcat kk
theorem u_calliV4 {post : Int32 → w_M → Prop} {a0 a1 a2 a3 : Value} (C : u_C p R s m args c cc own nL D A H0 cells slots G) (hm : u_mev y bytes maxL ret 4) (hd : decode cc pc = .ok (.invokevirtual index, 3)) (hlk : Cond.methodLink own index y ∈ wsL_law) {b ci : Nat} (hb9 : u_is G b ci) (hcl : (vwCl[ci]?).map (fun q => q.1) = some y.cls) (hci : ci < 12) (hM : u_Mi l D G y bytes maxL ret f n (.ref (gP G b) :: [a0, a1, a2, a3]) M post) (hR : f + 1 ≤ R.frames ∧ 8 + (maxL + 11) + n ≤ R.locals) (hcat : (st.map fun v => v.category).sum ≤ 8) (kk : ∀ (r : Int32) (M2 : w_M), post r M2 → u_S p l e R s m args below meth c nL D A H0 cells slots Q (pc + 3) lv (.int r :: st) G M2) : u_S p l e R s m args below meth c nL D A H0 cells slots Q pc lv (a3 :: a2 :: a1 :: a0 :: .ref (gP G b) :: st) G M := u_calliV C hm hd hlk hb9 hcl hci hM hR (As := [a0, a1, a2, a3]) rfl rfl hcat kk
theorem u_calliV5 {post : Int32 → w_M → Prop} {a0 a1 a2 a3 a4 : Value} (C : u_C p R s m args c cc own nL D A H0 cells slots G) (hm : u_mev y bytes maxL ret 5) (hd : decode cc pc = .ok (.invokevirtual index, 3)) (hlk : Cond.methodLink own index y ∈ wsL_law) {b ci : Nat} (hb9 : u_is G b ci) (hcl : (vwCl[ci]?).map (fun q => q.1) = some y.cls) (hci : ci < 12) (hM : u_Mi l D G y bytes maxL ret f n (.ref (gP G b) :: [a0, a1, a2, a3, a4]) M post) (hR : f + 1 ≤ R.frames ∧ 8 + (maxL + 11) + n ≤ R.locals) (hcat : (st.map fun v => v.category).sum ≤ 8) (kk : ∀ (r : Int32) (M2 : w_M), post r M2 → u_S p l e R s m args below meth c nL D A H0 cells slots Q (pc + 3) lv (.int r :: st) G M2) : u_S p l e R s m args below meth c nL D A H0 cells slots Q pc lv (a4 :: a3 :: a2 :: a1 :: a0 :: .ref (gP G b) :: st) G M := u_calliV C hm hd hlk hb9 hcl hci hM hR (As := [a0, a1, a2, a3, a4]) rfl rfl hcat kk
theorem u_calliV6 {post : Int32 → w_M → Prop} {a0 a1 a2 a3 a4 a5 : Value} (C : u_C p R s m args c cc own nL D A H0 cells slots G) (hm : u_mev y bytes maxL ret 6) (hd : decode cc pc = .ok (.invokevirtual index, 3)) (hlk : Cond.methodLink own index y ∈ wsL_law) {b ci : Nat} (hb9 : u_is G b ci) (hcl : (vwCl[ci]?).map (fun q => q.1) = some y.cls) (hci : ci < 12) (hM : u_Mi l D G y bytes maxL ret f n (.ref (gP G b) :: [a0, a1, a2, a3, a4, a5]) M post) (hR : f + 1 ≤ R.frames ∧ 8 + (maxL + 11) + n ≤ R.locals) (hcat : (st.map fun v => v.category).sum ≤ 8) (kk : ∀ (r : Int32) (M2 : w_M), post r M2 → u_S p l e R s m args below meth c nL D A H0 cells slots Q (pc + 3) lv (.int r :: st) G M2) : u_S p l e R s m args below meth c nL D A H0 cells slots Q pc lv (a5 :: a4 :: a3 :: a2 :: a1 :: a0 :: .ref (gP G b) :: st) G M := u_calliV C hm hd hlk hb9 hcl hci hM hR (As := [a0, a1, a2, a3, a4, a5]) rfl rfl hcat kk
theorem u_calliV7 {post : Int32 → w_M → Prop} {a0 a1 a2 a3 a4 a5 a6 : Value} (C : u_C p R s m args c cc own nL D A H0 cells slots G) (hm : u_mev y bytes maxL ret 7) (hd : decode cc pc = .ok (.invokevirtual index, 3)) (hlk : Cond.methodLink own index y ∈ wsL_law) {b ci : Nat} (hb9 : u_is G b ci) (hcl : (vwCl[ci]?).map (fun q => q.1) = some y.cls) (hci : ci < 12) (hM : u_Mi l D G y bytes maxL ret f n (.ref (gP G b) :: [a0, a1, a2, a3, a4, a5, a6]) M post) (hR : f + 1 ≤ R.frames ∧ 8 + (maxL + 11) + n ≤ R.locals) (hcat : (st.map fun v => v.category).sum ≤ 8) (kk : ∀ (r : Int32) (M2 : w_M), post r M2 → u_S p l e R s m args below meth c nL D A H0 cells slots Q (pc + 3) lv (.int r :: st) G M2) : u_S p l e R s m args below meth c nL D A H0 cells slots Q pc lv (a6 :: a5 :: a4 :: a3 :: a2 :: a1 :: a0 :: .ref (gP G b) :: st) G M := u_calliV C hm hd hlk hb9 hcl hci hM hR (As := [a0, a1, a2, a3, a4, a5, a6]) rfl rfl hcat kk
theorem u_calliS {post : Int32 → w_M → Prop} (C : u_C p R s m args c cc own nL D A H0 cells slots G) (hm : u_mes y bytes maxL ret na) (hd : decode cc pc = .ok (.invokestatic index, 3)) (hlk : Cond.methodLink own index y ∈ wsL_law) (hM : u_Mi l D G y bytes maxL ret f n As M post) (hR : f + 1 ≤ R.frames ∧ 8 + (maxL + 11) + n ≤ R.locals) (hn : As.length = na) (hst : st0 = As.reverse ++ st) (hcat : (st.map fun v => v.category).sum ≤ 8) (kk : ∀ (r : Int32) (M2 : w_M), post r M2 → u_S p l e R s m args below meth c nL D A H0 cells slots Q (pc + 3) lv (.int r :: st) G M2) : u_S p l e R s m args below meth c nL D A H0 cells slots Q pc lv st0 G M := by
  intro H locs ls hP hD hS hl
  obtain ⟨⟨hx, hb, hml, hown, hts⟩, hK, hA, hcs⟩ := id C
  have hf := u_hf hA hD hS
  refine va_calli (va_runS (As := As) (rest := st) ⟨hx, hb, hml, hown, hts⟩ (hM H.size) ⟨u_cb C hm.1 hlk hR, hts _ hm.2⟩ (u_pres hK hP hD _) rfl hn hl.1 hst (lv_room hcat) hd ⟨hcs.1, hcs.2⟩) hS (fun q _ h => hf q h) hf (fun r u t H1 locs ht hvm hw hB hz1 hk1 hS => ?_)
  have hP1 := hB.1
  rw [ht] at hP1
  exact kk r u hw H1 locs ls hP1 (u_DM u hD) hS hl

theorem u_calliS0 {post : Int32 → w_M → Prop} (C : u_C p R s m args c cc own nL D A H0 cells slots G) (hm : u_mes y bytes maxL ret 0) (hd : decode cc pc = .ok (.invokestatic index, 3)) (hlk : Cond.methodLink own index y ∈ wsL_law) (hM : u_Mi l D G y bytes maxL ret f n [] M post) (hR : f + 1 ≤ R.frames ∧ 8 + (maxL + 11) + n ≤ R.locals) (hcat : (st.map fun v => v.category).sum ≤ 8) (kk : ∀ (r : Int32) (M2 : w_M), post r M2 → u_S p l e R s m args below meth c nL D A H0 cells slots Q (pc + 3) lv (.int r :: st) G M2) : u_S p l e R s m args below meth c nL D A H0 cells slots Q pc lv (st) G M := u_calliS C hm hd hlk hM hR (As := []) rfl rfl hcat kk
theorem u_calliS1 {post : Int32 → w_M → Prop} {a0 : Value} (C : u_C p R s m args c cc own nL D A H0 cells slots G) (hm : u_mes y bytes maxL ret 1) (hd : decode cc pc = .ok (.invokestatic index, 3)) (hlk : Cond.methodLink own index y ∈ wsL_law) (hM : u_Mi l D G y bytes maxL ret f n [a0] M post) (hR : f + 1 ≤ R.frames ∧ 8 + (maxL + 11) + n ≤ R.locals) (hcat : (st.map fun v => v.category).sum ≤ 8) (kk : ∀ (r : Int32) (M2 : w_M), post r M2 → u_S p l e R s m args below meth c nL D A H0 cells slots Q (pc + 3) lv (.int r :: st) G M2) : u_S p l e R s m args below meth c nL D A H0 cells slots Q pc lv (a0 :: st) G M := u_calliS C hm hd hlk hM hR (As := [a0]) rfl rfl hcat kk
theorem u_calliS2 {post : Int32 → w_M → Prop} {a0 a1 : Value} (C : u_C p R s m args c cc own nL D A H0 cells slots G) (hm : u_mes y bytes maxL ret 2) (hd : decode cc pc = .ok (.invokestatic index, 3)) (hlk : Cond.methodLink own index y ∈ wsL_law) (hM : u_Mi l D G y bytes maxL ret f n [a0, a1] M post) (hR : f + 1 ≤ R.frames ∧ 8 + (maxL + 11) + n ≤ R.locals) (hcat : (st.map fun v => v.category).sum ≤ 8) (kk : ∀ (r : Int32) (M2 : w_M), post r M2 → u_S p l e R s m args below meth c nL D A H0 cells slots Q (pc + 3) lv (.int r :: st) G M2) : u_S p l e R s m args below meth c nL D A H0 cells slots Q pc lv (a1 :: a0 :: st) G M := u_calliS C hm hd hlk hM hR (As := [a0, a1]) rfl rfl hcat kk
theorem u_calliS3 {post : Int32 → w_M → Prop} {a0 a1 a2 : Value} (C : u_C p R s m args c cc own nL D A H0 cells slots G) (hm : u_mes y bytes maxL ret 3) (hd : decode cc pc = .ok (.invokestatic index, 3)) (hlk : Cond.methodLink own index y ∈ wsL_law) (hM : u_Mi l D G y bytes maxL ret f n [a0, a1, a2] M post) (hR : f + 1 ≤ R.frames ∧ 8 + (maxL + 11) + n ≤ R.locals) (hcat : (st.map fun v => v.category).sum ≤ 8) (kk : ∀ (r : Int32) (M2 : w_M), post r M2 → u_S p l e R s m args below meth c nL D A H0 cells slots Q (pc + 3) lv (.int r :: st) G M2) : u_S p l e R s m args below meth c nL D A H0 cells slots Q pc lv (a2 :: a1 :: a0 :: st) G M := u_calliS C hm hd hlk hM hR (As := [a0, a1, a2]) rfl rfl hcat kk
theorem u_calliS4 {post : Int32 → w_M → Prop} {a0 a1 a2 a3 : Value} (C : u_C p R s m args c cc own nL D A H0 cells slots G) (hm : u_mes y bytes maxL ret 4) (hd : decode cc pc = .ok (.invokestatic index, 3)) (hlk : Cond.methodLink own index y ∈ wsL_law) (hM : u_Mi l D G y bytes maxL ret f n [a0, a1, a2, a3] M post) (hR : f + 1 ≤ R.frames ∧ 8 + (maxL + 11) + n ≤ R.locals) (hcat : (st.map fun v => v.category).sum ≤ 8) (kk : ∀ (r : Int32) (M2 : w_M), post r M2 → u_S p l e R s m args below meth c nL D A H0 cells slots Q (pc + 3) lv (.int r :: st) G M2) : u_S p l e R s m args below meth c nL D A H0 cells slots Q pc lv (a3 :: a2 :: a1 :: a0 :: st) G M := u_calliS C hm hd hlk hM hR (As := [a0, a1, a2, a3]) rfl rfl hcat kk
theorem u_calliS5 {post : Int32 → w_M → Prop} {a0 a1 a2 a3 a4 : Value} (C : u_C p R s m args c cc own nL D A H0 cells slots G) (hm : u_mes y bytes maxL ret 5) (hd : decode cc pc = .ok (.invokestatic index, 3)) (hlk : Cond.methodLink own index y ∈ wsL_law) (hM : u_Mi l D G y bytes maxL ret f n [a0, a1, a2, a3, a4] M post) (hR : f + 1 ≤ R.frames ∧ 8 + (maxL + 11) + n ≤ R.locals) (hcat : (st.map fun v => v.category).sum ≤ 8) (kk : ∀ (r : Int32) (M2 : w_M), post r M2 → u_S p l e R s m args below meth c nL D A H0 cells slots Q (pc + 3) lv (.int r :: st) G M2) : u_S p l e R s m args below meth c nL D A H0 cells slots Q pc lv (a4 :: a3 :: a2 :: a1 :: a0 :: st) G M := u_calliS C hm hd hlk hM hR (As := [a0, a1, a2, a3, a4]) rfl rfl hcat kk
theorem u_calliS6 {post : Int32 → w_M → Prop} {a0 a1 a2 a3 a4 a5 : Value} (C : u_C p R s m args c cc own nL D A H0 cells slots G) (hm : u_mes y bytes maxL ret 6) (hd : decode cc pc = .ok (.invokestatic index, 3)) (hlk : Cond.methodLink own index y ∈ wsL_law) (hM : u_Mi l D G y bytes maxL ret f n [a0, a1, a2, a3, a4, a5] M post) (hR : f + 1 ≤ R.frames ∧ 8 + (maxL + 11) + n ≤ R.locals) (hcat : (st.map fun v => v.category).sum ≤ 8) (kk : ∀ (r : Int32) (M2 : w_M), post r M2 → u_S p l e R s m args below meth c nL D A H0 cells slots Q (pc + 3) lv (.int r :: st) G M2) : u_S p l e R s m args below meth c nL D A H0 cells slots Q pc lv (a5 :: a4 :: a3 :: a2 :: a1 :: a0 :: st) G M := u_calliS C hm hd hlk hM hR (As := [a0, a1, a2, a3, a4, a5]) rfl rfl hcat kk
theorem u_calliS7 {post : Int32 → w_M → Prop} {a0 a1 a2 a3 a4 a5 a6 : Value} (C : u_C p R s m args c cc own nL D A H0 cells slots G) (hm : u_mes y bytes maxL ret 7) (hd : decode cc pc = .ok (.invokestatic index, 3)) (hlk : Cond.methodLink own index y ∈ wsL_law) (hM : u_Mi l D G y bytes maxL ret f n [a0, a1, a2, a3, a4, a5, a6] M post) (hR : f + 1 ≤ R.frames ∧ 8 + (maxL + 11) + n ≤ R.locals) (hcat : (st.map fun v => v.category).sum ≤ 8) (kk : ∀ (r : Int32) (M2 : w_M), post r M2 → u_S p l e R s m args below meth c nL D A H0 cells slots Q (pc + 3) lv (.int r :: st) G M2) : u_S p l e R s m args below meth c nL D A H0 cells slots Q pc lv (a6 :: a5 :: a4 :: a3 :: a2 :: a1 :: a0 :: st) G M := u_calliS C hm hd hlk hM hR (As := [a0, a1, a2, a3, a4, a5, a6]) rfl rfl hcat kk
theorem u_calllV {post : Int64 → w_M → Prop} (C : u_C p R s m args c cc own nL D A H0 cells slots G) (hm : u_mev y bytes maxL ret na) (hd : decode cc pc = .ok (.invokevirtual index, 3)) (hlk : Cond.methodLink own index y ∈ wsL_law) {b ci : Nat} (hb9 : u_is G b ci) (hcl : (vwCl[ci]?).map (fun q => q.1) = some y.cls) (hci : ci < 12) (hM : u_Ml l D G y bytes maxL ret f n (.ref (gP G b) :: As) M post) (hR : f + 1 ≤ R.frames ∧ 8 + (maxL + 11) + n ≤ R.locals) (hn : As.length = na) (hst : st0 = As.reverse ++ .ref (gP G b) :: st) (hcat : (st.map fun v => v.category).sum ≤ 8) (kk : ∀ (r : Int64) (M2 : w_M), post r M2 → u_S p l e R s m args below meth c nL D A H0 cells slots Q (pc + 3) lv (.long r :: st) G M2) : u_S p l e R s m args below meth c nL D A H0 cells slots Q pc lv st0 G M := by
  intro H locs ls hP hD hS hl
  obtain ⟨⟨hx, hb, hml, hown, hts⟩, hK, hA, hcs⟩ := id C
  obtain ⟨q9, hq9, hw9⟩ := u_get (M := M) hb9.1
  rw [w_cellO hb9 hci] at hw9
  obtain ⟨r9, hr9, hr8⟩ := Option.map_eq_some_iff.mp hcl
  have hrecv : ∃ cellB : Cell, H[gP G b]? = some cellB ∧ cellB.vm.isStatics = false ∧ s.vm.findClass y.cls = some cellB.cls := by
    rw [← hr8]
    exact va_recv hK hP hr9 hw9
  have hf := u_hf hA hD hS
  refine va_calll (va_runV (As := As) (rest := st) ⟨hx, hb, hml, hown, hts⟩ (hM H.size) ⟨u_cb C hm.1 hlk hR, hts _ hm.2.1, hts _ hm.2.2⟩ ⟨u_blind, hrecv, (u_pres hK hP hD _).2⟩ rfl hn hl.1 hst (lv_room hcat) hd ⟨hcs.1, hcs.2⟩) hS (fun q _ h => hf q h) hf (fun r u t H1 locs ht hvm hw hB hz1 hk1 hS => ?_)
  have hP1 := hB.1
  rw [ht] at hP1
  exact kk r u hw H1 locs ls hP1 (u_DM u hD) hS hl

theorem u_calllV0 {post : Int64 → w_M → Prop} (C : u_C p R s m args c cc own nL D A H0 cells slots G) (hm : u_mev y bytes maxL ret 0) (hd : decode cc pc = .ok (.invokevirtual index, 3)) (hlk : Cond.methodLink own index y ∈ wsL_law) {b ci : Nat} (hb9 : u_is G b ci) (hcl : (vwCl[ci]?).map (fun q => q.1) = some y.cls) (hci : ci < 12) (hM : u_Ml l D G y bytes maxL ret f n (.ref (gP G b) :: []) M post) (hR : f + 1 ≤ R.frames ∧ 8 + (maxL + 11) + n ≤ R.locals) (hcat : (st.map fun v => v.category).sum ≤ 8) (kk : ∀ (r : Int64) (M2 : w_M), post r M2 → u_S p l e R s m args below meth c nL D A H0 cells slots Q (pc + 3) lv (.long r :: st) G M2) : u_S p l e R s m args below meth c nL D A H0 cells slots Q pc lv (.ref (gP G b) :: st) G M := u_calllV C hm hd hlk hb9 hcl hci hM hR (As := []) rfl rfl hcat kk
theorem u_calllV1 {post : Int64 → w_M → Prop} {a0 : Value} (C : u_C p R s m args c cc own nL D A H0 cells slots G) (hm : u_mev y bytes maxL ret 1) (hd : decode cc pc = .ok (.invokevirtual index, 3)) (hlk : Cond.methodLink own index y ∈ wsL_law) {b ci : Nat} (hb9 : u_is G b ci) (hcl : (vwCl[ci]?).map (fun q => q.1) = some y.cls) (hci : ci < 12) (hM : u_Ml l D G y bytes maxL ret f n (.ref (gP G b) :: [a0]) M post) (hR : f + 1 ≤ R.frames ∧ 8 + (maxL + 11) + n ≤ R.locals) (hcat : (st.map fun v => v.category).sum ≤ 8) (kk : ∀ (r : Int64) (M2 : w_M), post r M2 → u_S p l e R s m args below meth c nL D A H0 cells slots Q (pc + 3) lv (.long r :: st) G M2) : u_S p l e R s m args below meth c nL D A H0 cells slots Q pc lv (a0 :: .ref (gP G b) :: st) G M := u_calllV C hm hd hlk hb9 hcl hci hM hR (As := [a0]) rfl rfl hcat kk
theorem u_calllV2 {post : Int64 → w_M → Prop} {a0 a1 : Value} (C : u_C p R s m args c cc own nL D A H0 cells slots G) (hm : u_mev y bytes maxL ret 2) (hd : decode cc pc = .ok (.invokevirtual index, 3)) (hlk : Cond.methodLink own index y ∈ wsL_law) {b ci : Nat} (hb9 : u_is G b ci) (hcl : (vwCl[ci]?).map (fun q => q.1) = some y.cls) (hci : ci < 12) (hM : u_Ml l D G y bytes maxL ret f n (.ref (gP G b) :: [a0, a1]) M post) (hR : f + 1 ≤ R.frames ∧ 8 + (maxL + 11) + n ≤ R.locals) (hcat : (st.map fun v => v.category).sum ≤ 8) (kk : ∀ (r : Int64) (M2 : w_M), post r M2 → u_S p l e R s m args below meth c nL D A H0 cells slots Q (pc + 3) lv (.long r :: st) G M2) : u_S p l e R s m args below meth c nL D A H0 cells slots Q pc lv (a1 :: a0 :: .ref (gP G b) :: st) G M := u_calllV C hm hd hlk hb9 hcl hci hM hR (As := [a0, a1]) rfl rfl hcat kk
theorem u_calllV3 {post : Int64 → w_M → Prop} {a0 a1 a2 : Value} (C : u_C p R s m args c cc own nL D A H0 cells slots G) (hm : u_mev y bytes maxL ret 3) (hd : decode cc pc = .ok (.invokevirtual index, 3)) (hlk : Cond.methodLink own index y ∈ wsL_law) {b ci : Nat} (hb9 : u_is G b ci) (hcl : (vwCl[ci]?).map (fun q => q.1) = some y.cls) (hci : ci < 12) (hM : u_Ml l D G y bytes maxL ret f n (.ref (gP G b) :: [a0, a1, a2]) M post) (hR : f + 1 ≤ R.frames ∧ 8 + (maxL + 11) + n ≤ R.locals) (hcat : (st.map fun v => v.category).sum ≤ 8) (kk : ∀ (r : Int64) (M2 : w_M), post r M2 → u_S p l e R s m args below meth c nL D A H0 cells slots Q (pc + 3) lv (.long r :: st) G M2) : u_S p l e R s m args below meth c nL D A H0 cells slots Q pc lv (a2 :: a1 :: a0 :: .ref (gP G b) :: st) G M := u_calllV C hm hd hlk hb9 hcl hci hM hR (As := [a0, a1, a2]) rfl rfl hcat kk
theorem u_calllV4 {post : Int64 → w_M → Prop} {a0 a1 a2 a3 : Value} (C : u_C p R s m args c cc own nL D A H0 cells slots G) (hm : u_mev y bytes maxL ret 4) (hd : decode cc pc = .ok (.invokevirtual index, 3)) (hlk : Cond.methodLink own index y ∈ wsL_law) {b ci : Nat} (hb9 : u_is G b ci) (hcl : (vwCl[ci]?).map (fun q => q.1) = some y.cls) (hci : ci < 12) (hM : u_Ml l D G y bytes maxL ret f n (.ref (gP G b) :: [a0, a1, a2, a3]) M post) (hR : f + 1 ≤ R.frames ∧ 8 + (maxL + 11) + n ≤ R.locals) (hcat : (st.map fun v => v.category).sum ≤ 8) (kk : ∀ (r : Int64) (M2 : w_M), post r M2 → u_S p l e R s m args below meth c nL D A H0 cells slots Q (pc + 3) lv (.long r :: st) G M2) : u_S p l e R s m args below meth c nL D A H0 cells slots Q pc lv (a3 :: a2 :: a1 :: a0 :: .ref (gP G b) :: st) G M := u_calllV C hm hd hlk hb9 hcl hci hM hR (As := [a0, a1, a2, a3]) rfl rfl hcat kk
theorem u_calllV5 {post : Int64 → w_M → Prop} {a0 a1 a2 a3 a4 : Value} (C : u_C p R s m args c cc own nL D A H0 cells slots G) (hm : u_mev y bytes maxL ret 5) (hd : decode cc pc = .ok (.invokevirtual index, 3)) (hlk : Cond.methodLink own index y ∈ wsL_law) {b ci : Nat} (hb9 : u_is G b ci) (hcl : (vwCl[ci]?).map (fun q => q.1) = some y.cls) (hci : ci < 12) (hM : u_Ml l D G y bytes maxL ret f n (.ref (gP G b) :: [a0, a1, a2, a3, a4]) M post) (hR : f + 1 ≤ R.frames ∧ 8 + (maxL + 11) + n ≤ R.locals) (hcat : (st.map fun v => v.category).sum ≤ 8) (kk : ∀ (r : Int64) (M2 : w_M), post r M2 → u_S p l e R s m args below meth c nL D A H0 cells slots Q (pc + 3) lv (.long r :: st) G M2) : u_S p l e R s m args below meth c nL D A H0 cells slots Q pc lv (a4 :: a3 :: a2 :: a1 :: a0 :: .ref (gP G b) :: st) G M := u_calllV C hm hd hlk hb9 hcl hci hM hR (As := [a0, a1, a2, a3, a4]) rfl rfl hcat kk
theorem u_calllV6 {post : Int64 → w_M → Prop} {a0 a1 a2 a3 a4 a5 : Value} (C : u_C p R s m args c cc own nL D A H0 cells slots G) (hm : u_mev y bytes maxL ret 6) (hd : decode cc pc = .ok (.invokevirtual index, 3)) (hlk : Cond.methodLink own index y ∈ wsL_law) {b ci : Nat} (hb9 : u_is G b ci) (hcl : (vwCl[ci]?).map (fun q => q.1) = some y.cls) (hci : ci < 12) (hM : u_Ml l D G y bytes maxL ret f n (.ref (gP G b) :: [a0, a1, a2, a3, a4, a5]) M post) (hR : f + 1 ≤ R.frames ∧ 8 + (maxL + 11) + n ≤ R.locals) (hcat : (st.map fun v => v.category).sum ≤ 8) (kk : ∀ (r : Int64) (M2 : w_M), post r M2 → u_S p l e R s m args below meth c nL D A H0 cells slots Q (pc + 3) lv (.long r :: st) G M2) : u_S p l e R s m args below meth c nL D A H0 cells slots Q pc lv (a5 :: a4 :: a3 :: a2 :: a1 :: a0 :: .ref (gP G b) :: st) G M := u_calllV C hm hd hlk hb9 hcl hci hM hR (As := [a0, a1, a2, a3, a4, a5]) rfl rfl hcat kk
theorem u_calllV7 {post : Int64 → w_M → Prop} {a0 a1 a2 a3 a4 a5 a6 : Value} (C : u_C p R s m args c cc own nL D A H0 cells slots G) (hm : u_mev y bytes maxL ret 7) (hd : decode cc pc = .ok (.invokevirtual index, 3)) (hlk : Cond.methodLink own index y ∈ wsL_law) {b ci : Nat} (hb9 : u_is G b ci) (hcl : (vwCl[ci]?).map (fun q => q.1) = some y.cls) (hci : ci < 12) (hM : u_Ml l D G y bytes maxL ret f n (.ref (gP G b) :: [a0, a1, a2, a3, a4, a5, a6]) M post) (hR : f + 1 ≤ R.frames ∧ 8 + (maxL + 11) + n ≤ R.locals) (hcat : (st.map fun v => v.category).sum ≤ 8) (kk : ∀ (r : Int64) (M2 : w_M), post r M2 → u_S p l e R s m args below meth c nL D A H0 cells slots Q (pc + 3) lv (.long r :: st) G M2) : u_S p l e R s m args below meth c nL D A H0 cells slots Q pc lv (a6 :: a5 :: a4 :: a3 :: a2 :: a1 :: a0 :: .ref (gP G b) :: st) G M := u_calllV C hm hd hlk hb9 hcl hci hM hR (As := [a0, a1, a2, a3, a4, a5, a6]) rfl rfl hcat kk
theorem u_calllS {post : Int64 → w_M → Prop} (C : u_C p R s m args c cc own nL D A H0 cells slots G) (hm : u_mes y bytes maxL ret na) (hd : decode cc pc = .ok (.invokestatic index, 3)) (hlk : Cond.methodLink own index y ∈ wsL_law) (hM : u_Ml l D G y bytes maxL ret f n As M post) (hR : f + 1 ≤ R.frames ∧ 8 + (maxL + 11) + n ≤ R.locals) (hn : As.length = na) (hst : st0 = As.reverse ++ st) (hcat : (st.map fun v => v.category).sum ≤ 8) (kk : ∀ (r : Int64) (M2 : w_M), post r M2 → u_S p l e R s m args below meth c nL D A H0 cells slots Q (pc + 3) lv (.long r :: st) G M2) : u_S p l e R s m args below meth c nL D A H0 cells slots Q pc lv st0 G M := by
  intro H locs ls hP hD hS hl
  obtain ⟨⟨hx, hb, hml, hown, hts⟩, hK, hA, hcs⟩ := id C
  have hf := u_hf hA hD hS
  refine va_calll (va_runS (As := As) (rest := st) ⟨hx, hb, hml, hown, hts⟩ (hM H.size) ⟨u_cb C hm.1 hlk hR, hts _ hm.2⟩ (u_pres hK hP hD _) rfl hn hl.1 hst (lv_room hcat) hd ⟨hcs.1, hcs.2⟩) hS (fun q _ h => hf q h) hf (fun r u t H1 locs ht hvm hw hB hz1 hk1 hS => ?_)
  have hP1 := hB.1
  rw [ht] at hP1
  exact kk r u hw H1 locs ls hP1 (u_DM u hD) hS hl

theorem u_calllS0 {post : Int64 → w_M → Prop} (C : u_C p R s m args c cc own nL D A H0 cells slots G) (hm : u_mes y bytes maxL ret 0) (hd : decode cc pc = .ok (.invokestatic index, 3)) (hlk : Cond.methodLink own index y ∈ wsL_law) (hM : u_Ml l D G y bytes maxL ret f n [] M post) (hR : f + 1 ≤ R.frames ∧ 8 + (maxL + 11) + n ≤ R.locals) (hcat : (st.map fun v => v.category).sum ≤ 8) (kk : ∀ (r : Int64) (M2 : w_M), post r M2 → u_S p l e R s m args below meth c nL D A H0 cells slots Q (pc + 3) lv (.long r :: st) G M2) : u_S p l e R s m args below meth c nL D A H0 cells slots Q pc lv (st) G M := u_calllS C hm hd hlk hM hR (As := []) rfl rfl hcat kk
theorem u_calllS1 {post : Int64 → w_M → Prop} {a0 : Value} (C : u_C p R s m args c cc own nL D A H0 cells slots G) (hm : u_mes y bytes maxL ret 1) (hd : decode cc pc = .ok (.invokestatic index, 3)) (hlk : Cond.methodLink own index y ∈ wsL_law) (hM : u_Ml l D G y bytes maxL ret f n [a0] M post) (hR : f + 1 ≤ R.frames ∧ 8 + (maxL + 11) + n ≤ R.locals) (hcat : (st.map fun v => v.category).sum ≤ 8) (kk : ∀ (r : Int64) (M2 : w_M), post r M2 → u_S p l e R s m args below meth c nL D A H0 cells slots Q (pc + 3) lv (.long r :: st) G M2) : u_S p l e R s m args below meth c nL D A H0 cells slots Q pc lv (a0 :: st) G M := u_calllS C hm hd hlk hM hR (As := [a0]) rfl rfl hcat kk
theorem u_calllS2 {post : Int64 → w_M → Prop} {a0 a1 : Value} (C : u_C p R s m args c cc own nL D A H0 cells slots G) (hm : u_mes y bytes maxL ret 2) (hd : decode cc pc = .ok (.invokestatic index, 3)) (hlk : Cond.methodLink own index y ∈ wsL_law) (hM : u_Ml l D G y bytes maxL ret f n [a0, a1] M post) (hR : f + 1 ≤ R.frames ∧ 8 + (maxL + 11) + n ≤ R.locals) (hcat : (st.map fun v => v.category).sum ≤ 8) (kk : ∀ (r : Int64) (M2 : w_M), post r M2 → u_S p l e R s m args below meth c nL D A H0 cells slots Q (pc + 3) lv (.long r :: st) G M2) : u_S p l e R s m args below meth c nL D A H0 cells slots Q pc lv (a1 :: a0 :: st) G M := u_calllS C hm hd hlk hM hR (As := [a0, a1]) rfl rfl hcat kk
theorem u_calllS3 {post : Int64 → w_M → Prop} {a0 a1 a2 : Value} (C : u_C p R s m args c cc own nL D A H0 cells slots G) (hm : u_mes y bytes maxL ret 3) (hd : decode cc pc = .ok (.invokestatic index, 3)) (hlk : Cond.methodLink own index y ∈ wsL_law) (hM : u_Ml l D G y bytes maxL ret f n [a0, a1, a2] M post) (hR : f + 1 ≤ R.frames ∧ 8 + (maxL + 11) + n ≤ R.locals) (hcat : (st.map fun v => v.category).sum ≤ 8) (kk : ∀ (r : Int64) (M2 : w_M), post r M2 → u_S p l e R s m args below meth c nL D A H0 cells slots Q (pc + 3) lv (.long r :: st) G M2) : u_S p l e R s m args below meth c nL D A H0 cells slots Q pc lv (a2 :: a1 :: a0 :: st) G M := u_calllS C hm hd hlk hM hR (As := [a0, a1, a2]) rfl rfl hcat kk
theorem u_calllS4 {post : Int64 → w_M → Prop} {a0 a1 a2 a3 : Value} (C : u_C p R s m args c cc own nL D A H0 cells slots G) (hm : u_mes y bytes maxL ret 4) (hd : decode cc pc = .ok (.invokestatic index, 3)) (hlk : Cond.methodLink own index y ∈ wsL_law) (hM : u_Ml l D G y bytes maxL ret f n [a0, a1, a2, a3] M post) (hR : f + 1 ≤ R.frames ∧ 8 + (maxL + 11) + n ≤ R.locals) (hcat : (st.map fun v => v.category).sum ≤ 8) (kk : ∀ (r : Int64) (M2 : w_M), post r M2 → u_S p l e R s m args below meth c nL D A H0 cells slots Q (pc + 3) lv (.long r :: st) G M2) : u_S p l e R s m args below meth c nL D A H0 cells slots Q pc lv (a3 :: a2 :: a1 :: a0 :: st) G M := u_calllS C hm hd hlk hM hR (As := [a0, a1, a2, a3]) rfl rfl hcat kk
theorem u_calllS5 {post : Int64 → w_M → Prop} {a0 a1 a2 a3 a4 : Value} (C : u_C p R s m args c cc own nL D A H0 cells slots G) (hm : u_mes y bytes maxL ret 5) (hd : decode cc pc = .ok (.invokestatic index, 3)) (hlk : Cond.methodLink own index y ∈ wsL_law) (hM : u_Ml l D G y bytes maxL ret f n [a0, a1, a2, a3, a4] M post) (hR : f + 1 ≤ R.frames ∧ 8 + (maxL + 11) + n ≤ R.locals) (hcat : (st.map fun v => v.category).sum ≤ 8) (kk : ∀ (r : Int64) (M2 : w_M), post r M2 → u_S p l e R s m args below meth c nL D A H0 cells slots Q (pc + 3) lv (.long r :: st) G M2) : u_S p l e R s m args below meth c nL D A H0 cells slots Q pc lv (a4 :: a3 :: a2 :: a1 :: a0 :: st) G M := u_calllS C hm hd hlk hM hR (As := [a0, a1, a2, a3, a4]) rfl rfl hcat kk
theorem u_calllS6 {post : Int64 → w_M → Prop} {a0 a1 a2 a3 a4 a5 : Value} (C : u_C p R s m args c cc own nL D A H0 cells slots G) (hm : u_mes y bytes maxL ret 6) (hd : decode cc pc = .ok (.invokestatic index, 3)) (hlk : Cond.methodLink own index y ∈ wsL_law) (hM : u_Ml l D G y bytes maxL ret f n [a0, a1, a2, a3, a4, a5] M post) (hR : f + 1 ≤ R.frames ∧ 8 + (maxL + 11) + n ≤ R.locals) (hcat : (st.map fun v => v.category).sum ≤ 8) (kk : ∀ (r : Int64) (M2 : w_M), post r M2 → u_S p l e R s m args below meth c nL D A H0 cells slots Q (pc + 3) lv (.long r :: st) G M2) : u_S p l e R s m args below meth c nL D A H0 cells slots Q pc lv (a5 :: a4 :: a3 :: a2 :: a1 :: a0 :: st) G M := u_calllS C hm hd hlk hM hR (As := [a0, a1, a2, a3, a4, a5]) rfl rfl hcat kk
theorem u_calllS7 {post : Int64 → w_M → Prop} {a0 a1 a2 a3 a4 a5 a6 : Value} (C : u_C p R s m args c cc own nL D A H0 cells slots G) (hm : u_mes y bytes maxL ret 7) (hd : decode cc pc = .ok (.invokestatic index, 3)) (hlk : Cond.methodLink own index y ∈ wsL_law) (hM : u_Ml l D G y bytes maxL ret f n [a0, a1, a2, a3, a4, a5, a6] M post) (hR : f + 1 ≤ R.frames ∧ 8 + (maxL + 11) + n ≤ R.locals) (hcat : (st.map fun v => v.category).sum ≤ 8) (kk : ∀ (r : Int64) (M2 : w_M), post r M2 → u_S p l e R s m args below meth c nL D A H0 cells slots Q (pc + 3) lv (.long r :: st) G M2) : u_S p l e R s m args below meth c nL D A H0 cells slots Q pc lv (a6 :: a5 :: a4 :: a3 :: a2 :: a1 :: a0 :: st) G M := u_calllS C hm hd hlk hM hR (As := [a0, a1, a2, a3, a4, a5, a6]) rfl rfl hcat kk
theorem u_callvV {post : w_M → Prop} (C : u_C p R s m args c cc own nL D A H0 cells slots G) (hm : u_mev y bytes maxL ret na) (hd : decode cc pc = .ok (.invokevirtual index, 3)) (hlk : Cond.methodLink own index y ∈ wsL_law) {b ci : Nat} (hb9 : u_is G b ci) (hcl : (vwCl[ci]?).map (fun q => q.1) = some y.cls) (hci : ci < 12) (hM : u_Mv l D G y bytes maxL ret f n (.ref (gP G b) :: As) M post) (hR : f + 1 ≤ R.frames ∧ 8 + (maxL + 11) + n ≤ R.locals) (hn : As.length = na) (hst : st0 = As.reverse ++ .ref (gP G b) :: st) (hcat : (st.map fun v => v.category).sum ≤ 8) (kk : ∀ (M2 : w_M), post M2 → u_S p l e R s m args below meth c nL D A H0 cells slots Q (pc + 3) lv (st) G M2) : u_S p l e R s m args below meth c nL D A H0 cells slots Q pc lv st0 G M := by
  intro H locs ls hP hD hS hl
  obtain ⟨⟨hx, hb, hml, hown, hts⟩, hK, hA, hcs⟩ := id C
  obtain ⟨q9, hq9, hw9⟩ := u_get (M := M) hb9.1
  rw [w_cellO hb9 hci] at hw9
  obtain ⟨r9, hr9, hr8⟩ := Option.map_eq_some_iff.mp hcl
  have hrecv : ∃ cellB : Cell, H[gP G b]? = some cellB ∧ cellB.vm.isStatics = false ∧ s.vm.findClass y.cls = some cellB.cls := by
    rw [← hr8]
    exact va_recv hK hP hr9 hw9
  have hf := u_hf hA hD hS
  refine va_callv (va_runV (As := As) (rest := st) ⟨hx, hb, hml, hown, hts⟩ (hM H.size) ⟨u_cb C hm.1 hlk hR, hts _ hm.2.1, hts _ hm.2.2⟩ ⟨u_blind, hrecv, (u_pres hK hP hD _).2⟩ rfl hn hl.1 hst (lv_room hcat) hd ⟨hcs.1, hcs.2⟩) hS (fun q _ h => hf q h) hf (fun u t H1 locs ht hvm hw hB hz1 hk1 hS => ?_)
  have hP1 := hB.1
  rw [ht] at hP1
  exact kk u hw H1 locs ls hP1 (u_DM u hD) hS hl

theorem u_callvV0 {post : w_M → Prop} (C : u_C p R s m args c cc own nL D A H0 cells slots G) (hm : u_mev y bytes maxL ret 0) (hd : decode cc pc = .ok (.invokevirtual index, 3)) (hlk : Cond.methodLink own index y ∈ wsL_law) {b ci : Nat} (hb9 : u_is G b ci) (hcl : (vwCl[ci]?).map (fun q => q.1) = some y.cls) (hci : ci < 12) (hM : u_Mv l D G y bytes maxL ret f n (.ref (gP G b) :: []) M post) (hR : f + 1 ≤ R.frames ∧ 8 + (maxL + 11) + n ≤ R.locals) (hcat : (st.map fun v => v.category).sum ≤ 8) (kk : ∀ (M2 : w_M), post M2 → u_S p l e R s m args below meth c nL D A H0 cells slots Q (pc + 3) lv (st) G M2) : u_S p l e R s m args below meth c nL D A H0 cells slots Q pc lv (.ref (gP G b) :: st) G M := u_callvV C hm hd hlk hb9 hcl hci hM hR (As := []) rfl rfl hcat kk
theorem u_callvV1 {post : w_M → Prop} {a0 : Value} (C : u_C p R s m args c cc own nL D A H0 cells slots G) (hm : u_mev y bytes maxL ret 1) (hd : decode cc pc = .ok (.invokevirtual index, 3)) (hlk : Cond.methodLink own index y ∈ wsL_law) {b ci : Nat} (hb9 : u_is G b ci) (hcl : (vwCl[ci]?).map (fun q => q.1) = some y.cls) (hci : ci < 12) (hM : u_Mv l D G y bytes maxL ret f n (.ref (gP G b) :: [a0]) M post) (hR : f + 1 ≤ R.frames ∧ 8 + (maxL + 11) + n ≤ R.locals) (hcat : (st.map fun v => v.category).sum ≤ 8) (kk : ∀ (M2 : w_M), post M2 → u_S p l e R s m args below meth c nL D A H0 cells slots Q (pc + 3) lv (st) G M2) : u_S p l e R s m args below meth c nL D A H0 cells slots Q pc lv (a0 :: .ref (gP G b) :: st) G M := u_callvV C hm hd hlk hb9 hcl hci hM hR (As := [a0]) rfl rfl hcat kk
theorem u_callvV2 {post : w_M → Prop} {a0 a1 : Value} (C : u_C p R s m args c cc own nL D A H0 cells slots G) (hm : u_mev y bytes maxL ret 2) (hd : decode cc pc = .ok (.invokevirtual index, 3)) (hlk : Cond.methodLink own index y ∈ wsL_law) {b ci : Nat} (hb9 : u_is G b ci) (hcl : (vwCl[ci]?).map (fun q => q.1) = some y.cls) (hci : ci < 12) (hM : u_Mv l D G y bytes maxL ret f n (.ref (gP G b) :: [a0, a1]) M post) (hR : f + 1 ≤ R.frames ∧ 8 + (maxL + 11) + n ≤ R.locals) (hcat : (st.map fun v => v.category).sum ≤ 8) (kk : ∀ (M2 : w_M), post M2 → u_S p l e R s m args below meth c nL D A H0 cells slots Q (pc + 3) lv (st) G M2) : u_S p l e R s m args below meth c nL D A H0 cells slots Q pc lv (a1 :: a0 :: .ref (gP G b) :: st) G M := u_callvV C hm hd hlk hb9 hcl hci hM hR (As := [a0, a1]) rfl rfl hcat kk
theorem u_callvV3 {post : w_M → Prop} {a0 a1 a2 : Value} (C : u_C p R s m args c cc own nL D A H0 cells slots G) (hm : u_mev y bytes maxL ret 3) (hd : decode cc pc = .ok (.invokevirtual index, 3)) (hlk : Cond.methodLink own index y ∈ wsL_law) {b ci : Nat} (hb9 : u_is G b ci) (hcl : (vwCl[ci]?).map (fun q => q.1) = some y.cls) (hci : ci < 12) (hM : u_Mv l D G y bytes maxL ret f n (.ref (gP G b) :: [a0, a1, a2]) M post) (hR : f + 1 ≤ R.frames ∧ 8 + (maxL + 11) + n ≤ R.locals) (hcat : (st.map fun v => v.category).sum ≤ 8) (kk : ∀ (M2 : w_M), post M2 → u_S p l e R s m args below meth c nL D A H0 cells slots Q (pc + 3) lv (st) G M2) : u_S p l e R s m args below meth c nL D A H0 cells slots Q pc lv (a2 :: a1 :: a0 :: .ref (gP G b) :: st) G M := u_callvV C hm hd hlk hb9 hcl hci hM hR (As := [a0, a1, a2]) rfl rfl hcat kk
theorem u_callvV4 {post : w_M → Prop} {a0 a1 a2 a3 : Value} (C : u_C p R s m args c cc own nL D A H0 cells slots G) (hm : u_mev y bytes maxL ret 4) (hd : decode cc pc = .ok (.invokevirtual index, 3)) (hlk : Cond.methodLink own index y ∈ wsL_law) {b ci : Nat} (hb9 : u_is G b ci) (hcl : (vwCl[ci]?).map (fun q => q.1) = some y.cls) (hci : ci < 12) (hM : u_Mv l D G y bytes maxL ret f n (.ref (gP G b) :: [a0, a1, a2, a3]) M post) (hR : f + 1 ≤ R.frames ∧ 8 + (maxL + 11) + n ≤ R.locals) (hcat : (st.map fun v => v.category).sum ≤ 8) (kk : ∀ (M2 : w_M), post M2 → u_S p l e R s m args below meth c nL D A H0 cells slots Q (pc + 3) lv (st) G M2) : u_S p l e R s m args below meth c nL D A H0 cells slots Q pc lv (a3 :: a2 :: a1 :: a0 :: .ref (gP G b) :: st) G M := u_callvV C hm hd hlk hb9 hcl hci hM hR (As := [a0, a1, a2, a3]) rfl rfl hcat kk
theorem u_callvV5 {post : w_M → Prop} {a0 a1 a2 a3 a4 : Value} (C : u_C p R s m args c cc own nL D A H0 cells slots G) (hm : u_mev y bytes maxL ret 5) (hd : decode cc pc = .ok (.invokevirtual index, 3)) (hlk : Cond.methodLink own index y ∈ wsL_law) {b ci : Nat} (hb9 : u_is G b ci) (hcl : (vwCl[ci]?).map (fun q => q.1) = some y.cls) (hci : ci < 12) (hM : u_Mv l D G y bytes maxL ret f n (.ref (gP G b) :: [a0, a1, a2, a3, a4]) M post) (hR : f + 1 ≤ R.frames ∧ 8 + (maxL + 11) + n ≤ R.locals) (hcat : (st.map fun v => v.category).sum ≤ 8) (kk : ∀ (M2 : w_M), post M2 → u_S p l e R s m args below meth c nL D A H0 cells slots Q (pc + 3) lv (st) G M2) : u_S p l e R s m args below meth c nL D A H0 cells slots Q pc lv (a4 :: a3 :: a2 :: a1 :: a0 :: .ref (gP G b) :: st) G M := u_callvV C hm hd hlk hb9 hcl hci hM hR (As := [a0, a1, a2, a3, a4]) rfl rfl hcat kk
theorem u_callvV6 {post : w_M → Prop} {a0 a1 a2 a3 a4 a5 : Value} (C : u_C p R s m args c cc own nL D A H0 cells slots G) (hm : u_mev y bytes maxL ret 6) (hd : decode cc pc = .ok (.invokevirtual index, 3)) (hlk : Cond.methodLink own index y ∈ wsL_law) {b ci : Nat} (hb9 : u_is G b ci) (hcl : (vwCl[ci]?).map (fun q => q.1) = some y.cls) (hci : ci < 12) (hM : u_Mv l D G y bytes maxL ret f n (.ref (gP G b) :: [a0, a1, a2, a3, a4, a5]) M post) (hR : f + 1 ≤ R.frames ∧ 8 + (maxL + 11) + n ≤ R.locals) (hcat : (st.map fun v => v.category).sum ≤ 8) (kk : ∀ (M2 : w_M), post M2 → u_S p l e R s m args below meth c nL D A H0 cells slots Q (pc + 3) lv (st) G M2) : u_S p l e R s m args below meth c nL D A H0 cells slots Q pc lv (a5 :: a4 :: a3 :: a2 :: a1 :: a0 :: .ref (gP G b) :: st) G M := u_callvV C hm hd hlk hb9 hcl hci hM hR (As := [a0, a1, a2, a3, a4, a5]) rfl rfl hcat kk
theorem u_callvV7 {post : w_M → Prop} {a0 a1 a2 a3 a4 a5 a6 : Value} (C : u_C p R s m args c cc own nL D A H0 cells slots G) (hm : u_mev y bytes maxL ret 7) (hd : decode cc pc = .ok (.invokevirtual index, 3)) (hlk : Cond.methodLink own index y ∈ wsL_law) {b ci : Nat} (hb9 : u_is G b ci) (hcl : (vwCl[ci]?).map (fun q => q.1) = some y.cls) (hci : ci < 12) (hM : u_Mv l D G y bytes maxL ret f n (.ref (gP G b) :: [a0, a1, a2, a3, a4, a5, a6]) M post) (hR : f + 1 ≤ R.frames ∧ 8 + (maxL + 11) + n ≤ R.locals) (hcat : (st.map fun v => v.category).sum ≤ 8) (kk : ∀ (M2 : w_M), post M2 → u_S p l e R s m args below meth c nL D A H0 cells slots Q (pc + 3) lv (st) G M2) : u_S p l e R s m args below meth c nL D A H0 cells slots Q pc lv (a6 :: a5 :: a4 :: a3 :: a2 :: a1 :: a0 :: .ref (gP G b) :: st) G M := u_callvV C hm hd hlk hb9 hcl hci hM hR (As := [a0, a1, a2, a3, a4, a5, a6]) rfl rfl hcat kk
theorem u_callvS {post : w_M → Prop} (C : u_C p R s m args c cc own nL D A H0 cells slots G) (hm : u_mes y bytes maxL ret na) (hd : decode cc pc = .ok (.invokestatic index, 3)) (hlk : Cond.methodLink own index y ∈ wsL_law) (hM : u_Mv l D G y bytes maxL ret f n As M post) (hR : f + 1 ≤ R.frames ∧ 8 + (maxL + 11) + n ≤ R.locals) (hn : As.length = na) (hst : st0 = As.reverse ++ st) (hcat : (st.map fun v => v.category).sum ≤ 8) (kk : ∀ (M2 : w_M), post M2 → u_S p l e R s m args below meth c nL D A H0 cells slots Q (pc + 3) lv (st) G M2) : u_S p l e R s m args below meth c nL D A H0 cells slots Q pc lv st0 G M := by
  intro H locs ls hP hD hS hl
  obtain ⟨⟨hx, hb, hml, hown, hts⟩, hK, hA, hcs⟩ := id C
  have hf := u_hf hA hD hS
  refine va_callv (va_runS (As := As) (rest := st) ⟨hx, hb, hml, hown, hts⟩ (hM H.size) ⟨u_cb C hm.1 hlk hR, hts _ hm.2⟩ (u_pres hK hP hD _) rfl hn hl.1 hst (lv_room hcat) hd ⟨hcs.1, hcs.2⟩) hS (fun q _ h => hf q h) hf (fun u t H1 locs ht hvm hw hB hz1 hk1 hS => ?_)
  have hP1 := hB.1
  rw [ht] at hP1
  exact kk u hw H1 locs ls hP1 (u_DM u hD) hS hl

theorem u_callvS0 {post : w_M → Prop} (C : u_C p R s m args c cc own nL D A H0 cells slots G) (hm : u_mes y bytes maxL ret 0) (hd : decode cc pc = .ok (.invokestatic index, 3)) (hlk : Cond.methodLink own index y ∈ wsL_law) (hM : u_Mv l D G y bytes maxL ret f n [] M post) (hR : f + 1 ≤ R.frames ∧ 8 + (maxL + 11) + n ≤ R.locals) (hcat : (st.map fun v => v.category).sum ≤ 8) (kk : ∀ (M2 : w_M), post M2 → u_S p l e R s m args below meth c nL D A H0 cells slots Q (pc + 3) lv (st) G M2) : u_S p l e R s m args below meth c nL D A H0 cells slots Q pc lv (st) G M := u_callvS C hm hd hlk hM hR (As := []) rfl rfl hcat kk
theorem u_callvS1 {post : w_M → Prop} {a0 : Value} (C : u_C p R s m args c cc own nL D A H0 cells slots G) (hm : u_mes y bytes maxL ret 1) (hd : decode cc pc = .ok (.invokestatic index, 3)) (hlk : Cond.methodLink own index y ∈ wsL_law) (hM : u_Mv l D G y bytes maxL ret f n [a0] M post) (hR : f + 1 ≤ R.frames ∧ 8 + (maxL + 11) + n ≤ R.locals) (hcat : (st.map fun v => v.category).sum ≤ 8) (kk : ∀ (M2 : w_M), post M2 → u_S p l e R s m args below meth c nL D A H0 cells slots Q (pc + 3) lv (st) G M2) : u_S p l e R s m args below meth c nL D A H0 cells slots Q pc lv (a0 :: st) G M := u_callvS C hm hd hlk hM hR (As := [a0]) rfl rfl hcat kk
theorem u_callvS2 {post : w_M → Prop} {a0 a1 : Value} (C : u_C p R s m args c cc own nL D A H0 cells slots G) (hm : u_mes y bytes maxL ret 2) (hd : decode cc pc = .ok (.invokestatic index, 3)) (hlk : Cond.methodLink own index y ∈ wsL_law) (hM : u_Mv l D G y bytes maxL ret f n [a0, a1] M post) (hR : f + 1 ≤ R.frames ∧ 8 + (maxL + 11) + n ≤ R.locals) (hcat : (st.map fun v => v.category).sum ≤ 8) (kk : ∀ (M2 : w_M), post M2 → u_S p l e R s m args below meth c nL D A H0 cells slots Q (pc + 3) lv (st) G M2) : u_S p l e R s m args below meth c nL D A H0 cells slots Q pc lv (a1 :: a0 :: st) G M := u_callvS C hm hd hlk hM hR (As := [a0, a1]) rfl rfl hcat kk
theorem u_callvS3 {post : w_M → Prop} {a0 a1 a2 : Value} (C : u_C p R s m args c cc own nL D A H0 cells slots G) (hm : u_mes y bytes maxL ret 3) (hd : decode cc pc = .ok (.invokestatic index, 3)) (hlk : Cond.methodLink own index y ∈ wsL_law) (hM : u_Mv l D G y bytes maxL ret f n [a0, a1, a2] M post) (hR : f + 1 ≤ R.frames ∧ 8 + (maxL + 11) + n ≤ R.locals) (hcat : (st.map fun v => v.category).sum ≤ 8) (kk : ∀ (M2 : w_M), post M2 → u_S p l e R s m args below meth c nL D A H0 cells slots Q (pc + 3) lv (st) G M2) : u_S p l e R s m args below meth c nL D A H0 cells slots Q pc lv (a2 :: a1 :: a0 :: st) G M := u_callvS C hm hd hlk hM hR (As := [a0, a1, a2]) rfl rfl hcat kk
theorem u_callvS4 {post : w_M → Prop} {a0 a1 a2 a3 : Value} (C : u_C p R s m args c cc own nL D A H0 cells slots G) (hm : u_mes y bytes maxL ret 4) (hd : decode cc pc = .ok (.invokestatic index, 3)) (hlk : Cond.methodLink own index y ∈ wsL_law) (hM : u_Mv l D G y bytes maxL ret f n [a0, a1, a2, a3] M post) (hR : f + 1 ≤ R.frames ∧ 8 + (maxL + 11) + n ≤ R.locals) (hcat : (st.map fun v => v.category).sum ≤ 8) (kk : ∀ (M2 : w_M), post M2 → u_S p l e R s m args below meth c nL D A H0 cells slots Q (pc + 3) lv (st) G M2) : u_S p l e R s m args below meth c nL D A H0 cells slots Q pc lv (a3 :: a2 :: a1 :: a0 :: st) G M := u_callvS C hm hd hlk hM hR (As := [a0, a1, a2, a3]) rfl rfl hcat kk
theorem u_callvS5 {post : w_M → Prop} {a0 a1 a2 a3 a4 : Value} (C : u_C p R s m args c cc own nL D A H0 cells slots G) (hm : u_mes y bytes maxL ret 5) (hd : decode cc pc = .ok (.invokestatic index, 3)) (hlk : Cond.methodLink own index y ∈ wsL_law) (hM : u_Mv l D G y bytes maxL ret f n [a0, a1, a2, a3, a4] M post) (hR : f + 1 ≤ R.frames ∧ 8 + (maxL + 11) + n ≤ R.locals) (hcat : (st.map fun v => v.category).sum ≤ 8) (kk : ∀ (M2 : w_M), post M2 → u_S p l e R s m args below meth c nL D A H0 cells slots Q (pc + 3) lv (st) G M2) : u_S p l e R s m args below meth c nL D A H0 cells slots Q pc lv (a4 :: a3 :: a2 :: a1 :: a0 :: st) G M := u_callvS C hm hd hlk hM hR (As := [a0, a1, a2, a3, a4]) rfl rfl hcat kk
theorem u_callvS6 {post : w_M → Prop} {a0 a1 a2 a3 a4 a5 : Value} (C : u_C p R s m args c cc own nL D A H0 cells slots G) (hm : u_mes y bytes maxL ret 6) (hd : decode cc pc = .ok (.invokestatic index, 3)) (hlk : Cond.methodLink own index y ∈ wsL_law) (hM : u_Mv l D G y bytes maxL ret f n [a0, a1, a2, a3, a4, a5] M post) (hR : f + 1 ≤ R.frames ∧ 8 + (maxL + 11) + n ≤ R.locals) (hcat : (st.map fun v => v.category).sum ≤ 8) (kk : ∀ (M2 : w_M), post M2 → u_S p l e R s m args below meth c nL D A H0 cells slots Q (pc + 3) lv (st) G M2) : u_S p l e R s m args below meth c nL D A H0 cells slots Q pc lv (a5 :: a4 :: a3 :: a2 :: a1 :: a0 :: st) G M := u_callvS C hm hd hlk hM hR (As := [a0, a1, a2, a3, a4, a5]) rfl rfl hcat kk
theorem u_callvS7 {post : w_M → Prop} {a0 a1 a2 a3 a4 a5 a6 : Value} (C : u_C p R s m args c cc own nL D A H0 cells slots G) (hm : u_mes y bytes maxL ret 7) (hd : decode cc pc = .ok (.invokestatic index, 3)) (hlk : Cond.methodLink own index y ∈ wsL_law) (hM : u_Mv l D G y bytes maxL ret f n [a0, a1, a2, a3, a4, a5, a6] M post) (hR : f + 1 ≤ R.frames ∧ 8 + (maxL + 11) + n ≤ R.locals) (hcat : (st.map fun v => v.category).sum ≤ 8) (kk : ∀ (M2 : w_M), post M2 → u_S p l e R s m args below meth c nL D A H0 cells slots Q (pc + 3) lv (st) G M2) : u_S p l e R s m args below meth c nL D A H0 cells slots Q pc lv (a6 :: a5 :: a4 :: a3 :: a2 :: a1 :: a0 :: st) G M := u_callvS C hm hd hlk hM hR (As := [a0, a1, a2, a3, a4, a5, a6]) rfl rfl hcat kk
end UCALL
end
