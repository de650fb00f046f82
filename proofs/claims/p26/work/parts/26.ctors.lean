/-! constructors of the class -/
theorem cl_RL_11 : Cond.classLink RL 11 RX10 ∈ wsL_law := u_r1 _ (List.mem_of_getElem? (i := 0) rfl)
theorem nw_RL_11 : u_nw RL 11 10 := ⟨RX10, TX10, 5, tyX10, rfl, inlX10, tyX10_ok, by decide +kernel, rfl, by decide, cl_RL_11, u_r1 _ (List.mem_of_getElem? (i := 1) rfl), u_r1 _ (List.mem_of_getElem? (i := 2) rfl)⟩
theorem cl_RX10_7 : Cond.classLink RX10 7 RX3 ∈ wsL_law := u_r1 _ (List.mem_of_getElem? (i := 10) rfl)
theorem nw_RX10_7 : u_nw RX10 7 3 := ⟨RX3, TX3, 10, tyX3, rfl, inlX3, tyX3_ok, by decide +kernel, rfl, by decide, cl_RX10_7, u_r1 _ (List.mem_of_getElem? (i := 11) rfl), u_r1 _ (List.mem_of_getElem? (i := 12) rfl)⟩
theorem cl_RX10_19 : Cond.classLink RX10 19 RX8 ∈ wsL_law := u_r1 _ (List.mem_of_getElem? (i := 15) rfl)
theorem nw_RX10_19 : u_nw RX10 19 8 := ⟨RX8, TX8, 2, tyX8, rfl, inlX8, tyX8_ok, by decide +kernel, rfl, by decide, cl_RX10_19, u_r1 _ (List.mem_of_getElem? (i := 16) rfl), u_r1 _ (List.mem_of_getElem? (i := 17) rfl)⟩
theorem cl_RX10_26 : Cond.classLink RX10 26 RX4 ∈ wsL_law := u_r1 _ (List.mem_of_getElem? (i := 19) rfl)
theorem nw_RX10_26 : u_nw RX10 26 4 := ⟨RX4, TX4, 3, tyX4, rfl, inlX4, tyX4_ok, by decide +kernel, rfl, by decide, cl_RX10_26, u_r1 _ (List.mem_of_getElem? (i := 21) rfl), u_r1 _ (List.mem_of_getElem? (i := 22) rfl)⟩
theorem cl_RX3_9 : Cond.classLink RX3 9 RX5 ∈ wsL_law := u_r2 _ (List.mem_of_getElem? (i := 3) rfl)
theorem nw_RX3_9 : u_nw RX3 9 5 := ⟨RX5, TX5, 6, tyX5, rfl, inlX5, tyX5_ok, by decide +kernel, rfl, by decide, cl_RX3_9, u_r2 _ (List.mem_of_getElem? (i := 4) rfl), u_r2 _ (List.mem_of_getElem? (i := 5) rfl)⟩
theorem cl_RX3_18 : Cond.classLink RX3 18 RX0 ∈ wsL_law := u_r2 _ (List.mem_of_getElem? (i := 7) rfl)
theorem nw_RX3_18 : u_nw RX3 18 0 := ⟨RX0, TX0, 7, tyX0, rfl, inlX0, tyX0_ok, by decide +kernel, rfl, by decide, cl_RX3_18, u_r2 _ (List.mem_of_getElem? (i := 8) rfl), u_r2 _ (List.mem_of_getElem? (i := 9) rfl)⟩
theorem cl_RX3_25 : Cond.classLink RX3 25 RX6 ∈ wsL_law := u_r2 _ (List.mem_of_getElem? (i := 11) rfl)
theorem nw_RX3_25 : u_nw RX3 25 6 := ⟨RX6, TX6, 8, tyX6, rfl, inlX6, tyX6_ok, by decide +kernel, rfl, by decide, cl_RX3_25, u_r2 _ (List.mem_of_getElem? (i := 17) rfl), u_r2 _ (List.mem_of_getElem? (i := 18) rfl)⟩
theorem cl_RX3_31 : Cond.classLink RX3 31 RX1 ∈ wsL_law := u_r2 _ (List.mem_of_getElem? (i := 13) rfl)
theorem nw_RX3_31 : u_nw RX3 31 1 := ⟨RX1, TX1, 10, tyX1, rfl, inlX1, tyX1_ok, by decide +kernel, rfl, by decide, cl_RX3_31, u_r2 _ (List.mem_of_getElem? (i := 19) rfl), u_r2 _ (List.mem_of_getElem? (i := 20) rfl)⟩
theorem cl_RX5_9 : Cond.classLink RX5 9 RX9 ∈ wsL_law := u_r3 _ (List.mem_of_getElem? (i := 1) rfl)
theorem nw_RX5_9 : u_nw RX5 9 9 := ⟨RX9, TX9, 4, tyX9, rfl, inlX9, tyX9_ok, by decide +kernel, rfl, by decide, cl_RX5_9, u_r3 _ (List.mem_of_getElem? (i := 7) rfl), u_r3 _ (List.mem_of_getElem? (i := 8) rfl)⟩
theorem cl_RX5_17 : Cond.classLink RX5 17 RX7 ∈ wsL_law := u_r3 _ (List.mem_of_getElem? (i := 3) rfl)
theorem nw_RX5_17 : u_nw RX5 17 7 := ⟨RX7, TX7, 3, tyX7, rfl, inlX7, tyX7_ok, by decide +kernel, rfl, by decide, cl_RX5_17, u_r3 _ (List.mem_of_getElem? (i := 9) rfl), u_r3 _ (List.mem_of_getElem? (i := 10) rfl)⟩
theorem cl_RX6_9 : Cond.classLink RX6 9 RX2 ∈ wsL_law := u_r4 _ (List.mem_of_getElem? (i := 4) rfl)
theorem nw_RX6_9 : u_nw RX6 9 2 := ⟨RX2, TX2, 2, tyX2, rfl, inlX2, tyX2_ok, by decide +kernel, rfl, by decide, cl_RX6_9, u_r4 _ (List.mem_of_getElem? (i := 5) rfl), u_r4 _ (List.mem_of_getElem? (i := 6) rfl)⟩
theorem aw_int : Cond.arrayClass (newarray.typeOf ArrayType.int) ∈ wsL_law := u_r1 _ (List.mem_of_getElem? (i := 3) rfl)
theorem aw_long : Cond.arrayClass (newarray.typeOf ArrayType.long) ∈ wsL_law := u_r2 _ (List.mem_of_getElem? (i := 15) rfl)
theorem aw_boolean : Cond.arrayClass (newarray.typeOf ArrayType.boolean) ∈ wsL_law := u_r3 _ (List.mem_of_getElem? (i := 22) rfl)
theorem ob_i : Cond.instanceMethod Lib.objectInit ∈ wsL_law := u_r1 _ (List.mem_of_getElem? (i := 8) rfl)
theorem ob_c : Cond.code Lib.objectInit ⟨#[0xb1]⟩ 1 none ∈ wsL_law := u_r1 _ (List.mem_of_getElem? (i := 9) rfl)

def e_lf (k q : Nat) : Prop := q = k
def m_id (M : w_M) (_ : Nat) : w_M := M
theorem f_it_id {b : Nat} {M : w_M} : ∀ i, f_it m_id b M i = M
  | 0 => rfl
  | i + 1 => by
    show m_id (f_it m_id b M i) (b + i) = M
    rw [f_it_id i]
    rfl
section UM2
variable {p : Program} {l : Launch} {e : Env} {R : Room} {s : State} {m : MethodId} {args : Array Value} {below : List Frame} {meth : Method} {c : Code} {Q : State → Prop} {cells slots : Nat}
variable {cc : ByteArray} {own : String} {nL : Nat} {D : va_G} {A : Nat → Prop} {H0 : Heap} {G : w_G} {M : w_M} {pc : Nat} {lv : List (Nat × Value)} {st st0 : List Value} {cells2 slots2 : Nat}
variable {y : MethodName} {bytes : ByteArray} {maxL f n mc ms index ix ci : Nat} {Re : Nat → Nat → Prop} {L : w_G → Nat → Prop} {fM : w_M → Nat → w_M}
/-- an array made and put into a field of this -/
theorem u_mkA (C : u_C p R s m args c cc own nL D A H0 cells slots G) {k t j n cI : Nat} (kd : Nat) {at_ : ArrayType} {ty : FieldType} {x : Int32} (hkd : (kd = 12 ∧ at_ = .int) ∨ (kd = 13 ∧ at_ = .long) ∨ (kd = 14 ∧ at_ = .boolean)) (hd : decode cc pc = .ok (.newarray at_, 2)) (hw : Cond.arrayClass (newarray.typeOf at_) ∈ wsL_law) (hnm : meth.name = "<init>") (hg : u_pf cc own (pc + 2) cI j true ty) (hty : ∀ a, narrow ty (.ref a) = .ref a ∧ fits ty (.ref a) = true) (hr : w_rf cI j = true) (hk : u_is G k cI) (hz : z_ok G M t) (hok : g_ok G) (hn : n < 10000) (hx9 : x = nI n) (hcs : cells + 1 = cells2 ∧ slots + n = slots2 ∧ cells2 ≤ R.cells ∧ slots2 ≤ R.slots)
    (kk : ∀ G2, gx G G2 (fun q => q = k ∨ q = t) → u_is G2 t kd → gN G2 t = n → (∀ i, gF G2 k i = if i = j then some t else gF G k i) → u_S p l e R s m args below meth c nL D A H0 cells2 slots2 Q (pc + 5) lv st G2 M) : u_S p l e R s m args below meth c nL D A H0 cells slots Q pc lv (.int x :: .ref (gP G k) :: st) G M := by
  obtain ⟨rfl, rfl, h1, h2⟩ := hcs
  refine u_newA C kd hkd hd hw hz.1 hok hz.2 hn hx9 ⟨rfl, rfl, h1, h2⟩ (fun G1 hx1 hi1 hn1 => ?_)
  have C1 := C.to (G2 := G1) hx1.c h1 h2
  have hkt : ¬ k = t := fun z => hz.1 (z ▸ hk.1)
  rw [← hx1.P hk]
  refine u_putR C1 hnm hg hr (hx1.is hk) hi1.1 (hty _) (fun G2 hx2 hF2 => ?_)
  exact kk G2 (hx1.tr (R3 := fun q => q = k ∨ q = t) hx2 (fun b hb => Or.inr hb) (fun b hb => Or.inl hb)) (hx2.is hi1) ((hx2.N hi1).trans hn1) (fun i => by rw [hF2, hx1.F hkt])
end UM2


section UM3
variable {p : Program} {l : Launch} {e : Env} {R : Room} {s : State} {m : MethodId} {args : Array Value} {below : List Frame} {meth : Method} {c : Code} {Q : State → Prop} {cells slots : Nat}
variable {cc : ByteArray} {own : String} {nL : Nat} {D : va_G} {A : Nat → Prop} {H0 : Heap} {G : w_G} {M : w_M} {pc : Nat} {lv : List (Nat × Value)} {st st0 : List Value} {cells2 slots2 : Nat}
variable {y : MethodName} {bytes : ByteArray} {maxL f n mc ms index ix ci : Nat} {Re : Nat → Nat → Prop} {L : w_G → Nat → Prop} {fM : w_M → Nat → w_M}
/-- an array of references made and put into a field of this -/
theorem u_mkQ (C : u_C p R s m args c cc own nL D A H0 cells slots G) {k t j cI : Nat} (kd : Nat) {Cn : String} {ty : FieldType} {x : Int32} (hkd : w_rc kd Cn) (hd : decode cc pc = .ok (.anewarray ix, 3)) (hlk : Cond.classLink own ix Cn ∈ wsL_law) (hnm : meth.name = "<init>") (hg : u_pf cc own (pc + 3) cI j true ty) (hty : ∀ a, narrow ty (.ref a) = .ref a ∧ fits ty (.ref a) = true) (hr : w_rf cI j = true) (hk : u_is G k cI) (hz : ¬ t ∈ gL G) (hok : g_ok G) (hn : n < 10000) (hx9 : x = nI n) (hcs : cells + 1 = cells2 ∧ slots + n = slots2 ∧ cells2 ≤ R.cells ∧ slots2 ≤ R.slots)
    (kk : ∀ G2, gx G G2 (fun q => q = k ∨ q = t) → u_is G2 t kd → gN G2 t = n → (∀ i, gF G2 k i = if i = j then some t else gF G k i) → u_S p l e R s m args below meth c nL D A H0 cells2 slots2 Q (pc + 6) lv st G2 M) : u_S p l e R s m args below meth c nL D A H0 cells slots Q pc lv (.int x :: .ref (gP G k) :: st) G M := by
  obtain ⟨rfl, rfl, h1, h2⟩ := hcs
  refine u_newQ C hkd hd hlk hz hok hn hx9 ⟨rfl, rfl, h1, h2⟩ (fun G1 hx1 hi1 hn1 => ?_)
  have C1 := C.to (G2 := G1) hx1.c h1 h2
  have hkt : ¬ k = t := fun z => hz (z ▸ hk.1)
  rw [← hx1.P hk]
  refine u_putR C1 hnm hg hr (hx1.is hk) hi1.1 (hty _) (fun G2 hx2 hF2 => ?_)
  exact kk G2 (hx1.tr (R3 := fun q => q = k ∨ q = t) hx2 (fun b hb => Or.inr hb) (fun b hb => Or.inl hb)) (hx2.is hi1) ((hx2.N hi1).trans hn1) (fun i => by rw [hF2, hx1.F hkt])
/-- an object made and put into a field of this -/
theorem u_mkO (C : u_C p R s m args c cc own nL D A H0 cells slots G) {k t j cI : Nat} {ty : FieldType} (hK : u_K l D y bytes maxL f n mc ms ci Re L fM) (hLx : ∀ G G2 R k, gx G G2 R → (∀ q, Re k q → ¬ R q) → L G k → L G2 k) (hRe : ∀ q, Re t q → z_ok G M q) (hkk : Re t t) (hok : g_ok G)
    (hd1 : decode cc pc = .ok (.new ix, 3)) (hd2 : decode cc (pc + 3) = .ok (.dup, 1)) (hd3 : decode cc (pc + 4) = .ok (.invokespecial index, 3)) (hnw : u_nw own ix ci) (hm : u_me y bytes maxL none 0) (hin : y.name = "<init>") (hwv : Cond.instanceMethod y ∈ wsL_law) (hlk : Cond.methodLink own index y ∈ wsL_law ∨ Cond.methodLinkNest own index y RX10 ∈ u_nestL)
    (hR : f + 1 ≤ R.frames ∧ 8 + (maxL + 11) + n ≤ R.locals) (hcat : (st.map fun v => v.category).sum ≤ 6) (hnm : meth.name = "<init>") (hg : u_pf cc own (pc + 7) cI j true ty) (hty : ∀ a, narrow ty (.ref a) = .ref a ∧ fits ty (.ref a) = true) (hr : w_rf cI j = true) (hk : u_is G k cI) (hcs : cells + (1 + mc) = cells2 ∧ slots + (w_nf ci + ms) = slots2 ∧ cells2 ≤ R.cells ∧ slots2 ≤ R.slots)
    (kk : ∀ G2, gx G G2 (fun q => q = k ∨ Re t q) → L G2 t → (∀ i, gF G2 k i = if i = j then some t else gF G k i) → u_S p l e R s m args below meth c nL D A H0 cells2 slots2 Q (pc + 10) lv st G2 (fM M t)) : u_S p l e R s m args below meth c nL D A H0 cells slots Q pc lv (.ref (gP G k) :: st) G M := by
  have hcat2 : ((Value.ref (gP G k) :: st).map fun v => v.category).sum ≤ 7 := by
    simp only [List.map_cons, List.sum_cons]
    show 1 + _ ≤ 7
    omega
  have hRk : ¬ Re t k := fun z => (hRe k z).1 hk.1
  refine u_mk C hK hRe hkk hok hd1 hd2 hd3 hnw hm hin hwv hlk hR hcat2 hcs (fun G1 hx1 hi1 hL1 => ?_)
  obtain ⟨rfl, rfl, h1, h2⟩ := hcs
  have C1 := C.to (G2 := G1) hx1.c h1 h2
  rw [← hx1.P hk]
  refine u_putR C1 hnm hg hr (hx1.is hk) hi1.1 (hty _) (fun G2 hx2 hF2 => ?_)
  exact kk G2 (hx1.tr (R3 := fun q => q = k ∨ Re t q) hx2 (fun b hb => Or.inr hb) (fun b hb => Or.inl hb)) (hLx _ _ _ _ hx2 (fun q hq z => hRk (by rw [← (show q = k from z)]; exact hq)) hL1) (fun i => by rw [hF2, hx1.F hRk])
end UM3
/-! the layouts stay where they are not written -/
def e_tld (k q : Nat) : Prop := q = k ∨ q = k + 1
def e_bar (k q : Nat) : Prop := q = k ∨ q = k + 7 ∨ q = k + 8 ∨ q = k + 9
def e_sec (k q : Nat) : Prop := q = k ∨ q = k + 20 ∨ q = k + 30 ∨ q = k + 40
def e_sea (k q : Nat) : Prop := q = k ∨ (k + 5 ≤ q ∧ q ≤ k + 7) ∨ (k + 19 ≤ q ∧ q < k + 25) ∨ (k + 29 ≤ q ∧ q < k + 49)
def e_mou (k q : Nat) : Prop := k ≤ q ∧ q < k + 156
theorem lf_gx {t : Nat} : ∀ (G G2 : w_G) (R : Nat → Prop) (k : Nat), gx G G2 R → (∀ q, e_lf k q → ¬ R q) → u_is G k t → u_is G2 k t := fun _ _ _ _ hx _ h => hx.is h
theorem gx.ar {G G2 : w_G} {R : Nat → Prop} (h : gx G G2 R) {b t n : Nat} (hb : u_is G b t ∧ gN G b = n) : u_is G2 b t ∧ gN G2 b = n := ⟨h.is hb.1, (h.N hb.1).trans hb.2⟩
theorem gx.f1 {G G2 : w_G} {R : Nat → Prop} (h : gx G G2 R) {b j t : Nat} (hb : ¬ R b) (hf : gF G b j = some t) : gF G2 b j = some t := by rw [h.F hb]; exact hf
theorem tld_gx (G G2 : w_G) (R : Nat → Prop) (k : Nat) (hx : gx G G2 R) (hR : ∀ q, e_tld k q → ¬ R q) (h : L_tld G k) : L_tld G2 k := ⟨hx.is h.1, hx.f1 (hR k (Or.inl rfl)) h.2.1, hx.ar h.2.2⟩
theorem bar_gx (G G2 : w_G) (R : Nat → Prop) (k : Nat) (hx : gx G G2 R) (hR : ∀ q, e_bar k q → ¬ R q) (h : L_bar G k) : L_bar G2 k := ⟨hx.is h.1, ⟨hx.f1 (hR k (Or.inl rfl)) h.2.1.1, hx.ar h.2.1.2⟩, ⟨hx.f1 (hR k (Or.inl rfl)) h.2.2.1.1, hx.ar h.2.2.1.2⟩, ⟨hx.f1 (hR k (Or.inl rfl)) h.2.2.2.1, hx.ar h.2.2.2.2⟩⟩
theorem sec_gx (G G2 : w_G) (R : Nat → Prop) (k : Nat) (hx : gx G G2 R) (hR : ∀ q, e_sec k q → ¬ R q) (h : L_sec G k) : L_sec G2 k := ⟨hx.is h.1, ⟨hx.f1 (hR k (Or.inl rfl)) h.2.1.1, hx.is h.2.1.2⟩, ⟨hx.f1 (hR k (Or.inl rfl)) h.2.2.1.1, hx.is h.2.2.1.2⟩, ⟨hx.f1 (hR k (Or.inl rfl)) h.2.2.2.1, hx.ar h.2.2.2.2⟩⟩
theorem sea_gx (G G2 : w_G) (R : Nat → Prop) (k : Nat) (hx : gx G G2 R) (hR : ∀ q, e_sea k q → ¬ R q) (h : L_sea G k) : L_sea G2 k := by
  obtain ⟨h0, ⟨f0, r0⟩, ⟨f1, r1⟩, ⟨f2, r2⟩⟩ := h
  have k0 : ¬ R k := hR k (Or.inl rfl)
  have k5 : ¬ R (k + 5) := hR _ (Or.inr (Or.inl ⟨by omega, by omega⟩))
  have k6 : ¬ R (k + 6) := hR _ (Or.inr (Or.inl ⟨by omega, by omega⟩))
  exact ⟨hx.is h0, ⟨hx.f1 k0 f0, hx.is r0.1, (hx.N r0.1).trans r0.2.1, fun i hi => ⟨hx.f1 k5 (r0.2.2 i hi).1, hx.is (r0.2.2 i hi).2⟩⟩, ⟨hx.f1 k0 f1, hx.is r1.1, (hx.N r1.1).trans r1.2.1, fun i hi => ⟨hx.f1 k6 (r1.2.2 i hi).1, hx.is (r1.2.2 i hi).2⟩⟩, ⟨hx.f1 k0 f2, hx.ar r2⟩⟩
theorem mou_gx (G G2 : w_G) (R : Nat → Prop) (k : Nat) (hx : gx G G2 R) (hR : ∀ q, e_mou k q → ¬ R q) (h : L_mou G k) : L_mou G2 k := by
  obtain ⟨h0, ⟨f0, r0⟩, ⟨f1, r1⟩, ⟨f2, r2⟩, ⟨f3, r3⟩, ⟨f4, r4⟩⟩ := h
  have k0 : ¬ R k := hR k ⟨by omega, by omega⟩
  have k3 : ¬ R (k + 3) := hR _ ⟨by omega, by omega⟩
  have k4 : ¬ R (k + 4) := hR _ ⟨by omega, by omega⟩
  refine ⟨hx.is h0, ⟨hx.f1 k0 f0, sea_gx G G2 R _ hx (fun q hq => hR q ?_) r0⟩, ⟨hx.f1 k0 f1, bar_gx G G2 R _ hx (fun q hq => hR q ?_) r1⟩, ⟨hx.f1 k0 f2, hx.is r2.1, (hx.N r2.1).trans r2.2.1, fun i hi => ⟨hx.f1 k3 (r2.2.2 i hi).1, sec_gx G G2 R _ hx (fun q hq => hR q ?_) (r2.2.2 i hi).2⟩⟩, ⟨hx.f1 k0 f3, hx.is r3.1, (hx.N r3.1).trans r3.2.1, fun i hi => ⟨hx.f1 k4 (r3.2.2 i hi).1, hx.is (r3.2.2 i hi).2⟩⟩, ⟨hx.f1 k0 f4, hx.ar r4⟩⟩
  · unfold e_sea at hq; unfold e_mou; omega
  · unfold e_bar at hq; unfold e_mou; omega
  · unfold e_sec at hq; unfold e_mou; omega

theorem K_X2 (l : Launch) (D : va_G) : u_K l D yX2_init cX2_init 1 1 12 0 0 2 e_lf L_lay m_id := by
  intro G M k hok hk hz
  refine u_bodyc rfl (Nat.le_of_ble_eq_true rfl) (fun p e s m args below meth c A H0 Q C hnm kret => ?_)
  refine u_aload_n C (n := 0) dX2_init_0 rfl ?_
  refine u_obj C dX2_init_1 (u_r4 _ (List.mem_of_getElem? (i := 13) rfl)) ob_i ob_c ⟨by decide, by decide⟩ ?_
  exact kret _ _ G M dX2_init_4 ⟨gx.rf, hk, rfl⟩
theorem K_X9 (l : Launch) (D : va_G) : u_K l D yX9_init cX9_init 1 1 12 0 0 9 e_lf L_trn m_id := by
  intro G M k hok hk hz
  refine u_bodyc rfl (Nat.le_of_ble_eq_true rfl) (fun p e s m args below meth c A H0 Q C hnm kret => ?_)
  refine u_aload_n C (n := 0) dX9_init_0 rfl ?_
  refine u_obj C dX9_init_1 (u_r3 _ (List.mem_of_getElem? (i := 13) rfl)) ob_i ob_c ⟨by decide, by decide⟩ ?_
  exact kret _ _ G M dX9_init_4 ⟨gx.rf, hk, rfl⟩
theorem K_X7 (l : Launch) (D : va_G) : u_K l D yX7_init cX7_init 1 1 12 0 0 7 e_lf L_srg m_id := by
  intro G M k hok hk hz
  refine u_bodyc rfl (Nat.le_of_ble_eq_true rfl) (fun p e s m args below meth c A H0 Q C hnm kret => ?_)
  refine u_aload_n C (n := 0) dX7_init_0 rfl ?_
  refine u_obj C dX7_init_1 (u_r3 _ (List.mem_of_getElem? (i := 16) rfl)) ob_i ob_c ⟨by decide, by decide⟩ ?_
  exact kret _ _ G M dX7_init_4 ⟨gx.rf, hk, rfl⟩
theorem K_X1 (l : Launch) (D : va_G) : u_K l D yX1_init cX1_init 1 1 12 0 0 1 e_lf L_int m_id := by
  intro G M k hok hk hz
  refine u_bodyc rfl (Nat.le_of_ble_eq_true rfl) (fun p e s m args below meth c A H0 Q C hnm kret => ?_)
  refine u_aload_n C (n := 0) dX1_init_0 rfl ?_
  refine u_obj C dX1_init_1 (u_r4 _ (List.mem_of_getElem? (i := 16) rfl)) ob_i ob_c ⟨by decide, by decide⟩ ?_
  exact kret _ _ G M dX1_init_4 ⟨gx.rf, hk, rfl⟩
theorem K_X4 (l : Launch) (D : va_G) : u_K l D yX4_init cX4_init 1 1 12 0 0 4 e_lf L_oys m_id := by
  intro G M k hok hk hz
  refine u_bodyc rfl (Nat.le_of_ble_eq_true rfl) (fun p e s m args below meth c A H0 Q C hnm kret => ?_)
  refine u_aload_n C (n := 0) dX4_init_0 rfl ?_
  refine u_obj C dX4_init_1 (u_r4 _ (List.mem_of_getElem? (i := 23) rfl)) ob_i ob_c ⟨by decide, by decide⟩ ?_
  exact kret _ _ G M dX4_init_4 ⟨gx.rf, hk, rfl⟩
theorem K_X8 (l : Launch) (D : va_G) : u_K l D yX8_init cX8_init 1 1 12 1 3584 8 e_tld L_tld m_id := by
  intro G M k hok hk hz
  refine u_bodyc rfl (Nat.le_of_ble_eq_true rfl) (fun p e s m args below meth c A H0 Q C hnm kret => ?_)
  refine u_aload_n C (n := 0) dX8_init_0 rfl ?_
  refine u_obj C dX8_init_1 (u_r4 _ (List.mem_of_getElem? (i := 19) rfl)) ob_i ob_c ⟨by decide, by decide⟩ ?_
  refine u_aload_n C (n := 0) dX8_init_4 rfl ?_
  refine u_sipush C dX8_init_5 (v := nI 3584) rfl ?_
  refine u_mkA C (t := k + 1) 12 (Or.inl ⟨rfl, rfl⟩) dX8_init_8 aw_int hnm pX8_init_10 (fun _ => ⟨rfl, rfl⟩) rfl hk (hz (k + 1) (Or.inr rfl) (by omega)) hok (n := 3584) (by decide) rfl ⟨rfl, rfl, by decide, by decide⟩ (fun G1 hx1 hi1 hn1 hF1 => ?_)
  refine kret _ _ G1 M dX8_init_13 ⟨hx1.tr gx.rf (fun b hb => hb) (fun b hb => hb), ⟨hx1.is hk, by rw [hF1]; rfl, hi1, hn1⟩, rfl⟩
theorem K_X0 (l : Launch) (D : va_G) : u_K l D yX0_init cX0_init 1 1 12 3 1500 0 e_bar L_bar (fun M k => wi M k 4 (-1)) := by
  intro G M k hok hk hz
  refine u_bodyc rfl (Nat.le_of_ble_eq_true rfl) (fun p e s m args below meth c A H0 Q C hnm kret => ?_)
  refine u_aload_n C (n := 0) dX0_init_0 rfl ?_
  refine u_obj C dX0_init_1 (u_r3 _ (List.mem_of_getElem? (i := 19) rfl)) ob_i ob_c ⟨by decide, by decide⟩ ?_
  refine u_aload_n C (n := 0) dX0_init_4 rfl ?_
  refine u_sipush C dX0_init_5 (v := nI 500) rfl ?_
  refine u_mkA C (t := k + 7) 12 (Or.inl ⟨rfl, rfl⟩) dX0_init_8 aw_int hnm pX0_init_10 (fun _ => ⟨rfl, rfl⟩) rfl hk (hz (k + 7) (by unfold e_bar; omega) (by omega)) hok (n := 500) (by decide) rfl ⟨rfl, rfl, by decide, by decide⟩ (fun G1 hx1 hi1 hn1 hF1 => ?_)
  have C1 := C.to (G2 := G1) (cells2 := 1) (slots2 := 500) hx1.c (by decide) (by decide)
  have hk1 := hx1.is hk
  have ok1 := hx1.ok hok
  rw [← hx1.P hk]
  refine u_aload_n C1 (n := 0) dX0_init_13 rfl ?_
  refine u_sipush C1 dX0_init_14 (v := nI 500) rfl ?_
  refine u_mkA C1 (t := k + 8) 12 (Or.inl ⟨rfl, rfl⟩) dX0_init_17 aw_int hnm pX0_init_19 (fun _ => ⟨rfl, rfl⟩) rfl hk1 ((hz (k + 8) (by unfold e_bar; omega) (by omega)).gx hx1 (by omega)) ok1 (n := 500) (by decide) rfl ⟨rfl, rfl, by decide, by decide⟩ (fun G2 hx2 hi2 hn2 hF2 => ?_)
  have C2 := C1.to (G2 := G2) (cells2 := 2) (slots2 := 1000) hx2.c (by decide) (by decide)
  have hk2 := hx2.is hk1
  have ok2 := hx2.ok ok1
  rw [← hx2.P hk1]
  refine u_aload_n C2 (n := 0) dX0_init_22 rfl ?_
  refine u_sipush C2 dX0_init_23 (v := nI 500) rfl ?_
  refine u_mkA C2 (t := k + 9) 14 (Or.inr (Or.inr ⟨rfl, rfl⟩)) dX0_init_26 aw_boolean hnm pX0_init_28 (fun _ => ⟨rfl, rfl⟩) rfl hk2 (((hz (k + 9) (by unfold e_bar; omega) (by omega)).gx hx1 (by omega)).gx hx2 (by omega)) ok2 (n := 500) (by decide) rfl ⟨rfl, rfl, by decide, by decide⟩ (fun G3 hx3 hi3 hn3 hF3 => ?_)
  have C3 := C2.to (G2 := G3) (cells2 := 3) (slots2 := 1500) hx3.c (by decide) (by decide)
  have hk3 := hx3.is hk2
  have ok3 := hx3.ok ok2
  rw [← hx3.P hk2]
  refine u_aload_n C3 (n := 0) dX0_init_31 rfl ?_
  refine u_iconst C3 dX0_init_32 (v := -1) rfl ?_
  refine u_putI C3 pX0_init_33 rfl hk3 ?_
  refine kret _ _ G3 _ dX0_init_36 ⟨(hx1.tr (R3 := e_bar k) (hx2.tr (R3 := e_bar k) hx3 ?_ ?_) ?_ (fun b hb => hb)), ⟨hk3, ⟨?_, ?_⟩, ⟨?_, ?_⟩, ⟨?_, ?_⟩⟩, rfl⟩
  · unfold e_bar; intro b hb; omega
  · unfold e_bar; intro b hb; omega
  · unfold e_bar; intro b hb; omega
  · rw [hF3, hF2, hF1]; rfl
  · exact (hx3.ar (hx2.ar ⟨hi1, hn1⟩))
  · rw [hF3, hF2]; rfl
  · exact hx3.ar ⟨hi2, hn2⟩
  · rw [hF3]; rfl
  · exact ⟨hi3, hn3⟩
def m_c6 (M : w_M) (k : Nat) : w_M := wi M k 3 (nI 1)
theorem K_X6 (l : Launch) (D : va_G) : u_K l D yX6_init cX6_init 1 2 32 3 28 6 e_sec L_sec m_c6 := by
  intro G M k hok hk hz
  refine u_bodyc rfl (Nat.le_of_ble_eq_true rfl) (fun p e s m args below meth c A H0 Q C hnm kret => ?_)
  refine u_aload_n C (n := 0) dX6_init_0 rfl ?_
  refine u_obj C dX6_init_1 (u_r4 _ (List.mem_of_getElem? (i := 3) rfl)) ob_i ob_c ⟨by decide, by decide⟩ ?_
  have hz1 : ∀ q, e_lf (k + 20) q → z_ok G M q := fun q hq => hz q (by unfold e_lf at hq; unfold e_sec; omega) (by unfold e_lf at hq; omega)
  have hz2 : ∀ q, e_lf (k + 30) q → z_ok G M q := fun q hq => hz q (by unfold e_lf at hq; unfold e_sec; omega) (by unfold e_lf at hq; omega)
  have hz3 : z_ok G M (k + 40) := hz _ (by unfold e_sec; omega) (by omega)
  refine u_aload_n C (n := 0) dX6_init_4 rfl ?_
  refine u_mkO C (K_X2 l D) lf_gx hz1 rfl hok dX6_init_5 dX6_init_8 dX6_init_9 nw_RX6_9 e_X2_init rfl wv_X2_init (Or.inr (by decide +kernel)) ⟨by decide, by decide⟩ (by decide) hnm pX6_init_12 (fun _ => ⟨rfl, rfl⟩) rfl hk (cells2 := 1) (slots2 := 2) ⟨rfl, rfl, by decide, by decide⟩ (fun G1 hx1 hL1 hF1 => ?_)
  have C1 := C.to (G2 := G1) (cells2 := 1) (slots2 := 2) hx1.c (by decide) (by decide)
  have hk1 := hx1.is hk
  rw [← hx1.P hk]
  refine u_aload_n C1 (n := 0) dX6_init_15 rfl ?_
  refine u_mkO C1 (K_X2 l D) lf_gx (fun q hq => (hz2 q hq).gx hx1 (by unfold e_lf at *; omega)) rfl (hx1.ok hok) dX6_init_16 dX6_init_19 dX6_init_20 nw_RX6_9 e_X2_init rfl wv_X2_init (Or.inr (by decide +kernel)) ⟨by decide, by decide⟩ (by decide) hnm pX6_init_23 (fun _ => ⟨rfl, rfl⟩) rfl hk1 (cells2 := 2) (slots2 := 4) ⟨rfl, rfl, by decide, by decide⟩ (fun G2 hx2 hL2 hF2 => ?_)
  have C2 := C.to (G2 := G2) (cells2 := 2) (slots2 := 4) (hx2.c.trans hx1.c) (by decide) (by decide)
  have hk2 := hx2.is hk1
  rw [← hx2.P hk1]
  refine u_aload_n C2 (n := 0) dX6_init_26 rfl ?_
  refine u_bipush C2 dX6_init_27 (v := nI 24) rfl ?_
  refine u_mkA C2 (t := k + 40) 12 (Or.inl ⟨rfl, rfl⟩) dX6_init_29 aw_int hnm pX6_init_31 (fun _ => ⟨rfl, rfl⟩) rfl hk2 ((hz3.gx hx1 (by unfold e_lf; omega)).gx hx2 (by unfold e_lf; omega)) (hx2.ok (hx1.ok hok)) (n := 24) (by decide) rfl (cells2 := 3) (slots2 := 28) ⟨rfl, rfl, by decide, by decide⟩ (fun G3 hx3 hi3 hn3 hF3 => ?_)
  have C3 := C.to (G2 := G3) (cells2 := 3) (slots2 := 28) (hx3.c.trans (hx2.c.trans hx1.c)) (by decide) (by decide)
  have hk3 := hx3.is hk2
  rw [← hx3.P hk2]
  refine u_aload_n C3 (n := 0) dX6_init_34 rfl ?_
  refine u_iconst C3 dX6_init_35 (v := nI 1) rfl ?_
  refine u_putI C3 pX6_init_36 rfl hk3 ?_
  refine kret _ _ G3 _ dX6_init_39 ⟨(hx1.tr (R3 := e_sec k) (hx2.tr (R3 := e_sec k) hx3 ?_ ?_) ?_ (fun b hb => hb)), ⟨hk3, ⟨?_, ?_⟩, ⟨?_, ?_⟩, ⟨?_, ?_⟩⟩, rfl⟩
  · unfold e_sec e_lf; intro b hb; omega
  · unfold e_sec; intro b hb; omega
  · unfold e_sec e_lf; intro b hb; omega
  · rw [hF3, hF2, hF1]; rfl
  · exact hx3.is (hx2.is hL1)
  · rw [hF3, hF2]; rfl
  · exact hx3.is hL2
  · rw [hF3]; rfl
  · exact ⟨hi3, hn3⟩
theorem m_c6_kp : ∀ (M : w_M) (k q j : Nat), ¬ q = k → iv (m_c6 M k) q j = iv M q j ∧ jv (m_c6 M k) q j = jv M q j := fun M k q j h => ⟨by rw [m_c6, iv_wi, if_neg (fun z => h z.1)], rfl⟩
theorem m_id_kp : ∀ (M : w_M) (k q j : Nat), ¬ q = k → iv (m_id M k) q j = iv M q j ∧ jv (m_id M k) q j = jv M q j := fun M k q j _ => ⟨rfl, rfl⟩
theorem z_ok.wi {G : w_G} {M : w_M} {q k j : Nat} {x : Int32} (h : z_ok G M q) (hq : ¬ q = k) : z_ok G (wi M k j x) q := ⟨h.1, fun i => ⟨by rw [iv_wi, if_neg (fun z => hq z.1)]; exact (h.2 i).1, (h.2 i).2⟩⟩
theorem rc_19 : w_rc 19 RX9 := ⟨rfl, by decide, by decide, by decide⟩
theorem rc_18 : w_rc 18 RX7 := ⟨rfl, by decide, by decide, by decide⟩
theorem rc_17 : w_rc 17 RX6 := ⟨rfl, by decide, by decide, by decide⟩
theorem rc_16 : w_rc 16 RX4 := ⟨rfl, by decide, by decide, by decide⟩
theorem rc_15 : w_rc 15 RX1 := ⟨rfl, by decide, by decide, by decide⟩
def m_c5 (M : w_M) (k : Nat) : w_M := wi M k 5 (nI 50)
theorem K_X5 (l : Launch) (D : va_G) : u_K l D yX5_init cX5_init 2 2 32 29 1110 5 e_sea L_sea m_c5 := by
  intro G M k hok hk hz
  refine u_bodyc rfl (Nat.le_of_ble_eq_true rfl) (fun p e s m args below meth c A H0 Q C hnm kret => ?_)
  refine u_aload_n C (n := 0) dX5_init_0 rfl ?_
  refine u_obj C dX5_init_1 (u_r3 _ (List.mem_of_getElem? (i := 0) rfl)) ob_i ob_c ⟨by decide, by decide⟩ ?_
  refine u_aload_n C (n := 0) dX5_init_4 rfl ?_
  refine u_bipush C dX5_init_5 (v := nI 6) rfl ?_
  refine u_mkQ C (t := k + 5) 19 rc_19 dX5_init_7 cl_RX5_9 hnm pX5_init_10 (fun _ => ⟨rfl, rfl⟩) rfl hk (hz (k + 5) (by unfold e_sea; omega) (by omega)).1 hok (n := 6) (by decide) rfl (cells2 := 1) (slots2 := 6) ⟨rfl, rfl, by decide, by decide⟩ (fun G1 hx1 hi1 hn1 hF1 => ?_)
  have C1 := C.to (G2 := G1) (cells2 := 1) (slots2 := 6) hx1.c (by decide) (by decide)
  have hk1 := hx1.is hk
  have ok1 := hx1.ok hok
  have hz1 : ∀ q, e_sea k q → ¬ q = k → ¬ q = k + 5 → z_ok G1 M q := fun q h1 h2 h3 => (hz q h1 h2).gx hx1 (by omega)
  rw [← hx1.P hk]
  refine u_aload_n C1 (n := 0) dX5_init_13 rfl ?_
  refine u_bipush C1 dX5_init_14 (v := nI 20) rfl ?_
  refine u_mkQ C1 (t := k + 6) 18 rc_18 dX5_init_16 cl_RX5_17 hnm pX5_init_19 (fun _ => ⟨rfl, rfl⟩) rfl hk1 (hz1 (k + 6) (by unfold e_sea; omega) (by omega) (by omega)).1 ok1 (n := 20) (by decide) rfl (cells2 := 2) (slots2 := 26) ⟨rfl, rfl, by decide, by decide⟩ (fun G2 hx2 hi2 hn2 hF2 => ?_)
  have C2 := C.to (G2 := G2) (cells2 := 2) (slots2 := 26) (hx2.c.trans hx1.c) (by decide) (by decide)
  have hk2 := hx2.is hk1
  have ok2 := hx2.ok ok1
  have hz2 : ∀ q, e_sea k q → ¬ q = k → ¬ q = k + 5 → ¬ q = k + 6 → z_ok G2 M q := fun q h1 h2 h3 h4 => (hz1 q h1 h2 h3).gx hx2 (by omega)
  rw [← hx2.P hk1]
  refine u_aload_n C2 (n := 0) dX5_init_22 rfl ?_
  refine u_sipush C2 dX5_init_23 (v := nI 1000) rfl ?_
  refine u_mkA C2 (t := k + 7) 12 (Or.inl ⟨rfl, rfl⟩) dX5_init_26 aw_int hnm pX5_init_28 (fun _ => ⟨rfl, rfl⟩) rfl hk2 (hz2 (k + 7) (by unfold e_sea; omega) (by omega) (by omega) (by omega)) ok2 (n := 1000) (by decide) rfl (cells2 := 3) (slots2 := 1026) ⟨rfl, rfl, by decide, by decide⟩ (fun G3 hx3 hi3 hn3 hF3 => ?_)
  have C3 := C.to (G2 := G3) (cells2 := 3) (slots2 := 1026) (hx3.c.trans (hx2.c.trans hx1.c)) (by decide) (by decide)
  have hk3 := hx3.is hk2
  have ok3 := hx3.ok ok2
  have hz3 : ∀ q, e_sea k q → ¬ q = k → ¬ q = k + 5 → ¬ q = k + 6 → ¬ q = k + 7 → z_ok G3 (m_c5 M k) q := fun q h1 h2 h3 h4 h5 => ((hz2 q h1 h2 h3 h4).gx hx3 (by omega)).wi h2
  rw [← hx3.P hk2]
  refine u_aload_n C3 (n := 0) dX5_init_31 rfl ?_
  refine u_bipush C3 dX5_init_32 (v := nI 50) rfl ?_
  refine u_putI C3 pX5_init_34 rfl hk3 ?_
  refine u_iconst C3 dX5_init_37 (v := nI 0) rfl ?_
  refine u_istore_n C3 (n := 1) dX5_init_38 (by decide) ?_
  have f0 : gF G3 k 0 = some (k + 5) := by rw [hF3, hF2, hF1]; rfl
  have f1 : gF G3 k 1 = some (k + 6) := by rw [hF3, hF2]; rfl
  have f2 : gF G3 k 2 = some (k + 7) := by rw [hF3]; rfl
  have a1 : u_is G3 (k + 5) 19 := hx3.is (hx2.is hi1)
  have b1 : gN G3 (k + 5) = 6 := (hx3.N (hx2.is hi1)).trans ((hx2.N hi1).trans hn1)
  have a2 : u_is G3 (k + 6) 18 := hx3.is hi2
  have b2 : gN G3 (k + 6) = 20 := (hx3.N hi2).trans hn2
  refine u_fill (Cn := (RX9, TX9, 4)) C3 (K_X9 l D) m_id_kp lf_gx (b := k + 5 + 14) (fun i hi q hq => hz3 q (by unfold e_lf at hq; unfold e_sea; omega) (by unfold e_lf at hq; omega) (by unfold e_lf at hq; omega) (by unfold e_lf at hq; omega) (by unfold e_lf at hq; omega)) (fun k => rfl) (fun i j hi hj q => by unfold e_lf; omega) (fun i hi => by unfold e_lf; omega) (fun i hi => by unfold e_lf; omega) (by omega) ok3 hk3 f0 rfl a1 b1 (N := 6) (by decide) rc_19 rfl (by decide) dX5_init_39 dX5_init_40 gX5_init_41 dX5_init_44 dX5_init_45 dX5_init_48 gX5_init_49 dX5_init_52 dX5_init_53 dX5_init_56 dX5_init_57 dX5_init_60 dX5_init_61 dX5_init_64 nw_RX5_9 e_X9_init rfl wv_X9_init (Or.inr (by decide +kernel)) ⟨by decide, by decide⟩ (cells2 := 9) (slots2 := 1050) ⟨rfl, rfl, by decide, by decide⟩ (fun G4 hx4 hd4 => ?_)
  rw [f_it_id]
  have C4 := C.to (G2 := G4) (cells2 := 9) (slots2 := 1050) (hx4.c.trans (hx3.c.trans (hx2.c.trans hx1.c))) (by decide) (by decide)
  have hk4 := hx4.is hk3
  have hkn : ¬ (k = k + 5 ∨ ∃ j, j < 6 ∧ e_lf (k + 5 + 14 + j) k) := by rintro (h | ⟨j, hj, h⟩) <;> (try unfold e_lf at h) <;> omega
  refine u_iconst C4 dX5_init_67 (v := nI 0) rfl ?_
  refine u_istore_n C4 (n := 1) dX5_init_68 (by decide) ?_
  refine u_fill (Cn := (RX7, TX7, 3)) C4 (K_X7 l D) m_id_kp lf_gx (b := k + 6 + 23) (fun i hi q hq => (hz3 q (by unfold e_lf at hq; unfold e_sea; omega) (by unfold e_lf at hq; omega) (by unfold e_lf at hq; omega) (by unfold e_lf at hq; omega) (by unfold e_lf at hq; omega)).gx hx4 (by unfold e_lf at hq ⊢; rintro (h | ⟨j, hj, h⟩) <;> omega)) (fun k => rfl) (fun i j hi hj q => by unfold e_lf; omega) (fun i hi => by unfold e_lf; omega) (fun i hi => by unfold e_lf; omega) (by omega) (hx4.ok ok3) hk4 (hx4.f1 hkn f1) rfl (hx4.is a2) ((hx4.N a2).trans b2) (N := 20) (by decide) rc_18 rfl (by decide) dX5_init_69 dX5_init_70 gX5_init_71 dX5_init_74 dX5_init_75 dX5_init_78 gX5_init_79 dX5_init_82 dX5_init_83 dX5_init_86 dX5_init_87 dX5_init_90 dX5_init_91 dX5_init_94 nw_RX5_17 e_X7_init rfl wv_X7_init (Or.inr (by decide +kernel)) ⟨by decide, by decide⟩ (cells2 := 29) (slots2 := 1110) ⟨rfl, rfl, by decide, by decide⟩ (fun G5 hx5 hd5 => ?_)
  rw [f_it_id]
  have hkn5 : ¬ (k = k + 6 ∨ ∃ j, j < 20 ∧ e_lf (k + 6 + 23 + j) k) := by rintro (h | ⟨j, hj, h⟩) <;> (try unfold e_lf at h) <;> omega
  have hrn5 : ¬ (k + 5 = k + 6 ∨ ∃ j, j < 20 ∧ e_lf (k + 6 + 23 + j) (k + 5)) := by rintro (h | ⟨j, hj, h⟩) <;> (try unfold e_lf at h) <;> omega
  refine kret _ _ G5 _ dX5_init_97 ⟨?_, ⟨hx5.is hk4, ⟨hx5.f1 hkn5 (hx4.f1 hkn f0), hx5.is (hx4.is a1), (hx5.N (hx4.is a1)).trans ((hx4.N a1).trans b1), fun i hi => ⟨hx5.f1 hrn5 (hd4 i hi).1, hx5.is (hd4 i hi).2⟩⟩, ⟨hx5.f1 hkn5 (hx4.f1 hkn f1), hx5.is (hx4.is a2), (hx5.N (hx4.is a2)).trans ((hx4.N a2).trans b2), hd5⟩, ⟨hx5.f1 hkn5 (hx4.f1 hkn f2), hx5.ar (hx4.ar ⟨hi3, hn3⟩)⟩⟩, rfl⟩
  refine hx1.tr (R3 := e_sea k) (hx2.tr (R3 := e_sea k) (hx3.tr (R3 := e_sea k) (hx4.tr (R3 := e_sea k) hx5 ?_ ?_) ?_ (fun b hb => hb)) ?_ (fun b hb => hb)) ?_ (fun b hb => hb)
  · unfold e_sea; rintro b (h | ⟨j, hj, h⟩) <;> (try unfold e_lf at h) <;> omega
  · unfold e_sea; rintro b (h | ⟨j, hj, h⟩) <;> (try unfold e_lf at h) <;> omega
  · unfold e_sea; intro b hb; omega
  · unfold e_sea; intro b hb; omega
  · unfold e_sea; intro b hb; omega
def m_c0 (M : w_M) (k : Nat) : w_M := wi M k 4 (-1)
def m_c3 (M : w_M) (k : Nat) : w_M := f_it m_c6 (k + 3 + 97) (m_c0 (m_c5 M (k + 1)) (k + 2)) 8
theorem m_c3_kp {M : w_M} {k q : Nat} (h : ¬ e_mou k q) (j : Nat) : iv (m_c3 M k) q j = iv M q j ∧ jv (m_c3 M k) q j = jv M q j := by
  have h1 := f_it_kp (M := m_c0 (m_c5 M (k + 1)) (k + 2)) (b := k + 3 + 97) m_c6_kp 8 q (fun j hj => by unfold e_mou at h; omega) j
  refine ⟨h1.1.trans ?_, h1.2.trans rfl⟩
  rw [m_c0, iv_wi, if_neg (by unfold e_mou at h; omega), m_c5, iv_wi, if_neg (by unfold e_mou at h; omega)]
theorem K_X3 (l : Launch) (D : va_G) : u_K l D yX3_init cX3_init 2 3 53 75 2995 3 e_mou L_mou m_c3 := by
  intro G M k hok hk hz
  refine u_bodyc rfl (Nat.le_of_ble_eq_true rfl) (fun p e s m args below meth c A H0 Q C hnm kret => ?_)
  refine u_aload_n C (n := 0) dX3_init_0 rfl ?_
  refine u_obj C dX3_init_1 (u_r2 _ (List.mem_of_getElem? (i := 2) rfl)) ob_i ob_c ⟨by decide, by decide⟩ ?_
  have hz0 : ∀ q, k < q → q < k + 156 → z_ok G M q := fun q h1 h2 => hz q ⟨by omega, h2⟩ (by omega)
  refine u_aload_n C (n := 0) dX3_init_4 rfl ?_
  refine u_mkO C (t := k + 1) (K_X5 l D) sea_gx (fun q hq => hz0 q (by unfold e_sea at hq; omega) (by unfold e_sea at hq; omega)) (Or.inl rfl) hok dX3_init_5 dX3_init_8 dX3_init_9 nw_RX3_9 e_X5_init rfl wv_X5_init (Or.inl (u_r2 _ (List.mem_of_getElem? (i := 21) rfl))) ⟨by decide, by decide⟩ (by decide) hnm pX3_init_12 (fun _ => ⟨rfl, rfl⟩) rfl hk (cells2 := 30) (slots2 := 1116) ⟨rfl, rfl, by decide, by decide⟩ (fun G1 hx1 hL1 hF1 => ?_)
  have C1 := C.to (G2 := G1) (cells2 := 30) (slots2 := 1116) hx1.c (by decide) (by decide)
  have hk1 := hx1.is hk
  have ok1 := hx1.ok hok
  have hz1 : ∀ q, k < q → q < k + 156 → ¬ e_sea (k + 1) q → z_ok G1 (m_c5 M (k + 1)) q := fun q h1 h2 h3 => ((hz0 q h1 h2).gx hx1 (by rintro (h | h); omega; exact h3 h)).wi (by unfold e_sea at h3; omega)
  rw [← hx1.P hk]
  refine u_aload_n C1 (n := 0) dX3_init_15 rfl ?_
  refine u_mkO C1 (t := k + 2) (K_X0 l D) bar_gx (fun q hq => hz1 q (by unfold e_bar at hq; omega) (by unfold e_bar at hq; omega) (by unfold e_bar at hq; unfold e_sea; omega)) (Or.inl rfl) ok1 dX3_init_16 dX3_init_19 dX3_init_20 nw_RX3_18 e_X0_init rfl wv_X0_init (Or.inr (by decide +kernel)) ⟨by decide, by decide⟩ (by decide) hnm pX3_init_23 (fun _ => ⟨rfl, rfl⟩) rfl hk1 (cells2 := 34) (slots2 := 2623) ⟨rfl, rfl, by decide, by decide⟩ (fun G2 hx2 hL2 hF2 => ?_)
  have C2 := C.to (G2 := G2) (cells2 := 34) (slots2 := 2623) (hx2.c.trans hx1.c) (by decide) (by decide)
  have hk2 := hx2.is hk1
  have ok2 := hx2.ok ok1
  have hz2 : ∀ q, k < q → q < k + 156 → ¬ e_sea (k + 1) q → ¬ e_bar (k + 2) q → z_ok G2 (m_c0 (m_c5 M (k + 1)) (k + 2)) q := fun q h1 h2 h3 h4 => ((hz1 q h1 h2 h3).gx hx2 (by rintro (h | h); omega; exact h4 h)).wi (by unfold e_bar at h4; omega)
  have L12 : L_sea G2 (k + 1) := sea_gx _ _ _ _ hx2 (fun q hq => by unfold e_sea at hq; unfold e_bar; omega) hL1
  rw [← hx2.P hk1]
  show u_S _ _ _ _ _ _ _ _ _ _ _ _ _ _ _ _ _ _ _ _ _ (m_c0 (m_c5 M (k + 1)) (k + 2))
  generalize hMM : m_c0 (m_c5 M (k + 1)) (k + 2) = MM at hz2 ⊢
  refine u_aload_n C2 (n := 0) dX3_init_26 rfl ?_
  refine u_bipush C2 dX3_init_27 (v := nI 8) rfl ?_
  refine u_mkQ C2 (t := k + 3) 17 rc_17 dX3_init_29 cl_RX3_25 hnm pX3_init_32 (fun _ => ⟨rfl, rfl⟩) rfl hk2 (hz2 (k + 3) (by omega) (by omega) (by unfold e_sea; omega) (by unfold e_bar; omega)).1 ok2 (n := 8) (by decide) rfl (cells2 := 35) (slots2 := 2631) ⟨rfl, rfl, by decide, by decide⟩ (fun G3 hx3 hi3 hn3 hF3 => ?_)
  have C3 := C2.to (G2 := G3) (cells2 := 35) (slots2 := 2631) hx3.c (by decide) (by decide)
  have hk3 := hx3.is hk2
  have ok3 := hx3.ok ok2
  have hz3 : ∀ q, k + 3 < q → q < k + 156 → ¬ e_sea (k + 1) q → ¬ e_bar (k + 2) q → z_ok G3 MM q := fun q h1 h2 h3 h4 => (hz2 q (by omega) h2 h3 h4).gx hx3 (by omega)
  rw [← hx3.P hk2]
  refine u_aload_n C3 (n := 0) dX3_init_35 rfl ?_
  refine u_bipush C3 dX3_init_36 (v := nI 6) rfl ?_
  refine u_mkQ C3 (t := k + 4) 15 rc_15 dX3_init_38 cl_RX3_31 hnm pX3_init_41 (fun _ => ⟨rfl, rfl⟩) rfl hk3 (hz3 (k + 4) (by omega) (by omega) (by unfold e_sea; omega) (by unfold e_bar; omega)).1 ok3 (n := 6) (by decide) rfl (cells2 := 36) (slots2 := 2637) ⟨rfl, rfl, by decide, by decide⟩ (fun G4 hx4 hi4 hn4 hF4 => ?_)
  have C4 := C3.to (G2 := G4) (cells2 := 36) (slots2 := 2637) hx4.c (by decide) (by decide)
  have hk4 := hx4.is hk3
  have ok4 := hx4.ok ok3
  have hz4 : ∀ q, k + 4 < q → q < k + 156 → ¬ e_sea (k + 1) q → ¬ e_bar (k + 2) q → z_ok G4 MM q := fun q h1 h2 h3 h4 => (hz3 q (by omega) h2 h3 h4).gx hx4 (by omega)
  rw [← hx4.P hk3]
  refine u_aload_n C4 (n := 0) dX3_init_44 rfl ?_
  refine u_bipush C4 dX3_init_45 (v := nI 10) rfl ?_
  refine u_mkA C4 (t := k + 5) 13 (Or.inr (Or.inl ⟨rfl, rfl⟩)) dX3_init_47 aw_long hnm pX3_init_49 (fun _ => ⟨rfl, rfl⟩) rfl hk4 (hz4 (k + 5) (by omega) (by omega) (by unfold e_sea; omega) (by unfold e_bar; omega)) ok4 (n := 10) (by decide) rfl (cells2 := 37) (slots2 := 2647) ⟨rfl, rfl, by decide, by decide⟩ (fun G5 hx5 hi5 hn5 hF5 => ?_)
  have C5 := C4.to (G2 := G5) (cells2 := 37) (slots2 := 2647) hx5.c (by decide) (by decide)
  have hk5 := hx5.is hk4
  have ok5 := hx5.ok ok4
  have hz5 : ∀ q, k + 5 < q → q < k + 156 → ¬ e_sea (k + 1) q → ¬ e_bar (k + 2) q → z_ok G5 MM q := fun q h1 h2 h3 h4 => (hz4 q (by omega) h2 h3 h4).gx hx5 (by omega)
  rw [← hx5.P hk4]
  refine u_iconst C5 dX3_init_52 (v := nI 0) rfl ?_
  refine u_istore_n C5 (n := 1) dX3_init_53 (by decide) ?_
  have f0 : gF G5 k 0 = some (k + 1) := by rw [hF5, hF4, hF3, hF2, hF1]; rfl
  have f1 : gF G5 k 1 = some (k + 2) := by rw [hF5, hF4, hF3, hF2]; rfl
  have f2 : gF G5 k 2 = some (k + 3) := by rw [hF5, hF4, hF3]; rfl
  have f3 : gF G5 k 3 = some (k + 4) := by rw [hF5, hF4]; rfl
  have f4 : gF G5 k 4 = some (k + 5) := by rw [hF5]; rfl
  have xs : ∀ {G G2 : w_G} {t : Nat}, k + 2 < t → t < k + 6 → gx G G2 (fun q => q = k ∨ q = t) → L_sea G (k + 1) ∧ L_bar G (k + 2) → L_sea G2 (k + 1) ∧ L_bar G2 (k + 2) := fun h1 h2 hx hL => ⟨sea_gx _ _ _ _ hx (fun q hq => by unfold e_sea at hq; omega) hL.1, bar_gx _ _ _ _ hx (fun q hq => by unfold e_bar at hq; omega) hL.2⟩
  have L5 := xs (by omega) (by omega) hx5 (xs (by omega) (by omega) hx4 (xs (by omega) (by omega) hx3 ⟨L12, hL2⟩))
  have a3 : u_is G5 (k + 3) 17 := hx5.is (hx4.is hi3)
  have b3 : gN G5 (k + 3) = 8 := (hx5.N (hx4.is hi3)).trans ((hx4.N hi3).trans hn3)
  have a4 : u_is G5 (k + 4) 15 := hx5.is hi4
  have b4 : gN G5 (k + 4) = 6 := (hx5.N hi4).trans hn4
  refine u_fill (Cn := (RX6, TX6, 8)) C5 (K_X6 l D) m_c6_kp sec_gx (b := k + 3 + 97) (fun i hi q hq => hz5 q (by unfold e_sec at hq; omega) (by unfold e_sec at hq; omega) (by unfold e_sec at hq; unfold e_sea; omega) (by unfold e_sec at hq; unfold e_bar; omega)) (fun k => Or.inl rfl) (fun i j hi hj q => by unfold e_sec; omega) (fun i hi => by unfold e_sec; omega) (fun i hi => by unfold e_sec; omega) (by omega) ok5 hk5 f2 rfl a3 b3 (N := 8) (by decide) rc_17 rfl (by decide) dX3_init_54 dX3_init_55 gX3_init_56 dX3_init_59 dX3_init_60 dX3_init_63 gX3_init_64 dX3_init_67 dX3_init_68 dX3_init_71 dX3_init_72 dX3_init_75 dX3_init_76 dX3_init_79 nw_RX3_25 e_X6_init rfl wv_X6_init (Or.inr (by decide +kernel)) ⟨by decide, by decide⟩ (cells2 := 69) (slots2 := 2935) ⟨rfl, rfl, by decide, by decide⟩ (fun G6 hx6 hd6 => ?_)
  have C6 := C5.to (G2 := G6) (cells2 := 69) (slots2 := 2935) hx6.c (by decide) (by decide)
  have hk6 := hx6.is hk5
  have hz6 : ∀ i, i < 6 → z_ok G6 (f_it m_c6 (k + 3 + 97) MM 8) (k + 4 + 146 + i) := by
    intro i hi
    have h0 := hz5 (k + 4 + 146 + i) (by omega) (by omega) (by unfold e_sea; omega) (by unfold e_bar; omega)
    refine ⟨hx6.nin (by rintro (h | ⟨j, hj, h⟩) <;> (try unfold e_sec at h) <;> omega) h0.1, fun j => ?_⟩
    have h1 := f_it_kp (M := MM) (b := k + 3 + 97) m_c6_kp 8 (k + 4 + 146 + i) (fun j hj => by omega) j
    exact ⟨h1.1.trans (h0.2 j).1, h1.2.trans (h0.2 j).2⟩
  have n6 : ∀ q, q = k ∨ q = k + 4 → ¬ (q = k + 3 ∨ ∃ j, j < 8 ∧ e_sec (k + 3 + 97 + j) q) := by rintro q hq (h | ⟨j, hj, h⟩) <;> (try unfold e_sec at h) <;> omega
  refine u_iconst C6 dX3_init_82 (v := nI 0) rfl ?_
  refine u_istore_n C6 (n := 1) dX3_init_83 (by decide) ?_
  refine u_fill (Cn := (RX1, TX1, 10)) C6 (K_X1 l D) m_id_kp lf_gx (b := k + 4 + 146) (fun i hi q hq => by unfold e_lf at hq; rw [hq]; exact hz6 i hi) (fun k => rfl) (fun i j hi hj q => by unfold e_lf; omega) (fun i hi => by unfold e_lf; omega) (fun i hi => by unfold e_lf; omega) (by omega) (hx6.ok ok5) hk6 (hx6.f1 (n6 k (Or.inl rfl)) f3) rfl (hx6.is a4) ((hx6.N a4).trans b4) (N := 6) (by decide) rc_15 rfl (by decide) dX3_init_84 dX3_init_85 gX3_init_86 dX3_init_89 dX3_init_90 dX3_init_93 gX3_init_94 dX3_init_97 dX3_init_98 dX3_init_101 dX3_init_102 dX3_init_105 dX3_init_106 dX3_init_109 nw_RX3_31 e_X1_init rfl wv_X1_init (Or.inr (by decide +kernel)) ⟨by decide, by decide⟩ (cells2 := 75) (slots2 := 2995) ⟨rfl, rfl, by decide, by decide⟩ (fun G7 hx7 hd7 => ?_)
  rw [f_it_id]
  have n7 : ∀ q, q = k ∨ q = k + 3 → ¬ (q = k + 4 ∨ ∃ j, j < 6 ∧ e_lf (k + 4 + 146 + j) q) := by rintro q hq (h | ⟨j, hj, h⟩) <;> (try unfold e_lf at h) <;> omega
  have L6 : L_sea G6 (k + 1) ∧ L_bar G6 (k + 2) := ⟨sea_gx _ _ _ _ hx6 (by unfold e_sea; rintro q hq (h | ⟨j, hj, h⟩) <;> (try unfold e_sec at h) <;> omega) L5.1, bar_gx _ _ _ _ hx6 (by unfold e_bar; rintro q hq (h | ⟨j, hj, h⟩) <;> (try unfold e_sec at h) <;> omega) L5.2⟩
  have L7 : L_sea G7 (k + 1) ∧ L_bar G7 (k + 2) := ⟨sea_gx _ _ _ _ hx7 (by unfold e_sea; rintro q hq (h | ⟨j, hj, h⟩) <;> (try unfold e_lf at h) <;> omega) L6.1, bar_gx _ _ _ _ hx7 (by unfold e_bar; rintro q hq (h | ⟨j, hj, h⟩) <;> (try unfold e_lf at h) <;> omega) L6.2⟩
  have k7 := n7 k (Or.inl rfl)
  have k6 := n6 k (Or.inl rfl)
  refine kret _ _ G7 _ dX3_init_112 ⟨?_, ⟨hx7.is hk6, ⟨hx7.f1 k7 (hx6.f1 k6 f0), L7.1⟩, ⟨hx7.f1 k7 (hx6.f1 k6 f1), L7.2⟩, ⟨hx7.f1 k7 (hx6.f1 k6 f2), hx7.is (hx6.is a3), (hx7.N (hx6.is a3)).trans ((hx6.N a3).trans b3), fun i hi => ⟨hx7.f1 (n7 _ (Or.inr rfl)) (hd6 i hi).1, sec_gx _ _ _ _ hx7 (by unfold e_sec; rintro q hq (h | ⟨j, hj, h⟩) <;> (try unfold e_lf at h) <;> omega) (hd6 i hi).2⟩⟩, ⟨hx7.f1 k7 (hx6.f1 k6 f3), hx7.is (hx6.is a4), (hx7.N (hx6.is a4)).trans ((hx6.N a4).trans b4), hd7⟩, ⟨hx7.f1 k7 (hx6.f1 k6 f4), hx7.ar (hx6.ar ⟨hi5, hn5⟩)⟩⟩, by rw [← hMM]; rfl⟩
  refine hx1.tr (R3 := e_mou k) (hx2.tr (R3 := e_mou k) (hx3.tr (R3 := e_mou k) (hx4.tr (R3 := e_mou k) (hx5.tr (R3 := e_mou k) (hx6.tr (R3 := e_mou k) hx7 ?_ ?_) ?_ (fun b hb => hb)) ?_ (fun b hb => hb)) ?_ (fun b hb => hb)) ?_ (fun b hb => hb)) ?_ (fun b hb => hb)
  · unfold e_mou; rintro b (h | ⟨j, hj, h⟩) <;> (try unfold e_sec at h) <;> omega
  · unfold e_mou; rintro b (h | ⟨j, hj, h⟩) <;> (try unfold e_lf at h) <;> omega
  · unfold e_mou; intro b hb; omega
  · unfold e_mou; intro b hb; omega
  · unfold e_mou; intro b hb; omega
  · unfold e_mou e_bar; intro b hb; omega
  · unfold e_mou e_sea; intro b hb; omega
def e_sal (k q : Nat) : Prop := k ≤ q ∧ q < k + 2156
def m_c10 (M : w_M) (k : Nat) : w_M := m_c3 (m_c3 M (k + 1000)) (k + 2000)
theorem K_X10 (l : Launch) (D : va_G) : u_K l D yX10_init cX10_init 2 4 74 161 9620 10 e_sal L_sal m_c10 := by
  intro G M k hok hk hz
  refine u_bodyc rfl (Nat.le_of_ble_eq_true rfl) (fun p e s m args below meth c A H0 Q C hnm kret => ?_)
  refine u_aload_n C (n := 0) dX10_init_0 rfl ?_
  refine u_obj C dX10_init_1 (u_r1 _ (List.mem_of_getElem? (i := 7) rfl)) ob_i ob_c ⟨by decide, by decide⟩ ?_
  have hz0 : ∀ q, k < q → q < k + 2156 → z_ok G M q := fun q h1 h2 => hz q ⟨by omega, h2⟩ (by omega)
  refine u_aload_n C (n := 0) dX10_init_4 rfl ?_
  refine u_mkO C (t := k + 1000) (K_X3 l D) mou_gx (fun q hq => hz0 q (by unfold e_mou at hq; omega) (by unfold e_mou at hq; omega)) (by unfold e_mou; omega) hok dX10_init_5 dX10_init_8 dX10_init_9 nw_RX10_7 e_X3_init rfl wv_X3_init (Or.inl (u_r1 _ (List.mem_of_getElem? (i := 23) rfl))) ⟨by decide, by decide⟩ (by decide) hnm pX10_init_12 (fun _ => ⟨rfl, rfl⟩) rfl hk (cells2 := 76) (slots2 := 3005) ⟨rfl, rfl, by decide, by decide⟩ (fun G1 hx1 hL1 hF1 => ?_)
  have C1 := C.to (G2 := G1) (cells2 := 76) (slots2 := 3005) hx1.c (by decide) (by decide)
  have hk1 := hx1.is hk
  have ok1 := hx1.ok hok
  have hz1 : ∀ q, k < q → q < k + 2156 → ¬ e_mou (k + 1000) q → z_ok G1 (m_c3 M (k + 1000)) q := fun q h1 h2 h3 => by
    have h0 := (hz0 q h1 h2).gx hx1 (by rintro (h | h); omega; exact h3 h)
    exact ⟨h0.1, fun j => ⟨(m_c3_kp h3 j).1.trans (h0.2 j).1, (m_c3_kp h3 j).2.trans (h0.2 j).2⟩⟩
  rw [← hx1.P hk]
  refine u_aload_n C1 (n := 0) dX10_init_15 rfl ?_
  refine u_mkO C1 (t := k + 2000) (K_X3 l D) mou_gx (fun q hq => hz1 q (by unfold e_mou at hq; omega) (by unfold e_mou at hq; omega) (by unfold e_mou at *; omega)) (by unfold e_mou; omega) ok1 dX10_init_16 dX10_init_19 dX10_init_20 nw_RX10_7 e_X3_init rfl wv_X3_init (Or.inl (u_r1 _ (List.mem_of_getElem? (i := 23) rfl))) ⟨by decide, by decide⟩ (by decide) hnm pX10_init_23 (fun _ => ⟨rfl, rfl⟩) rfl hk1 (cells2 := 152) (slots2 := 6010) ⟨rfl, rfl, by decide, by decide⟩ (fun G2 hx2 hL2 hF2 => ?_)
  have C2 := C.to (G2 := G2) (cells2 := 152) (slots2 := 6010) (hx2.c.trans hx1.c) (by decide) (by decide)
  have hk2 := hx2.is hk1
  have ok2 := hx2.ok ok1
  have hz2 : ∀ q, k < q → q < k + 1000 → z_ok G2 (m_c10 M k) q := fun q h1 h2 => by
    have h3 : ¬ e_mou (k + 2000) q := by unfold e_mou; omega
    have h0 := (hz1 q h1 (by omega) (by unfold e_mou; omega)).gx hx2 (by rintro (h | h); omega; exact h3 h)
    exact ⟨h0.1, fun j => ⟨(m_c3_kp h3 j).1.trans (h0.2 j).1, (m_c3_kp h3 j).2.trans (h0.2 j).2⟩⟩
  rw [← hx2.P hk1]
  have L12 : L_mou G2 (k + 1000) := mou_gx _ _ _ _ hx2 (by unfold e_mou; omega) hL1
  show u_S _ _ _ _ _ _ _ _ _ _ _ _ _ _ _ _ _ _ _ _ _ (m_c10 M k)
  refine u_aload_n C2 (n := 0) dX10_init_26 rfl ?_
  refine u_mkO C2 (t := k + 1) (K_X8 l D) tld_gx (fun q hq => hz2 q (by unfold e_tld at hq; omega) (by unfold e_tld at hq; omega)) (Or.inl rfl) ok2 dX10_init_27 dX10_init_30 dX10_init_31 nw_RX10_19 e_X8_init rfl wv_X8_init (Or.inr (by decide +kernel)) ⟨by decide, by decide⟩ (by decide) hnm pX10_init_34 (fun _ => ⟨rfl, rfl⟩) rfl hk2 (cells2 := 154) (slots2 := 9596) ⟨rfl, rfl, by decide, by decide⟩ (fun G3 hx3 hL3 hF3 => ?_)
  have C3 := C2.to (G2 := G3) (cells2 := 154) (slots2 := 9596) hx3.c (by decide) (by decide)
  have hk3 := hx3.is hk2
  have ok3 := hx3.ok ok2
  rw [← hx3.P hk2]
  show u_S _ _ _ _ _ _ _ _ _ _ _ _ _ _ _ _ _ _ _ _ _ (m_c10 M k)
  refine u_aload_n C3 (n := 0) dX10_init_37 rfl ?_
  refine u_bipush C3 dX10_init_38 (v := nI 6) rfl ?_
  refine u_mkQ C3 (t := k + 3) 16 rc_16 dX10_init_40 cl_RX10_26 hnm pX10_init_43 (fun _ => ⟨rfl, rfl⟩) rfl hk3 ((hz2 (k + 3) (by omega) (by omega)).gx hx3 (by unfold e_tld; omega)).1 ok3 (n := 6) (by decide) rfl (cells2 := 155) (slots2 := 9602) ⟨rfl, rfl, by decide, by decide⟩ (fun G4 hx4 hi4 hn4 hF4 => ?_)
  have C4 := C3.to (G2 := G4) (cells2 := 155) (slots2 := 9602) hx4.c (by decide) (by decide)
  have hk4 := hx4.is hk3
  have ok4 := hx4.ok ok3
  rw [← hx4.P hk3]
  refine u_iconst C4 dX10_init_46 (v := nI 0) rfl ?_
  refine u_istore_n C4 (n := 1) dX10_init_47 (by decide) ?_
  have f0 : gF G4 k 0 = some (k + 1000) := by rw [hF4, hF3, hF2, hF1]; rfl
  have f1 : gF G4 k 1 = some (k + 2000) := by rw [hF4, hF3, hF2]; rfl
  have f2 : gF G4 k 2 = some (k + 1) := by rw [hF4, hF3]; rfl
  have f3 : gF G4 k 3 = some (k + 3) := by rw [hF4]; rfl
  have L4 : L_mou G4 (k + 1000) ∧ L_mou G4 (k + 2000) ∧ L_tld G4 (k + 1) := ⟨mou_gx _ _ _ _ hx4 (by unfold e_mou; omega) (mou_gx _ _ _ _ hx3 (by unfold e_mou e_tld; omega) L12), mou_gx _ _ _ _ hx4 (by unfold e_mou; omega) (mou_gx _ _ _ _ hx3 (by unfold e_mou e_tld; omega) hL2), tld_gx _ _ _ _ hx4 (by unfold e_tld; omega) hL3⟩
  refine u_fill (Cn := (RX4, TX4, 3)) C4 (K_X4 l D) m_id_kp lf_gx (b := k + 3 + 7) (fun i hi q hq => ((hz2 q (by unfold e_lf at hq; omega) (by unfold e_lf at hq; omega)).gx hx3 (by unfold e_lf at hq; unfold e_tld; omega)).gx hx4 (by unfold e_lf at hq; omega)) (fun k => rfl) (fun i j hi hj q => by unfold e_lf; omega) (fun i hi => by unfold e_lf; omega) (fun i hi => by unfold e_lf; omega) (by omega) ok4 hk4 f3 rfl hi4 hn4 (N := 6) (by decide) rc_16 rfl (by decide) dX10_init_48 dX10_init_49 gX10_init_50 dX10_init_53 dX10_init_54 dX10_init_57 gX10_init_58 dX10_init_61 dX10_init_62 dX10_init_65 dX10_init_66 dX10_init_69 dX10_init_70 dX10_init_73 nw_RX10_26 e_X4_init rfl wv_X4_init (Or.inr (by decide +kernel)) ⟨by decide, by decide⟩ (cells2 := 161) (slots2 := 9620) ⟨rfl, rfl, by decide, by decide⟩ (fun G5 hx5 hd5 => ?_)
  rw [f_it_id]
  have n5 : ¬ (k = k + 3 ∨ ∃ j, j < 6 ∧ e_lf (k + 3 + 7 + j) k) := by rintro (h | ⟨j, hj, h⟩) <;> (try unfold e_lf at h) <;> omega
  refine kret _ _ G5 _ dX10_init_76 ⟨?_, ⟨hx5.is hk4, ⟨hx5.f1 n5 f0, mou_gx _ _ _ _ hx5 (by unfold e_mou; rintro q hq (h | ⟨j, hj, h⟩) <;> (try unfold e_lf at h) <;> omega) L4.1⟩, ⟨hx5.f1 n5 f1, mou_gx _ _ _ _ hx5 (by unfold e_mou; rintro q hq (h | ⟨j, hj, h⟩) <;> (try unfold e_lf at h) <;> omega) L4.2.1⟩, ⟨hx5.f1 n5 f2, tld_gx _ _ _ _ hx5 (by unfold e_tld; rintro q hq (h | ⟨j, hj, h⟩) <;> (try unfold e_lf at h) <;> omega) L4.2.2⟩, ⟨hx5.f1 n5 f3, hx5.is hi4, (hx5.N hi4).trans hn4, hd5⟩⟩, rfl⟩
  refine hx1.tr (R3 := e_sal k) (hx2.tr (R3 := e_sal k) (hx3.tr (R3 := e_sal k) (hx4.tr (R3 := e_sal k) hx5 ?_ ?_) ?_ (fun b hb => hb)) ?_ (fun b hb => hb)) ?_ (fun b hb => hb)
  · unfold e_sal; intro b hb; omega
  · unfold e_sal; rintro b (h | ⟨j, hj, h⟩) <;> (try unfold e_lf at h) <;> omega
  · unfold e_sal e_tld; intro b hb; omega
  · unfold e_sal e_mou; intro b hb; omega
  · unfold e_sal e_mou; intro b hb; omega
