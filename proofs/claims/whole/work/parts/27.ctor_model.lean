/-! the constructor of the reference -/
def e_mdl (k q : Nat) : Prop := k ≤ q ∧ q < k + 43
/-- what is done of the constructor: the arrays made; what is still free -/
def g_dn (G0 G : w_G) (M : w_M) (k : Nat) (js : List (Nat × Nat × Nat)) : Prop := gx G0 G (e_mdl k) ∧ u_is G k 11 ∧ g_ok G ∧ (∀ e ∈ js, gF G k e.1 = some (k + e.1) ∧ u_is G (k + e.1) e.2.1 ∧ gN G (k + e.1) = e.2.2) ∧ ∀ q, k < q → q < k + 43 → (∀ e ∈ js, ¬ q = k + e.1) → z_ok G M q
theorem g_dn.wi {G0 G : w_G} {M : w_M} {k j : Nat} {x : Int32} {js : List (Nat × Nat × Nat)} (h : g_dn G0 G M k js) : g_dn G0 G (wi M k j x) k js := ⟨h.1, h.2.1, h.2.2.1, h.2.2.2.1, fun q h1 h2 h3 => (h.2.2.2.2 q h1 h2 h3).wi (by omega)⟩
theorem u_dnA {p : Program} {l : Launch} {e : Env} {R : Room} {s : State} {m : MethodId} {args : Array Value} {below : List Frame} {meth : Method} {c : Code} {Q : State → Prop} {cells slots : Nat}
    {nL : Nat} {D : va_G} {A : Nat → Prop} {H0 : Heap} {G0 G : w_G} {M : w_M} {pc : Nat} {cells2 slots2 : Nat} {js : List (Nat × Nat × Nat)} {k : Nat} {ty : FieldType} {x : Int32} {at_ : ArrayType}
    (C : u_C p R s m args c cX11_init RX11 nL D A H0 cells slots G) (j kd n : Nat) (hd : g_dn G0 G M k js) (hkd : (kd = 12 ∧ at_ = .int) ∨ (kd = 13 ∧ at_ = .long) ∨ (kd = 14 ∧ at_ = .boolean)) (d0 : decode cX11_init pc = .ok (.newarray at_, 2)) (hw : Cond.arrayClass (newarray.typeOf at_) ∈ wsL_law) (hnm : meth.name = "<init>") (hg : u_pf cX11_init RX11 (pc + 2) 11 j true ty) (hty : ∀ a, narrow ty (.ref a) = .ref a ∧ fits ty (.ref a) = true) (hr : w_rf 11 j = true) (hj : 0 < j ∧ j < 43) (hjs : ∀ e ∈ js, ¬ e.1 = j) (hn : n < 10000) (hx9 : x = nI n) (hcs : cells + 1 = cells2 ∧ slots + n = slots2 ∧ cells2 ≤ R.cells ∧ slots2 ≤ R.slots)
    (kk : ∀ G2, g_dn G0 G2 M k ((j, kd, n) :: js) → u_C p R s m args c cX11_init RX11 nL D A H0 cells2 slots2 G2 → u_S p l e R s m args below meth c nL D A H0 cells2 slots2 Q (pc + 5) [(0, .ref (gP G2 k))] [] G2 M) : u_S p l e R s m args below meth c nL D A H0 cells slots Q pc [(0, .ref (gP G k))] [.int x, .ref (gP G k)] G M := by
  obtain ⟨hx, hk, hok, hdone, hz⟩ := hd
  have hzj : z_ok G M (k + j) := hz _ (by omega) (by omega) (fun e he => by have := hjs e he; omega)
  refine u_mkA C (t := k + j) kd hkd d0 hw hnm hg hty hr hk hzj hok hn hx9 hcs (fun G2 hx2 hi2 hn2 hF2 => ?_)
  rw [← hx2.P hk]
  refine kk G2 ⟨hx.tr hx2 (fun b hb => hb) (fun b hb => by unfold e_mdl; omega), hx2.is hk, hx2.ok hok, fun e he => ?_, fun q h1 h2 h3 => ?_⟩ (C.to hx2.c hcs.2.2.1 hcs.2.2.2)
  · rcases List.mem_cons.mp he with rfl | he
    · exact ⟨by rw [hF2, if_pos rfl], hi2, hn2⟩
    · have hne := hjs e he
      obtain ⟨e1, e2, e3⟩ := hdone e he
      exact ⟨by rw [hF2, if_neg hne]; exact e1, hx2.is e2, (hx2.N e2).trans e3⟩
  · have := h3 (j, kd, n) List.mem_cons_self
    exact (hz q h1 h2 (fun e he => h3 e (List.mem_cons_of_mem _ he))).gx hx2 (by dsimp only at this; omega)
def m_c11 (M : w_M) (k : Nat) : w_M := (wi (wi M k 2 (nI 50)) k 10 (-1))
theorem K_X11 (l : Launch) (D : va_G) : u_K l D yX11_init cX11_init 1 1 12 28 12256 11 e_mdl L_mdl m_c11 := by
  intro G M k hok hk hz
  refine u_bodyc rfl (Nat.le_of_ble_eq_true rfl) (fun p e s m args below meth c A H0 Q C hnm kret => ?_)
  have hd0 : g_dn G G M k [] := ⟨gx.rf, hk, hok, fun e he => absurd he List.not_mem_nil, fun q h1 h2 _ => hz q ⟨by omega, h2⟩ (by omega)⟩
  show u_S _ _ _ _ _ _ _ _ _ _ _ _ _ _ _ _ _ _ [(0, .ref (gP G k))] _ _ _
  refine u_aload_n C (n := 0) dX11_init_0 rfl ?_
  refine u_obj C dX11_init_1 (u_r5 _ (List.mem_of_getElem? (i := 6) rfl)) ob_i ob_c ⟨by decide, by decide⟩ ?_
  refine u_aload_n C (n := 0) dX11_init_4 rfl ?_
  refine u_bipush C dX11_init_5 (v := (nI 50)) rfl ?_
  refine u_putI C pX11_init_7 rfl hd0.2.1 ?_
  have hd1 := hd0.wi (j := 2) (x := (nI 50))
  refine u_aload_n C (n := 0) dX11_init_10 rfl ?_
  refine u_bipush C dX11_init_11 (v := nI 24) rfl ?_
  refine u_dnA C 4 12 24 hd1 (Or.inl ⟨rfl, rfl⟩) dX11_init_13 aw_int hnm pX11_init_15 (fun _ => ⟨rfl, rfl⟩) rfl (by decide) (by decide) (by decide) rfl (cells2 := 1) (slots2 := 24) ⟨rfl, rfl, by decide, by decide⟩ (fun G2 hd2 C2 => ?_)
  refine u_aload_n C2 (n := 0) dX11_init_18 rfl ?_
  refine u_bipush C2 dX11_init_19 (v := nI 60) rfl ?_
  refine u_dnA C2 6 12 60 hd2 (Or.inl ⟨rfl, rfl⟩) dX11_init_21 aw_int hnm pX11_init_23 (fun _ => ⟨rfl, rfl⟩) rfl (by decide) (by decide) (by decide) rfl (cells2 := 2) (slots2 := 84) ⟨rfl, rfl, by decide, by decide⟩ (fun G3 hd3 C3 => ?_)
  refine u_aload_n C3 (n := 0) dX11_init_26 rfl ?_
  refine u_sipush C3 dX11_init_27 (v := nI 1001) rfl ?_
  refine u_dnA C3 7 12 1001 hd3 (Or.inl ⟨rfl, rfl⟩) dX11_init_30 aw_int hnm pX11_init_32 (fun _ => ⟨rfl, rfl⟩) rfl (by decide) (by decide) (by decide) rfl (cells2 := 3) (slots2 := 1085) ⟨rfl, rfl, by decide, by decide⟩ (fun G4 hd4 C4 => ?_)
  refine u_aload_n C4 (n := 0) dX11_init_35 rfl ?_
  refine u_iconst C4 dX11_init_36 (v := (-1)) rfl ?_
  refine u_putI C4 pX11_init_37 rfl hd4.2.1 ?_
  have hd5 := hd4.wi (j := 10) (x := (-1))
  refine u_aload_n C4 (n := 0) dX11_init_40 rfl ?_
  refine u_sipush C4 dX11_init_41 (v := nI 1001) rfl ?_
  refine u_dnA C4 13 12 1001 hd5 (Or.inl ⟨rfl, rfl⟩) dX11_init_44 aw_int hnm pX11_init_46 (fun _ => ⟨rfl, rfl⟩) rfl (by decide) (by decide) (by decide) rfl (cells2 := 4) (slots2 := 2086) ⟨rfl, rfl, by decide, by decide⟩ (fun G6 hd6 C6 => ?_)
  refine u_aload_n C6 (n := 0) dX11_init_49 rfl ?_
  refine u_sipush C6 dX11_init_50 (v := nI 1001) rfl ?_
  refine u_dnA C6 14 12 1001 hd6 (Or.inl ⟨rfl, rfl⟩) dX11_init_53 aw_int hnm pX11_init_55 (fun _ => ⟨rfl, rfl⟩) rfl (by decide) (by decide) (by decide) rfl (cells2 := 5) (slots2 := 3087) ⟨rfl, rfl, by decide, by decide⟩ (fun G7 hd7 C7 => ?_)
  refine u_aload_n C7 (n := 0) dX11_init_58 rfl ?_
  refine u_sipush C7 dX11_init_59 (v := nI 1001) rfl ?_
  refine u_dnA C7 15 14 1001 hd7 (Or.inr (Or.inr ⟨rfl, rfl⟩)) dX11_init_62 aw_boolean hnm pX11_init_64 (fun _ => ⟨rfl, rfl⟩) rfl (by decide) (by decide) (by decide) rfl (cells2 := 6) (slots2 := 4088) ⟨rfl, rfl, by decide, by decide⟩ (fun G8 hd8 C8 => ?_)
  refine u_aload_n C8 (n := 0) dX11_init_67 rfl ?_
  refine u_bipush C8 dX11_init_68 (v := nI 8) rfl ?_
  refine u_dnA C8 17 12 8 hd8 (Or.inl ⟨rfl, rfl⟩) dX11_init_70 aw_int hnm pX11_init_72 (fun _ => ⟨rfl, rfl⟩) rfl (by decide) (by decide) (by decide) rfl (cells2 := 7) (slots2 := 4096) ⟨rfl, rfl, by decide, by decide⟩ (fun G9 hd9 C9 => ?_)
  refine u_aload_n C9 (n := 0) dX11_init_75 rfl ?_
  refine u_bipush C9 dX11_init_76 (v := nI 8) rfl ?_
  refine u_dnA C9 18 12 8 hd9 (Or.inl ⟨rfl, rfl⟩) dX11_init_78 aw_int hnm pX11_init_80 (fun _ => ⟨rfl, rfl⟩) rfl (by decide) (by decide) (by decide) rfl (cells2 := 8) (slots2 := 4104) ⟨rfl, rfl, by decide, by decide⟩ (fun G10 hd10 C10 => ?_)
  refine u_aload_n C10 (n := 0) dX11_init_83 rfl ?_
  refine u_bipush C10 dX11_init_84 (v := nI 8) rfl ?_
  refine u_dnA C10 19 12 8 hd10 (Or.inl ⟨rfl, rfl⟩) dX11_init_86 aw_int hnm pX11_init_88 (fun _ => ⟨rfl, rfl⟩) rfl (by decide) (by decide) (by decide) rfl (cells2 := 9) (slots2 := 4112) ⟨rfl, rfl, by decide, by decide⟩ (fun G11 hd11 C11 => ?_)
  refine u_aload_n C11 (n := 0) dX11_init_91 rfl ?_
  refine u_bipush C11 dX11_init_92 (v := nI 8) rfl ?_
  refine u_dnA C11 20 12 8 hd11 (Or.inl ⟨rfl, rfl⟩) dX11_init_94 aw_int hnm pX11_init_96 (fun _ => ⟨rfl, rfl⟩) rfl (by decide) (by decide) (by decide) rfl (cells2 := 10) (slots2 := 4120) ⟨rfl, rfl, by decide, by decide⟩ (fun G12 hd12 C12 => ?_)
  refine u_aload_n C12 (n := 0) dX11_init_99 rfl ?_
  refine u_bipush C12 dX11_init_100 (v := nI 8) rfl ?_
  refine u_dnA C12 21 12 8 hd12 (Or.inl ⟨rfl, rfl⟩) dX11_init_102 aw_int hnm pX11_init_104 (fun _ => ⟨rfl, rfl⟩) rfl (by decide) (by decide) (by decide) rfl (cells2 := 11) (slots2 := 4128) ⟨rfl, rfl, by decide, by decide⟩ (fun G13 hd13 C13 => ?_)
  refine u_aload_n C13 (n := 0) dX11_init_107 rfl ?_
  refine u_bipush C13 dX11_init_108 (v := nI 16) rfl ?_
  refine u_dnA C13 22 12 16 hd13 (Or.inl ⟨rfl, rfl⟩) dX11_init_110 aw_int hnm pX11_init_112 (fun _ => ⟨rfl, rfl⟩) rfl (by decide) (by decide) (by decide) rfl (cells2 := 12) (slots2 := 4144) ⟨rfl, rfl, by decide, by decide⟩ (fun G14 hd14 C14 => ?_)
  refine u_aload_n C14 (n := 0) dX11_init_115 rfl ?_
  refine u_bipush C14 dX11_init_116 (v := nI 16) rfl ?_
  refine u_dnA C14 23 12 16 hd14 (Or.inl ⟨rfl, rfl⟩) dX11_init_118 aw_int hnm pX11_init_120 (fun _ => ⟨rfl, rfl⟩) rfl (by decide) (by decide) (by decide) rfl (cells2 := 13) (slots2 := 4160) ⟨rfl, rfl, by decide, by decide⟩ (fun G15 hd15 C15 => ?_)
  refine u_aload_n C15 (n := 0) dX11_init_123 rfl ?_
  refine u_sipush C15 dX11_init_124 (v := nI 8008) rfl ?_
  refine u_dnA C15 24 12 8008 hd15 (Or.inl ⟨rfl, rfl⟩) dX11_init_127 aw_int hnm pX11_init_129 (fun _ => ⟨rfl, rfl⟩) rfl (by decide) (by decide) (by decide) rfl (cells2 := 14) (slots2 := 12168) ⟨rfl, rfl, by decide, by decide⟩ (fun G16 hd16 C16 => ?_)
  refine u_aload_n C16 (n := 0) dX11_init_132 rfl ?_
  refine u_bipush C16 dX11_init_133 (v := nI 6) rfl ?_
  refine u_dnA C16 26 12 6 hd16 (Or.inl ⟨rfl, rfl⟩) dX11_init_135 aw_int hnm pX11_init_137 (fun _ => ⟨rfl, rfl⟩) rfl (by decide) (by decide) (by decide) rfl (cells2 := 15) (slots2 := 12174) ⟨rfl, rfl, by decide, by decide⟩ (fun G17 hd17 C17 => ?_)
  refine u_aload_n C17 (n := 0) dX11_init_140 rfl ?_
  refine u_bipush C17 dX11_init_141 (v := nI 6) rfl ?_
  refine u_dnA C17 27 12 6 hd17 (Or.inl ⟨rfl, rfl⟩) dX11_init_143 aw_int hnm pX11_init_145 (fun _ => ⟨rfl, rfl⟩) rfl (by decide) (by decide) (by decide) rfl (cells2 := 16) (slots2 := 12180) ⟨rfl, rfl, by decide, by decide⟩ (fun G18 hd18 C18 => ?_)
  refine u_aload_n C18 (n := 0) dX11_init_148 rfl ?_
  refine u_bipush C18 dX11_init_149 (v := nI 6) rfl ?_
  refine u_dnA C18 28 12 6 hd18 (Or.inl ⟨rfl, rfl⟩) dX11_init_151 aw_int hnm pX11_init_153 (fun _ => ⟨rfl, rfl⟩) rfl (by decide) (by decide) (by decide) rfl (cells2 := 17) (slots2 := 12186) ⟨rfl, rfl, by decide, by decide⟩ (fun G19 hd19 C19 => ?_)
  refine u_aload_n C19 (n := 0) dX11_init_156 rfl ?_
  refine u_bipush C19 dX11_init_157 (v := nI 6) rfl ?_
  refine u_dnA C19 29 12 6 hd19 (Or.inl ⟨rfl, rfl⟩) dX11_init_159 aw_int hnm pX11_init_161 (fun _ => ⟨rfl, rfl⟩) rfl (by decide) (by decide) (by decide) rfl (cells2 := 18) (slots2 := 12192) ⟨rfl, rfl, by decide, by decide⟩ (fun G20 hd20 C20 => ?_)
  refine u_aload_n C20 (n := 0) dX11_init_164 rfl ?_
  refine u_bipush C20 dX11_init_165 (v := nI 6) rfl ?_
  refine u_dnA C20 30 12 6 hd20 (Or.inl ⟨rfl, rfl⟩) dX11_init_167 aw_int hnm pX11_init_169 (fun _ => ⟨rfl, rfl⟩) rfl (by decide) (by decide) (by decide) rfl (cells2 := 19) (slots2 := 12198) ⟨rfl, rfl, by decide, by decide⟩ (fun G21 hd21 C21 => ?_)
  refine u_aload_n C21 (n := 0) dX11_init_172 rfl ?_
  refine u_bipush C21 dX11_init_173 (v := nI 6) rfl ?_
  refine u_dnA C21 31 12 6 hd21 (Or.inl ⟨rfl, rfl⟩) dX11_init_175 aw_int hnm pX11_init_177 (fun _ => ⟨rfl, rfl⟩) rfl (by decide) (by decide) (by decide) rfl (cells2 := 20) (slots2 := 12204) ⟨rfl, rfl, by decide, by decide⟩ (fun G22 hd22 C22 => ?_)
  refine u_aload_n C22 (n := 0) dX11_init_180 rfl ?_
  refine u_bipush C22 dX11_init_181 (v := nI 6) rfl ?_
  refine u_dnA C22 32 12 6 hd22 (Or.inl ⟨rfl, rfl⟩) dX11_init_183 aw_int hnm pX11_init_185 (fun _ => ⟨rfl, rfl⟩) rfl (by decide) (by decide) (by decide) rfl (cells2 := 21) (slots2 := 12210) ⟨rfl, rfl, by decide, by decide⟩ (fun G23 hd23 C23 => ?_)
  refine u_aload_n C23 (n := 0) dX11_init_188 rfl ?_
  refine u_bipush C23 dX11_init_189 (v := nI 6) rfl ?_
  refine u_dnA C23 33 12 6 hd23 (Or.inl ⟨rfl, rfl⟩) dX11_init_191 aw_int hnm pX11_init_193 (fun _ => ⟨rfl, rfl⟩) rfl (by decide) (by decide) (by decide) rfl (cells2 := 22) (slots2 := 12216) ⟨rfl, rfl, by decide, by decide⟩ (fun G24 hd24 C24 => ?_)
  refine u_aload_n C24 (n := 0) dX11_init_196 rfl ?_
  refine u_bipush C24 dX11_init_197 (v := nI 6) rfl ?_
  refine u_dnA C24 34 12 6 hd24 (Or.inl ⟨rfl, rfl⟩) dX11_init_199 aw_int hnm pX11_init_201 (fun _ => ⟨rfl, rfl⟩) rfl (by decide) (by decide) (by decide) rfl (cells2 := 23) (slots2 := 12222) ⟨rfl, rfl, by decide, by decide⟩ (fun G25 hd25 C25 => ?_)
  refine u_aload_n C25 (n := 0) dX11_init_204 rfl ?_
  refine u_bipush C25 dX11_init_205 (v := nI 6) rfl ?_
  refine u_dnA C25 35 14 6 hd25 (Or.inr (Or.inr ⟨rfl, rfl⟩)) dX11_init_207 aw_boolean hnm pX11_init_209 (fun _ => ⟨rfl, rfl⟩) rfl (by decide) (by decide) (by decide) rfl (cells2 := 24) (slots2 := 12228) ⟨rfl, rfl, by decide, by decide⟩ (fun G26 hd26 C26 => ?_)
  refine u_aload_n C26 (n := 0) dX11_init_212 rfl ?_
  refine u_bipush C26 dX11_init_213 (v := nI 6) rfl ?_
  refine u_dnA C26 37 12 6 hd26 (Or.inl ⟨rfl, rfl⟩) dX11_init_215 aw_int hnm pX11_init_217 (fun _ => ⟨rfl, rfl⟩) rfl (by decide) (by decide) (by decide) rfl (cells2 := 25) (slots2 := 12234) ⟨rfl, rfl, by decide, by decide⟩ (fun G27 hd27 C27 => ?_)
  refine u_aload_n C27 (n := 0) dX11_init_220 rfl ?_
  refine u_bipush C27 dX11_init_221 (v := nI 6) rfl ?_
  refine u_dnA C27 38 12 6 hd27 (Or.inl ⟨rfl, rfl⟩) dX11_init_223 aw_int hnm pX11_init_225 (fun _ => ⟨rfl, rfl⟩) rfl (by decide) (by decide) (by decide) rfl (cells2 := 26) (slots2 := 12240) ⟨rfl, rfl, by decide, by decide⟩ (fun G28 hd28 C28 => ?_)
  refine u_aload_n C28 (n := 0) dX11_init_228 rfl ?_
  refine u_bipush C28 dX11_init_229 (v := nI 6) rfl ?_
  refine u_dnA C28 39 12 6 hd28 (Or.inl ⟨rfl, rfl⟩) dX11_init_231 aw_int hnm pX11_init_233 (fun _ => ⟨rfl, rfl⟩) rfl (by decide) (by decide) (by decide) rfl (cells2 := 27) (slots2 := 12246) ⟨rfl, rfl, by decide, by decide⟩ (fun G29 hd29 C29 => ?_)
  refine u_aload_n C29 (n := 0) dX11_init_236 rfl ?_
  refine u_bipush C29 dX11_init_237 (v := nI 10) rfl ?_
  refine u_dnA C29 40 13 10 hd29 (Or.inr (Or.inl ⟨rfl, rfl⟩)) dX11_init_239 aw_long hnm pX11_init_241 (fun _ => ⟨rfl, rfl⟩) rfl (by decide) (by decide) (by decide) rfl (cells2 := 28) (slots2 := 12256) ⟨rfl, rfl, by decide, by decide⟩ (fun G30 hd30 C30 => ?_)
  refine kret _ _ G30 _ dX11_init_244 ⟨hd30.1, ?_, rfl⟩
  have hd := hd30
  exact ⟨hd.2.1, hd.2.2.2.1 _ (List.mem_of_getElem? (i := 27) rfl), hd.2.2.2.1 _ (List.mem_of_getElem? (i := 26) rfl), hd.2.2.2.1 _ (List.mem_of_getElem? (i := 25) rfl), hd.2.2.2.1 _ (List.mem_of_getElem? (i := 24) rfl), hd.2.2.2.1 _ (List.mem_of_getElem? (i := 23) rfl), hd.2.2.2.1 _ (List.mem_of_getElem? (i := 22) rfl), hd.2.2.2.1 _ (List.mem_of_getElem? (i := 21) rfl), hd.2.2.2.1 _ (List.mem_of_getElem? (i := 20) rfl), hd.2.2.2.1 _ (List.mem_of_getElem? (i := 19) rfl), hd.2.2.2.1 _ (List.mem_of_getElem? (i := 18) rfl), hd.2.2.2.1 _ (List.mem_of_getElem? (i := 17) rfl), hd.2.2.2.1 _ (List.mem_of_getElem? (i := 16) rfl), hd.2.2.2.1 _ (List.mem_of_getElem? (i := 15) rfl), hd.2.2.2.1 _ (List.mem_of_getElem? (i := 14) rfl), hd.2.2.2.1 _ (List.mem_of_getElem? (i := 13) rfl), hd.2.2.2.1 _ (List.mem_of_getElem? (i := 12) rfl), hd.2.2.2.1 _ (List.mem_of_getElem? (i := 11) rfl), hd.2.2.2.1 _ (List.mem_of_getElem? (i := 10) rfl), hd.2.2.2.1 _ (List.mem_of_getElem? (i := 9) rfl), hd.2.2.2.1 _ (List.mem_of_getElem? (i := 8) rfl), hd.2.2.2.1 _ (List.mem_of_getElem? (i := 7) rfl), hd.2.2.2.1 _ (List.mem_of_getElem? (i := 6) rfl), hd.2.2.2.1 _ (List.mem_of_getElem? (i := 5) rfl), hd.2.2.2.1 _ (List.mem_of_getElem? (i := 3) rfl), hd.2.2.2.1 _ (List.mem_of_getElem? (i := 2) rfl), hd.2.2.2.1 _ (List.mem_of_getElem? (i := 1) rfl), hd.2.2.2.1 _ (List.mem_of_getElem? (i := 4) rfl), hd.2.2.2.1 _ (List.mem_of_getElem? (i := 0) rfl)⟩
