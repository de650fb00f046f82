/-! the reference: where its cells stand; loads with a value that is known -/
def L_a60 (G : w_G) (k : Nat) : Prop := u_is G k 12 ∧ gN G k = 60
theorem a60_is {G : w_G} {k : Nat} (h : L_a60 G k) : u_is G k 12 := h.1
theorem a60_n {G : w_G} {k : Nat} (h : L_a60 G k) : gN G k = 60 := h.2
def L_a1001 (G : w_G) (k : Nat) : Prop := u_is G k 12 ∧ gN G k = 1001
theorem a1001_is {G : w_G} {k : Nat} (h : L_a1001 G k) : u_is G k 12 := h.1
theorem a1001_n {G : w_G} {k : Nat} (h : L_a1001 G k) : gN G k = 1001 := h.2
def L_z1001 (G : w_G) (k : Nat) : Prop := u_is G k 14 ∧ gN G k = 1001
theorem z1001_is {G : w_G} {k : Nat} (h : L_z1001 G k) : u_is G k 14 := h.1
theorem z1001_n {G : w_G} {k : Nat} (h : L_z1001 G k) : gN G k = 1001 := h.2
def L_a8 (G : w_G) (k : Nat) : Prop := u_is G k 12 ∧ gN G k = 8
theorem a8_is {G : w_G} {k : Nat} (h : L_a8 G k) : u_is G k 12 := h.1
theorem a8_n {G : w_G} {k : Nat} (h : L_a8 G k) : gN G k = 8 := h.2
def L_a16 (G : w_G) (k : Nat) : Prop := u_is G k 12 ∧ gN G k = 16
theorem a16_is {G : w_G} {k : Nat} (h : L_a16 G k) : u_is G k 12 := h.1
theorem a16_n {G : w_G} {k : Nat} (h : L_a16 G k) : gN G k = 16 := h.2
def L_a8008 (G : w_G) (k : Nat) : Prop := u_is G k 12 ∧ gN G k = 8008
theorem a8008_is {G : w_G} {k : Nat} (h : L_a8008 G k) : u_is G k 12 := h.1
theorem a8008_n {G : w_G} {k : Nat} (h : L_a8008 G k) : gN G k = 8008 := h.2
def L_a6 (G : w_G) (k : Nat) : Prop := u_is G k 12 ∧ gN G k = 6
theorem a6_is {G : w_G} {k : Nat} (h : L_a6 G k) : u_is G k 12 := h.1
theorem a6_n {G : w_G} {k : Nat} (h : L_a6 G k) : gN G k = 6 := h.2
def L_z6 (G : w_G) (k : Nat) : Prop := u_is G k 14 ∧ gN G k = 6
theorem z6_is {G : w_G} {k : Nat} (h : L_z6 G k) : u_is G k 14 := h.1
theorem z6_n {G : w_G} {k : Nat} (h : L_z6 G k) : gN G k = 6 := h.2
def L_j1 (G : w_G) (k : Nat) : Prop := u_is G k 13 ∧ gN G k = 1
theorem j1_is {G : w_G} {k : Nat} (h : L_j1 G k) : u_is G k 13 := h.1
theorem j1_n {G : w_G} {k : Nat} (h : L_j1 G k) : gN G k = 1 := h.2
def L_mdl (G : w_G) (k : Nat) : Prop := u_is G k 11 ∧ (gF G k 4 = some (k + 4) ∧ L_a24 G (k + 4)) ∧ (gF G k 6 = some (k + 6) ∧ L_a60 G (k + 6)) ∧ (gF G k 7 = some (k + 7) ∧ L_a1001 G (k + 7)) ∧ (gF G k 13 = some (k + 13) ∧ L_a1001 G (k + 13)) ∧ (gF G k 14 = some (k + 14) ∧ L_a1001 G (k + 14)) ∧ (gF G k 15 = some (k + 15) ∧ L_z1001 G (k + 15)) ∧ (gF G k 17 = some (k + 17) ∧ L_a8 G (k + 17)) ∧ (gF G k 18 = some (k + 18) ∧ L_a8 G (k + 18)) ∧ (gF G k 19 = some (k + 19) ∧ L_a8 G (k + 19)) ∧ (gF G k 20 = some (k + 20) ∧ L_a8 G (k + 20)) ∧ (gF G k 21 = some (k + 21) ∧ L_a8 G (k + 21)) ∧ (gF G k 22 = some (k + 22) ∧ L_a16 G (k + 22)) ∧ (gF G k 23 = some (k + 23) ∧ L_a16 G (k + 23)) ∧ (gF G k 24 = some (k + 24) ∧ L_a8008 G (k + 24)) ∧ (gF G k 26 = some (k + 26) ∧ L_a6 G (k + 26)) ∧ (gF G k 27 = some (k + 27) ∧ L_a6 G (k + 27)) ∧ (gF G k 28 = some (k + 28) ∧ L_a6 G (k + 28)) ∧ (gF G k 29 = some (k + 29) ∧ L_a6 G (k + 29)) ∧ (gF G k 30 = some (k + 30) ∧ L_a6 G (k + 30)) ∧ (gF G k 31 = some (k + 31) ∧ L_a6 G (k + 31)) ∧ (gF G k 32 = some (k + 32) ∧ L_a6 G (k + 32)) ∧ (gF G k 33 = some (k + 33) ∧ L_a6 G (k + 33)) ∧ (gF G k 34 = some (k + 34) ∧ L_a6 G (k + 34)) ∧ (gF G k 37 = some (k + 37) ∧ L_a6 G (k + 37)) ∧ (gF G k 38 = some (k + 38) ∧ L_a6 G (k + 38)) ∧ (gF G k 39 = some (k + 39) ∧ L_a6 G (k + 39)) ∧ (gF G k 35 = some (k + 35) ∧ L_z6 G (k + 35)) ∧ (gF G k 40 = some (k + 40) ∧ L_j10 G (k + 40))
theorem mdl_is {G : w_G} {k : Nat} (h : L_mdl G k) : u_is G k 11 := h.1
theorem mdl_f4 {G : w_G} {k : Nat} (h : L_mdl G k) : gF G k 4 = some (k + 4) := h.2.1.1
theorem mdl_p4 {G : w_G} {k : Nat} (h : L_mdl G k) : L_a24 G (k + 4) := h.2.1.2
theorem mdl_f6 {G : w_G} {k : Nat} (h : L_mdl G k) : gF G k 6 = some (k + 6) := h.2.2.1.1
theorem mdl_p6 {G : w_G} {k : Nat} (h : L_mdl G k) : L_a60 G (k + 6) := h.2.2.1.2
theorem mdl_f7 {G : w_G} {k : Nat} (h : L_mdl G k) : gF G k 7 = some (k + 7) := h.2.2.2.1.1
theorem mdl_p7 {G : w_G} {k : Nat} (h : L_mdl G k) : L_a1001 G (k + 7) := h.2.2.2.1.2
theorem mdl_f13 {G : w_G} {k : Nat} (h : L_mdl G k) : gF G k 13 = some (k + 13) := h.2.2.2.2.1.1
theorem mdl_p13 {G : w_G} {k : Nat} (h : L_mdl G k) : L_a1001 G (k + 13) := h.2.2.2.2.1.2
theorem mdl_f14 {G : w_G} {k : Nat} (h : L_mdl G k) : gF G k 14 = some (k + 14) := h.2.2.2.2.2.1.1
theorem mdl_p14 {G : w_G} {k : Nat} (h : L_mdl G k) : L_a1001 G (k + 14) := h.2.2.2.2.2.1.2
theorem mdl_f15 {G : w_G} {k : Nat} (h : L_mdl G k) : gF G k 15 = some (k + 15) := h.2.2.2.2.2.2.1.1
theorem mdl_p15 {G : w_G} {k : Nat} (h : L_mdl G k) : L_z1001 G (k + 15) := h.2.2.2.2.2.2.1.2
theorem mdl_f17 {G : w_G} {k : Nat} (h : L_mdl G k) : gF G k 17 = some (k + 17) := h.2.2.2.2.2.2.2.1.1
theorem mdl_p17 {G : w_G} {k : Nat} (h : L_mdl G k) : L_a8 G (k + 17) := h.2.2.2.2.2.2.2.1.2
theorem mdl_f18 {G : w_G} {k : Nat} (h : L_mdl G k) : gF G k 18 = some (k + 18) := h.2.2.2.2.2.2.2.2.1.1
theorem mdl_p18 {G : w_G} {k : Nat} (h : L_mdl G k) : L_a8 G (k + 18) := h.2.2.2.2.2.2.2.2.1.2
theorem mdl_f19 {G : w_G} {k : Nat} (h : L_mdl G k) : gF G k 19 = some (k + 19) := h.2.2.2.2.2.2.2.2.2.1.1
theorem mdl_p19 {G : w_G} {k : Nat} (h : L_mdl G k) : L_a8 G (k + 19) := h.2.2.2.2.2.2.2.2.2.1.2
theorem mdl_f20 {G : w_G} {k : Nat} (h : L_mdl G k) : gF G k 20 = some (k + 20) := h.2.2.2.2.2.2.2.2.2.2.1.1
theorem mdl_p20 {G : w_G} {k : Nat} (h : L_mdl G k) : L_a8 G (k + 20) := h.2.2.2.2.2.2.2.2.2.2.1.2
theorem mdl_f21 {G : w_G} {k : Nat} (h : L_mdl G k) : gF G k 21 = some (k + 21) := h.2.2.2.2.2.2.2.2.2.2.2.1.1
theorem mdl_p21 {G : w_G} {k : Nat} (h : L_mdl G k) : L_a8 G (k + 21) := h.2.2.2.2.2.2.2.2.2.2.2.1.2
theorem mdl_f22 {G : w_G} {k : Nat} (h : L_mdl G k) : gF G k 22 = some (k + 22) := h.2.2.2.2.2.2.2.2.2.2.2.2.1.1
theorem mdl_p22 {G : w_G} {k : Nat} (h : L_mdl G k) : L_a16 G (k + 22) := h.2.2.2.2.2.2.2.2.2.2.2.2.1.2
theorem mdl_f23 {G : w_G} {k : Nat} (h : L_mdl G k) : gF G k 23 = some (k + 23) := h.2.2.2.2.2.2.2.2.2.2.2.2.2.1.1
theorem mdl_p23 {G : w_G} {k : Nat} (h : L_mdl G k) : L_a16 G (k + 23) := h.2.2.2.2.2.2.2.2.2.2.2.2.2.1.2
theorem mdl_f24 {G : w_G} {k : Nat} (h : L_mdl G k) : gF G k 24 = some (k + 24) := h.2.2.2.2.2.2.2.2.2.2.2.2.2.2.1.1
theorem mdl_p24 {G : w_G} {k : Nat} (h : L_mdl G k) : L_a8008 G (k + 24) := h.2.2.2.2.2.2.2.2.2.2.2.2.2.2.1.2
theorem mdl_f26 {G : w_G} {k : Nat} (h : L_mdl G k) : gF G k 26 = some (k + 26) := h.2.2.2.2.2.2.2.2.2.2.2.2.2.2.2.1.1
theorem mdl_p26 {G : w_G} {k : Nat} (h : L_mdl G k) : L_a6 G (k + 26) := h.2.2.2.2.2.2.2.2.2.2.2.2.2.2.2.1.2
theorem mdl_f27 {G : w_G} {k : Nat} (h : L_mdl G k) : gF G k 27 = some (k + 27) := h.2.2.2.2.2.2.2.2.2.2.2.2.2.2.2.2.1.1
theorem mdl_p27 {G : w_G} {k : Nat} (h : L_mdl G k) : L_a6 G (k + 27) := h.2.2.2.2.2.2.2.2.2.2.2.2.2.2.2.2.1.2
theorem mdl_f28 {G : w_G} {k : Nat} (h : L_mdl G k) : gF G k 28 = some (k + 28) := h.2.2.2.2.2.2.2.2.2.2.2.2.2.2.2.2.2.1.1
theorem mdl_p28 {G : w_G} {k : Nat} (h : L_mdl G k) : L_a6 G (k + 28) := h.2.2.2.2.2.2.2.2.2.2.2.2.2.2.2.2.2.1.2
theorem mdl_f29 {G : w_G} {k : Nat} (h : L_mdl G k) : gF G k 29 = some (k + 29) := h.2.2.2.2.2.2.2.2.2.2.2.2.2.2.2.2.2.2.1.1
theorem mdl_p29 {G : w_G} {k : Nat} (h : L_mdl G k) : L_a6 G (k + 29) := h.2.2.2.2.2.2.2.2.2.2.2.2.2.2.2.2.2.2.1.2
theorem mdl_f30 {G : w_G} {k : Nat} (h : L_mdl G k) : gF G k 30 = some (k + 30) := h.2.2.2.2.2.2.2.2.2.2.2.2.2.2.2.2.2.2.2.1.1
theorem mdl_p30 {G : w_G} {k : Nat} (h : L_mdl G k) : L_a6 G (k + 30) := h.2.2.2.2.2.2.2.2.2.2.2.2.2.2.2.2.2.2.2.1.2
theorem mdl_f31 {G : w_G} {k : Nat} (h : L_mdl G k) : gF G k 31 = some (k + 31) := h.2.2.2.2.2.2.2.2.2.2.2.2.2.2.2.2.2.2.2.2.1.1
theorem mdl_p31 {G : w_G} {k : Nat} (h : L_mdl G k) : L_a6 G (k + 31) := h.2.2.2.2.2.2.2.2.2.2.2.2.2.2.2.2.2.2.2.2.1.2
theorem mdl_f32 {G : w_G} {k : Nat} (h : L_mdl G k) : gF G k 32 = some (k + 32) := h.2.2.2.2.2.2.2.2.2.2.2.2.2.2.2.2.2.2.2.2.2.1.1
theorem mdl_p32 {G : w_G} {k : Nat} (h : L_mdl G k) : L_a6 G (k + 32) := h.2.2.2.2.2.2.2.2.2.2.2.2.2.2.2.2.2.2.2.2.2.1.2
theorem mdl_f33 {G : w_G} {k : Nat} (h : L_mdl G k) : gF G k 33 = some (k + 33) := h.2.2.2.2.2.2.2.2.2.2.2.2.2.2.2.2.2.2.2.2.2.2.1.1
theorem mdl_p33 {G : w_G} {k : Nat} (h : L_mdl G k) : L_a6 G (k + 33) := h.2.2.2.2.2.2.2.2.2.2.2.2.2.2.2.2.2.2.2.2.2.2.1.2
theorem mdl_f34 {G : w_G} {k : Nat} (h : L_mdl G k) : gF G k 34 = some (k + 34) := h.2.2.2.2.2.2.2.2.2.2.2.2.2.2.2.2.2.2.2.2.2.2.2.1.1
theorem mdl_p34 {G : w_G} {k : Nat} (h : L_mdl G k) : L_a6 G (k + 34) := h.2.2.2.2.2.2.2.2.2.2.2.2.2.2.2.2.2.2.2.2.2.2.2.1.2
theorem mdl_f37 {G : w_G} {k : Nat} (h : L_mdl G k) : gF G k 37 = some (k + 37) := h.2.2.2.2.2.2.2.2.2.2.2.2.2.2.2.2.2.2.2.2.2.2.2.2.1.1
theorem mdl_p37 {G : w_G} {k : Nat} (h : L_mdl G k) : L_a6 G (k + 37) := h.2.2.2.2.2.2.2.2.2.2.2.2.2.2.2.2.2.2.2.2.2.2.2.2.1.2
theorem mdl_f38 {G : w_G} {k : Nat} (h : L_mdl G k) : gF G k 38 = some (k + 38) := h.2.2.2.2.2.2.2.2.2.2.2.2.2.2.2.2.2.2.2.2.2.2.2.2.2.1.1
theorem mdl_p38 {G : w_G} {k : Nat} (h : L_mdl G k) : L_a6 G (k + 38) := h.2.2.2.2.2.2.2.2.2.2.2.2.2.2.2.2.2.2.2.2.2.2.2.2.2.1.2
theorem mdl_f39 {G : w_G} {k : Nat} (h : L_mdl G k) : gF G k 39 = some (k + 39) := h.2.2.2.2.2.2.2.2.2.2.2.2.2.2.2.2.2.2.2.2.2.2.2.2.2.2.1.1
theorem mdl_p39 {G : w_G} {k : Nat} (h : L_mdl G k) : L_a6 G (k + 39) := h.2.2.2.2.2.2.2.2.2.2.2.2.2.2.2.2.2.2.2.2.2.2.2.2.2.2.1.2
theorem mdl_f35 {G : w_G} {k : Nat} (h : L_mdl G k) : gF G k 35 = some (k + 35) := h.2.2.2.2.2.2.2.2.2.2.2.2.2.2.2.2.2.2.2.2.2.2.2.2.2.2.2.1.1
theorem mdl_p35 {G : w_G} {k : Nat} (h : L_mdl G k) : L_z6 G (k + 35) := h.2.2.2.2.2.2.2.2.2.2.2.2.2.2.2.2.2.2.2.2.2.2.2.2.2.2.2.1.2
theorem mdl_f40 {G : w_G} {k : Nat} (h : L_mdl G k) : gF G k 40 = some (k + 40) := h.2.2.2.2.2.2.2.2.2.2.2.2.2.2.2.2.2.2.2.2.2.2.2.2.2.2.2.2.1
theorem mdl_p40 {G : w_G} {k : Nat} (h : L_mdl G k) : L_j10 G (k + 40) := h.2.2.2.2.2.2.2.2.2.2.2.2.2.2.2.2.2.2.2.2.2.2.2.2.2.2.2.2.2
section UV
variable {p : Program} {l : Launch} {e : Env} {R : Room} {s : State} {m : MethodId} {args : Array Value} {below : List Frame} {meth : Method} {c : Code} {Q : State → Prop} {cells slots : Nat}
variable {cc : ByteArray} {own : String} {nL : Nat} {D : va_G} {A : Nat → Prop} {H0 : Heap}
variable {G : w_G} {M : w_M} {pc : Nat} {lv : List (Nat × Value)} {st : List Value}
theorem u_getIv (C : u_C p R s m args c cc own nL D A H0 cells slots G) {ci j k : Nat} {x : Int32} (hg : u_gf cc own pc ci j) (hr : w_rf ci j = false) (hk : u_is G k ci) (hv : iv M k j = x) (kk : u_S p l e R s m args below meth c nL D A H0 cells slots Q (pc + 3) lv (.int x :: st) G M) : u_S p l e R s m args below meth c nL D A H0 cells slots Q pc lv (.ref (gP G k) :: st) G M := u_getI C hg hr hk (hv.symm ▸ kk)
theorem u_ialdNv (C : u_C p R s m args c cc own nL D A H0 cells slots G) {k i N : Nat} {x : Int32} (hd : decode cc pc = .ok (.iaload, 1)) (hk : u_is G k 12) (hn : gN G k = N) (hi : i < N) (hN : N < 2 ^ 31) (hv : iv M k i = x) (kk : u_S p l e R s m args below meth c nL D A H0 cells slots Q (pc + 1) lv (.int x :: st) G M) : u_S p l e R s m args below meth c nL D A H0 cells slots Q pc lv (.int (nI i) :: .ref (gP G k) :: st) G M := u_ialdN C hd hk hn hi hN (hv.symm ▸ kk)
theorem u_zaldNv (C : u_C p R s m args c cc own nL D A H0 cells slots G) {k i N : Nat} {x : Int32} (hd : decode cc pc = .ok (.baload, 1)) (hk : u_is G k 14) (hn : gN G k = N) (hi : i < N) (hN : N < 2 ^ 31) (hv : iv M k i = x) (kk : u_S p l e R s m args below meth c nL D A H0 cells slots Q (pc + 1) lv (.int x :: st) G M) : u_S p l e R s m args below meth c nL D A H0 cells slots Q pc lv (.int (nI i) :: .ref (gP G k) :: st) G M := u_zaldN C hd hk hn hi hN (hv.symm ▸ kk)
end UV
def f_lt (x y : Int32) : Int32 := if x < y then x else y
def f_shr (a f o : Int32) : Int32 := if o = 0 then 0 else (a.toInt64 * f.toInt64 / o.toInt64).toInt32
def f_sl (w s : Int32) : Int32 := if w = 0 then 0 else s / w
/-- a row of the reference -/
def g (M : w_M) (Y a i : Nat) : Int32 := iv M (Y + a) i
