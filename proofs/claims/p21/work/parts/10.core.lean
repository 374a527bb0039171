/-! ===== ints by their numbers ===== -/
def zI (z : Int) : Int32 := Int32.ofInt z
theorem zI_add (a b : Int) : zI a + zI b = zI (a + b) := (Int32.ofInt_add a b).symm
theorem zI_sub (a b : Int) : zI a - zI b = zI (a - b) := (Int32.ofInt_sub a b).symm
theorem zI_mul (a b : Int) : zI a * zI b = zI (a * b) := (Int32.ofInt_mul a b).symm
theorem zI_neg (a : Int) : -(zI a) = zI (-a) := (Int32.ofInt_neg a).symm
theorem zI_toInt {a : Int} (h : -2147483648 ≤ a ∧ a < 2147483648) : (zI a).toInt = a :=
  Int32.toInt_ofInt_of_le (by have := h.1; omega) (by have := h.2; omega)
theorem zI_of (x : Int32) : x = zI x.toInt := (Int32.ofInt_toInt x).symm
theorem zI_ofE (x : Int32) : ∃ a : Int, (-2147483648 ≤ a ∧ a < 2147483648) ∧ x = zI a :=
  ⟨x.toInt, ⟨by have := Int32.le_toInt x; omega, by have := Int32.toInt_lt x; omega⟩, zI_of x⟩
theorem zI_le {a b : Int} (ha : -2147483648 ≤ a ∧ a < 2147483648) (hb : -2147483648 ≤ b ∧ b < 2147483648) : zI a ≤ zI b ↔ a ≤ b := by
  rw [Int32.le_iff_toInt_le, zI_toInt ha, zI_toInt hb]
theorem zI_lt {a b : Int} (ha : -2147483648 ≤ a ∧ a < 2147483648) (hb : -2147483648 ≤ b ∧ b < 2147483648) : zI a < zI b ↔ a < b := by
  rw [Int32.lt_iff_toInt_lt, zI_toInt ha, zI_toInt hb]
theorem zI_eq {a b : Int} (ha : -2147483648 ≤ a ∧ a < 2147483648) (hb : -2147483648 ≤ b ∧ b < 2147483648) : zI a = zI b ↔ a = b :=
  ⟨fun h => by rw [← zI_toInt ha, h, zI_toInt hb], fun h => by rw [h]⟩
theorem zI_0 : (0 : Int32) = zI 0 := rfl
theorem zI_nat {a : Int} (h : 0 ≤ a ∧ a < 2147483648) : (zI a).toNatClampNeg = a.toNat := by
  show (zI a).toInt.toNat = a.toNat
  rw [zI_toInt ⟨by omega, h.2⟩]
theorem zI_in {a : Int} {n : Nat} (h : 0 ≤ a ∧ a < n) (hn : n < 2147483648) : vp_in (zI a) n := by
  have h2 : (zI a).toInt = a := zI_toInt ⟨by omega, by omega⟩
  exact vp_in_iff.mpr ⟨by rw [h2]; exact h.1, by rw [h2]; exact h.2⟩
theorem zI_i2l {a : Int} (h : -2147483648 ≤ a ∧ a < 2147483648) : (zI a).toInt64 = Int64.ofInt a :=
  Int32.toInt64_ofInt (show (-2147483648 : Int) ≤ a from h.1) (show a ≤ (2147483647 : Int) by omega)
theorem zI_ofNat (n : Nat) : Int32.ofNat n = zI (n : Int) := (Int32.ofInt_eq_ofNat).symm
theorem zI_rem2 {a : Int} (h : 0 ≤ a ∧ a < 2147483648) : zI a - zI a / zI 2 * zI 2 = zI (a % 2) := by
  obtain ⟨n, rfl⟩ := Int.eq_ofNat_of_zero_le h.1
  have e : ∀ k : Nat, zI (k : Int) = nI k := fun k => (zI_ofNat k).symm
  have h2 : zI 2 = nI 2 := rfl
  rw [e n, h2, pk_rem (by omega) (by omega) (by omega), ← e]
  congr 1
theorem zI_and1 {a : Int} (h : 0 ≤ a ∧ a < 2147483648) : zI a &&& zI 1 = zI (a % 2) := by
  obtain ⟨n, rfl⟩ := Int.eq_ofNat_of_zero_le h.1
  have e : ∀ k : Nat, zI (k : Int) = nI k := fun k => (zI_ofNat k).symm
  rw [e n, pk_andN (by omega) (m := zI 1) 1 (by decide), ← e]
  congr 1
theorem zI_and31 (x : Int32) : ∃ a : Int, (0 ≤ a ∧ a < 32) ∧ x &&& zI 31 = zI a := by
  obtain ⟨j, hj, e⟩ := pk_andE x (m := zI 31) 5 (by decide)
  exact ⟨(j : Int), ⟨by omega, by omega⟩, by rw [e, ← zI_ofNat]; rfl⟩
/-- an array's numbers -/
def zA (f : Int → Int) : Nat → Int32 := fun j => zI (f (j : Int))
def zU (f : Int → Int) (i v : Int) : Int → Int := fun x => if x = i then v else f x
theorem zU_eq (f : Int → Int) (i v : Int) : zU f i v i = v := by simp [zU]
theorem zU_ne (f : Int → Int) {i x : Int} (v : Int) (h : x ≠ i) : zU f i v x = f x := by simp [zU, h]
theorem zA_at (f : Int → Int) {i : Int} (h : 0 ≤ i ∧ i < 2147483648) : zA f (zI i).toNatClampNeg = zI (f i) := by
  unfold zA
  rw [zI_nat h, Int.toNat_of_nonneg h.1]
theorem zA_set (f : Int → Int) {i : Int} (v : Int) (h : 0 ≤ i ∧ i < 2147483648) : upd (zA f) (zI i).toNatClampNeg (zI v) = zA (zU f i v) := by
  funext j
  rw [zI_nat h]
  unfold zA zU upd
  by_cases hj : j = i.toNat
  · subst hj
    rw [if_pos rfl, Int.toNat_of_nonneg h.1, if_pos rfl]
  · rw [if_neg hj, if_neg (fun q => hj (by omega))]
theorem zA_0 : (fun _ : Nat => (0 : Int32)) = zA (fun _ => 0) := rfl
/-- System.arraycopy of n from 0 to 0 -/
def zCp (f g : Int → Int) (n : Int) : Int → Int := fun x => if 0 ≤ x ∧ x < n then f x else g x
theorem zA_cpy (f g : Int → Int) (n : Nat) : va_cpy (zA f) (zA g) 0 0 n = zA (zCp f g n) := by
  funext j
  unfold va_cpy zA zCp
  by_cases hj : j < n
  · rw [if_pos ⟨Nat.zero_le _, by omega⟩, if_pos ⟨by omega, by omega⟩]
    congr 2
    omega
  · rw [if_neg (fun q => hj (by omega)), if_neg (fun q => hj (by omega))]
/-! ===== the facts of the tables that good words don't hold ===== -/
def zNest (w : Cond) : Bool := match w with
  | .fieldLinkNest .. => true
  | .methodLinkNest .. => true
  | .castable .. => true
  | .declares .. => true
  | _ => false
def zNW : List Cond := lw_tbl.filter zNest
def zStr : List (Nat × String) := []
def zNo : List (String × String) := []
def zF (U : State) : Prop := (∀ w ∈ zNW, va_Nw w U) ∧ (∀ q ∈ zStr, ∃ a : Nat, vk_R RX4 q.1 q.2 a U) ∧ va_AO RX2 U ∧ ∀ q ∈ zNo, va_Nc q.1 q.2 U
theorem zNest_warm {w : Cond} (h : zNest w = true) {s U : State} (hW : s.WarmedH U.vm) (hZ : va_Nw w s) : va_Nw w U := by
  cases w <;> first | exact va_Nw.warmF hW hZ | exact va_Nw.warmM hW hZ | exact va_Nw.warmC hW hZ | exact va_Nw.warmD hW hZ | exact absurd h (by simp [zNest])
theorem zNest_tab {w : Cond} (h : zNest w = true) : w.onTables = true := by
  cases w <;> first | rfl | exact absurd h (by simp [zNest])
theorem zF.warm {s U : State} (hW : s.WarmedH U.vm) (h : zF s) : zF U :=
  ⟨fun w hw => zNest_warm (List.mem_filter.mp hw).2 hW (h.1 w hw), fun q hq => by
    obtain ⟨a, ha⟩ := h.2.1 q hq
    exact ⟨a, ha.warm hW⟩, va_AO.moved hW.alike h.2.2.1, fun q hq => va_Nc.moved hW.alike (h.2.2.2 q hq)⟩
theorem zF.same {u U : State} (hv : U.vm = u.vm) (h : zF u) : zF U :=
  ⟨fun w hw => va_Nw.same (zNest_tab (List.mem_filter.mp hw).2) hv.symm (h.1 w hw), fun q hq => by
    obtain ⟨a, ha⟩ := h.2.1 q hq
    exact ⟨a, ha.same hv⟩, va_AO.moved (hv ▸ Vm.Alike.refl _) h.2.2.1, fun q hq => va_Nc.moved (hv ▸ Vm.Alike.refl _) (h.2.2.2 q hq)⟩
/-! ===== contracts ===== -/
abbrev zTy (cI cS _cJ : ClassId) : List (ClassId × FieldType) := [(cI, .int), (cS, .object RX2)]
def zPre (D : va_G) (tys : List (ClassId × FieldType)) (wc : va_W) (sz : Nat) : State → Prop := fun U => U.heap.size = sz ∧ va_P D vwCl wc U.heap ∧ va_K D vwCl tys U ∧ va_D (fun _ => True) wc ∧ zF U
def zB (D : va_G) (tys : List (ClassId × FieldType)) (A : Nat → Prop) (w : va_W) (t : State) : Prop := va_P D vwCl w t.heap ∧ va_K D vwCl tys t ∧ va_D A w
theorem zPre_blind {D : va_G} {tys : List (ClassId × FieldType)} {wc : va_W} {sz : Nat} {av : List Value} : FrameBlind (va_Pc av (zPre D tys wc sz)) := fun a U g mk h => by
  obtain ⟨h1, h2, h3, h4, h5, h6⟩ := h
  exact ⟨h1, h2, h3, va_K.moved (u := U) (U := U.calling g mk a) (Vm.Alike.refl U.vm) h4, h5, zF.same (u := U) (U := U.calling g mk a) rfl h6⟩
def zMi (l : Launch) (y : MethodName) (wy : List Cond) (rm : Room) (D : va_G) (tys : List (ClassId × FieldType)) (av : List Value) (wc : va_W) (post : Int32 → va_W → Prop) (mc ms : Nat) : Prop :=
  ∀ sz, Met l y wy rm (va_Pc av (zPre D tys wc sz)) (va_Qi post (zB D tys (va_A wc sz)) (va_A wc sz)) mc ms (va_A wc sz)
def zMv (l : Launch) (y : MethodName) (wy : List Cond) (rm : Room) (D : va_G) (tys : List (ClassId × FieldType)) (av : List Value) (wc : va_W) (post : va_W → Prop) (mc ms : Nat) : Prop :=
  ∀ sz, Met l y wy rm (va_Pc av (zPre D tys wc sz)) (va_Qv post (zB D tys (va_A wc sz)) (va_A wc sz)) mc ms (va_A wc sz)
def zMl (l : Launch) (y : MethodName) (wy : List Cond) (rm : Room) (D : va_G) (tys : List (ClassId × FieldType)) (av : List Value) (wc : va_W) (post : Int64 → va_W → Prop) (mc ms : Nat) : Prop :=
  ∀ sz, Met l y wy rm (va_Pc av (zPre D tys wc sz)) (va_Ql post (zB D tys (va_A wc sz)) (va_A wc sz)) mc ms (va_A wc sz)
def zMd (l : Launch) (y : MethodName) (wy : List Cond) (rm : Room) (D : va_G) (tys : List (ClassId × FieldType)) (av : List Value) (wc : va_W) (post : UInt64 → va_W → Prop) (mc ms : Nat) : Prop :=
  ∀ sz, Met l y wy rm (va_Pc av (zPre D tys wc sz)) (va_Qd post (zB D tys (va_A wc sz)) (va_A wc sz)) mc ms (va_A wc sz)
def zMq (l : Launch) (y : MethodName) (wy : List Cond) (rm : Room) (D : va_G) (tys : List (ClassId × FieldType)) (av : List Value) (wc : va_W) (post : Option Nat → va_W → Prop) (mc ms : Nat) : Prop :=
  ∀ sz, Met l y wy rm (va_Pc av (zPre D tys wc sz)) (va_Qq post (zB D tys (va_A wc sz)) (va_A wc sz)) mc ms (va_A wc sz)
/-- what stays the same in a body -/
def zC (p : Program) (l : Launch) (s : State) (m : MethodId) (args : Array Value) (meth : Method) (c : Code) (cc : ByteArray) (own : String) (Ts : List Cond) (D : va_G) (tys : List (ClassId × FieldType)) (A : Nat → Prop) (nL : Nat) : Prop :=
  CallFix p m c cc nL s args Ts own ∧ va_K D vwCl tys s ∧ (∀ q, s.heap.size ≤ q → A q) ∧ meth.locks = false ∧ zF s
/-- the machine at pc, with this world, these locals, this operand stack, comes to Q -/
def zJ (p : Program) (l : Launch) (e : Env) (R : Room) (s : State) (m : MethodId) (args : Array Value) (below : List Frame) (meth : Method) (c : Code) (Q : State → Prop) (D : va_G) (A : Nat → Prop) (nL : Nat) (ws : va_W) (cn sn : Nat) (lv : List (Nat × Value)) (pc : Nat) (st : List Value) : Prop :=
  ∀ (H : Heap) (locs : List Loc) (ls : Array Slot), va_P D vwCl ws H → va_D A ws → va_S A s.heap H locs → lv_has ls nL lv → W p l e R s m args below meth c H locs cn sn Q (F0 m pc ls st)
section ZOF
variable {l : Launch} {y : MethodName} {wy ws' : List Cond} {rm : Room} {D : va_G} {tys : List (ClassId × FieldType)} {av : List Value} {wc : va_W} {mc ms : Nat} {cc : ByteArray} {nL : Nat} {ret : Option FieldType}
theorem zMet_of {Qc : (Nat → Prop) → Array Value → State → Outcome → State → Prop} (own : String) (lv0 : List (Nat × Value)) (hown : y.cls = own) (hy : plainName y.cls = true) (hw : wy = Cond.code y cc nL ret :: ws') (hlen : (lg_sl av).length ≤ nL) (hlv : lv_args 0 av = lv0)
    (body : ∀ p e s m args below meth c A Q, Q = MQ below (Qc A) args s mc ms A → zC p l s m args meth c cc own wy D tys A nL → meth.sig.returnType = ret → (y.name = "<init>" → meth.name = "<init>") → zJ p l e rm s m args below meth c Q D A nL wc 0 0 lv0 0 []) (sz : Nat) :
    Met l y wy rm (va_Pc av (zPre D tys wc sz)) (Qc (va_A wc sz)) mc ms (va_A wc sz) := by
  refine Met.ofW (cc := cc) (maxL := nL) (ret := ret) hy hw ?_
  intro p e s m args below meth c s₁ B hml hv
  obtain ⟨rfl, hsz, hP, hK, hD0, hF⟩ := hv
  subst hsz
  have hD := hD0.self (sz := s.heap.size)
  have hn : s.vm.findClass own = some m.cls := by rw [← hown]; exact findClass_of_methodNamed B.named
  have hl := lv_entry av (n := nL) hlen
  rw [lg_entry_eq]
  subst hlv
  exact body p e s m _ below meth c (va_A wc s.heap.size) _ rfl ⟨⟨B.exec, B.bytes, hml, hn, atoms_spec (ws := wy) B.pre⟩, hK, fun q h => Or.inr h, B.notSynchronized, hF⟩ B.returns (fun h => (name_of_methodNamed B.named B.method).1.trans h) s.heap [] _ hP hD va_S.rf hl
end ZOF
section ZJ
variable {p : Program} {l : Launch} {e : Env} {R : Room} {s : State} {m : MethodId} {args : Array Value} {below : List Frame} {meth : Method} {c : Code} {Q : State → Prop} {D : va_G} {A : Nat → Prop} {nL : Nat} {ws : va_W} {cn sn : Nat} {lv : List (Nat × Value)} {pc : Nat} {st : List Value} {cc : ByteArray} {own : String} {Ts : List Cond} {tys : List (ClassId × FieldType)}
/-! constants, loads, stores -/
theorem zj_iconst (pc' : Nat) (C : zC p l s m args meth c cc own Ts D tys A nL) {n : Int} (hd : decode cc pc = .ok (.iconst n, 1)) (hp : pc + 1 = pc') (k : zJ p l e R s m args below meth c Q D A nL ws cn sn lv pc' (.int (zI n) :: st)) : zJ p l e R s m args below meth c Q D A nL ws cn sn lv pc st := by
  subst hp
  exact fun H locs ls hP hD hS hl => lv_iconst C.1.1 C.1.2.1 hd rfl (k H locs ls hP hD hS hl)
theorem zj_bipush (pc' : Nat) (C : zC p l s m args meth c cc own Ts D tys A nL) {n : Int} (hd : decode cc pc = .ok (.bipush n, 2)) (hp : pc + 2 = pc') (hn : (Int8.ofInt n).toInt32 = zI n) (k : zJ p l e R s m args below meth c Q D A nL ws cn sn lv pc' (.int (zI n) :: st)) : zJ p l e R s m args below meth c Q D A nL ws cn sn lv pc st := by
  subst hp
  exact fun H locs ls hP hD hS hl => lv_bipush C.1.1 C.1.2.1 hd hn (k H locs ls hP hD hS hl)
theorem zj_sipush (pc' : Nat) (C : zC p l s m args meth c cc own Ts D tys A nL) {n : Int} (hd : decode cc pc = .ok (.sipush n, 3)) (hp : pc + 3 = pc') (hn : (Int16.ofInt n).toInt32 = zI n) (k : zJ p l e R s m args below meth c Q D A nL ws cn sn lv pc' (.int (zI n) :: st)) : zJ p l e R s m args below meth c Q D A nL ws cn sn lv pc st := by
  subst hp
  exact fun H locs ls hP hD hS hl => lv_sipush C.1.1 C.1.2.1 hd hn (k H locs ls hP hD hS hl)
theorem zj_ldcw (pc' : Nat) (C : zC p l s m args meth c cc own Ts D tys A nL) {index : Nat} {v : Int32} (n : Int) (hn : v = zI n) (hw : Cond.constant own index v ∈ Ts) (hd : decode cc pc = .ok (.ldc_w index, 3)) (hp : pc + 3 = pc') (k : zJ p l e R s m args below meth c Q D A nL ws cn sn lv pc' (.int (zI n) :: st)) : zJ p l e R s m args below meth c Q D A nL ws cn sn lv pc st := by
  subst hp; subst hn
  exact fun H locs ls hP hD hS hl => lv_ldcw C.1.1 C.1.2.1 C.1.2.2.2.1 (C.1.2.2.2.2 _ hw) hd (k H locs ls hP hD hS hl)
theorem zj_ldc (pc' : Nat) (C : zC p l s m args meth c cc own Ts D tys A nL) {index : Nat} {v : Int32} (n : Int) (hn : v = zI n) (hw : Cond.constant own index v ∈ Ts) (hd : decode cc pc = .ok (.ldc index, 2)) (hp : pc + 2 = pc') (k : zJ p l e R s m args below meth c Q D A nL ws cn sn lv pc' (.int (zI n) :: st)) : zJ p l e R s m args below meth c Q D A nL ws cn sn lv pc st := by
  subst hp; subst hn
  exact fun H locs ls hP hD hS hl => lv_ldc C.1.1 C.1.2.1 C.1.2.2.2.1 (C.1.2.2.2.2 _ hw) hd (k H locs ls hP hD hS hl)
theorem zj_ldc2 (pc' : Nat) (C : zC p l s m args meth c cc own Ts D tys A nL) {index : Nat} (v : Int64) (hw : Cond.constantLong own index v ∈ Ts) (hd : decode cc pc = .ok (.ldc2_w index, 3)) (hp : pc + 3 = pc') (k : zJ p l e R s m args below meth c Q D A nL ws cn sn lv pc' (.long v :: st)) : zJ p l e R s m args below meth c Q D A nL ws cn sn lv pc st := by
  subst hp
  exact fun H locs ls hP hD hS hl => lv_ldc2 C.1.1 C.1.2.1 C.1.2.2.2.1 (C.1.2.2.2.2 _ hw) hd (k H locs ls hP hD hS hl)
theorem zj_ldc2d (pc' : Nat) (C : zC p l s m args meth c cc own Ts D tys A nL) {index : Nat} (v : UInt64) (hw : Cond.constantDouble own index v ∈ Ts) (hd : decode cc pc = .ok (.ldc2_w index, 3)) (hp : pc + 3 = pc') (k : zJ p l e R s m args below meth c Q D A nL ws cn sn lv pc' (.double v :: st)) : zJ p l e R s m args below meth c Q D A nL ws cn sn lv pc st := by
  subst hp
  exact fun H locs ls hP hD hS hl => lv_ldc2d C.1.1 C.1.2.1 C.1.2.2.2.1 (C.1.2.2.2.2 _ hw) hd (k H locs ls hP hD hS hl)
theorem zj_lconst (pc' : Nat) (C : zC p l s m args meth c cc own Ts D tys A nL) {n : Fin 2} (v : Int64) (hv : Int64.ofNat (n : Nat) = v) (hd : decode cc pc = .ok (.lconst n, 1)) (hp : pc + 1 = pc') (k : zJ p l e R s m args below meth c Q D A nL ws cn sn lv pc' (.long v :: st)) : zJ p l e R s m args below meth c Q D A nL ws cn sn lv pc st := by
  subst hp
  exact fun H locs ls hP hD hS hl => lv_lconst C.1.1 C.1.2.1 hd hv (k H locs ls hP hD hS hl)
theorem zj_dconst1 (pc' : Nat) (C : zC p l s m args meth c cc own Ts D tys A nL) (hd : decode cc pc = .ok (.dconst 1, 1)) (hp : pc + 1 = pc') (k : zJ p l e R s m args below meth c Q D A nL ws cn sn lv pc' (.double FP.dconst1 :: st)) : zJ p l e R s m args below meth c Q D A nL ws cn sn lv pc st := by
  subst hp
  exact fun H locs ls hP hD hS hl => lv_dconst1 C.1.1 C.1.2.1 hd (k H locs ls hP hD hS hl)
theorem zj_iload_n (pc' j : Nat) (C : zC p l s m args meth c cc own Ts D tys A nL) {kk : Fin 4} {i : Nat} {x : Int32} (hd : decode cc pc = .ok (.iload_n kk, 1)) (hp : pc + 1 = pc') (hi : (kk : Nat) = i) (hl : lv[j]? = some (i, .int x)) (k : zJ p l e R s m args below meth c Q D A nL ws cn sn lv pc' (.int x :: st)) : zJ p l e R s m args below meth c Q D A nL ws cn sn lv pc st := by
  subst hp
  exact fun H locs ls hP hD hS h => lv_iload_n C.1.1 C.1.2.1 hd hi (lv_at h j hl) (k H locs ls hP hD hS h)
theorem zj_iload (pc' j : Nat) (C : zC p l s m args meth c cc own Ts D tys A nL) {i : Nat} {x : Int32} (hd : decode cc pc = .ok (.iload i, 2)) (hp : pc + 2 = pc') (hl : lv[j]? = some (i, .int x)) (k : zJ p l e R s m args below meth c Q D A nL ws cn sn lv pc' (.int x :: st)) : zJ p l e R s m args below meth c Q D A nL ws cn sn lv pc st := by
  subst hp
  exact fun H locs ls hP hD hS h => lv_iload C.1.1 C.1.2.1 hd (lv_at h j hl) (k H locs ls hP hD hS h)
theorem zj_lload_n (pc' j : Nat) (C : zC p l s m args meth c cc own Ts D tys A nL) {kk : Fin 4} {i : Nat} {x : Int64} (hd : decode cc pc = .ok (.lload_n kk, 1)) (hp : pc + 1 = pc') (hi : (kk : Nat) = i) (hl : lv[j]? = some (i, .long x)) (k : zJ p l e R s m args below meth c Q D A nL ws cn sn lv pc' (.long x :: st)) : zJ p l e R s m args below meth c Q D A nL ws cn sn lv pc st := by
  subst hp
  exact fun H locs ls hP hD hS h => lv_lload_n C.1.1 C.1.2.1 hd hi (lv_at h j hl) (k H locs ls hP hD hS h)
theorem zj_lload (pc' j : Nat) (C : zC p l s m args meth c cc own Ts D tys A nL) {i : Nat} {x : Int64} (hd : decode cc pc = .ok (.lload i, 2)) (hp : pc + 2 = pc') (hl : lv[j]? = some (i, .long x)) (k : zJ p l e R s m args below meth c Q D A nL ws cn sn lv pc' (.long x :: st)) : zJ p l e R s m args below meth c Q D A nL ws cn sn lv pc st := by
  subst hp
  exact fun H locs ls hP hD hS h => lv_lload C.1.1 C.1.2.1 hd (lv_at h j hl) (k H locs ls hP hD hS h)
theorem zj_dload_n (pc' j : Nat) (C : zC p l s m args meth c cc own Ts D tys A nL) {kk : Fin 4} {i : Nat} {x : UInt64} (hd : decode cc pc = .ok (.dload_n kk, 1)) (hp : pc + 1 = pc') (hi : (kk : Nat) = i) (hl : lv[j]? = some (i, .double x)) (k : zJ p l e R s m args below meth c Q D A nL ws cn sn lv pc' (.double x :: st)) : zJ p l e R s m args below meth c Q D A nL ws cn sn lv pc st := by
  subst hp
  exact fun H locs ls hP hD hS h => lv_dload_n C.1.1 C.1.2.1 hd hi (lv_at h j hl) (k H locs ls hP hD hS h)
theorem zj_dload (pc' j : Nat) (C : zC p l s m args meth c cc own Ts D tys A nL) {i : Nat} {x : UInt64} (hd : decode cc pc = .ok (.dload i, 2)) (hp : pc + 2 = pc') (hl : lv[j]? = some (i, .double x)) (k : zJ p l e R s m args below meth c Q D A nL ws cn sn lv pc' (.double x :: st)) : zJ p l e R s m args below meth c Q D A nL ws cn sn lv pc st := by
  subst hp
  exact fun H locs ls hP hD hS h => lv_dload C.1.1 C.1.2.1 hd (lv_at h j hl) (k H locs ls hP hD hS h)
theorem zj_aload_n (pc' j : Nat) (C : zC p l s m args meth c cc own Ts D tys A nL) {kk : Fin 4} {i : Nat} {x : Nat} (hd : decode cc pc = .ok (.aload_n kk, 1)) (hp : pc + 1 = pc') (hi : (kk : Nat) = i) (hl : lv[j]? = some (i, .ref x)) (k : zJ p l e R s m args below meth c Q D A nL ws cn sn lv pc' (.ref x :: st)) : zJ p l e R s m args below meth c Q D A nL ws cn sn lv pc st := by
  subst hp
  exact fun H locs ls hP hD hS h => lv_aload_n C.1.1 C.1.2.1 hd hi (lv_at h j hl) (k H locs ls hP hD hS h)
theorem zj_aload (pc' j : Nat) (C : zC p l s m args meth c cc own Ts D tys A nL) {i : Nat} {x : Nat} (hd : decode cc pc = .ok (.aload i, 2)) (hp : pc + 2 = pc') (hl : lv[j]? = some (i, .ref x)) (k : zJ p l e R s m args below meth c Q D A nL ws cn sn lv pc' (.ref x :: st)) : zJ p l e R s m args below meth c Q D A nL ws cn sn lv pc st := by
  subst hp
  exact fun H locs ls hP hD hS h => lv_aload C.1.1 C.1.2.1 hd (lv_at h j hl) (k H locs ls hP hD hS h)
theorem zj_aload_nN (pc' j : Nat) (C : zC p l s m args meth c cc own Ts D tys A nL) {kk : Fin 4} {i : Nat} (hd : decode cc pc = .ok (.aload_n kk, 1)) (hp : pc + 1 = pc') (hi : (kk : Nat) = i) (hl : lv[j]? = some (i, .null)) (k : zJ p l e R s m args below meth c Q D A nL ws cn sn lv pc' (.null :: st)) : zJ p l e R s m args below meth c Q D A nL ws cn sn lv pc st := by
  subst hp
  exact fun H locs ls hP hD hS h => lv_aload_nN C.1.1 C.1.2.1 hd hi (lv_at h j hl) (k H locs ls hP hD hS h)
theorem zj_istore_n (pc' : Nat) (lv' : List (Nat × Value)) (C : zC p l s m args meth c cc own Ts D tys A nL) {kk : Fin 4} {i : Nat} {x : Int32} (hd : decode cc pc = .ok (.istore_n kk, 1)) (hp : pc + 1 = pc') (hi : (kk : Nat) = i) (hn : i < nL) (hl : (i, Value.int x) :: lv.filter (fun q => !(q.1 == i) && !(q.1 + 1 == i && q.2.category == 2)) = lv') (k : zJ p l e R s m args below meth c Q D A nL ws cn sn lv' pc' st) : zJ p l e R s m args below meth c Q D A nL ws cn sn lv pc (.int x :: st) := by
  subst hp
  exact fun H locs ls hP hD hS h => lv_istore_n C.1.1 C.1.2.1 hd hi h hn hl (fun ls' h' => k H locs ls' hP hD hS h')
theorem zj_istore (pc' : Nat) (lv' : List (Nat × Value)) (C : zC p l s m args meth c cc own Ts D tys A nL) {i : Nat} {x : Int32} (hd : decode cc pc = .ok (.istore i, 2)) (hp : pc + 2 = pc') (hn : i < nL) (hl : (i, Value.int x) :: lv.filter (fun q => !(q.1 == i) && !(q.1 + 1 == i && q.2.category == 2)) = lv') (k : zJ p l e R s m args below meth c Q D A nL ws cn sn lv' pc' st) : zJ p l e R s m args below meth c Q D A nL ws cn sn lv pc (.int x :: st) := by
  subst hp
  exact fun H locs ls hP hD hS h => lv_istore C.1.1 C.1.2.1 hd h hn hl (fun ls' h' => k H locs ls' hP hD hS h')
theorem zj_astore_n (pc' : Nat) (lv' : List (Nat × Value)) (C : zC p l s m args meth c cc own Ts D tys A nL) {kk : Fin 4} {i : Nat} {x : Nat} (hd : decode cc pc = .ok (.astore_n kk, 1)) (hp : pc + 1 = pc') (hi : (kk : Nat) = i) (hn : i < nL) (hl : (i, Value.ref x) :: lv.filter (fun q => !(q.1 == i) && !(q.1 + 1 == i && q.2.category == 2)) = lv') (k : zJ p l e R s m args below meth c Q D A nL ws cn sn lv' pc' st) : zJ p l e R s m args below meth c Q D A nL ws cn sn lv pc (.ref x :: st) := by
  subst hp
  exact fun H locs ls hP hD hS h => lv_astore_n C.1.1 C.1.2.1 hd hi h hn hl (fun ls' h' => k H locs ls' hP hD hS h')
theorem zj_astore (pc' : Nat) (lv' : List (Nat × Value)) (C : zC p l s m args meth c cc own Ts D tys A nL) {i : Nat} {x : Nat} (hd : decode cc pc = .ok (.astore i, 2)) (hp : pc + 2 = pc') (hn : i < nL) (hl : (i, Value.ref x) :: lv.filter (fun q => !(q.1 == i) && !(q.1 + 1 == i && q.2.category == 2)) = lv') (k : zJ p l e R s m args below meth c Q D A nL ws cn sn lv' pc' st) : zJ p l e R s m args below meth c Q D A nL ws cn sn lv pc (.ref x :: st) := by
  subst hp
  exact fun H locs ls hP hD hS h => lv_astore C.1.1 C.1.2.1 hd h hn hl (fun ls' h' => k H locs ls' hP hD hS h')
theorem zj_lstore_n (pc' : Nat) (lv' : List (Nat × Value)) (C : zC p l s m args meth c cc own Ts D tys A nL) {kk : Fin 4} {i : Nat} {x : Int64} (hd : decode cc pc = .ok (.lstore_n kk, 1)) (hp : pc + 1 = pc') (hi : (kk : Nat) = i) (hn : i + 1 < nL) (hl : (i, Value.long x) :: lv.filter (fun q => !(q.1 == i) && (!(q.1 == i + 1) && !(q.1 + 1 == i && q.2.category == 2))) = lv') (k : zJ p l e R s m args below meth c Q D A nL ws cn sn lv' pc' st) : zJ p l e R s m args below meth c Q D A nL ws cn sn lv pc (.long x :: st) := by
  subst hp
  exact fun H locs ls hP hD hS h => lv_lstore_n C.1.1 C.1.2.1 hd hi h hn hl (fun ls' h' => k H locs ls' hP hD hS h')
theorem zj_lstore (pc' : Nat) (lv' : List (Nat × Value)) (C : zC p l s m args meth c cc own Ts D tys A nL) {i : Nat} {x : Int64} (hd : decode cc pc = .ok (.lstore i, 2)) (hp : pc + 2 = pc') (hn : i + 1 < nL) (hl : (i, Value.long x) :: lv.filter (fun q => !(q.1 == i) && (!(q.1 == i + 1) && !(q.1 + 1 == i && q.2.category == 2))) = lv') (k : zJ p l e R s m args below meth c Q D A nL ws cn sn lv' pc' st) : zJ p l e R s m args below meth c Q D A nL ws cn sn lv pc (.long x :: st) := by
  subst hp
  exact fun H locs ls hP hD hS h => lv_lstore C.1.1 C.1.2.1 hd h hn hl (fun ls' h' => k H locs ls' hP hD hS h')
theorem zj_dstore_n (pc' : Nat) (lv' : List (Nat × Value)) (C : zC p l s m args meth c cc own Ts D tys A nL) {kk : Fin 4} {i : Nat} {x : UInt64} (hd : decode cc pc = .ok (.dstore_n kk, 1)) (hp : pc + 1 = pc') (hi : (kk : Nat) = i) (hn : i + 1 < nL) (hl : (i, Value.double x) :: lv.filter (fun q => !(q.1 == i) && (!(q.1 == i + 1) && !(q.1 + 1 == i && q.2.category == 2))) = lv') (k : zJ p l e R s m args below meth c Q D A nL ws cn sn lv' pc' st) : zJ p l e R s m args below meth c Q D A nL ws cn sn lv pc (.double x :: st) := by
  subst hp
  exact fun H locs ls hP hD hS h => lv_dstore_n C.1.1 C.1.2.1 hd hi h hn hl (fun ls' h' => k H locs ls' hP hD hS h')
theorem zj_dstore (pc' : Nat) (lv' : List (Nat × Value)) (C : zC p l s m args meth c cc own Ts D tys A nL) {i : Nat} {x : UInt64} (hd : decode cc pc = .ok (.dstore i, 2)) (hp : pc + 2 = pc') (hn : i + 1 < nL) (hl : (i, Value.double x) :: lv.filter (fun q => !(q.1 == i) && (!(q.1 == i + 1) && !(q.1 + 1 == i && q.2.category == 2))) = lv') (k : zJ p l e R s m args below meth c Q D A nL ws cn sn lv' pc' st) : zJ p l e R s m args below meth c Q D A nL ws cn sn lv pc (.double x :: st) := by
  subst hp
  exact fun H locs ls hP hD hS h => lv_dstore C.1.1 C.1.2.1 hd h hn hl (fun ls' h' => k H locs ls' hP hD hS h')
theorem zj_iinc (pc' : Nat) (j : Nat) (lv' : List (Nat × Value)) (C : zC p l s m args meth c cc own Ts D tys A nL) {i : Nat} {n x : Int} (hd : decode cc pc = .ok (.iinc i n, 3)) (hp : pc + 3 = pc') (hj : lv[j]? = some (i, .int (zI x))) (hn : i < nL) (hl : (i, Value.int (zI (x + n))) :: lv.filter (fun q => !(q.1 == i) && !(q.1 + 1 == i && q.2.category == 2)) = lv') (k : zJ p l e R s m args below meth c Q D A nL ws cn sn lv' pc' st) : zJ p l e R s m args below meth c Q D A nL ws cn sn lv pc st := by
  subst hp
  exact fun H locs ls hP hD hS h => lv_iinc C.1.1 C.1.2.1 hd h hj (zI_add x n) hn hl (fun ls' h' => k H locs ls' hP hD hS h')
theorem zj_dup (pc' : Nat) (C : zC p l s m args meth c cc own Ts D tys A nL) {v : Value} (hd : decode cc pc = .ok (.dup, 1)) (hp : pc + 1 = pc') (hv : v.category = 1) (k : zJ p l e R s m args below meth c Q D A nL ws cn sn lv pc' (v :: v :: st)) : zJ p l e R s m args below meth c Q D A nL ws cn sn lv pc (v :: st) := by
  subst hp
  exact fun H locs ls hP hD hS h => lv_dup C.1.1 C.1.2.1 hd hv (k H locs ls hP hD hS h)
theorem zj_dup2 (pc' : Nat) (C : zC p l s m args meth c cc own Ts D tys A nL) {va vb : Value} (hd : decode cc pc = .ok (.dup2, 1)) (hp : pc + 1 = pc') (ha : va.category = 1) (hb : vb.category = 1) (k : zJ p l e R s m args below meth c Q D A nL ws cn sn lv pc' (va :: vb :: va :: vb :: st)) : zJ p l e R s m args below meth c Q D A nL ws cn sn lv pc (va :: vb :: st) := by
  subst hp
  exact fun H locs ls hP hD hS h => lv_dup2_11 C.1.1 C.1.2.1 hd ha hb (k H locs ls hP hD hS h)
theorem zj_null (pc' : Nat) (C : zC p l s m args meth c cc own Ts D tys A nL) (hd : decode cc pc = .ok (.aconst_null, 1)) (hp : pc + 1 = pc') (k : zJ p l e R s m args below meth c Q D A nL ws cn sn lv pc' (.null :: st)) : zJ p l e R s m args below meth c Q D A nL ws cn sn lv pc st := by
  subst hp
  exact fun H locs ls hP hD hS h => lv_null C.1.1 C.1.2.1 hd (k H locs ls hP hD hS h)
/-! arithmetic -/
theorem zj_iadd (pc' : Nat) (C : zC p l s m args meth c cc own Ts D tys A nL) {a b : Int} (hd : decode cc pc = .ok (.iadd, 1)) (hp : pc + 1 = pc') (k : zJ p l e R s m args below meth c Q D A nL ws cn sn lv pc' (.int (zI (a + b)) :: st)) : zJ p l e R s m args below meth c Q D A nL ws cn sn lv pc (.int (zI b) :: .int (zI a) :: st) := by
  subst hp
  exact fun H locs ls hP hD hS h => lv_iadd C.1.1 C.1.2.1 hd (by rw [zI_add]; exact k H locs ls hP hD hS h)
theorem zj_isub (pc' : Nat) (C : zC p l s m args meth c cc own Ts D tys A nL) {a b : Int} (hd : decode cc pc = .ok (.isub, 1)) (hp : pc + 1 = pc') (k : zJ p l e R s m args below meth c Q D A nL ws cn sn lv pc' (.int (zI (a - b)) :: st)) : zJ p l e R s m args below meth c Q D A nL ws cn sn lv pc (.int (zI b) :: .int (zI a) :: st) := by
  subst hp
  exact fun H locs ls hP hD hS h => lv_isub C.1.1 C.1.2.1 hd (by rw [zI_sub]; exact k H locs ls hP hD hS h)
theorem zj_imul (pc' : Nat) (C : zC p l s m args meth c cc own Ts D tys A nL) {a b : Int} (hd : decode cc pc = .ok (.imul, 1)) (hp : pc + 1 = pc') (k : zJ p l e R s m args below meth c Q D A nL ws cn sn lv pc' (.int (zI (a * b)) :: st)) : zJ p l e R s m args below meth c Q D A nL ws cn sn lv pc (.int (zI b) :: .int (zI a) :: st) := by
  subst hp
  exact fun H locs ls hP hD hS h => lv_imul C.1.1 C.1.2.1 hd (by rw [zI_mul]; exact k H locs ls hP hD hS h)
theorem zj_ineg (pc' : Nat) (C : zC p l s m args meth c cc own Ts D tys A nL) {a : Int} (hd : decode cc pc = .ok (.ineg, 1)) (hp : pc + 1 = pc') (k : zJ p l e R s m args below meth c Q D A nL ws cn sn lv pc' (.int (zI (-a)) :: st)) : zJ p l e R s m args below meth c Q D A nL ws cn sn lv pc (.int (zI a) :: st) := by
  subst hp
  exact fun H locs ls hP hD hS h => lv_ineg C.1.1 C.1.2.1 hd (by rw [zI_neg]; exact k H locs ls hP hD hS h)
theorem zj_irem2 (pc' : Nat) (C : zC p l s m args meth c cc own Ts D tys A nL) {a : Int} (hd : decode cc pc = .ok (.irem, 1)) (hp : pc + 1 = pc') (ha : 0 ≤ a ∧ a < 2147483648) (k : zJ p l e R s m args below meth c Q D A nL ws cn sn lv pc' (.int (zI (a % 2)) :: st)) : zJ p l e R s m args below meth c Q D A nL ws cn sn lv pc (.int (zI 2) :: .int (zI a) :: st) := by
  subst hp
  exact fun H locs ls hP hD hS h => lv_irem C.1.1 C.1.2.1 hd (by decide) (by rw [zI_rem2 ha]; exact k H locs ls hP hD hS h)
theorem zj_iand1 (pc' : Nat) (C : zC p l s m args meth c cc own Ts D tys A nL) {a : Int} (hd : decode cc pc = .ok (.iand, 1)) (hp : pc + 1 = pc') (ha : 0 ≤ a ∧ a < 2147483648) (k : zJ p l e R s m args below meth c Q D A nL ws cn sn lv pc' (.int (zI (a % 2)) :: st)) : zJ p l e R s m args below meth c Q D A nL ws cn sn lv pc (.int (zI 1) :: .int (zI a) :: st) := by
  subst hp
  exact fun H locs ls hP hD hS h => lv_iand C.1.1 C.1.2.1 hd (by rw [zI_and1 ha]; exact k H locs ls hP hD hS h)
theorem zj_iand31 (pc' : Nat) (C : zC p l s m args meth c cc own Ts D tys A nL) {x : Int32} (hd : decode cc pc = .ok (.iand, 1)) (hp : pc + 1 = pc') (k : ∀ a : Int, (0 ≤ a ∧ a < 32) → zJ p l e R s m args below meth c Q D A nL ws cn sn lv pc' (.int (zI a) :: st)) : zJ p l e R s m args below meth c Q D A nL ws cn sn lv pc (.int (zI 31) :: .int x :: st) := by
  subst hp
  obtain ⟨a, ha, ea⟩ := zI_and31 x
  exact fun H locs ls hP hD hS h => lv_iand C.1.1 C.1.2.1 hd (by rw [ea]; exact k a ha H locs ls hP hD hS h)
theorem zj_i2l (pc' : Nat) (C : zC p l s m args meth c cc own Ts D tys A nL) {a : Int} (hd : decode cc pc = .ok (.i2l, 1)) (hp : pc + 1 = pc') (ha : -2147483648 ≤ a ∧ a < 2147483648) (k : zJ p l e R s m args below meth c Q D A nL ws cn sn lv pc' (.long (Int64.ofInt a) :: st)) : zJ p l e R s m args below meth c Q D A nL ws cn sn lv pc (.int (zI a) :: st) := by
  subst hp
  exact fun H locs ls hP hD hS h => lv_i2l C.1.1 C.1.2.1 hd (zI_i2l ha) (k H locs ls hP hD hS h)
theorem zj_ladd (pc' : Nat) (C : zC p l s m args meth c cc own Ts D tys A nL) {a b : Int64} (hd : decode cc pc = .ok (.ladd, 1)) (hp : pc + 1 = pc') (k : zJ p l e R s m args below meth c Q D A nL ws cn sn lv pc' (.long (a + b) :: st)) : zJ p l e R s m args below meth c Q D A nL ws cn sn lv pc (.long b :: .long a :: st) := by
  subst hp
  exact fun H locs ls hP hD hS h => lv_ladd C.1.1 C.1.2.1 hd (k H locs ls hP hD hS h)
theorem zj_lsub (pc' : Nat) (C : zC p l s m args meth c cc own Ts D tys A nL) {a b : Int64} (hd : decode cc pc = .ok (.lsub, 1)) (hp : pc + 1 = pc') (k : zJ p l e R s m args below meth c Q D A nL ws cn sn lv pc' (.long (a - b) :: st)) : zJ p l e R s m args below meth c Q D A nL ws cn sn lv pc (.long b :: .long a :: st) := by
  subst hp
  exact fun H locs ls hP hD hS h => lv_lsub C.1.1 C.1.2.1 hd (k H locs ls hP hD hS h)
theorem zj_lmul (pc' : Nat) (C : zC p l s m args meth c cc own Ts D tys A nL) {a b : Int64} (hd : decode cc pc = .ok (.lmul, 1)) (hp : pc + 1 = pc') (k : zJ p l e R s m args below meth c Q D A nL ws cn sn lv pc' (.long (a * b) :: st)) : zJ p l e R s m args below meth c Q D A nL ws cn sn lv pc (.long b :: .long a :: st) := by
  subst hp
  exact fun H locs ls hP hD hS h => lv_lmul C.1.1 C.1.2.1 hd (k H locs ls hP hD hS h)
theorem zj_lshl (pc' : Nat) (C : zC p l s m args meth c cc own Ts D tys A nL) {a : Int64} {b : Int32} (hd : decode cc pc = .ok (.lshl, 1)) (hp : pc + 1 = pc') (k : zJ p l e R s m args below meth c Q D A nL ws cn sn lv pc' (.long (a <<< (b.toInt64 &&& 63)) :: st)) : zJ p l e R s m args below meth c Q D A nL ws cn sn lv pc (.int b :: .long a :: st) := by
  subst hp
  exact fun H locs ls hP hD hS h => lv_lshl C.1.1 C.1.2.1 hd rfl (k H locs ls hP hD hS h)
theorem zj_lcmp (pc' : Nat) (C : zC p l s m args meth c cc own Ts D tys A nL) {a b : Int64} (hd : decode cc pc = .ok (.lcmp, 1)) (hp : pc + 1 = pc') (k : zJ p l e R s m args below meth c Q D A nL ws cn sn lv pc' (.int (lg_cmp a b) :: st)) : zJ p l e R s m args below meth c Q D A nL ws cn sn lv pc (.long b :: .long a :: st) := by
  subst hp
  exact fun H locs ls hP hD hS h => W.lcmp C.1.1 C.1.2.1 hd (k H locs ls hP hD hS h)
theorem zj_i2d (pc' : Nat) (C : zC p l s m args meth c cc own Ts D tys A nL) {a : Int32} (hd : decode cc pc = .ok (.i2d, 1)) (hp : pc + 1 = pc') (k : zJ p l e R s m args below meth c Q D A nL ws cn sn lv pc' (.double (FP.i2d a) :: st)) : zJ p l e R s m args below meth c Q D A nL ws cn sn lv pc (.int a :: st) := by
  subst hp
  exact fun H locs ls hP hD hS h => lv_i2d C.1.1 C.1.2.1 hd (k H locs ls hP hD hS h)
theorem zj_l2d (pc' : Nat) (C : zC p l s m args meth c cc own Ts D tys A nL) {a : Int64} (hd : decode cc pc = .ok (.l2d, 1)) (hp : pc + 1 = pc') (k : zJ p l e R s m args below meth c Q D A nL ws cn sn lv pc' (.double (FP.l2d a) :: st)) : zJ p l e R s m args below meth c Q D A nL ws cn sn lv pc (.long a :: st) := by
  subst hp
  exact fun H locs ls hP hD hS h => lv_l2d C.1.1 C.1.2.1 hd (k H locs ls hP hD hS h)
theorem zj_d2l (pc' : Nat) (C : zC p l s m args meth c cc own Ts D tys A nL) {a : UInt64} (hd : decode cc pc = .ok (.d2l, 1)) (hp : pc + 1 = pc') (k : zJ p l e R s m args below meth c Q D A nL ws cn sn lv pc' (.long (FP.d2l a) :: st)) : zJ p l e R s m args below meth c Q D A nL ws cn sn lv pc (.double a :: st) := by
  subst hp
  exact fun H locs ls hP hD hS h => lv_d2l C.1.1 C.1.2.1 hd (k H locs ls hP hD hS h)
theorem zj_ddiv (pc' : Nat) (C : zC p l s m args meth c cc own Ts D tys A nL) {a b : UInt64} (hne : vf_n64 (FP.ddiv a b)) (hd : decode cc pc = .ok (.ddiv, 1)) (hp : pc + 1 = pc') (k : zJ p l e R s m args below meth c Q D A nL ws cn sn lv pc' (.double (FP.ddiv a b) :: st)) : zJ p l e R s m args below meth c Q D A nL ws cn sn lv pc (.double b :: .double a :: st) := by
  subst hp
  exact fun H locs ls hP hD hS h => lv_ddiv C.1.1 C.1.2.1 hd hne (k H locs ls hP hD hS h)
theorem zj_dmul (pc' : Nat) (C : zC p l s m args meth c cc own Ts D tys A nL) {a b : UInt64} (hne : vf_n64 (FP.dmul a b)) (hd : decode cc pc = .ok (.dmul, 1)) (hp : pc + 1 = pc') (k : zJ p l e R s m args below meth c Q D A nL ws cn sn lv pc' (.double (FP.dmul a b) :: st)) : zJ p l e R s m args below meth c Q D A nL ws cn sn lv pc (.double b :: .double a :: st) := by
  subst hp
  exact fun H locs ls hP hD hS h => lv_dmul C.1.1 C.1.2.1 hd hne (k H locs ls hP hD hS h)
theorem zj_dsub (pc' : Nat) (C : zC p l s m args meth c cc own Ts D tys A nL) {a b : UInt64} (hne : vf_n64 (FP.dsub a b)) (hd : decode cc pc = .ok (.dsub, 1)) (hp : pc + 1 = pc') (k : zJ p l e R s m args below meth c Q D A nL ws cn sn lv pc' (.double (FP.dsub a b) :: st)) : zJ p l e R s m args below meth c Q D A nL ws cn sn lv pc (.double b :: .double a :: st) := by
  subst hp
  exact fun H locs ls hP hD hS h => lv_dsub C.1.1 C.1.2.1 hd hne (k H locs ls hP hD hS h)
theorem zj_dcmp (pc' : Nat) (C : zC p l s m args meth c cc own Ts D tys A nL) {a b : UInt64} {op : CmpOp} (hd : decode cc pc = .ok (.dcmp op, 1)) (hp : pc + 1 = pc') (k : zJ p l e R s m args below meth c Q D A nL ws cn sn lv pc' (.int (Op.cmpValue (FP.dcmp a b) op) :: st)) : zJ p l e R s m args below meth c Q D A nL ws cn sn lv pc (.double b :: .double a :: st) := by
  subst hp
  exact fun H locs ls hP hD hS h => lv_dcmp C.1.1 C.1.2.1 hd (k H locs ls hP hD hS h)
end ZJ
