/-! ===== methods that throw, and the laws' methods that catch ===== -/
def zT (A : Nat → Prop) (s : State) (H : Heap) : Prop := vx_Zq Bundle.tN "UNASSIGNED_STACK" Bundle.steD A s H ∧ vx_Zq Bundle.tN "SUPPRESSED_SENTINEL" Bundle.listD A s H
theorem zT.moved {A : Nat → Prop} {u U : State} {H : Heap} (hvm : u.vm.Alike U.vm) (h : zT A u H) : zT A U H := ⟨vx_Zq.moved hvm h.1, vx_Zq.moved hvm h.2⟩
theorem zT.kept {A : Nat → Prop} {U : State} {H H1 : Heap} (h : zT A U H) (hq : ∀ a : Nat, a < H.size → ¬ A a → H1[a]? = H[a]?) : zT A U H1 := ⟨vx_Zq.kept h.1 hq, vx_Zq.kept h.2 hq⟩
theorem zT.narrow {A B : Nat → Prop} {U : State} {H : Heap} (h : zT A U H) (hAB : ∀ q, B q → A q) : zT B U H := ⟨vx_Zq.narrow h.1 hAB, vx_Zq.narrow h.2 hAB⟩
def zPx (D : va_G) (tys : List (ClassId × FieldType)) (wc : va_W) (sz : Nat) : State → Prop := fun U => zPre D tys wc sz U ∧ zT (va_A wc sz) U U.heap
theorem zPx_blind {D : va_G} {tys : List (ClassId × FieldType)} {wc : va_W} {sz : Nat} {av : List Value} : FrameBlind (va_Pc av (zPx D tys wc sz)) := fun a U g mk h => by
  obtain ⟨h1, h2, h3⟩ := h
  exact ⟨h1, (zPre_blind a U g mk ⟨h1, h2⟩).2, zT.moved (u := U) (U := U.calling g mk a) (Vm.Alike.refl U.vm) h3⟩
def zXC (pe : String → va_W → Prop) (D : va_G) (tys : List (ClassId × FieldType)) (A : Nat → Prop) : String → State → State → Prop := vx_X (S := va_W) (fun _ => True) (fun E w t => pe E w ∧ zB D tys A w t) A
def zMX (l : Launch) (y : MethodName) (wy : List Cond) (rm : Room) (D : va_G) (tys : List (ClassId × FieldType)) (av : List Value) (wc : va_W) (post : Int32 → va_W → Prop) (pe : String → va_W → Prop) (mc ms : Nat) : Prop :=
  ∀ sz, vx_Met l y wy rm (va_Pc av (zPx D tys wc sz)) (va_Qi post (zB D tys (va_A wc sz)) (va_A wc sz)) (zXC pe D tys (va_A wc sz)) mc ms (va_A wc sz)
section ZXO
variable {l : Launch} {y : MethodName} {wy ws' : List Cond} {rm : Room} {D : va_G} {tys : List (ClassId × FieldType)} {av : List Value} {wc : va_W} {mc ms : Nat} {cc : ByteArray} {nL : Nat} {ret : Option FieldType} {post : Int32 → va_W → Prop} {pe : String → va_W → Prop}
theorem zXet_of (own : String) (lv0 : List (Nat × Value)) (hown : y.cls = own) (hy : plainName y.cls = true) (hw : wy = Cond.code y cc nL ret :: ws') (hlen : (lg_sl av).length ≤ nL) (hlv : lv_args 0 av = lv0)
    (body : ∀ p e s m args below meth c A Q, Q = vx_MQ below (va_Qi post (zB D tys A) A) (zXC pe D tys A) args s mc ms A → zC p l s m args meth c cc own wy D tys A nL → zT A s s.heap → (∀ x ∈ c.exceptionTable.toList, False) → meth.sig.returnType = ret → zJ p l e rm s m args below meth c Q D A nL wc 0 0 lv0 0 []) : zMX l y wy rm D tys av wc post pe mc ms := by
  intro sz
  refine vx_ofW (cc := cc) (maxL := nL) (ret := ret) hy hw ?_
  intro p e s m args below meth c s₁ B hml hno hv
  obtain ⟨rfl, ⟨hsz, hP, hK, hD0, hF⟩, hT⟩ := hv
  subst hsz
  have hD := hD0.self (sz := s.heap.size)
  have hn : s.vm.findClass own = some m.cls := by rw [← hown]; exact findClass_of_methodNamed B.named
  have hl := lv_entry av (n := nL) hlen
  rw [lg_entry_eq]
  subst hlv
  exact body p e s m _ below meth c (va_A wc s.heap.size) _ rfl ⟨⟨B.exec, B.bytes, hml, hn, atoms_spec (ws := wy) B.pre⟩, hK, fun q h => Or.inr h, B.notSynchronized, hF⟩ hT hno B.returns s.heap [] _ hP hD va_S.rf hl
theorem zYet_of {hh : List (Nat × Nat × Nat × Nat)} (own : String) (lv0 : List (Nat × Value)) (hown : y.cls = own) (hy : plainName y.cls = true) (hw : wy = Cond.codeWith y cc nL ret hh :: ws') (hlen : (lg_sl av).length ≤ nL) (hlv : lv_args 0 av = lv0)
    (body : ∀ p e s m args below meth c A Q, Q = vx_MQ below (va_Qi post (zB D tys A) A) (zXC pe D tys A) args s mc ms A → zC p l s m args meth c cc own wy D tys A nL → zT A s s.heap → c.exceptionTable.toList = tableOf hh → meth.sig.returnType = ret → zJ p l e rm s m args below meth c Q D A nL wc 0 0 lv0 0 []) : zMX l y wy rm D tys av wc post pe mc ms := by
  intro sz
  refine vx_ofWH (cc := cc) (maxL := nL) (ret := ret) (hh := hh) hy hw ?_
  intro p e s m args below meth c s₁ B hml hv
  obtain ⟨rfl, ⟨hsz, hP, hK, hD0, hF⟩, hT⟩ := hv
  subst hsz
  have hD := hD0.self (sz := s.heap.size)
  have hn : s.vm.findClass own = some m.cls := by rw [← hown]; exact findClass_of_methodNamed B.named
  have hl := lv_entry av (n := nL) hlen
  have ht := vx_table (x := y) B (atoms_spec (ws := wy) B.pre _ (by rw [hw]; exact List.mem_cons_self))
  rw [lg_entry_eq]
  subst hlv
  exact body p e s m _ below meth c (va_A wc s.heap.size) _ rfl ⟨⟨B.exec, B.bytes, hml, hn, atoms_spec (ws := wy) B.pre⟩, hK, fun q h => Or.inr h, B.notSynchronized, hF⟩ hT ht B.returns s.heap [] _ hP hD va_S.rf hl
end ZXO
section ZXJ
variable {p : Program} {l : Launch} {e : Env} {R : Room} {s : State} {m : MethodId} {args : Array Value} {below : List Frame} {meth : Method} {c : Code} {Q : State → Prop} {D : va_G} {A : Nat → Prop} {nL : Nat} {ws : va_W} {cn sn : Nat} {lv : List (Nat × Value)} {pc : Nat} {st : List Value} {cc : ByteArray} {own : String} {Ts : List Cond} {tys : List (ClassId × FieldType)}
theorem zj_toX {Qc : Array Value → State → Outcome → State → Prop} {XC : String → State → State → Prop} {mc ms : Nat} (k : zJ p l e R s m args below meth c (MQ below Qc args s mc ms A) D A nL ws cn sn lv pc st) : zJ p l e R s m args below meth c (vx_MQ below Qc XC args s mc ms A) D A nL ws cn sn lv pc st :=
  fun H locs ls hP hD hS hl => vx_ret (k H locs ls hP hD hS hl)
/-- new, dup, ldc, the constructor, athrow: out of a body without handlers -/
theorem zj_throw (C : zC p l s m args meth c cc own Ts D tys A nL) {Qc : Array Value → State → Outcome → State → Prop} {pe : String → va_W → Prop} {mc ms : Nat} (hl : l.stackTraces = false) {cls text : String} {names : List String} {ik is ic : Nat} (hT : zT A s s.heap) (hcls : Bundle.fit cls = true) (hnames : ∀ n ∈ names, Bundle.fit n = true)
    (hk : Cond.classLink own ik cls ∈ Ts) (hini : Cond.initialized cls ∈ Ts) (ho : own = RX4) (hstr : (is, text) ∈ zStr) (hat1 : ∀ w ∈ (vx_atS own ic cls names).filter goodWord, w ∈ Ts) (hat2 : ∀ w ∈ (vx_atS own ic cls names).filter (fun w => !goodWord w), w ∈ zNW)
    (hgood : ∀ w ∈ Cond.classLink own ik cls :: Cond.initialized cls :: vx_atS own ic cls names, vx_ot w = true)
    (d0 : decode cc pc = .ok (.new ik, 3)) (d3 : decode cc (pc + 3) = .ok (.dup, 1)) (d4 : decode cc (pc + 4) = .ok (.ldc is, 2)) (d6 : decode cc (pc + 6) = .ok (.invokespecial ic, 3)) (d9 : decode cc (pc + 9) = .ok (.athrow, 1))
    (hno : ∀ x ∈ c.exceptionTable.toList, False) (hRf : names.length + 3 < R.frames) (hRl : (st.map fun v => v.category).sum + (13 * (names.length + 1) + 43) ≤ R.locals) (hR : cn + 1 ≤ R.cells ∧ sn + 6 ≤ R.slots) (hpe : pe cls ws) (hc : cn + 1 ≤ mc) (hs : sn + 6 ≤ ms) :
    zJ p l e R s m args below meth c (vx_MQ below Qc (zXC pe D tys A) args s mc ms A) D A nL ws cn sn lv pc st := by
  intro H locs ls hP hD hS h
  subst ho
  obtain ⟨sa, hsa⟩ := C.2.2.2.2.2.1 (is, text) hstr
  refine vx_throwS (A := A) (text := text) (sa := sa) C.1.1 C.1.2.1 hl C.1.2.2.2.1 hcls hnames (C.1.2.2.2.2 _ hk) (C.1.2.2.2.2 _ hini) hsa (vx_hat (B := zNW) (fun w hw => C.1.2.2.2.2 _ (hat1 w hw)) hat2 (fun w hw => va_Nw.use (zNest_tab (List.mem_filter.mp hw).2) (C.2.2.2.2.1 w hw))) hgood hT.1 hT.2 hS (h.1.trans C.1.2.2.1.symm) d0 d3 d4 d6 d9 (fun x hx => (hno x hx).elim) hRf hRl hR.1 hR.2 C.2.2.2.1 (fun t hvm hsz hq => ?_) hS.2.2 hc hs
  refine ⟨ws, trivial, ⟨hpe, fun k x hx => (hP k x hx).kept (hq x.1 ((hP k x hx).lt)), va_K.moved hvm C.2.1, hD⟩, ⟨Nat.le_trans hS.1 hsz, fun q h1 h2 => (hq q (Nat.lt_of_lt_of_le h1 hS.1)).trans (hS.2.1 q h1 h2)⟩⟩
theorem zj_throwW (C : zC p l s m args meth c cc own Ts D tys A nL) {Qc : Array Value → State → Outcome → State → Prop} {pe : String → va_W → Prop} {mc ms : Nat} (hl : l.stackTraces = false) {cls text : String} {names : List String} {ik is ic : Nat} (hT : zT A s s.heap) (hcls : Bundle.fit cls = true) (hnames : ∀ n ∈ names, Bundle.fit n = true)
    (hk : Cond.classLink own ik cls ∈ Ts) (hini : Cond.initialized cls ∈ Ts) (ho : own = RX4) (hstr : (is, text) ∈ zStr) (hat1 : ∀ w ∈ (vx_atS own ic cls names).filter goodWord, w ∈ Ts) (hat2 : ∀ w ∈ (vx_atS own ic cls names).filter (fun w => !goodWord w), w ∈ zNW)
    (hgood : ∀ w ∈ Cond.classLink own ik cls :: Cond.initialized cls :: vx_atS own ic cls names, vx_ot w = true)
    (d0 : decode cc pc = .ok (.new ik, 3)) (d3 : decode cc (pc + 3) = .ok (.dup, 1)) (d4 : decode cc (pc + 4) = .ok (.ldc_w is, 3)) (d6 : decode cc (pc + 7) = .ok (.invokespecial ic, 3)) (d9 : decode cc (pc + 10) = .ok (.athrow, 1))
    (hno : ∀ x ∈ c.exceptionTable.toList, False) (hRf : names.length + 3 < R.frames) (hRl : (st.map fun v => v.category).sum + (13 * (names.length + 1) + 43) ≤ R.locals) (hR : cn + 1 ≤ R.cells ∧ sn + 6 ≤ R.slots) (hpe : pe cls ws) (hc : cn + 1 ≤ mc) (hs : sn + 6 ≤ ms) :
    zJ p l e R s m args below meth c (vx_MQ below Qc (zXC pe D tys A) args s mc ms A) D A nL ws cn sn lv pc st := by
  intro H locs ls hP hD hS h
  subst ho
  obtain ⟨sa, hsa⟩ := C.2.2.2.2.2.1 (is, text) hstr
  refine vx_throwSW (A := A) (text := text) (sa := sa) C.1.1 C.1.2.1 hl C.1.2.2.2.1 hcls hnames (C.1.2.2.2.2 _ hk) (C.1.2.2.2.2 _ hini) hsa (vx_hat (B := zNW) (fun w hw => C.1.2.2.2.2 _ (hat1 w hw)) hat2 (fun w hw => va_Nw.use (zNest_tab (List.mem_filter.mp hw).2) (C.2.2.2.2.1 w hw))) hgood hT.1 hT.2 hS (h.1.trans C.1.2.2.1.symm) d0 d3 d4 d6 d9 (fun x hx => (hno x hx).elim) hRf hRl hR.1 hR.2 C.2.2.2.1 (fun t hvm hsz hq => ?_) hS.2.2 hc hs
  refine ⟨ws, trivial, ⟨hpe, fun k x hx => (hP k x hx).kept (hq x.1 ((hP k x hx).lt)), va_K.moved hvm C.2.1, hD⟩, ⟨Nat.le_trans hS.1 hsz, fun q h1 h2 => (hq q (Nat.lt_of_lt_of_le h1 hS.1)).trans (hS.2.1 q h1 h2)⟩⟩
def zRx (p : Program) (l : Launch) (e : Env) (R : Room) (s : State) (m : MethodId) (args : Array Value) (below : List Frame) (meth : Method) (c : Code) (D : va_G) (A : Nat → Prop) (nL : Nat) (ws : va_W) (cn sn : Nat) (lv : List (Nat × Value)) (pc : Nat) (st rest : List Value) (mc ms : Nat) (wc : va_W) (Qa : Nat → State → Outcome → State → Prop) (XC : Nat → String → State → State → Prop) : Prop :=
  ∀ (H : Heap) (locs : List Loc) (ls : Array Slot), va_P D vwCl ws H → va_D A ws → va_S A s.heap H locs → lv_has ls nL lv → vx_Run p l e R s m args below meth c H locs cn sn mc ms (F0 m pc ls st) rest (Qa H.size) (XC H.size) (va_A wc H.size)
theorem zPx_at (C : zC p l s m args meth c cc own Ts D tys A nL) (hT : zT A s s.heap) {wc : va_W} {isC : List Nat} (hC : isC.map (fun i => ws[i]?) = wc.map some) (hnd : va_nd isC = true) {H : Heap} {locs : List Loc} (hP : va_P D vwCl ws H) (hD : va_D A ws) (hS : va_S A s.heap H locs) {U : State} (hU : U.heap = H) (hW : s.WarmedH U.vm) : zPx D tys wc H.size U := by
  subst hU
  exact ⟨⟨rfl, hP.sub isC (zmap_fm hC), va_K.moved hW.alike C.2.1, (hD.sub isC hnd hC).weaken (fun _ _ _ _ => trivial), C.2.2.2.2.warm hW⟩, zT.moved hW.alike ((hT.kept hS.2.1).narrow (va_free hD hS C.2.2.1 isC hC))⟩
theorem zrx_V (isC : List Nat) (C : zC p l s m args meth c cc own Ts D tys A nL) (hT : zT A s s.heap) {y : MethodName} {bytes : ByteArray} {maxL mc ms n index : Nat} {ret : Option FieldType} {wy : List Cond} {rm : Room} {wc : va_W} {As rest : List Value} {Cn : String} {b : Nat} {post : Int32 → va_W → Prop} {pe : String → va_W → Prop} (hM : zMX l y wy rm D tys (.ref b :: As) wc post pe mc ms) (cw : CallW R s args own Cn index y bytes maxL ret wy rm mc ms n) (hC : isC.map (fun i => ws[i]?) = wc.map some) (hnd : va_nd isC = true) {ci : Nat} {fs : List Value} {Tn : u_T × Nat} (q0 : Nat) (he : wc[q0]? = some (b, .inr (ci, fs))) (hcl : vwCl[ci]? = some (Cn, Tn)) (hn : As.length = n) (hst : st = As.reverse ++ .ref b :: rest) (hrs : (rest.map fun v => v.category).sum ≤ 8) (hd : decode cc pc = .ok (.invokevirtual index, 3)) (hf : cn + mc ≤ R.cells ∧ sn + ms ≤ R.slots) : zRx p l e R s m args below meth c D A nL ws cn sn lv pc st rest mc ms wc (fun sz => va_Qi post (zB D tys (va_A wc sz)) (va_A wc sz) (.ref b :: As).toArray) (fun sz => zXC pe D tys (va_A wc sz)) :=
  fun H locs ls hP hD hS hl => vx_runV C.1 (hM H.size) cw ⟨zPx_blind, va_recv C.2.1 (hP.sub isC (zmap_fm hC)) hcl he, fun U hU hW => ⟨rfl, zPx_at C hT hC hnd hP hD hS hU hW⟩⟩ rfl hn hl.1 hst (lv_room hrs) hd hf
theorem zrx_S (isC : List Nat) (C : zC p l s m args meth c cc own Ts D tys A nL) (hT : zT A s s.heap) {y : MethodName} {bytes : ByteArray} {maxL mc ms n index : Nat} {ret : Option FieldType} {hh : List (Nat × Nat × Nat × Nat)} {wy : List Cond} {rm : Room} {wc : va_W} {As rest : List Value} {post : Int32 → va_W → Prop} {pe : String → va_W → Prop} (hM : zMX l y wy rm D tys As wc post pe mc ms) (cw : vx_CSW R s args own index y bytes maxL ret hh wy rm mc ms n) (hC : isC.map (fun i => ws[i]?) = wc.map some) (hnd : va_nd isC = true) (hn : As.length = n) (hst : st = As.reverse ++ rest) (hrs : (rest.map fun v => v.category).sum ≤ 8) (hd : decode cc pc = .ok (.invokestatic index, 3)) (hf : cn + mc ≤ R.cells ∧ sn + ms ≤ R.slots) : zRx p l e R s m args below meth c D A nL ws cn sn lv pc st rest mc ms wc (fun sz => va_Qi post (zB D tys (va_A wc sz)) (va_A wc sz) As.toArray) (fun sz => zXC pe D tys (va_A wc sz)) :=
  fun H locs ls hP hD hS hl => vx_runSX C.1 (hM H.size) cw ⟨zPx_blind, fun U hU hW => ⟨rfl, zPx_at C hT hC hnd hP hD hS hU hW⟩⟩ rfl hn hl.1 hst (lv_room hrs) hd hf
/-- the machine that throws an E at pc comes to Q -/
def zJx (p : Program) (l : Launch) (e : Env) (R : Room) (s : State) (m : MethodId) (args : Array Value) (below : List Frame) (meth : Method) (c : Code) (Q : State → Prop) (D : va_G) (A : Nat → Prop) (nL : Nat) (ws : va_W) (cn sn : Nat) (lv : List (Nat × Value)) (pc : Nat) (rest : List Value) (E : String) : Prop :=
  ∀ (H : Heap) (locs : List Loc) (ls : Array Slot) (q : Nat) (ce : Cell), va_P D vwCl ws H → va_D A ws → va_S A s.heap H locs → lv_has ls nL lv → H[q]? = some ce → ce.vm = .none → s.vm.findClass E = some ce.cls → vx_W p l e R s m args below meth c H locs cn sn Q (F0 m pc ls rest) q
theorem zj_cx (pc' : Nat) (isC isR : List Nat) (C : zC p l s m args meth c cc own Ts D tys A nL) {rest : List Value} {mc ms : Nat} {wc wr : va_W} {av : List Value} {post : Int32 → va_W → Prop} {pe : String → va_W → Prop} (hr : zRx p l e R s m args below meth c D A nL ws cn sn lv pc st rest mc ms wc (fun sz => va_Qi post (zB D tys (va_A wc sz)) (va_A wc sz) av.toArray) (fun sz => zXC pe D tys (va_A wc sz))) (hC : isC.map (fun i => ws[i]?) = wc.map some) (hR : isR.map (fun i => ws[i]?) = wr.map some) (hn : va_nd isR = true) (hdis : ∀ i ∈ isR, i ∉ isC) (hp : pc + 3 = pc')
    (kx : ∀ (E : String) (w : va_W), pe E w → zJx p l e R s m args below meth c Q D A nL (wr ++ w) (cn + mc) (sn + ms) lv pc rest E)
    (kk : ∀ (r : Int32) (w : va_W), post r w → zJ p l e R s m args below meth c Q D A nL (wr ++ w) (cn + mc) (sn + ms) lv pc' (.int r :: rest)) : zJ p l e R s m args below meth c Q D A nL ws cn sn lv pc st := by
  subst hp
  intro H locs ls hP hD hS hl
  have hFc := va_free hD hS C.2.2.1 isC hC
  refine vx_calli (hr H locs ls hP hD hS hl) hS (fun q _ h => hFc q h) hFc (fun q _ h => hFc q h) (fun E ce q9 u t H1 locs1 ht hvm _ hB hz1 hk1 hS1 hce hcv hcl => ?_) (fun r u t H1 locs1 ht hvm hw hB hz1 hk1 hS1 => ?_)
  · obtain ⟨hpe, hP1, hK1, hD1⟩ := hB
    rw [ht] at hP1
    obtain ⟨hP2, hD2⟩ := va_join hP hD isC isR hC hR hn hdis hk1 hFc hP1 hD1
    exact kx E u hpe H1 locs1 ls q9 ce hP2 hD2 hS1 hl hce hcv hcl
  · obtain ⟨hP1, hK1, hD1⟩ := hB
    rw [ht] at hP1
    obtain ⟨hP2, hD2⟩ := va_join hP hD isC isR hC hR hn hdis hk1 hFc hP1 hD1
    exact kk r u hw H1 locs1 ls hP2 hD2 hS1 hl
theorem zjx_catch (C : zC p l s m args meth c cc own Ts D tys A nL) {name E : String} {hh : List (Nat × Nat × Nat × Nat)} (htab : c.exceptionTable.toList = tableOf hh) (pre : List ExceptionTableEntry) (x : ExceptionTableEntry) (suf : List ExceptionTableEntry) (hsplit : tableOf hh = pre ++ x :: suf)
    (hpass : ∀ z ∈ pre, covers z pc = false ∨ (z.catchType ≠ 0 ∧ ∃ nm : String, Cond.classLink own z.catchType nm ∈ Ts ∧ (E, nm) ∈ zNo)) (hx : covers x pc = true) (h0 : x.catchType ≠ 0) (hlink : Cond.classLink own x.catchType name ∈ Ts) (hcast : Cond.castable E name ∈ zNW) (h' : Nat) (hh' : x.handlerPc = h') {rest : List Value}
    (kk : ∀ q : Nat, zJ p l e R s m args below meth c Q D A nL ws cn sn lv h' [.ref q]) : zJx p l e R s m args below meth c Q D A nL ws cn sn lv pc rest E := by
  subst hh'
  intro H locs ls q ce hP hD hS hl hce hcv hcl
  refine vx_catch C.1.2.2.2.1 pre x suf (htab.trans hsplit) (fun z hz => ?_) hx h0 (C.1.2.2.2.2 _ hlink) (va_Nw.use (zNest_tab (w := Cond.castable E name) (List.mem_filter.mp hcast).2) (C.2.2.2.2.1 _ hcast)) hce hcv hcl (kk q H locs ls hP hD hS hl)
  rcases hpass z hz with g | ⟨g1, nm, g2, g3⟩
  · exact Or.inl g
  · exact Or.inr ⟨g1, nm, C.1.2.2.2.2 _ g2, C.2.2.2.2.2.2.2 (E, nm) g3⟩
end ZXJ
