/-! ===== more rules: division, shifts, bits; a call over the script ===== -/
theorem zI_div {a b : Int} (ha : 0 ≤ a ∧ a < 2147483648) (hb : 0 < b ∧ b < 2147483648) : zI a / zI b = zI (a / b) := by
  obtain ⟨n, rfl⟩ := Int.eq_ofNat_of_zero_le ha.1
  obtain ⟨d, rfl⟩ := Int.eq_ofNat_of_zero_le (Int.le_of_lt hb.1)
  have e : ∀ k : Nat, zI (k : Int) = nI k := fun k => (zI_ofNat k).symm
  rw [e n, e d, pk_div (by omega) (by omega) (by omega), ← e]
  rfl
theorem zI_rem {a b : Int} (ha : 0 ≤ a ∧ a < 2147483648) (hb : 0 < b ∧ b < 2147483648) : zI a - zI a / zI b * zI b = zI (a % b) := by
  obtain ⟨n, rfl⟩ := Int.eq_ofNat_of_zero_le ha.1
  obtain ⟨d, rfl⟩ := Int.eq_ofNat_of_zero_le (Int.le_of_lt hb.1)
  have e : ∀ k : Nat, zI (k : Int) = nI k := fun k => (zI_ofNat k).symm
  rw [e n, e d, pk_rem (by omega) (by omega) (by omega), ← e]
  rfl
theorem zI_ne0 {b : Int} (hb : 0 < b ∧ b < 2147483648) : ¬ zI b = 0 := by
  intro q
  rw [zI_0, zI_eq (by omega) (by omega)] at q
  omega
theorem zI_or (a b : Nat) : zI (a : Int) ||| zI (b : Int) = zI ((a ||| b : Nat) : Int) := by
  have e : ∀ k : Nat, zI (k : Int) = nI k := fun k => (zI_ofNat k).symm
  rw [e, e, e]
  apply Int32.toBitVec_inj.1
  show BitVec.ofNat 32 a ||| BitVec.ofNat 32 b = BitVec.ofNat 32 (a ||| b)
  apply BitVec.eq_of_getLsbD_eq
  intro i hi
  simp [hi]
theorem zI_shl1' : ∀ p : Fin 16, zI 1 <<< (zI ((p : Nat) : Int) &&& 31) = zI ((2 ^ (p : Nat) : Nat) : Int) := by decide +kernel
theorem zI_shl1 {p : Nat} (h : p < 16) : zI 1 <<< (zI (p : Int) &&& 31) = zI ((2 ^ p : Nat) : Int) := zI_shl1' ⟨p, h⟩
theorem zI_shk' : ∀ p : Fin 16, ((zI ((p : Nat) : Int) &&& 31).toBitVec.smod 32).toNat = (p : Nat) := by decide +kernel
theorem zI_shr {m p : Nat} (hm : m < 2147483648) (h : p < 16) : zI (m : Int) >>> (zI (p : Int) &&& 31) = zI ((m / 2 ^ p : Nat) : Int) := by
  have e : ∀ k : Nat, zI (k : Int) = nI k := fun k => (zI_ofNat k).symm
  rw [e m, pk_shrN (by omega) _ p (zI_shk' ⟨p, h⟩), ← e]
theorem zI_and31b (x : Int32) : ∃ a : Int, (0 ≤ a ∧ a < 2147483648) ∧ x &&& zI 2147483647 = zI a := by
  obtain ⟨j, hj, e⟩ := pk_andE x (m := zI 2147483647) 31 (by decide)
  exact ⟨(j : Int), ⟨by omega, by omega⟩, by rw [e, ← zI_ofNat]; rfl⟩
section ZJ5
variable {p : Program} {l : Launch} {e : Env} {R : Room} {s : State} {m : MethodId} {args : Array Value} {below : List Frame} {meth : Method} {c : Code} {Q : State → Prop} {D : va_G} {A : Nat → Prop} {nL : Nat} {ws : va_W} {cn sn : Nat} {lv : List (Nat × Value)} {pc : Nat} {st : List Value} {cc : ByteArray} {own : String} {Ts : List Cond} {tys : List (ClassId × FieldType)}
theorem zj_irem (pc' : Nat) (C : zC p l s m args meth c cc own Ts D tys A nL) {a b : Int} (ha : 0 ≤ a ∧ a < 2147483648) (hb : 0 < b ∧ b < 2147483648) (hd : decode cc pc = .ok (.irem, 1)) (hp : pc + 1 = pc') (k : zJ p l e R s m args below meth c Q D A nL ws cn sn lv pc' (.int (zI (a % b)) :: st)) : zJ p l e R s m args below meth c Q D A nL ws cn sn lv pc (.int (zI b) :: .int (zI a) :: st) := by
  subst hp
  exact fun H locs ls hP hD hS h => lv_irem C.1.1 C.1.2.1 hd (zI_ne0 hb) (by rw [zI_rem ha hb]; exact k H locs ls hP hD hS h)
theorem zj_idiv (pc' : Nat) (C : zC p l s m args meth c cc own Ts D tys A nL) {a b : Int} (ha : 0 ≤ a ∧ a < 2147483648) (hb : 0 < b ∧ b < 2147483648) (hd : decode cc pc = .ok (.idiv, 1)) (hp : pc + 1 = pc') (k : zJ p l e R s m args below meth c Q D A nL ws cn sn lv pc' (.int (zI (a / b)) :: st)) : zJ p l e R s m args below meth c Q D A nL ws cn sn lv pc (.int (zI b) :: .int (zI a) :: st) := by
  subst hp
  exact fun H locs ls hP hD hS h => lv_idiv C.1.1 C.1.2.1 hd (zI_ne0 hb) (by rw [zI_div ha hb]; exact k H locs ls hP hD hS h)
theorem zj_ishrE (pc' : Nat) (C : zC p l s m args meth c cc own Ts D tys A nL) {x y : Int32} (hd : decode cc pc = .ok (.ishr, 1)) (hp : pc + 1 = pc') (k : ∀ b : Int, (-2147483648 ≤ b ∧ b < 2147483648) → zJ p l e R s m args below meth c Q D A nL ws cn sn lv pc' (.int (zI b) :: st)) : zJ p l e R s m args below meth c Q D A nL ws cn sn lv pc (.int y :: .int x :: st) := by
  subst hp
  obtain ⟨b, hb, eb⟩ := zI_ofE (x >>> (y &&& 31))
  exact fun H locs ls hP hD hS h => lv_ishr C.1.1 C.1.2.1 hd (by rw [eb]; exact k b hb H locs ls hP hD hS h)
theorem zj_ishrN (pc' : Nat) (C : zC p l s m args meth c cc own Ts D tys A nL) {k1 k2 : Nat} (h1 : k1 < 2147483648) (h2 : k2 < 16) (hd : decode cc pc = .ok (.ishr, 1)) (hp : pc + 1 = pc') (k : ∀ z : Nat, z = k1 / 2 ^ k2 → z < 2147483648 → zJ p l e R s m args below meth c Q D A nL ws cn sn lv pc' (.int (zI (z : Int)) :: st)) : zJ p l e R s m args below meth c Q D A nL ws cn sn lv pc (.int (zI (k2 : Int)) :: .int (zI (k1 : Int)) :: st) := by
  subst hp
  exact fun H locs ls hP hD hS h => lv_ishr C.1.1 C.1.2.1 hd (by rw [zI_shr h1 h2]; exact k _ rfl (Nat.lt_of_le_of_lt (Nat.div_le_self _ _) h1) H locs ls hP hD hS h)
theorem zj_ishl1 (pc' : Nat) (C : zC p l s m args meth c cc own Ts D tys A nL) {k2 : Nat} {v : Int} (hv : v = (k2 : Int)) (h2 : k2 < 16) (hd : decode cc pc = .ok (.ishl, 1)) (hp : pc + 1 = pc') (k : zJ p l e R s m args below meth c Q D A nL ws cn sn lv pc' (.int (zI ((2 ^ k2 : Nat) : Int)) :: st)) : zJ p l e R s m args below meth c Q D A nL ws cn sn lv pc (.int (zI v) :: .int (zI 1) :: st) := by
  subst hp; subst hv
  exact fun H locs ls hP hD hS h => lv_ishl C.1.1 C.1.2.1 hd (by rw [zI_shl1 h2]; exact k H locs ls hP hD hS h)
theorem zj_ior (pc' : Nat) (C : zC p l s m args meth c cc own Ts D tys A nL) {k1 k2 : Nat} (hd : decode cc pc = .ok (.ior, 1)) (hp : pc + 1 = pc') (k : zJ p l e R s m args below meth c Q D A nL ws cn sn lv pc' (.int (zI ((k1 ||| k2 : Nat) : Int)) :: st)) : zJ p l e R s m args below meth c Q D A nL ws cn sn lv pc (.int (zI (k2 : Int)) :: .int (zI (k1 : Int)) :: st) := by
  subst hp
  exact fun H locs ls hP hD hS h => lv_ior C.1.1 C.1.2.1 hd (by rw [zI_or]; exact k H locs ls hP hD hS h)
theorem zj_iandM (pc' : Nat) (C : zC p l s m args meth c cc own Ts D tys A nL) {x : Int32} (hd : decode cc pc = .ok (.iand, 1)) (hp : pc + 1 = pc') (k : ∀ a : Int, (0 ≤ a ∧ a < 2147483648) → zJ p l e R s m args below meth c Q D A nL ws cn sn lv pc' (.int (zI a) :: st)) : zJ p l e R s m args below meth c Q D A nL ws cn sn lv pc (.int (zI 2147483647) :: .int x :: st) := by
  subst hp
  obtain ⟨a, ha, ea⟩ := zI_and31b x
  exact fun H locs ls hP hD hS h => lv_iand C.1.1 C.1.2.1 hd (by rw [ea]; exact k a ha H locs ls hP hD hS h)
theorem zj_icmp_rfl (tgt : Nat) (C : zC p l s m args meth c cc own Ts D tys A nL) {x : Int32} {off : Int} (hd : decode cc pc = .ok (.if_icmp .eq off, 3)) (ht : (pc : Int) + off = (tgt : Int)) (k : zJ p l e R s m args below meth c Q D A nL ws cn sn lv tgt st) : zJ p l e R s m args below meth c Q D A nL ws cn sn lv pc (.int x :: .int x :: st) :=
  fun H locs ls hP hD hS hl => lv_icmp_eq C.1.1 C.1.2.1 hd ht (fun _ => k H locs ls hP hD hS hl) (fun h => absurd rfl h)
theorem zj_icmp_ner (pc' : Nat) (C : zC p l s m args meth c cc own Ts D tys A nL) {x : Int32} {off : Int} (tgt : Nat) (hd : decode cc pc = .ok (.if_icmp .ne off, 3)) (hp : pc + 3 = pc') (ht : (pc : Int) + off = (tgt : Int)) (k : zJ p l e R s m args below meth c Q D A nL ws cn sn lv pc' st) : zJ p l e R s m args below meth c Q D A nL ws cn sn lv pc (.int x :: .int x :: st) := by
  subst hp
  exact fun H locs ls hP hD hS hl => lv_icmp_ne C.1.1 C.1.2.1 hd ht (fun h => absurd rfl h) (fun _ => k H locs ls hP hD hS hl)
/-- somewhat of any int: it has a number -/
theorem zj_num {x : Int32} (k : ∀ b : Int, (-2147483648 ≤ b ∧ b < 2147483648) → zJ p l e R s m args below meth c Q D A nL ws cn sn lv pc (.int (zI b) :: st)) : zJ p l e R s m args below meth c Q D A nL ws cn sn lv pc (.int x :: st) := by
  obtain ⟨b, hb, eb⟩ := zI_ofE x
  rw [eb]
  exact k b hb
theorem zj_sld (pc' : Nat) (v : Int) (C : zC p l s m args meth c cc own Ts D tys A nL) {b L : Nat} {xs : Nat → Int32} (hX : va_X b L xs s s.heap) (hbl : b < s.heap.size) (hbA : ¬ A b) {i : Int} (hi : 0 ≤ i ∧ i < L) (hL : L ≤ 2560) (hv : (xs i.toNat).toInt = v) (hd : decode cc pc = .ok (.iaload, 1)) (hp : pc + 1 = pc') (k : zJ p l e R s m args below meth c Q D A nL ws cn sn lv pc' (.int (zI v) :: st)) : zJ p l e R s m args below meth c Q D A nL ws cn sn lv pc (.int (zI i) :: .ref b :: st) := by
  subst hp; subst hv
  have ev : xs (zI i).toNatClampNeg = zI (xs i.toNat).toInt := by
    rw [zI_nat (by omega)]; exact zI_of _
  exact fun H locs ls hP hD hS hl => va_sld C.1.1 C.1.2.1 hX hbl hbA hS (zI_in hi (by omega)) hd (by rw [ev]; exact k H locs ls hP hD hS hl)
theorem zj_slen (pc' : Nat) (C : zC p l s m args meth c cc own Ts D tys A nL) {b L : Nat} {xs : Nat → Int32} (hX : va_X b L xs s s.heap) (hbl : b < s.heap.size) (hbA : ¬ A b) (hd : decode cc pc = .ok (.arraylength, 1)) (hp : pc + 1 = pc') (k : zJ p l e R s m args below meth c Q D A nL ws cn sn lv pc' (.int (zI (L : Int)) :: st)) : zJ p l e R s m args below meth c Q D A nL ws cn sn lv pc (.ref b :: st) := by
  subst hp
  exact fun H locs ls hP hD hS hl => va_slen C.1.1 C.1.2.1 hX hbl hbA hS hd (by rw [zI_ofNat]; exact k H locs ls hP hD hS hl)
end ZJ5
/-! ===== a method that reads the script ===== -/
def zPrX (D : va_G) (tys : List (ClassId × FieldType)) (b L : Nat) (xs : Nat → Int32) (sz : Nat) : State → Prop := fun U => zPre D tys [] sz U ∧ va_X b L xs U U.heap ∧ b < sz
theorem zPrX_blind {D : va_G} {tys : List (ClassId × FieldType)} {b L : Nat} {xs : Nat → Int32} {sz : Nat} {av : List Value} : FrameBlind (va_Pc av (zPrX D tys b L xs sz)) := fun a U g mk h => by
  obtain ⟨h1, h2, h3, h4⟩ := h
  obtain ⟨-, h5⟩ := zPre_blind (av := av) a U g mk ⟨h1, h2⟩
  exact ⟨h1, h5, va_X.moved (u := U) (U := U.calling g mk a) (Vm.Alike.refl U.vm) h3, h4⟩
/-- its contract: an int comes back, nothing is written -/
def zMs (l : Launch) (y : MethodName) (wy : List Cond) (rm : Room) (D : va_G) (tys : List (ClassId × FieldType)) (b L : Nat) (xs : Nat → Int32) (av : List Value) : Prop :=
  ∀ sz, Met l y wy rm (va_Pc av (zPrX D tys b L xs sz)) (va_Qi (fun _ w => w = []) (zB D tys (va_A [] sz)) (va_A [] sz)) 0 0 (va_A [] sz)
theorem zMs_of {l : Launch} {y : MethodName} {wy ws' : List Cond} {rm : Room} {D : va_G} {tys : List (ClassId × FieldType)} {av : List Value} {b L : Nat} {xs : Nat → Int32} {cc : ByteArray} {nL : Nat} {ret : Option FieldType} (own : String) (lv0 : List (Nat × Value)) (hown : y.cls = own) (hy : plainName y.cls = true) (hw : wy = Cond.code y cc nL ret :: ws') (hlen : (lg_sl av).length ≤ nL) (hlv : lv_args 0 av = lv0)
    (body : ∀ p e s m args below meth c A Q, Q = MQ below (va_Qi (fun _ w => w = []) (zB D tys A) A) args s 0 0 A → zC p l s m args meth c cc own wy D tys A nL → meth.sig.returnType = ret → va_X b L xs s s.heap → b < s.heap.size → ¬ A b → zJ p l e rm s m args below meth c Q D A nL [] 0 0 lv0 0 []) : zMs l y wy rm D tys b L xs av := by
  intro sz
  refine Met.ofW (cc := cc) (maxL := nL) (ret := ret) hy hw ?_
  intro p e s m args below meth c s₁ B hml hv
  obtain ⟨rfl, ⟨hsz, hP, hK, hD0, hF⟩, hX, hb⟩ := hv
  subst hsz
  have hD := hD0.self (sz := s.heap.size)
  have hn : s.vm.findClass own = some m.cls := by rw [← hown]; exact findClass_of_methodNamed B.named
  have hl := lv_entry av (n := nL) hlen
  rw [lg_entry_eq]
  subst hlv
  exact body p e s m _ below meth c (va_A [] s.heap.size) _ rfl ⟨⟨B.exec, B.bytes, hml, hn, atoms_spec (ws := wy) B.pre⟩, hK, fun q h => Or.inr h, B.notSynchronized, hF⟩ B.returns hX hb (fun q => by
    rcases q with ⟨k, e, h⟩ | h
    · simp at h
    · omega) s.heap [] _ hP hD va_S.rf hl
section ZN5
variable {p : Program} {l : Launch} {e : Env} {R : Room} {s : State} {m : MethodId} {args : Array Value} {below : List Frame} {meth : Method} {c : Code} {Q : State → Prop} {D : va_G} {A : Nat → Prop} {nL : Nat} {ws : va_W} {cn sn : Nat} {lv : List (Nat × Value)} {pc : Nat} {st : List Value} {cc : ByteArray} {own : String} {Ts : List Cond} {tys : List (ClassId × FieldType)}
theorem zr_SX (C : zC p l s m args meth c cc own Ts D tys A nL) {y : MethodName} {bytes : ByteArray} {maxL n index : Nat} {ret : Option FieldType} {wy : List Cond} {rm : Room} {As rest : List Value} {b L : Nat} {xs : Nat → Int32} (hM : zMs l y wy rm D tys b L xs As) (hX : va_X b L xs s s.heap) (hbl : b < s.heap.size) (hbA : ¬ A b) (cw : CallB R s args own index y bytes maxL ret wy rm 0 0 n ∧ (Cond.static y).before args s = true) (hn : As.length = n) (hst : st = As.reverse ++ rest) (hrs : (rest.map fun v => v.category).sum ≤ 8) (hd : decode cc pc = .ok (.invokestatic index, 3)) (hf : cn + 0 ≤ R.cells ∧ sn + 0 ≤ R.slots) : zRn p l e R s m args below meth c D A nL ws cn sn lv pc st rest 0 0 [] (fun sz => va_Qi (fun _ w => w = []) (zB D tys (va_A [] sz)) (va_A [] sz) (As).toArray) :=
  fun H locs ls hP hD hS hl => va_runS C.1 (hM H.size) cw ⟨zPrX_blind, fun U hU hW => ⟨rfl, ⟨by rw [hU], by rw [hU]; exact fun k q h => by simp at h, va_K.moved hW.alike C.2.1, ⟨fun i j p q h => by simp at h, fun k q h => by simp at h⟩, C.2.2.2.2.warm hW⟩, va_X.moved hW.alike (by rw [hU]; exact va_X.kept hX (hS.2.1 b hbl hbA)), Nat.lt_of_lt_of_le hbl hS.1⟩⟩ rfl hn hl.1 hst (lv_room hrs) hd hf
end ZN5
