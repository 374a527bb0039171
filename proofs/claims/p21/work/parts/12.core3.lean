section ZO
variable {p : Program} {l : Launch} {e : Env} {R : Room} {s : State} {m : MethodId} {args : Array Value} {below : List Frame} {meth : Method} {c : Code} {Q : State → Prop} {D : va_G} {A : Nat → Prop} {nL : Nat} {ws : va_W} {cn sn : Nat} {lv : List (Nat × Value)} {pc : Nat} {st : List Value} {cc : ByteArray} {own : String} {Ts : List Cond} {tys : List (ClassId × FieldType)}
theorem zI_bool {v : Int} (h : v = 0 ∨ v = 1) : narrow .boolean (.int (zI v)) = .int (zI v) := by rcases h with rfl | rfl <;> rfl
theorem zj_objInit (pc' : Nat) (C : zC p l s m args meth c cc own Ts D tys A nL) {idx a : Nat} (hl : Cond.methodLink own idx objectInit ∈ Ts) (hi : Cond.instanceMethod objectInit ∈ Ts) (hc : Cond.code objectInit ⟨#[0xb1]⟩ 1 none ∈ Ts) (hf : 1 ≤ R.frames) (hlo : (st.map fun v => v.category).sum + 12 ≤ R.locals) (hd : decode cc pc = .ok (.invokespecial idx, 3)) (hp : pc + 3 = pc') (k : zJ p l e R s m args below meth c Q D A nL ws cn sn lv pc' st) : zJ p l e R s m args below meth c Q D A nL ws cn sn lv pc (.ref a :: st) := by
  subst hp
  exact fun H locs ls hP hD hS h => W.objInit C.1.1 C.1.2.1 C.1.2.2.2.1 (C.1.2.2.2.2 _ hl) (C.1.2.2.2.2 _ hi) (C.1.2.2.2.2 _ hc) rfl (h.1.trans C.1.2.2.1.symm) rfl hd hf (by show 2 * 0 + _ + 12 ≤ _; omega) (k H locs ls hP hD hS h)
theorem zj_new (pc' : Nat) (cn' sn' : Nat) (ws' : Nat → va_W) (C : zC p l s m args meth c cc own Ts D tys A nL) {Cn : String} {T : u_T} {N ci index : Nat} {fs : List Value} (ty : Nat → FieldType) (hty : ∀ k, k < N → parseFieldDescriptor (T k).2.2.1 = some (ty k)) (hin : ∀ w ∈ u_ws Cn T N, w ∈ Ts) (hcl : Cond.classLink own index Cn ∈ Ts) (hinst : Cond.instantiable Cn N ∈ Ts) (hini : Cond.initialized Cn ∈ Ts) (hc : vwCl[ci]? = some (Cn, T, N)) (hfs : ∀ j, j < N → defaultValue (ty j) = vp_V fs j) (hcn : cn + 1 = cn') (hsn : sn + N = sn') (hR : cn' ≤ R.cells ∧ sn' ≤ R.slots) (hws : ∀ q, ws ++ [(q, .inr (ci, fs))] = ws' q) (hd : decode cc pc = .ok (.new index, 3)) (hp : pc + 3 = pc') (k : ∀ q : Nat, zJ p l e R s m args below meth c Q D A nL (ws' q) cn' sn' lv pc' (.ref q :: st)) : zJ p l e R s m args below meth c Q D A nL ws cn sn lv pc st := by
  subst hp; subst hcn; subst hsn
  exact fun H locs ls hP hD hS h => va_new C.1.1 C.1.2.1 C.1.2.2.2.2 hin ty hty C.1.2.2.2.1 (C.1.2.2.2.2 _ hcl) (C.1.2.2.2.2 _ hinst) (C.1.2.2.2.2 _ hini) C.2.1 hP hD hS C.2.2.1 hc hfs hR.1 hR.2 hd (fun q H1 hP1 hD1 hS1 => by
    rw [hws q] at hP1 hD1
    exact k q H1 locs ls hP1 hD1 hS1 h)
theorem zRA_one {U : State} {c1 c2 : ClassId} {ty : FieldType} (h1 : va_RA U c1 ty) (h2 : va_RA U c2 ty) : c1 = c2 := by
  cases ty with
  | object Cn =>
    obtain ⟨_, _, _, _, _, e1⟩ := h1
    obtain ⟨_, _, _, _, _, e2⟩ := h2
    exact Option.some.inj (e1.symm.trans e2)
  | _ => exact Option.some.inj (Eq.trans (Eq.symm h1) h2)
theorem zj_newi (pc' : Nat) (cn' sn' : Nat) (ws' : Nat → va_W) (C : zC p l s m args meth c cc own Ts D tys A nL) {n : Int} {N' : Nat} {cI : ClassId} (ht : tys[0]? = some (cI, .int)) (harr : Cond.arrayClass .int ∈ Ts) (hn : n = (N' : Int)) (hN : N' ≤ 1000000) (hcn : cn + 1 = cn') (hsn : sn + N' = sn') (hR : cn' ≤ R.cells ∧ sn' ≤ R.slots) (hws : ∀ q, ws ++ [(q, .inl (cI, N', .inl (zA fun _ => 0)))] = ws' q) (hd : decode cc pc = .ok (.newarray .int, 2)) (hp : pc + 2 = pc') (k : ∀ q : Nat, zJ p l e R s m args below meth c Q D A nL (ws' q) cn' sn' lv pc' (.ref q :: st)) : zJ p l e R s m args below meth c Q D A nL ws cn sn lv pc (.int (zI n) :: st) := by
  subst hp; subst hcn; subst hsn; subst hn
  refine fun H locs ls hP hD hS h => va_newa (atype := .int) (ty := .int) (a0 := (N', .inl (zA fun _ => 0))) C.1.1 C.1.2.1 (C.1.2.2.2.2 _ harr) rfl C.2.1 hP hD hS C.2.2.1 (fun cA => rfl) (by rw [zI_0, zI_lt (by omega) (by omega)]; omega) (by rw [zI_nat (by omega)]; rfl) (by show N' * 4 ≤ 536870912; omega) hR.1 hR.2 hd (fun q cA H1 hK1 hP1 hD1 hS1 => ?_)
  have e : cA = cI := by
    obtain ⟨-, r1⟩ := C.2.1.2 0 _ ht
    obtain ⟨-, r2⟩ := hK1.2 tys.length (cA, .int) (by simp)
    exact zRA_one r2 r1
  subst e
  rw [hws q] at hP1 hD1
  exact k q H1 locs ls hP1 hD1 hS1 h
theorem zj_newl (pc' : Nat) (cn' sn' : Nat) (ws' : Nat → va_W) (C : zC p l s m args meth c cc own Ts D tys A nL) {n : Int} {N' : Nat} {cJ : ClassId} (ht : tys[2]? = some (cJ, .long)) (harr : Cond.arrayClass .long ∈ Ts) (hn : n = (N' : Int)) (hN : N' ≤ 1000000) (hcn : cn + 1 = cn') (hsn : sn + N' = sn') (hR : cn' ≤ R.cells ∧ sn' ≤ R.slots) (hws : ∀ q, ws ++ [(q, .inl (cJ, N', .inr (.inl fun _ => 0)))] = ws' q) (hd : decode cc pc = .ok (.newarray .long, 2)) (hp : pc + 2 = pc') (k : ∀ q : Nat, zJ p l e R s m args below meth c Q D A nL (ws' q) cn' sn' lv pc' (.ref q :: st)) : zJ p l e R s m args below meth c Q D A nL ws cn sn lv pc (.int (zI n) :: st) := by
  subst hp; subst hcn; subst hsn; subst hn
  refine fun H locs ls hP hD hS h => va_newa (atype := .long) (ty := .long) (a0 := (N', .inr (.inl fun _ => 0))) C.1.1 C.1.2.1 (C.1.2.2.2.2 _ harr) rfl C.2.1 hP hD hS C.2.2.1 (fun cA => rfl) (by rw [zI_0, zI_lt (by omega) (by omega)]; omega) (by rw [zI_nat (by omega)]; rfl) (by show N' * 8 ≤ 536870912; omega) hR.1 hR.2 hd (fun q cA H1 hK1 hP1 hD1 hS1 => ?_)
  have e : cA = cJ := by
    obtain ⟨-, r1⟩ := C.2.1.2 2 _ ht
    obtain ⟨-, r2⟩ := hK1.2 tys.length (cA, .long) (by simp)
    exact zRA_one r2 r1
  subst e
  rw [hws q] at hP1 hD1
  exact k q H1 locs ls hP1 hD1 hS1 h
/-- System.arraycopy of n ints from 0 to 0 -/
theorem zj_copy (pc' q0 q1 : Nat) (ws' : va_W) (C : zC p l s m args meth c cc own Ts D tys A nL) {a a0 n0 n1 index : Nat} {cI : ClassId} {f g : Int → Int} {n : Int} {nn : Nat} (hn : n = (nn : Int)) (h4 : nn ≤ n0) (h5 : nn ≤ n1) (hs0 : nn ≤ 1000000) (ht : tys[0]? = some (cI, .int)) (ha0 : ws[q0]? = some (a0, .inl (cI, n0, .inl (zA f)))) (ha1 : ws[q1]? = some (a, .inl (cI, n1, .inl (zA g)))) (hl : Cond.methodLink own index arraycopyName ∈ Ts) (hnat : Cond.native arraycopyName ∈ Ts) (hst : Cond.static arraycopyName ∈ Ts) (hini : Cond.initialized "java/lang/System" ∈ Ts) (hfr : 1 ≤ R.frames) (hlo : (st.map fun v => v.category).sum + (nativeFrameWords "java/lang/System" "arraycopy" 5 + 11) ≤ R.locals) (hws : ws.set q1 (a, .inl (cI, n1, .inl (zA (zCp f g n)))) = ws') (hd : decode cc pc = .ok (.invokestatic index, 3)) (hp : pc + 3 = pc') (k : zJ p l e R s m args below meth c Q D A nL ws' cn sn lv pc' st) : zJ p l e R s m args below meth c Q D A nL ws cn sn lv pc (.int (zI n) :: .int (zI 0) :: .ref a :: .int (zI 0) :: .ref a0 :: st) := by
  subst hp; subst hws; subst hn
  have z0 : (zI 0).toNatClampNeg = 0 := rfl
  have zn : (zI (nn : Int)).toNatClampNeg = nn := by rw [zI_nat (by omega)]; rfl
  refine fun H locs ls hP hD hS h => va_copyi C.1.1 C.1.2.1 (C.1.2.2.1.trans h.1.symm) C.1.2.2.2.1 (C.1.2.2.2.2 _ hl) (C.1.2.2.2.2 _ hnat) (C.1.2.2.2.2 _ hst) (C.1.2.2.2.2 _ hini) C.2.1 hP hD hS q0 q1 0 0 ha0 ha1 ht ht rfl (by decide) (by decide) (by rw [zI_0, zI_lt (by omega) (by omega)]; omega) (by rw [z0, zn]; omega) (by rw [z0, zn]; omega) (fun i _ => rfl) hfr hlo hd (fun H1 locs1 hP1 hD1 hS1 => ?_)
  rw [z0, zn, zA_cpy] at hP1 hD1
  exact k H1 locs1 ls hP1 hD1 hS1 h
end ZO
section ZX
variable {p : Program} {l : Launch} {e : Env} {R : Room} {s : State} {m : MethodId} {args : Array Value} {below : List Frame} {meth : Method} {c : Code} {Q : State → Prop} {D : va_G} {A : Nat → Prop} {nL : Nat} {ws : va_W} {cn sn : Nat} {lv : List (Nat × Value)} {pc : Nat} {st : List Value} {cc : ByteArray} {own : String} {Ts : List Cond} {tys : List (ClassId × FieldType)}
theorem zcell_ext {cI : ClassId} {n : Nat} {f g : Int → Int} (h : ∀ x, 0 ≤ x → x < (n : Int) → f x = g x) : vp_cell cI (n, .inl (zA f)) = vp_cell cI (n, .inl (zA g)) := by
  rw [vp_cell_i, vp_cell_i]
  have hs : (arrV cI n (fun j => .int (zA f j))).slots = (arrV cI n (fun j => .int (zA g j))).slots := by
    apply Array.ext_getElem?
    intro j
    by_cases hj : j < n
    · rw [arrV_read cI _ hj, arrV_read cI _ hj]
      unfold zA
      rw [h (j : Int) (by omega) (by omega)]
    · rw [Array.getElem?_eq_none (by rw [arrV_size]; omega), Array.getElem?_eq_none (by rw [arrV_size]; omega)]
  unfold arrV at hs ⊢
  rw [show (Array.ofFn (n := n) fun j => Value.int (zA f j.val)) = (Array.ofFn (n := n) fun j => Value.int (zA g j.val)) from hs]
/-- another function with the same numbers in range -/
theorem zj_ext (q0 : Nat) (ws' : va_W) {a n : Nat} {cI : ClassId} {f g : Int → Int} (hfg : ∀ x, 0 ≤ x → x < (n : Int) → f x = g x) (he : ws[q0]? = some (a, .inl (cI, n, .inl (zA f)))) (hws : ws.set q0 (a, .inl (cI, n, .inl (zA g))) = ws') (k : zJ p l e R s m args below meth c Q D A nL ws' cn sn lv pc st) : zJ p l e R s m args below meth c Q D A nL ws cn sn lv pc st := by
  subst hws
  refine fun H locs ls hP hD hS h => k H locs ls (hP.set hD he ?_ (fun _ _ => rfl)) (hD.set he) hS h
  have h1 := hP q0 _ he
  show H[a]? = some (vp_cell cI (n, .inl (zA g)))
  rw [← zcell_ext hfg]
  exact h1
theorem zj_max (pc' : Nat) (C : zC p l s m args meth c cc own Ts D tys A nL) {idx : Nat} {a b : Int} (ha : -2147483648 ≤ a ∧ a < 2147483648) (hb : -2147483648 ≤ b ∧ b < 2147483648) (hl : Cond.methodLink own idx Lib.Math.max.name ∈ Ts) (hst : Cond.static Lib.Math.max.name ∈ Ts) (hi : Cond.initialized "java/lang/Math" ∈ Ts) (hco : Cond.code Lib.Math.max.name Lib.Math.max.code 2 (some .int) ∈ Ts) (hf : 1 ≤ R.frames) (hlo : (st.map fun v => v.category).sum + 13 ≤ R.locals) (hR : cn ≤ R.cells ∧ sn ≤ R.slots) (hd : decode cc pc = .ok (.invokestatic idx, 3)) (hp : pc + 3 = pc') (k : zJ p l e R s m args below meth c Q D A nL ws cn sn lv pc' (.int (zI (if a < b then b else a)) :: st)) : zJ p l e R s m args below meth c Q D A nL ws cn sn lv pc (.int (zI b) :: .int (zI a) :: st) := by
  subst hp
  have e : (if zI a < zI b then zI b else zI a) = zI (if a < b then b else a) := by
    by_cases h : a < b
    · rw [if_pos h, if_pos ((zI_lt ha hb).mpr h)]
    · rw [if_neg h, if_neg (fun q => h ((zI_lt ha hb).mp q))]
  exact fun H locs ls hP hD hS h => va_mmax C.1.1 C.1.2.1 (C.1.2.2.1.trans h.1.symm) C.1.2.2.2.1 (C.1.2.2.2.2 _ hl) (C.1.2.2.2.2 _ hst) (C.1.2.2.2.2 _ hi) (C.1.2.2.2.2 _ hco) hf hlo hR.1 hR.2 hd (by rw [e]; exact k H locs ls hP hD hS h)
theorem zj_abs (pc' : Nat) (C : zC p l s m args meth c cc own Ts D tys A nL) {idx : Nat} {a : Int} (ha : -2147483648 ≤ a ∧ a < 2147483648) (hl : Cond.methodLink own idx Lib.Math.abs.name ∈ Ts) (hst : Cond.static Lib.Math.abs.name ∈ Ts) (hi : Cond.initialized "java/lang/Math" ∈ Ts) (hco : Cond.code Lib.Math.abs.name Lib.Math.abs.code 1 (some .int) ∈ Ts) (hf : 1 ≤ R.frames) (hlo : (st.map fun v => v.category).sum + 13 ≤ R.locals) (hR : cn ≤ R.cells ∧ sn ≤ R.slots) (hd : decode cc pc = .ok (.invokestatic idx, 3)) (hp : pc + 3 = pc') (k : zJ p l e R s m args below meth c Q D A nL ws cn sn lv pc' (.int (zI (if 0 ≤ a then a else -a)) :: st)) : zJ p l e R s m args below meth c Q D A nL ws cn sn lv pc (.int (zI a) :: st) := by
  subst hp
  have e : (if 0 ≤ zI a then zI a else 0 - zI a) = zI (if 0 ≤ a then a else -a) := by
    have hz : (0 : Int32) ≤ zI a ↔ 0 ≤ a := by rw [zI_0]; exact zI_le (by omega) ha
    by_cases h : 0 ≤ a
    · rw [if_pos h, if_pos (hz.mpr h)]
    · rw [if_neg h, if_neg (fun q => h (hz.mp q)), zI_0, zI_sub]
      congr 1
      omega
  exact fun H locs ls hP hD hS h => va_mabs C.1.1 C.1.2.1 (C.1.2.2.1.trans h.1.symm) C.1.2.2.2.1 (C.1.2.2.2.2 _ hl) (C.1.2.2.2.2 _ hst) (C.1.2.2.2.2 _ hi) (C.1.2.2.2.2 _ hco) hf hlo hR.1 hR.2 hd (by rw [e]; exact k H locs ls hP hD hS h)
end ZX
