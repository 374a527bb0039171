section ZQ
variable {p : Program} {l : Launch} {e : Env} {R : Room} {s : State} {m : MethodId} {args : Array Value} {below : List Frame} {meth : Method} {c : Code} {Q : State → Prop} {D : va_G} {A : Nat → Prop} {nL : Nat} {ws : va_W} {cn sn : Nat} {lv : List (Nat × Value)} {pc : Nat} {st : List Value} {cc : ByteArray} {own : String} {Ts : List Cond} {tys : List (ClassId × FieldType)}
/-- a row of references, by its list -/
def zQs (L : List (Option Nat)) : Nat → Option Nat := fun j => L.getD j none
theorem zQs_up (L : List (Option Nat)) (i : Nat) (v : Option Nat) (h : i < L.length) : va_up (zQs L) i v = zQs (L.set i v) := by
  funext j
  unfold va_up zQs
  by_cases hj : j = i
  · subst hj
    simp [h]
  · simp [hj, List.getD_eq_getElem?_getD, List.getElem?_set, Ne.symm hj]
theorem zj_qald (pc' q0 i : Nat) (C : zC p l s m args meth c cc own Ts D tys A nL) {a n x : Nat} {cS : ClassId} {L : List (Option Nat)} {z : Int} (hz : z = (i : Int)) (hn : i < n ∧ n ≤ 1000000) (he : ws[q0]? = some (a, .inl (cS, n, .inr (.inr (.inr (.inr (zQs L))))))) (hx : L[i]? = some (some x)) (ht : tys[1]? = some (cS, .object RX2)) (hd : decode cc pc = .ok (.aaload, 1)) (hp : pc + 1 = pc') (k : zJ p l e R s m args below meth c Q D A nL ws cn sn lv pc' (.ref x :: st)) : zJ p l e R s m args below meth c Q D A nL ws cn sn lv pc (.int (zI z) :: .ref a :: st) := by
  subst hp; subst hz
  have e1 : va_rf (zQs L (zI (i : Int)).toNatClampNeg) = .ref x := by
    rw [zI_nat (by omega)]
    show va_rf (L.getD i none) = _
    rw [List.getD_eq_getElem?_getD, hx]; rfl
  exact fun H locs ls hP hD hS hl => va_aldq C.1.1 C.1.2.1 C.2.1 hP q0 1 he ht (zI_in ⟨by omega, by omega⟩ (by omega)) hd (by rw [e1]; exact k H locs ls hP hD hS hl)
theorem zj_qast (pc' q0 qk i : Nat) (ws' : va_W) (C : zC p l s m args meth c cc own Ts D tys A nL) {a n x : Nat} {cS : ClassId} {L L' : List (Option Nat)} {z : Int} {vs : List Value} (hz : z = (i : Int)) (hn : i < n ∧ n ≤ 1000000) (he : ws[q0]? = some (a, .inl (cS, n, .inr (.inr (.inr (.inr (zQs L))))))) (hlen : i < L.length) (hv : ws[qk]? = some (x, .inr (2, vs))) (hL : L.set i (some x) = L') (ht : tys[1]? = some (cS, .object RX2)) (hws : ws.set q0 (a, .inl (cS, n, .inr (.inr (.inr (.inr (zQs L')))))) = ws') (hd : decode cc pc = .ok (.aastore, 1)) (hp : pc + 1 = pc') (k : zJ p l e R s m args below meth c Q D A nL ws' cn sn lv pc' st) : zJ p l e R s m args below meth c Q D A nL ws cn sn lv pc (.ref x :: .int (zI z) :: .ref a :: st) := by
  subst hp; subst hz; subst hws; subst hL
  have e1 : va_up (zQs L) (zI (i : Int)).toNatClampNeg (some x) = zQs (L.set i (some x)) := by
    rw [zI_nat (by omega)]; exact zQs_up L i _ hlen
  exact fun H locs ls hP hD hS hl => va_astq (r := (RX2, TX2, 5)) C.1.1 C.1.2.1 C.2.1 hP hD hS q0 1 qk 2 he ht hv rfl (zI_in ⟨by omega, by omega⟩ (by omega)) hd (fun H1 locs1 hP1 hD1 hS1 => by
    rw [e1] at hP1 hD1
    exact k H1 locs1 ls hP1 hD1 hS1 hl)
theorem zj_newq (pc' : Nat) (cn' sn' : Nat) (ws' : Nat → va_W) (C : zC p l s m args meth c cc own Ts D tys A nL) {n : Int} {N' index : Nat} {cS : ClassId} {L : List (Option Nat)} (hL : zQs L = fun _ => none) (ht : tys[1]? = some (cS, .object RX2)) (hcl : Cond.classLink own index RX2 ∈ Ts) (hn : n = (N' : Int)) (hN : N' ≤ 1000000) (hcn : cn + 1 = cn') (hsn : sn + N' = sn') (hR : cn' ≤ R.cells ∧ sn' ≤ R.slots) (hws : ∀ q, ws ++ [(q, .inl (cS, N', .inr (.inr (.inr (.inr (zQs L))))))] = ws' q) (hd : decode cc pc = .ok (.anewarray index, 3)) (hp : pc + 3 = pc') (k : ∀ q : Nat, zJ p l e R s m args below meth c Q D A nL (ws' q) cn' sn' lv pc' (.ref q :: st)) : zJ p l e R s m args below meth c Q D A nL ws cn sn lv pc (.int (zI n) :: st) := by
  subst hp; subst hcn; subst hsn; subst hn
  refine fun H locs ls hP hD hS h => va_newq (C := RX2) C.1.1 C.1.2.1 C.1.2.2.2.1 (C.1.2.2.2.2 _ hcl) C.2.2.2.2.2.2.1 C.2.1 hP hD hS C.2.2.1 (by rw [zI_0, zI_lt (by omega) (by omega)]; omega) (by rw [zI_nat (by omega)]; rfl) (by omega) hR.1 hR.2 hd (fun q cA H1 hK1 hP1 hD1 hS1 => ?_)
  have e : cA = cS := by
    obtain ⟨-, r1⟩ := C.2.1.2 1 _ ht
    obtain ⟨-, r2⟩ := hK1.2 tys.length (cA, .object RX2) (by simp)
    exact zRA_one r2 r1
  subst e
  rw [← hL, hws q] at hP1 hD1
  exact k q H1 locs ls hP1 hD1 hS1 h
end ZQ
theorem zQs_no : ∀ n : Nat, zQs (List.replicate n none) = fun _ => none := by
  intro n; funext j; unfold zQs
  rw [List.getD_eq_getElem?_getD, List.getElem?_replicate]
  split <;> rfl
theorem zMv_mono {l : Launch} {y : MethodName} {wy : List Cond} {rm : Room} {D : va_G} {tys : List (ClassId × FieldType)} {av : List Value} {wc : va_W} {p1 p2 : va_W → Prop} {mc ms : Nat} (h : ∀ w, p1 w → p2 w) (hm : zMv l y wy rm D tys av wc p1 mc ms) : zMv l y wy rm D tys av wc p2 mc ms := by
  intro sz
  intro p e ha hc hk s m args below hf happ hP hK
  obtain ⟨n, o, h1, h2, h3, ⟨⟨u, g1, g2, g3⟩, g4⟩, h5⟩ := hm sz p e ha hc hk s m args below hf happ hP hK
  exact ⟨n, o, h1, h2, h3, ⟨⟨u, g1, h _ g2, g3⟩, g4⟩, h5⟩
section ZI2
variable {p : Program} {l : Launch} {e : Env} {R : Room} {s : State} {m : MethodId} {args : Array Value} {below : List Frame} {meth : Method} {c : Code} {Q : State → Prop} {D : va_G} {A : Nat → Prop} {nL : Nat} {ws : va_W} {cn sn : Nat} {lv : List (Nat × Value)} {pc : Nat} {st : List Value} {cc : ByteArray} {own : String} {Ts : List Cond} {tys : List (ClassId × FieldType)}
theorem zj_i2lu (pc' : Nat) (C : zC p l s m args meth c cc own Ts D tys A nL) {a : Int} (hd : decode cc pc = .ok (.i2l, 1)) (hp : pc + 1 = pc') (k : zJ p l e R s m args below meth c Q D A nL ws cn sn lv pc' (.long (zI a).toInt64 :: st)) : zJ p l e R s m args below meth c Q D A nL ws cn sn lv pc (.int (zI a) :: st) := by
  subst hp
  exact fun H locs ls hP hD hS h => lv_i2l C.1.1 C.1.2.1 hd rfl (k H locs ls hP hD hS h)
end ZI2
