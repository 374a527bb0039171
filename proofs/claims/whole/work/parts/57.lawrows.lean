def zHR (L : List (zSt)) (S : Int → Int) : Prop := ∀ (i : Nat) (e : zSt), L[i]? = some e → e.1 ≤ 24 ∧ zRel e.1 e.2.1 e.2.2.1 e.2.2.2.1 e.2.2.2.2 (fun x => S (74 * (i : Int) + x))
theorem zHR_push {L : List (zSt)} {S Z : Int → Int} {sm : Int} {e : zSt} (h : zHR L S) (hl : (L.length : Int) = sm) (hs : sm ≤ 6) (he : e.1 ≤ 24) (hz : zRel e.1 e.2.1 e.2.2.1 e.2.2.2.1 e.2.2.2.2 Z) : zHR (if L.length < 6 then L ++ [e] else L.drop 1 ++ [e]) (zSvd S Z sm) := by
  intro i f hf
  by_cases h6 : L.length < 6
  · rw [if_pos h6] at hf
    by_cases hi : i < L.length
    · rw [List.getElem?_append_left hi] at hf
      obtain ⟨g1, g2⟩ := h i f hf
      refine ⟨g1, zRel_e g2 g1 (fun x x1 x2 => ?_)⟩
      show zSvd S Z sm (74 * (i : Int) + x) = S (74 * (i : Int) + x)
      unfold zSvd
      rw [if_neg (by omega), if_neg (by omega)]
    · rw [List.getElem?_append_right (by omega)] at hf
      have hz0 : i - L.length < 1 := (List.getElem?_eq_some_iff.mp hf).1
      rw [show i - L.length = 0 by omega] at hf
      cases hf
      refine ⟨he, zRel_e hz he (fun x x1 x2 => ?_)⟩
      show zSvd S Z sm (74 * (i : Int) + x) = Z x
      unfold zSvd
      rw [if_neg (by omega), if_pos (by omega)]
      congr 1; omega
  · rw [if_neg h6] at hf
    have hd : (L.drop 1).length = 5 := by rw [List.length_drop]; omega
    by_cases hi : i < 5
    · rw [List.getElem?_append_left (by omega), List.getElem?_drop] at hf
      obtain ⟨g1, g2⟩ := h (1 + i) f hf
      refine ⟨g1, zRel_e g2 g1 (fun x x1 x2 => ?_)⟩
      show zSvd S Z sm (74 * (i : Int) + x) = S (74 * ((1 + i : Nat) : Int) + x)
      unfold zSvd
      rw [if_pos (by omega), if_pos (by omega)]
      congr 1; omega
    · rw [List.getElem?_append_right (by omega), hd] at hf
      have hz0 : i - 5 < 1 := (List.getElem?_eq_some_iff.mp hf).1
      rw [show i - 5 = 0 by omega] at hf
      cases hf
      refine ⟨he, zRel_e hz he (fun x x1 x2 => ?_)⟩
      show zSvd S Z sm (74 * (i : Int) + x) = Z x
      unfold zSvd
      rw [if_pos (by omega), if_neg (by omega)]
      congr 1; omega
theorem zHR_pop {L : List (zSt)} {S : Int → Int} {e : zSt} (h : zHR (L ++ [e]) S) : zHR L S ∧ e.1 ≤ 24 ∧ zRel e.1 e.2.1 e.2.2.1 e.2.2.2.1 e.2.2.2.2 (fun x => S (74 * (L.length : Int) + x)) := by
  refine ⟨fun i f hf => h i f ?_, h L.length e (by simp)⟩
  have hi : i < L.length := (List.getElem?_eq_some_iff.mp hf).1
  rw [List.getElem?_append_left hi]; exact hf

/-! ===== the law: what is saved, the script's numbers, rules ===== -/
def zInvH (hs : Int) (L : List zSt) (S : Int → Int) : Prop := zHR L S ∧ (L.length : Int) = hs ∧ ∀ x, x ∈ L → zOk x.1 x.2.1 x.2.2.1 x.2.2.2.1 x.2.2.2.2
theorem zInvH_push {hs : Int} {L : List zSt} {S Z : Int → Int} {e : zSt} (h : zInvH hs L S) (hb : 0 ≤ hs ∧ hs ≤ 6) (hst : zOk e.1 e.2.1 e.2.2.1 e.2.2.2.1 e.2.2.2.2) (hz : zRel e.1 e.2.1 e.2.2.1 e.2.2.2.1 e.2.2.2.2 Z) : zInvH (zHn hs) (zPush L e) (zSvd S Z hs) := by
  obtain ⟨h1, h2, h3⟩ := h
  refine ⟨zHR_push h1 h2 hb.2 hst.1.2 hz, ?_, fun x hx => ?_⟩
  · unfold zPush zHn
    by_cases q : L.length < 6
    · rw [if_pos q, if_pos (by omega), List.length_append, List.length_singleton]; omega
    · rw [if_neg q, if_neg (by omega), List.length_append, List.length_drop, List.length_singleton]; omega
  · unfold zPush at hx
    by_cases q : L.length < 6
    · rw [if_pos q] at hx
      rcases List.mem_append.mp hx with g | g
      · exact h3 x g
      · rw [List.mem_singleton.mp g]; exact hst
    · rw [if_neg q] at hx
      rcases List.mem_append.mp hx with g | g
      · exact h3 x (List.mem_of_mem_drop g)
      · rw [List.mem_singleton.mp g]; exact hst
theorem zInvH_it {k hs : Int} {L : List zSt} {S Z : Int → Int} {e : zSt} (h : zInvH hs L S) (hb : 0 ≤ hs ∧ hs ≤ 6) (hst : zOk e.1 e.2.1 e.2.2.1 e.2.2.2.1 e.2.2.2.2) (hz : zRel e.1 e.2.1 e.2.2.1 e.2.2.2.1 e.2.2.2.2 Z) : zInvH (zIt k (zHn hs) hs) (zIt k (zPush L e) L) (zIt k (zSvd S Z hs) S) := by
  by_cases q : k = 0
  · simp only [zIt_0 q]; exact zInvH_push h hb hst hz
  · simp only [zIt_n q]; exact h
theorem zHn_it {k hs : Int} (hb : 0 ≤ hs ∧ hs ≤ 6) : 0 ≤ zIt k (zHn hs) hs ∧ zIt k (zHn hs) hs ≤ 6 := by
  unfold zIt zHn
  (repeat' split) <;> omega
theorem zOk_it {k : Int} {t o : zSt} (h0 : k = 0 → zOk t.1 t.2.1 t.2.2.1 t.2.2.2.1 t.2.2.2.2) (h1 : zOk o.1 o.2.1 o.2.2.1 o.2.2.2.1 o.2.2.2.2) : zOk (zIt k t o).1 (zIt k t o).2.1 (zIt k t o).2.2.1 (zIt k t o).2.2.2.1 (zIt k t o).2.2.2.2 := by
  by_cases q : k = 0
  · rw [zIt_0 q]; exact h0 q
  · rw [zIt_n q]; exact h1
theorem zInvH_pop {hs : Int} {L : List zSt} {S : Int → Int} {e : zSt} (h : zInvH hs (L ++ [e]) S) : zInvH (hs - 1) L S ∧ zOk e.1 e.2.1 e.2.2.1 e.2.2.2.1 e.2.2.2.2 ∧ zRel e.1 e.2.1 e.2.2.1 e.2.2.2.1 e.2.2.2.2 (fun x => S (74 * (hs - 1) + x)) := by
  obtain ⟨h1, h2, h3⟩ := h
  obtain ⟨g1, g2, g3⟩ := zHR_pop h1
  rw [List.length_append, List.length_singleton] at h2
  have hl : (L.length : Int) = hs - 1 := by omega
  rw [hl] at g3
  exact ⟨⟨g1, hl, fun x hx => h3 x (List.mem_append_left _ hx)⟩, h3 e (List.mem_append_right _ (List.mem_singleton.mpr rfl)), g3⟩
/-- back to what was saved last -/
theorem zInv_undo {hs k : Int} {L L' : List zSt} {S Z1 Z2 : Int → Int} {e o : zSt} (hk : k = zKu hs) (h : zInvH hs L S) (hb : 0 ≤ hs ∧ hs ≤ 6) (hst : zOk o.1 o.2.1 o.2.2.1 o.2.2.2.1 o.2.2.2.2) (hz : zRel o.1 o.2.1 o.2.2.1 o.2.2.2.1 o.2.2.2.2 Z1) (hL : k = 0 → L = L' ++ [e]) (h1 : ¬ k = 0 → Z2 = Z1) (h2 : k = 0 → ∀ x, 0 ≤ x → x < 74 → Z2 x = S (74 * (hs - 1) + x)) :
    zOk (zIt k e o).1 (zIt k e o).2.1 (zIt k e o).2.2.1 (zIt k e o).2.2.2.1 (zIt k e o).2.2.2.2 ∧ zRel (zIt k e o).1 (zIt k e o).2.1 (zIt k e o).2.2.1 (zIt k e o).2.2.2.1 (zIt k e o).2.2.2.2 Z2 ∧ (0 ≤ zIt k (hs - 1) hs ∧ zIt k (hs - 1) hs ≤ 6) ∧ zInvH (zIt k (hs - 1) hs) (zIt k L' L) S := by
  by_cases q : k = 0
  · simp only [zIt_0 q]
    rw [hL q] at h
    obtain ⟨g1, g2, g3⟩ := zInvH_pop h
    have hpos : ¬ hs = 0 := fun q2 => by
      rw [hk] at q; unfold zKu at q; rw [if_pos q2] at q; omega
    exact ⟨g2, zRel_e g3 g2.1.2 (fun x x1 x2 => h2 q x x1 x2), ⟨by omega, by omega⟩, g1⟩
  · simp only [zIt_n q]
    rw [h1 q]
    exact ⟨hst, hz, hb, h⟩
theorem zSv_it2 (k a b : Int) (L : List zSt) : zSv (zIt k a b) L = zIt k (zSv a L) (zSv b L) := by
  by_cases q : k = 0
  · rw [zIt_0 q, zIt_0 q]
  · rw [zIt_n q, zIt_n q]
theorem zInvH_0 (L : List zSt) (S : Int → Int) : zInvH 0 (zSv 0 L) S := by
  have e : zSv 0 L = [] := rfl
  rw [e]
  exact ⟨fun i e h => by simp at h, rfl, fun x hx => absurd hx List.not_mem_nil⟩
/-- the script's numbers -/
def zXs (xs : Nat → Int32) (i : Int) : Int := (xs i.toNat).toInt
theorem zXs_b (xs : Nat → Int32) (i : Int) : -2147483648 ≤ zXs xs i ∧ zXs xs i < 2147483648 := by
  unfold zXs
  exact ⟨by have := Int32.le_toInt (xs i.toNat); omega, by have := Int32.toInt_lt (xs i.toNat); omega⟩
theorem zlg_self (x : Int64) : lg_cmp x x = zI 0 := (lg_cmp_eq x x).mpr rfl
section ZLW
variable {p : Program} {l : Launch} {e : Env} {R : Room} {s : State} {m : MethodId} {args : Array Value} {below : List Frame} {meth : Method} {c : Code} {Q : State → Prop} {D : va_G} {A : Nat → Prop} {nL : Nat} {ws : va_W} {cn sn : Nat} {lv : List (Nat × Value)} {pc : Nat} {st : List Value} {cc : ByteArray} {own : String} {Ts : List Cond} {tys : List (ClassId × FieldType)}
theorem zj_sld (pc' : Nat) (v : Int) (C : zC p l s m args meth c cc own Ts D tys A nL) {b L : Nat} {xs : Nat → Int32} (hX : va_X b L xs s s.heap) (hbl : b < s.heap.size) (hbA : ¬ A b) {i : Int} (hi : 0 ≤ i ∧ i < L) (hL : L ≤ 2560) (hv : zXs xs i = v) (hd : decode cc pc = .ok (.iaload, 1)) (hp : pc + 1 = pc') (k : zJ p l e R s m args below meth c Q D A nL ws cn sn lv pc' (.int (zI v) :: st)) : zJ p l e R s m args below meth c Q D A nL ws cn sn lv pc (.int (zI i) :: .ref b :: st) := by
  subst hp; subst hv
  have ev : xs (zI i).toNatClampNeg = zI (zXs xs i) := by
    rw [zI_nat (by omega)]; exact zI_of _
  exact fun H locs ls hP hD hS hl => va_sld C.1.1 C.1.2.1 hX hbl hbA hS (zI_in hi (by omega)) hd (by rw [ev]; exact k H locs ls hP hD hS hl)
theorem zj_slen (pc' : Nat) (C : zC p l s m args meth c cc own Ts D tys A nL) {b L : Nat} {xs : Nat → Int32} (hX : va_X b L xs s s.heap) (hbl : b < s.heap.size) (hbA : ¬ A b) (hd : decode cc pc = .ok (.arraylength, 1)) (hp : pc + 1 = pc') (k : zJ p l e R s m args below meth c Q D A nL ws cn sn lv pc' (.int (zI (L : Int)) :: st)) : zJ p l e R s m args below meth c Q D A nL ws cn sn lv pc (.ref b :: st) := by
  subst hp
  exact fun H locs ls hP hD hS hl => va_slen C.1.1 C.1.2.1 hX hbl hbA hS hd (by rw [zI_ofNat]; exact k H locs ls hP hD hS hl)
theorem zj_icmp_rfl (tgt : Nat) (C : zC p l s m args meth c cc own Ts D tys A nL) {x : Int32} {off : Int} (hd : decode cc pc = .ok (.if_icmp .eq off, 3)) (ht : (pc : Int) + off = (tgt : Int)) (k : zJ p l e R s m args below meth c Q D A nL ws cn sn lv tgt st) : zJ p l e R s m args below meth c Q D A nL ws cn sn lv pc (.int x :: .int x :: st) :=
  fun H locs ls hP hD hS hl => lv_icmp_eq C.1.1 C.1.2.1 hd ht (fun _ => k H locs ls hP hD hS hl) (fun h => absurd rfl h)
end ZLW

def zLawAt (p : Program) (l : Launch) (e : Env) (s : State) (m : MethodId) (args : Array Value) (below : List Frame) (meth : Method) (c : Code) (Q : State → Prop) (D : va_G) (A : Nat → Prop) (cI cS cJ : ClassId) (b pc : Nat) (i9 : Int) (c9 : Nat) : Prop :=
  ∀ (q0 : Nat) (q2 : Nat) (g1 : Nat) (g2 : Nat) (g3 : Nat) (q1 : Nat) (a0 : Nat) (a1 : Nat) (a2 : Nat) (a3 : Nat) (a4 : Nat) (a5 : Nat) (a6 : Nat) (a7 : Nat) (qt : Nat) (ql : Nat) (qh : Nat) (qx : Nat) (n1 : Int) (sg : Int) (pg : Int) (rw : Int) (un : Int) (K1 : Int → Int) (W1 : Int → Int) (T1 : Int → Int) (P1 : Int → Int) (R1 : Int → Int) (U1 : Int → Int) (u1 : Nat) (u2 : Nat) (u3 : Nat) (v0 : Nat) (v1 : Nat) (v2 : Nat) (v3 : Nat) (v4 : Nat) (v5 : Nat) (v6 : Nat) (v7 : Nat) (nt : Int) (st : Int) (pgt : Int) (rwt : Int) (unt : Int) (ust : Int) (bet : Int) (fit : Int) (lot : Int) (kt : Int → Int) (wt : Int → Int) (tt : Int → Int) (Pt : Int → Int) (Rt : Int → Int) (Ut : Int → Int) (ct : Int → Int) (bt : Int → Int) (ft : Int → Int) (srt : Int → Int) (et : Int → Int) (hq : Nat) (hs : Int) (h0 : Nat) (x0 : Nat) (y0 : Nat) (z0 : Nat) (h1 : Nat) (x1 : Nat) (y1 : Nat) (z1 : Nat) (h2 : Nat) (x2 : Nat) (y2 : Nat) (z2 : Nat) (h3 : Nat) (x3 : Nat) (y3 : Nat) (z3 : Nat) (h4 : Nat) (x4 : Nat) (y4 : Nat) (z4 : Nat) (h5 : Nat) (x5 : Nat) (y5 : Nat) (z5 : Nat) (e0 : zSt) (e1 : zSt) (e2 : zSt) (e3 : zSt) (e4 : zSt) (e5 : zSt) (xb : Nat) (tl : Int) (F1 : Int → Int) (qo : Nat) (ot : Nat → Int64) (q5 : Nat) (m0 : Nat) (m1 : Nat) (m2 : Nat) (m3 : Nat) (m4 : Nat) (m5 : Nat) (m6 : Nat) (m7 : Nat) (m8 : Nat) (m9 : Nat) (th : Int) (mp : Int) (mr : Int) (mu : Int) (pm : Int) (sp : Int) (wr : Int) (ha : Int64) (Z1 : Int → Int) (S1 : Int → Int) (Pm : Int → Int) (Rm : Int → Int) (Um : Int → Int) (Gm : Int → Int) (bm : Int → Int) (cm : Int → Int) (Pq : Int → Int), (zOk n1 sg K1 W1 T1) → (∀ i : Nat, (i : Int) < n1 → P1 i = (zPos sg K1 W1 T1 i).1 ∧ R1 i = (zPos sg K1 W1 T1 i).2.1 ∧ U1 i = (zPos sg K1 W1 T1 i).2.2) → (zRel n1 sg K1 W1 T1 Z1) → (0 ≤ hs ∧ hs ≤ 6) → (zInvH hs (zSv hs [e0, e1, e2, e3, e4, e5]) S1) → (0 ≤ tl ∧ tl ≤ 60) → (∀ x, 0 ≤ x → x < tl → 0 ≤ F1 x ∧ F1 x ≤ 1000) → zJ p l e room_1 s m args below meth c Q D A 9 [(q0, .inr (4, [.ref q2, .ref q1, .ref qt, .ref ql, .ref qh, .ref qx])), (q2, .inr (2, [.ref g1, .ref g2, .ref g3, .int (zI n1), .int (zI sg)])), (g1, .inl (cI, 24, .inl (zA K1))), (g2, .inl (cI, 24, .inl (zA W1))), (g3, .inl (cI, 24, .inl (zA T1))), (q1, .inr (1, [.ref a0, .ref a1, .ref a2, .ref a3, .ref a4, .ref a5, .ref a6, .ref a7, .int (zI pg), .int (zI rw), .int (zI un), .int (zI ((zFin sg K1 W1 T1 n1).2.2.2.2.2.2.2.2.1)), .int (zI ((zFin sg K1 W1 T1 n1).2.2.2.2.2.2.2.2.2.1)), .int (zI ((zFin sg K1 W1 T1 n1).2.2.2.2.2.2.2.2.2.2)), .int (zI (zOut n1 sg K1 W1 T1))])), (a0, .inl (cI, 24, .inl (zA P1))), (a1, .inl (cI, 24, .inl (zA R1))), (a2, .inl (cI, 24, .inl (zA U1))), (a3, .inl (cI, 16, .inl (zA ((zFin sg K1 W1 T1 n1).2.2.2.2.1)))), (a4, .inl (cI, 16, .inl (zA ((zFin sg K1 W1 T1 n1).2.2.2.2.2.1)))), (a5, .inl (cI, 16, .inl (zA ((zFin sg K1 W1 T1 n1).2.2.2.2.2.2.1)))), (a6, .inl (cI, 16, .inl (zA ((zFin sg K1 W1 T1 n1).2.2.2.2.2.2.2.1)))), (a7, .inl (cI, 16, .inl (zA ((zFin sg K1 W1 T1 n1).2.2.2.1)))), (qt, .inr (2, [.ref u1, .ref u2, .ref u3, .int (zI nt), .int (zI st)])), (u1, .inl (cI, 24, .inl (zA kt))), (u2, .inl (cI, 24, .inl (zA wt))), (u3, .inl (cI, 24, .inl (zA tt))), (ql, .inr (1, [.ref v0, .ref v1, .ref v2, .ref v3, .ref v4, .ref v5, .ref v6, .ref v7, .int (zI pgt), .int (zI rwt), .int (zI unt), .int (zI ust), .int (zI bet), .int (zI fit), .int (zI lot)])), (v0, .inl (cI, 24, .inl (zA Pt))), (v1, .inl (cI, 24, .inl (zA Rt))), (v2, .inl (cI, 24, .inl (zA Ut))), (v3, .inl (cI, 16, .inl (zA ct))), (v4, .inl (cI, 16, .inl (zA bt))), (v5, .inl (cI, 16, .inl (zA ft))), (v6, .inl (cI, 16, .inl (zA srt))), (v7, .inl (cI, 16, .inl (zA et))), (qh, .inr (0, [.ref hq, .int (zI hs)])), (hq, .inl (cS, 6, .inr (.inr (.inr (.inr (zQs [some h0, some h1, some h2, some h3, some h4, some h5])))))), (h0, .inr (2, [.ref x0, .ref y0, .ref z0, .int (zI e0.1), .int (zI e0.2.1)])), (x0, .inl (cI, 24, .inl (zA e0.2.2.1))), (y0, .inl (cI, 24, .inl (zA e0.2.2.2.1))), (z0, .inl (cI, 24, .inl (zA e0.2.2.2.2))), (h1, .inr (2, [.ref x1, .ref y1, .ref z1, .int (zI e1.1), .int (zI e1.2.1)])), (x1, .inl (cI, 24, .inl (zA e1.2.2.1))), (y1, .inl (cI, 24, .inl (zA e1.2.2.2.1))), (z1, .inl (cI, 24, .inl (zA e1.2.2.2.2))), (h2, .inr (2, [.ref x2, .ref y2, .ref z2, .int (zI e2.1), .int (zI e2.2.1)])), (x2, .inl (cI, 24, .inl (zA e2.2.2.1))), (y2, .inl (cI, 24, .inl (zA e2.2.2.2.1))), (z2, .inl (cI, 24, .inl (zA e2.2.2.2.2))), (h3, .inr (2, [.ref x3, .ref y3, .ref z3, .int (zI e3.1), .int (zI e3.2.1)])), (x3, .inl (cI, 24, .inl (zA e3.2.2.1))), (y3, .inl (cI, 24, .inl (zA e3.2.2.2.1))), (z3, .inl (cI, 24, .inl (zA e3.2.2.2.2))), (h4, .inr (2, [.ref x4, .ref y4, .ref z4, .int (zI e4.1), .int (zI e4.2.1)])), (x4, .inl (cI, 24, .inl (zA e4.2.2.1))), (y4, .inl (cI, 24, .inl (zA e4.2.2.2.1))), (z4, .inl (cI, 24, .inl (zA e4.2.2.2.2))), (h5, .inr (2, [.ref x5, .ref y5, .ref z5, .int (zI e5.1), .int (zI e5.2.1)])), (x5, .inl (cI, 24, .inl (zA e5.2.2.1))), (y5, .inl (cI, 24, .inl (zA e5.2.2.2.1))), (z5, .inl (cI, 24, .inl (zA e5.2.2.2.2))), (qx, .inr (3, [.ref xb, .int (zI tl)])), (xb, .inl (cI, 60, .inl (zA F1))), (qo, .inl (cJ, 1, .inr (.inl ot))), (q5, .inr (5, [.int (zI th), .ref m0, .ref m1, .int (zI hs), .ref m2, .int (zI tl), .ref m3, .ref m4, .ref m5, .ref m6, .ref m7, .ref m8, .int (zI mp), .int (zI mr), .int (zI mu), .ref m9, .int (zI pm), .int (zI sp), .int (zI wr), .long ha])), (m0, .inl (cI, 74, .inl (zA Z1))), (m1, .inl (cI, 444, .inl (zA S1))), (m2, .inl (cI, 60, .inl (zA F1))), (m3, .inl (cI, 24, .inl (zA Pm))), (m4, .inl (cI, 24, .inl (zA Rm))), (m5, .inl (cI, 24, .inl (zA Um))), (m6, .inl (cI, 384, .inl (zA Gm))), (m7, .inl (cI, 16, .inl (zA bm))), (m8, .inl (cI, 16, .inl (zA cm))), (m9, .inl (cI, 93, .inl (zA Pq)))] (67 + c9) (2206 + 6 * c9) [(0, .ref b), (1, .ref q0), (2, .ref q5), (3, .ref qo), (4, .int (zI i9))] pc []
