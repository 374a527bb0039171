/-- the first k numbers of panel p and of the next exchanged -/
def zXk (Z : Int → Int) (p k : Int) : Int → Int := fun x => if 2 + 3 * p ≤ x ∧ x < 2 + 3 * p + k then Z (x + 3) else if 2 + 3 * (p + 1) ≤ x ∧ x < 2 + 3 * (p + 1) + k then Z (x - 3) else Z x
theorem zXk_0 (Z : Int → Int) (p x : Int) : zXk Z p 0 x = Z x := by unfold zXk; rw [if_neg (by omega), if_neg (by omega)]
theorem zXk_s (Z : Int → Int) (p k : Int) (hk : 0 ≤ k ∧ k < 3) (x : Int) : zU (zU (zXk Z p k) (2 + 3 * p + k) (zXk Z p k (2 + 3 * (p + 1) + k))) (2 + 3 * (p + 1) + k) (zXk Z p k (2 + 3 * p + k)) x = zXk Z p (k + 1) x := by
  have e1 : zXk Z p k (2 + 3 * (p + 1) + k) = Z (2 + 3 * (p + 1) + k) := by unfold zXk; rw [if_neg (by omega), if_neg (by omega)]
  have e2 : zXk Z p k (2 + 3 * p + k) = Z (2 + 3 * p + k) := by unfold zXk; rw [if_neg (by omega), if_neg (by omega)]
  rw [e1, e2]
  by_cases h1 : x = 2 + 3 * (p + 1) + k
  · subst h1
    rw [zU_eq]
    unfold zXk
    rw [if_neg (by omega), if_pos (by omega)]
    congr 1; omega
  · rw [zU_ne _ _ h1]
    by_cases h2 : x = 2 + 3 * p + k
    · subst h2
      rw [zU_eq]
      unfold zXk
      rw [if_pos (by omega)]
      congr 1; omega
    · rw [zU_ne _ _ h2]
      unfold zXk
      by_cases h3 : 2 + 3 * p ≤ x ∧ x < 2 + 3 * p + k
      · rw [if_pos h3, if_pos (by omega)]
      · rw [if_neg h3]
        by_cases h4 : 2 + 3 * (p + 1) ≤ x ∧ x < 2 + 3 * (p + 1) + k
        · rw [if_pos h4, if_neg (show ¬ (2 + 3 * p ≤ x ∧ x < 2 + 3 * p + (k + 1)) by omega), if_pos (show 2 + 3 * (p + 1) ≤ x ∧ x < 2 + 3 * (p + 1) + (k + 1) by omega)]
        · rw [if_neg h4, if_neg (show ¬ (2 + 3 * p ≤ x ∧ x < 2 + 3 * p + (k + 1)) by omega), if_neg (show ¬ (2 + 3 * (p + 1) ≤ x ∧ x < 2 + 3 * (p + 1) + (k + 1)) by omega)]
theorem zXk_2 (Z : Int → Int) (p x : Int) : zXk (zXk Z p 3) p 3 x = Z x := by
  by_cases h1 : 2 + 3 * p ≤ x ∧ x < 2 + 3 * p + 3
  · have e : zXk (zXk Z p 3) p 3 x = zXk Z p 3 (x + 3) := by
      show (if _ then _ else _) = _
      rw [if_pos h1]
    rw [e]; unfold zXk
    rw [if_neg (by omega), if_pos (by omega)]
    congr 1; omega
  · by_cases h2 : 2 + 3 * (p + 1) ≤ x ∧ x < 2 + 3 * (p + 1) + 3
    · have e : zXk (zXk Z p 3) p 3 x = zXk Z p 3 (x - 3) := by
        show (if _ then _ else if _ then _ else _) = _
        rw [if_neg h1, if_pos h2]
      rw [e]; unfold zXk
      rw [if_pos (by omega)]
      congr 1; omega
    · unfold zXk
      rw [if_neg h1, if_neg h2, if_neg h1, if_neg h2]
theorem zRel_ex {n sg p : Int} {K W T Z : Int → Int} (h : zRel n sg K W T Z) (hp : 0 ≤ p ∧ p + 1 < n) : zRel n sg (zEx K p) (zEx W p) (zEx T p) (zXk Z p 3) := by
  obtain ⟨h1, h2, h3⟩ := h
  refine ⟨?_, ?_, fun x x1 x2 => ?_⟩
  · unfold zXk; rw [if_neg (by omega), if_neg (by omega)]; exact h1
  · unfold zXk; rw [if_neg (by omega), if_neg (by omega)]; exact h2
  · have key : ∀ (f : Int → Int) (c : Int), 0 ≤ c → c < 3 → (∀ y, 0 ≤ y → y < n → Z (2 + 3 * y + c) = f y) → zXk Z p 3 (2 + 3 * x + c) = zEx f p x := fun f c c1 c2 hf => by
      unfold zEx zXk
      by_cases a1 : x = p + 1
      · subst a1
        rw [zU_eq, if_neg (by omega), if_pos (by omega), ← hf p (by omega) (by omega)]
        congr 1; omega
      · rw [zU_ne _ _ a1]
        by_cases a2 : x = p
        · subst a2
          rw [zU_eq, if_pos (by omega), ← hf (x + 1) (by omega) (by omega)]
          congr 1; omega
        · rw [zU_ne _ _ a2, if_neg (by omega), if_neg (by omega)]
          exact hf x x1 x2
    exact ⟨key K 0 (by omega) (by omega) (fun y y1 y2 => (h3 y y1 y2).1), key W 1 (by omega) (by omega) (fun y y1 y2 => (h3 y y1 y2).2.1), key T 2 (by omega) (by omega) (fun y y1 y2 => (h3 y y1 y2).2.2)⟩
theorem zRel_s {n sg s : Int} {K W T Z : Int → Int} (h : zRel n sg K W T Z) : zRel n s K W T (zU Z 0 s) :=
  ⟨by rw [zU_ne _ _ (by omega)]; exact h.1, zU_eq _ _ _, fun x x1 x2 => by
    dsimp only [zKz, zWz, zTz]
    rw [zU_ne _ _ (by omega), zU_ne _ _ (by omega), zU_ne _ _ (by omega)]
    exact h.2.2 x x1 x2⟩
theorem zRel_w {n sg p w : Int} {K W T Z Z' : Int → Int} (h : zRel n sg K W T Z) (hp : 0 ≤ p) (hz : ∀ x, ¬ x = 2 + 3 * p + 1 → Z' x = Z x) (hw : Z' (2 + 3 * p + 1) = w) : zRel n sg K (zU W p w) T Z' :=
  ⟨by rw [hz _ (by omega)]; exact h.1, by rw [hz _ (by omega)]; exact h.2.1, fun x x1 x2 => by
    dsimp only [zKz, zWz, zTz]
    rw [hz (2 + 3 * x + 0) (by omega), hz (2 + 3 * x + 2) (by omega)]
    refine ⟨(h.2.2 x x1 x2).1, ?_, (h.2.2 x x1 x2).2.2⟩
    by_cases e : x = p
    · subst e; rw [zU_eq]; exact hw
    · rw [zU_ne _ _ e, hz _ (by omega)]; exact (h.2.2 x x1 x2).2.1⟩
theorem zLex {o1 u1 e1 o2 u2 e2 : Int} (h1 : 0 ≤ u1 ∧ u1 ≤ 16) (h2 : 0 ≤ u2 ∧ u2 ≤ 16) (h3 : 0 ≤ e1 ∧ e1 ≤ 384) (h4 : 0 ≤ e2 ∧ e2 ≤ 384) : (o1 * 17 + u1) * 385 + e1 < (o2 * 17 + u2) * 385 + e2 ↔ 100000 * o1 + 1000 * u1 + e1 < 100000 * o2 + 1000 * u2 + e2 := by
  rcases Int.lt_trichotomy o1 o2 with h | h | h
  · exact ⟨fun _ => by omega, fun _ => by omega⟩
  · subst h
    rcases Int.lt_trichotomy u1 u2 with h | h | h
    · exact ⟨fun _ => by omega, fun _ => by omega⟩
    · subst h; exact ⟨fun _ => by omega, fun _ => by omega⟩
    · exact ⟨fun _ => by omega, fun _ => by omega⟩
  · exact ⟨fun _ => by omega, fun _ => by omega⟩
theorem zBw_l {f g : Int → Int} (m0 : Nat) (h : ∀ i j : Int, 1 ≤ i → i ≤ m0 → 1 ≤ j → j ≤ m0 → (f i < f j ↔ g i < g j)) : ∀ m : Nat, m ≤ m0 → (m = 0 ∧ zBw f m = (-1, 0) ∧ zBw g m = (-1, 0)) ∨ ∃ i : Int, (1 ≤ i ∧ i ≤ m) ∧ zBw f m = (i, f i) ∧ zBw g m = (i, g i)
  | 0, _ => Or.inl ⟨rfl, rfl, rfl⟩
  | m + 1, hm => by
    right
    rcases zBw_l m0 h m (by omega) with ⟨e0, e1, e2⟩ | ⟨i, i1, e1, e2⟩
    · refine ⟨(m : Int) + 1, by omega, ?_, ?_⟩
      · rw [zBw, e1, if_pos (Or.inl rfl)]
      · rw [zBw, e2, if_pos (Or.inl rfl)]
    · have hh := h ((m : Int) + 1) i (by omega) (by omega) i1.1 (by omega)
      by_cases q : f ((m : Int) + 1) < f i
      · refine ⟨(m : Int) + 1, by omega, ?_, ?_⟩
        · rw [zBw, e1, if_pos (Or.inr q)]
        · rw [zBw, e2, if_pos (Or.inr (hh.mp q))]
      · refine ⟨i, by omega, ?_, ?_⟩
        · rw [zBw, e1, if_neg]
          rintro (a | a)
          · dsimp only at a; omega
          · exact q a
        · rw [zBw, e2, if_neg]
          rintro (a | a)
          · dsimp only at a; omega
          · exact q (hh.mpr a)
theorem zq_emp {n sg : Int} {K W T : Int → Int} (hok : zOk n sg K W T) : 0 ≤ zEmp (zFin sg K W T n) ∧ zEmp (zFin sg K W T n) ≤ 384 := by
  have h := zq_fi hok
  unfold zEmp; omega
theorem zBw_m {n sg p : Int} {K W T : Int → Int} (hok : zOk n sg K W T) : (zBw (fun w => zCosM n sg K (zU W p w) T) 6).1 = (zBw (fun w => zCost n sg K (zU W p w) T) 6).1 := by
  have h := zBw_l (f := fun w => zCost n sg K (zU W p w) T) (g := fun w => zCosM n sg K (zU W p w) T) 6 (fun i j i1 i2 j1 j2 => by
    have oi := zOk_w (p := p) hok (w := i) (by omega)
    have oj := zOk_w (p := p) hok (w := j) (by omega)
    exact zLex (zFin_m oi).1 (zFin_m oj).1 (zq_emp oi) (zq_emp oj)) 6 (Nat.le_refl 6)
  rcases h with ⟨e, -⟩ | ⟨i, -, e1, e2⟩
  · exact absurd e (by omega)
  · rw [e1, e2]

abbrev rm_X5_isForm : Room := { frames := 1, cells := 0, slots := 0, locals := 22 }
set_option maxRecDepth 100000 in
set_option maxHeartbeats 4000000 in
theorem c_X5_isForm (l : Launch) (D : va_G) (cI cS cJ : ClassId) (w1 : Int) (t1 : Int) (hw1 : -2147483648 ≤ w1 ∧ w1 < 2147483648) (ht1 : -2147483648 ≤ t1 ∧ t1 < 2147483648) : zMi l yX5_isForm wsX5_isForm rm_X5_isForm D (zTy cI cS cJ) [.int (zI w1), .int (zI t1)] [] (fun r w => ∃ (r1 : Int), ((r1 = 1 ∧ 1 ≤ w1 ∧ w1 ≤ 6 ∧ 1 ≤ t1 ∧ t1 ≤ 9) ∨ (r1 = 0 ∧ (w1 < 1 ∨ 6 < w1 ∨ t1 < 1 ∨ 9 < t1))) ∧ r = zI r1 ∧ w = []) 0 0 := by
  intro sz
  refine zMet_of (Qc := fun A => va_Qi _ (zB D (zTy cI cS cJ) A) A) RX5 [(0, .int (zI w1)), (1, .int (zI t1))] rfl (by decide +kernel) rfl (Nat.le_of_ble_eq_true rfl) rfl ?_ sz
  intro p e s m args below meth c A Q hQ C hr hini
  refine zj_iload_n 1 0 C dX5_isForm_0 rfl rfl rfl ?_
  refine zj_iconst 2 C dX5_isForm_1 rfl ?_
  refine zj_bipush 4 C dX5_isForm_2 rfl rfl ?_
  refine zj_ci 7 [] [] C (wr := []) (zr_S [] C (As := [.int (zI w1), .int (zI 1), .int (zI 6)]) (rest := []) (c_X5_in l D cI cS cJ w1 1 6 (by omega) (by omega) (by omega)) (va_cwS 3 C.1.2.2.2.2 gX5_isForm_X5_in rfl rfl rfl (by decide +kernel) ⟨Nat.le_of_ble_eq_true rfl, Nat.le_of_ble_eq_true rfl⟩) rfl (by decide) rfl rfl (Nat.le_of_ble_eq_true rfl) dX5_isForm_4 ⟨Nat.le_of_ble_eq_true rfl, Nat.le_of_ble_eq_true rfl⟩) rfl rfl (by decide) (by decide) rfl (fun r_1 w_ hp_2 => ?_)
  obtain ⟨r1_3, f_4, rfl, rfl⟩ := hp_2
  refine zj_ws (ws' := []) rfl ?_
  refine zj_if_eq 10 24 C (by omega) dX5_isForm_7 rfl (by decide) (fun h_5 => ?_) (fun h_5 => ?_)
  · skip
    refine zj_iconst 25 C dX5_isForm_24 rfl ?_
    subst hQ
    exact zj_zret C (zI_bool (by omega)) hr ⟨0, (by omega), rfl, rfl⟩ (by decide) (by decide) dX5_isForm_25
  · skip
    refine zj_iload_n 11 1 C dX5_isForm_10 rfl rfl rfl ?_
    refine zj_iconst 12 C dX5_isForm_11 rfl ?_
    refine zj_bipush 14 C dX5_isForm_12 rfl rfl ?_
    refine zj_ci 17 [] [] C (wr := []) (zr_S [] C (As := [.int (zI t1), .int (zI 1), .int (zI 9)]) (rest := []) (c_X5_in l D cI cS cJ t1 1 9 (by omega) (by omega) (by omega)) (va_cwS 3 C.1.2.2.2.2 gX5_isForm_X5_in rfl rfl rfl (by decide +kernel) ⟨Nat.le_of_ble_eq_true rfl, Nat.le_of_ble_eq_true rfl⟩) rfl (by decide) rfl rfl (Nat.le_of_ble_eq_true rfl) dX5_isForm_14 ⟨Nat.le_of_ble_eq_true rfl, Nat.le_of_ble_eq_true rfl⟩) rfl rfl (by decide) (by decide) rfl (fun r_6 w_ hp_7 => ?_)
    obtain ⟨r1_8, f_9, rfl, rfl⟩ := hp_7
    refine zj_ws (ws' := []) rfl ?_
    refine zj_if_eq 20 24 C (by omega) dX5_isForm_17 rfl (by decide) (fun h_10 => ?_) (fun h_10 => ?_)
    · skip
      refine zj_iconst 25 C dX5_isForm_24 rfl ?_
      subst hQ
      exact zj_zret C (zI_bool (by omega)) hr ⟨0, (by omega), rfl, rfl⟩ (by decide) (by decide) dX5_isForm_25
    · skip
      refine zj_iconst 21 C dX5_isForm_20 rfl ?_
      refine zj_goto 25 C dX5_isForm_21 (by decide) ?_
      subst hQ
      exact zj_zret C (zI_bool (by omega)) hr ⟨1, (by omega), rfl, rfl⟩ (by decide) (by decide) dX5_isForm_25

abbrev rm_X5_exchange : Room := { frames := 1, cells := 0, slots := 0, locals := 23 }
set_option maxRecDepth 100000 in
set_option maxHeartbeats 4000000 in
theorem c_X5_exchange (l : Launch) (D : va_G) (cI cS cJ : ClassId) (q5 : Nat) (m0 : Nat) (m1 : Nat) (m2 : Nat) (m3 : Nat) (m4 : Nat) (m5 : Nat) (m6 : Nat) (m7 : Nat) (m8 : Nat) (m9 : Nat) (th : Int) (sm : Int) (ty : Int) (pg : Int) (rw : Int) (un : Int) (pm : Int) (sp : Int) (wr : Int) (ha : Int64) (Z1 : Int → Int) (i1 : Int) (hi : 0 ≤ i1 ∧ i1 < 23) : zMv l yX5_exchange wsX5_exchange rm_X5_exchange D (zTy cI cS cJ) [.ref q5, .int (zI i1)] [(q5, .inr (5, [.int (zI th), .ref m0, .ref m1, .int (zI sm), .ref m2, .int (zI ty), .ref m3, .ref m4, .ref m5, .ref m6, .ref m7, .ref m8, .int (zI pg), .int (zI rw), .int (zI un), .ref m9, .int (zI pm), .int (zI sp), .int (zI wr), .long ha])), (m0, .inl (cI, 74, .inl (zA Z1)))] (fun w => w = [(q5, .inr (5, [.int (zI th), .ref m0, .ref m1, .int (zI sm), .ref m2, .int (zI ty), .ref m3, .ref m4, .ref m5, .ref m6, .ref m7, .ref m8, .int (zI pg), .int (zI rw), .int (zI un), .ref m9, .int (zI pm), .int (zI sp), .int (zI wr), .long ha])), (m0, .inl (cI, 74, .inl (zA (zXk Z1 i1 3))))]) 0 0 := by
  intro sz
  refine zMet_of (Qc := fun A => va_Qv _ (zB D (zTy cI cS cJ) A) A) RX5 [(0, .ref q5), (1, .int (zI i1))] rfl (by decide +kernel) rfl (Nat.le_of_ble_eq_true rfl) rfl ?_ sz
  intro p e s m args below meth c A Q hQ C hr hini
  refine zj_iconst 1 C dX5_exchange_0 rfl ?_
  refine zj_istore_n 2 [(2, .int (zI 0)), (0, .ref q5), (1, .int (zI i1))] C dX5_exchange_1 rfl rfl (by decide) rfl ?_
  have hL2 : ∀ (N : Nat) (k : Nat) (z3 : Int → Int), ((k : Int) ≤ 3) → (∀ x, z3 x = zXk Z1 i1 k x) → (3 - (k : Int) < N) → zJ p l e rm_X5_exchange s m args below meth c Q D A 4 [(q5, .inr (5, [.int (zI th), .ref m0, .ref m1, .int (zI sm), .ref m2, .int (zI ty), .ref m3, .ref m4, .ref m5, .ref m6, .ref m7, .ref m8, .int (zI pg), .int (zI rw), .int (zI un), .ref m9, .int (zI pm), .int (zI sp), .int (zI wr), .long ha])), (m0, .inl (cI, 74, .inl (zA z3)))] 0 0 [(0, .ref q5), (1, .int (zI i1)), (2, .int (zI (k : Int)))] 2 [] := by
    intro N
    induction N with
    | zero => intro k z3 hk hz hN; exact absurd hN (by omega)
    | succ N ih =>
      intro k z3 hk hz hN
      refine zj_iload_n 3 2 C dX5_exchange_2 rfl rfl rfl ?_
      refine zj_iconst 4 C dX5_exchange_3 rfl ?_
      refine zj_icmp_ge 7 43 C (by omega) (by omega) dX5_exchange_4 rfl (by decide) (fun h_1 => ?_) (fun h_1 => ?_)
      · skip
        refine zj_ext 1 [(q5, .inr (5, [.int (zI th), .ref m0, .ref m1, .int (zI sm), .ref m2, .int (zI ty), .ref m3, .ref m4, .ref m5, .ref m6, .ref m7, .ref m8, .int (zI pg), .int (zI rw), .int (zI un), .ref m9, .int (zI pm), .int (zI sp), .int (zI wr), .long ha])), (m0, .inl (cI, 74, .inl (zA (zXk Z1 i1 3))))] (fun x _ _ => by have := hz x; rw [show (k : Int) = 3 by omega] at this; exact this) rfl rfl ?_
        subst hQ
        exact zj_return C hr rfl (by decide) (by decide) dX5_exchange_43
      · skip
        refine zj_aload_n 8 0 C dX5_exchange_7 rfl rfl rfl ?_
        refine zj_iload_n 9 1 C dX5_exchange_8 rfl rfl rfl ?_
        refine zj_iload_n 10 2 C dX5_exchange_9 rfl rfl rfl ?_
        refine zj_ci 13 [0, 1] [] C (wr := []) (zr_V [0, 1] C (As := [.int (zI i1), .int (zI (k : Int))]) (rest := []) (c_X5_of l D cI cS cJ q5 m0 m1 m2 m3 m4 m5 m6 m7 m8 m9 th sm ty pg rw un pm sp wr ha z3 i1 (k : Int) (by omega) (by omega)) (cwV 2 C.1.2.2.2.2 gX5_exchange_X5_of rfl rfl rfl (by decide +kernel) ⟨Nat.le_of_ble_eq_true rfl, Nat.le_of_ble_eq_true rfl⟩) rfl (by decide) 0 rfl rfl rfl rfl (Nat.le_of_ble_eq_true rfl) dX5_exchange_10 ⟨Nat.le_of_ble_eq_true rfl, Nat.le_of_ble_eq_true rfl⟩) rfl rfl (by decide) (by decide) rfl (fun r_2 w_ hp_3 => ?_)
        obtain ⟨rfl, rfl⟩ := hp_3
        refine zj_ws (ws' := [(q5, .inr (5, [.int (zI th), .ref m0, .ref m1, .int (zI sm), .ref m2, .int (zI ty), .ref m3, .ref m4, .ref m5, .ref m6, .ref m7, .ref m8, .int (zI pg), .int (zI rw), .int (zI un), .ref m9, .int (zI pm), .int (zI sp), .int (zI wr), .long ha])), (m0, .inl (cI, 74, .inl (zA z3)))]) rfl ?_
        refine zj_istore_n 14 [(3, .int (zI (z3 (2 + 3 * i1 + (k : Int))))), (0, .ref q5), (1, .int (zI i1)), (2, .int (zI (k : Int)))] C dX5_exchange_13 rfl rfl (by decide) rfl ?_
        refine zj_aload_n 15 1 C dX5_exchange_14 rfl rfl rfl ?_
        refine zj_iload_n 16 2 C dX5_exchange_15 rfl rfl rfl ?_
        refine zj_iload_n 17 3 C dX5_exchange_16 rfl rfl rfl ?_
        refine zj_aload_n 18 1 C dX5_exchange_17 rfl rfl rfl ?_
        refine zj_iload_n 19 2 C dX5_exchange_18 rfl rfl rfl ?_
        refine zj_iconst 20 C dX5_exchange_19 rfl ?_
        refine zj_iadd 21 C dX5_exchange_20 rfl ?_
        refine zj_iload_n 22 3 C dX5_exchange_21 rfl rfl rfl ?_
        refine zj_ci 25 [0, 1] [] C (wr := []) (zr_V [0, 1] C (As := [.int (zI (i1 + 1)), .int (zI (k : Int))]) (rest := [.int (zI (k : Int)), .int (zI i1), .ref q5]) (c_X5_of l D cI cS cJ q5 m0 m1 m2 m3 m4 m5 m6 m7 m8 m9 th sm ty pg rw un pm sp wr ha z3 (i1 + 1) (k : Int) (by omega) (by omega)) (cwV 2 C.1.2.2.2.2 gX5_exchange_X5_of rfl rfl rfl (by decide +kernel) ⟨Nat.le_of_ble_eq_true rfl, Nat.le_of_ble_eq_true rfl⟩) rfl (by decide) 0 rfl rfl rfl rfl (Nat.le_of_ble_eq_true rfl) dX5_exchange_22 ⟨Nat.le_of_ble_eq_true rfl, Nat.le_of_ble_eq_true rfl⟩) rfl rfl (by decide) (by decide) rfl (fun r_4 w_ hp_5 => ?_)
        obtain ⟨rfl, rfl⟩ := hp_5
        refine zj_ws (ws' := [(q5, .inr (5, [.int (zI th), .ref m0, .ref m1, .int (zI sm), .ref m2, .int (zI ty), .ref m3, .ref m4, .ref m5, .ref m6, .ref m7, .ref m8, .int (zI pg), .int (zI rw), .int (zI un), .ref m9, .int (zI pm), .int (zI sp), .int (zI wr), .long ha])), (m0, .inl (cI, 74, .inl (zA z3)))]) rfl ?_
        refine zj_cv 28 [0, 1] [] C (wr := []) (zr_V [0, 1] C (As := [.int (zI i1), .int (zI (k : Int)), .int (zI (z3 (2 + 3 * (i1 + 1) + (k : Int))))]) (rest := []) (c_X5_lay l D cI cS cJ q5 m0 m1 m2 m3 m4 m5 m6 m7 m8 m9 th sm ty pg rw un pm sp wr ha z3 i1 (k : Int) (z3 (2 + 3 * (i1 + 1) + (k : Int))) (by omega) (by omega)) (cwV 3 C.1.2.2.2.2 gX5_exchange_X5_lay rfl rfl rfl (by decide +kernel) ⟨Nat.le_of_ble_eq_true rfl, Nat.le_of_ble_eq_true rfl⟩) rfl (by decide) 0 rfl rfl rfl rfl (Nat.le_of_ble_eq_true rfl) dX5_exchange_25 ⟨Nat.le_of_ble_eq_true rfl, Nat.le_of_ble_eq_true rfl⟩) rfl rfl (by decide) (by decide) rfl (fun w_ hp_7 => ?_)
        obtain rfl := hp_7
        refine zj_ws (ws' := [(q5, .inr (5, [.int (zI th), .ref m0, .ref m1, .int (zI sm), .ref m2, .int (zI ty), .ref m3, .ref m4, .ref m5, .ref m6, .ref m7, .ref m8, .int (zI pg), .int (zI rw), .int (zI un), .ref m9, .int (zI pm), .int (zI sp), .int (zI wr), .long ha])), (m0, .inl (cI, 74, .inl (zA (zU z3 (2 + 3 * i1 + (k : Int)) (z3 (2 + 3 * (i1 + 1) + (k : Int)))))))]) rfl ?_
        refine zj_aload_n 29 1 C dX5_exchange_28 rfl rfl rfl ?_
        refine zj_iload_n 30 2 C dX5_exchange_29 rfl rfl rfl ?_
        refine zj_iconst 31 C dX5_exchange_30 rfl ?_
        refine zj_iadd 32 C dX5_exchange_31 rfl ?_
        refine zj_iload_n 33 3 C dX5_exchange_32 rfl rfl rfl ?_
        refine zj_iload_n 34 0 C dX5_exchange_33 rfl rfl rfl ?_
        refine zj_cv 37 [0, 1] [] C (wr := []) (zr_V [0, 1] C (As := [.int (zI (i1 + 1)), .int (zI (k : Int)), .int (zI (z3 (2 + 3 * i1 + (k : Int))))]) (rest := []) (c_X5_lay l D cI cS cJ q5 m0 m1 m2 m3 m4 m5 m6 m7 m8 m9 th sm ty pg rw un pm sp wr ha (zU z3 (2 + 3 * i1 + (k : Int)) (z3 (2 + 3 * (i1 + 1) + (k : Int)))) (i1 + 1) (k : Int) (z3 (2 + 3 * i1 + (k : Int))) (by omega) (by omega)) (cwV 3 C.1.2.2.2.2 gX5_exchange_X5_lay rfl rfl rfl (by decide +kernel) ⟨Nat.le_of_ble_eq_true rfl, Nat.le_of_ble_eq_true rfl⟩) rfl (by decide) 0 rfl rfl rfl rfl (Nat.le_of_ble_eq_true rfl) dX5_exchange_34 ⟨Nat.le_of_ble_eq_true rfl, Nat.le_of_ble_eq_true rfl⟩) rfl rfl (by decide) (by decide) rfl (fun w_ hp_9 => ?_)
        obtain rfl := hp_9
        refine zj_ws (ws' := [(q5, .inr (5, [.int (zI th), .ref m0, .ref m1, .int (zI sm), .ref m2, .int (zI ty), .ref m3, .ref m4, .ref m5, .ref m6, .ref m7, .ref m8, .int (zI pg), .int (zI rw), .int (zI un), .ref m9, .int (zI pm), .int (zI sp), .int (zI wr), .long ha])), (m0, .inl (cI, 74, .inl (zA (zU (zU z3 (2 + 3 * i1 + (k : Int)) (z3 (2 + 3 * (i1 + 1) + (k : Int)))) (2 + 3 * (i1 + 1) + (k : Int)) (z3 (2 + 3 * i1 + (k : Int)))))))]) rfl ?_
        refine zj_iinc 40 3 [(2, .int (zI ((k : Int) + 1))), (3, .int (zI (z3 (2 + 3 * i1 + (k : Int))))), (0, .ref q5), (1, .int (zI i1))] C dX5_exchange_37 rfl rfl (by decide) rfl ?_
        refine zj_goto 2 C dX5_exchange_40 (by decide) ?_
        refine zj_lv [2, 3, 0] [(0, .ref q5), (1, .int (zI i1)), (2, .int (zI ((k : Int) + 1)))] rfl ?_
        refine zj_eqlv (lv' := [(0, .ref q5), (1, .int (zI i1)), (2, .int (zI ((k + 1) : Int)))]) (by rfl) ?_
        exact ih (k + 1) (zU (zU z3 (2 + 3 * i1 + (k : Int)) (z3 (2 + 3 * (i1 + 1) + (k : Int)))) (2 + 3 * (i1 + 1) + (k : Int)) (z3 (2 + 3 * i1 + (k : Int)))) (by omega) (by have e : z3 = zXk Z1 i1 k := funext hz; subst e; exact zXk_s Z1 i1 k (by omega)) (by omega)
  refine zj_lv [1, 2, 0] [(0, .ref q5), (1, .int (zI i1)), (2, .int (zI 0))] rfl ?_
  refine zj_eqlv (lv' := [(0, .ref q5), (1, .int (zI i1)), (2, .int (zI (0 : Int)))]) (by rfl) ?_
  exact hL2 (4) 0 Z1 (by omega) (fun x => (zXk_0 Z1 i1 x).symm) (by omega)

abbrev rm_X5_exchanged : Room := { frames := 4, cells := 0, slots := 0, locals := 92 }
set_option maxRecDepth 100000 in
set_option maxHeartbeats 4000000 in
theorem c_X5_exchanged (l : Launch) (D : va_G) (cI cS cJ : ClassId) (q5 : Nat) (m0 : Nat) (m1 : Nat) (m2 : Nat) (m3 : Nat) (m4 : Nat) (m5 : Nat) (m6 : Nat) (m7 : Nat) (m8 : Nat) (m9 : Nat) (th : Int) (sm : Int) (ty : Int) (pg : Int) (rw : Int) (un : Int) (pm : Int) (sp : Int) (wr : Int) (ha : Int64) (Z1 : Int → Int) (P1 : Int → Int) (R1 : Int → Int) (U1 : Int → Int) (G1 : Int → Int) (b1 : Int → Int) (c1 : Int → Int) (n1 : Int) (sg : Int) (K1 : Int → Int) (W1 : Int → Int) (T1 : Int → Int) (i1 : Int) (x1 : Int) (hst : zOk n1 sg K1 W1 T1) (hz : zRel n1 sg K1 W1 T1 Z1) (hi : 0 ≤ i1 ∧ i1 + 1 < n1) (hx : x1 = 0 ∨ x1 = 1) : zMi l yX5_exchanged wsX5_exchanged rm_X5_exchanged D (zTy cI cS cJ) [.ref q5, .int (zI i1), .int (zI x1)] [(q5, .inr (5, [.int (zI th), .ref m0, .ref m1, .int (zI sm), .ref m2, .int (zI ty), .ref m3, .ref m4, .ref m5, .ref m6, .ref m7, .ref m8, .int (zI pg), .int (zI rw), .int (zI un), .ref m9, .int (zI pm), .int (zI sp), .int (zI wr), .long ha])), (m0, .inl (cI, 74, .inl (zA Z1))), (m3, .inl (cI, 24, .inl (zA P1))), (m4, .inl (cI, 24, .inl (zA R1))), (m5, .inl (cI, 24, .inl (zA U1))), (m6, .inl (cI, 384, .inl (zA G1))), (m7, .inl (cI, 16, .inl (zA b1))), (m8, .inl (cI, 16, .inl (zA c1)))] (fun r w => ∃ (pg2 : Int), ∃ (rw2 : Int), ∃ (un2 : Int), ∃ (P2 : Int → Int), ∃ (R2 : Int → Int), ∃ (U2 : Int → Int), ∃ (G2 : Int → Int), ∃ (b2 : Int → Int), ∃ (c2 : Int → Int), r = zI (if x1 = 0 then zUsed (zFin sg (zEx K1 i1) (zEx W1 i1) (zEx T1 i1) n1) else zEmp (zFin sg (zEx K1 i1) (zEx W1 i1) (zEx T1 i1) n1)) ∧ w = [(q5, .inr (5, [.int (zI th), .ref m0, .ref m1, .int (zI sm), .ref m2, .int (zI ty), .ref m3, .ref m4, .ref m5, .ref m6, .ref m7, .ref m8, .int (zI pg2), .int (zI rw2), .int (zI un2), .ref m9, .int (zI pm), .int (zI sp), .int (zI wr), .long ha])), (m0, .inl (cI, 74, .inl (zA Z1))), (m3, .inl (cI, 24, .inl (zA P2))), (m4, .inl (cI, 24, .inl (zA R2))), (m5, .inl (cI, 24, .inl (zA U2))), (m6, .inl (cI, 384, .inl (zA G2))), (m7, .inl (cI, 16, .inl (zA b2))), (m8, .inl (cI, 16, .inl (zA c2)))]) 0 0 := by
  intro sz
  refine zMet_of (Qc := fun A => va_Qi _ (zB D (zTy cI cS cJ) A) A) RX5 [(0, .ref q5), (1, .int (zI i1)), (2, .int (zI x1))] rfl (by decide +kernel) rfl (Nat.le_of_ble_eq_true rfl) rfl ?_ sz
  intro p e s m args below meth c A Q hQ C hr hini
  have hn := hst.1
  have hzx := zRel_ex hz hi
  refine zj_aload_n 1 0 C dX5_exchanged_0 rfl rfl rfl ?_
  refine zj_iload_n 2 1 C dX5_exchanged_1 rfl rfl rfl ?_
  refine zj_cv 5 [0, 1] [2, 3, 4, 5, 6, 7] C (wr := [(m3, .inl (cI, 24, .inl (zA P1))), (m4, .inl (cI, 24, .inl (zA R1))), (m5, .inl (cI, 24, .inl (zA U1))), (m6, .inl (cI, 384, .inl (zA G1))), (m7, .inl (cI, 16, .inl (zA b1))), (m8, .inl (cI, 16, .inl (zA c1)))]) (zr_V [0, 1] C (As := [.int (zI i1)]) (rest := []) (c_X5_exchange l D cI cS cJ q5 m0 m1 m2 m3 m4 m5 m6 m7 m8 m9 th sm ty pg rw un pm sp wr ha Z1 i1 (by omega)) (cwV 1 C.1.2.2.2.2 gX5_exchanged_X5_exchange rfl rfl rfl (by decide +kernel) ⟨Nat.le_of_ble_eq_true rfl, Nat.le_of_ble_eq_true rfl⟩) rfl (by decide) 0 rfl rfl rfl rfl (Nat.le_of_ble_eq_true rfl) dX5_exchanged_2 ⟨Nat.le_of_ble_eq_true rfl, Nat.le_of_ble_eq_true rfl⟩) rfl rfl (by decide) (by decide) rfl (fun w_ hp_2 => ?_)
  obtain rfl := hp_2
  refine zj_ws (ws' := [(m3, .inl (cI, 24, .inl (zA P1))), (m4, .inl (cI, 24, .inl (zA R1))), (m5, .inl (cI, 24, .inl (zA U1))), (m6, .inl (cI, 384, .inl (zA G1))), (m7, .inl (cI, 16, .inl (zA b1))), (m8, .inl (cI, 16, .inl (zA c1))), (q5, .inr (5, [.int (zI th), .ref m0, .ref m1, .int (zI sm), .ref m2, .int (zI ty), .ref m3, .ref m4, .ref m5, .ref m6, .ref m7, .ref m8, .int (zI pg), .int (zI rw), .int (zI un), .ref m9, .int (zI pm), .int (zI sp), .int (zI wr), .long ha])), (m0, .inl (cI, 74, .inl (zA (zXk Z1 i1 3))))]) rfl ?_
  refine zj_aload_n 6 0 C dX5_exchanged_5 rfl rfl rfl ?_
  refine zj_cv 9 [6, 7, 0, 1, 2, 3, 4, 5] [] C (wr := []) (zr_V [6, 7, 0, 1, 2, 3, 4, 5] C (As := []) (rest := []) (c_X5_pour2 l D cI cS cJ q5 m0 m1 m2 m3 m4 m5 m6 m7 m8 m9 th sm ty pg rw un pm sp wr ha (zXk Z1 i1 3) P1 R1 U1 G1 b1 c1 n1 sg (zEx K1 i1) (zEx W1 i1) (zEx T1 i1) (zOk_ex hst hi) hzx) (cwV 0 C.1.2.2.2.2 gX5_exchanged_X5_pour rfl rfl rfl (by decide +kernel) ⟨Nat.le_of_ble_eq_true rfl, Nat.le_of_ble_eq_true rfl⟩) rfl (by decide) 0 rfl rfl rfl rfl (Nat.le_of_ble_eq_true rfl) dX5_exchanged_6 ⟨Nat.le_of_ble_eq_true rfl, Nat.le_of_ble_eq_true rfl⟩) rfl rfl (by decide) (by decide) rfl (fun w_ hp_4 => ?_)
  obtain ⟨pg2n, rw2n, un2n, P2n, R2n, U2n, hPn, rfl⟩ := hp_4
  refine zj_ws (ws' := [(q5, .inr (5, [.int (zI th), .ref m0, .ref m1, .int (zI sm), .ref m2, .int (zI ty), .ref m3, .ref m4, .ref m5, .ref m6, .ref m7, .ref m8, .int (zI pg2n), .int (zI rw2n), .int (zI un2n), .ref m9, .int (zI pm), .int (zI sp), .int (zI wr), .long ha])), (m0, .inl (cI, 74, .inl (zA (zXk Z1 i1 3)))), (m3, .inl (cI, 24, .inl (zA P2n))), (m4, .inl (cI, 24, .inl (zA R2n))), (m5, .inl (cI, 24, .inl (zA U2n))), (m6, .inl (cI, 384, .inl (zA (zGrid sg (zEx K1 i1) (zEx W1 i1) (zEx T1 i1) n1.toNat)))), (m7, .inl (cI, 16, .inl (zA ((zFin sg (zEx K1 i1) (zEx W1 i1) (zEx T1 i1) n1).2.2.2.2.2.1)))), (m8, .inl (cI, 16, .inl (zA ((zFin sg (zEx K1 i1) (zEx W1 i1) (zEx T1 i1) n1).2.2.2.2.1))))]) rfl ?_
  refine zj_iload_n 10 2 C dX5_exchanged_9 rfl rfl rfl ?_
  refine zj_if_ne 13 20 C (by omega) dX5_exchanged_10 rfl (by decide) (fun h10 => ?_) (fun h10 => ?_)
  · skip
    refine zj_aload_n 21 0 C dX5_exchanged_20 rfl rfl rfl ?_
    refine zj_ci 24 [0, 5, 7] [1, 2, 3, 4, 6] C (wr := [(m0, .inl (cI, 74, .inl (zA (zXk Z1 i1 3)))), (m3, .inl (cI, 24, .inl (zA P2n))), (m4, .inl (cI, 24, .inl (zA R2n))), (m5, .inl (cI, 24, .inl (zA U2n))), (m7, .inl (cI, 16, .inl (zA ((zFin sg (zEx K1 i1) (zEx W1 i1) (zEx T1 i1) n1).2.2.2.2.2.1))))]) (zr_V [0, 5, 7] C (As := []) (rest := []) (c_X5_emptyUnits2 l D cI cS cJ q5 m0 m1 m2 m3 m4 m5 m6 m7 m8 m9 th sm ty pg2n rw2n un2n pm sp wr ha n1 sg (zEx K1 i1) (zEx W1 i1) (zEx T1 i1) (zOk_ex hst hi)) (cwV 0 C.1.2.2.2.2 gX5_exchanged_X5_emptyUnits rfl rfl rfl (by decide +kernel) ⟨Nat.le_of_ble_eq_true rfl, Nat.le_of_ble_eq_true rfl⟩) rfl (by decide) 0 rfl rfl rfl rfl (Nat.le_of_ble_eq_true rfl) dX5_exchanged_21 ⟨Nat.le_of_ble_eq_true rfl, Nat.le_of_ble_eq_true rfl⟩) rfl rfl (by decide) (by decide) rfl (fun r_5 w_ hp_6 => ?_)
    obtain ⟨rfl, rfl⟩ := hp_6
    refine zj_ws (ws' := [(m0, .inl (cI, 74, .inl (zA (zXk Z1 i1 3)))), (m3, .inl (cI, 24, .inl (zA P2n))), (m4, .inl (cI, 24, .inl (zA R2n))), (m5, .inl (cI, 24, .inl (zA U2n))), (m7, .inl (cI, 16, .inl (zA ((zFin sg (zEx K1 i1) (zEx W1 i1) (zEx T1 i1) n1).2.2.2.2.2.1)))), (q5, .inr (5, [.int (zI th), .ref m0, .ref m1, .int (zI sm), .ref m2, .int (zI ty), .ref m3, .ref m4, .ref m5, .ref m6, .ref m7, .ref m8, .int (zI pg2n), .int (zI rw2n), .int (zI un2n), .ref m9, .int (zI pm), .int (zI sp), .int (zI wr), .long ha])), (m6, .inl (cI, 384, .inl (zA (zGrid sg (zEx K1 i1) (zEx W1 i1) (zEx T1 i1) n1.toNat)))), (m8, .inl (cI, 16, .inl (zA ((zFin sg (zEx K1 i1) (zEx W1 i1) (zEx T1 i1) n1).2.2.2.2.1))))]) rfl ?_
    refine zj_istore_n 25 [(3, .int (zI (zEmp (zFin sg (zEx K1 i1) (zEx W1 i1) (zEx T1 i1) n1)))), (0, .ref q5), (1, .int (zI i1)), (2, .int (zI x1))] C dX5_exchanged_24 rfl rfl (by decide) rfl ?_
    refine zj_aload_n 26 1 C dX5_exchanged_25 rfl rfl rfl ?_
    refine zj_iload_n 27 2 C dX5_exchanged_26 rfl rfl rfl ?_
    refine zj_cv 30 [5, 0] [1, 2, 3, 4, 6, 7] C (wr := [(m3, .inl (cI, 24, .inl (zA P2n))), (m4, .inl (cI, 24, .inl (zA R2n))), (m5, .inl (cI, 24, .inl (zA U2n))), (m7, .inl (cI, 16, .inl (zA ((zFin sg (zEx K1 i1) (zEx W1 i1) (zEx T1 i1) n1).2.2.2.2.2.1)))), (m6, .inl (cI, 384, .inl (zA (zGrid sg (zEx K1 i1) (zEx W1 i1) (zEx T1 i1) n1.toNat)))), (m8, .inl (cI, 16, .inl (zA ((zFin sg (zEx K1 i1) (zEx W1 i1) (zEx T1 i1) n1).2.2.2.2.1))))]) (zr_V [5, 0] C (As := [.int (zI i1)]) (rest := []) (c_X5_exchange l D cI cS cJ q5 m0 m1 m2 m3 m4 m5 m6 m7 m8 m9 th sm ty pg2n rw2n un2n pm sp wr ha (zXk Z1 i1 3) i1 (by omega)) (cwV 1 C.1.2.2.2.2 gX5_exchanged_X5_exchange rfl rfl rfl (by decide +kernel) ⟨Nat.le_of_ble_eq_true rfl, Nat.le_of_ble_eq_true rfl⟩) rfl (by decide) 0 rfl rfl rfl rfl (Nat.le_of_ble_eq_true rfl) dX5_exchanged_27 ⟨Nat.le_of_ble_eq_true rfl, Nat.le_of_ble_eq_true rfl⟩) rfl rfl (by decide) (by decide) rfl (fun w_ hp_8 => ?_)
    obtain rfl := hp_8
    refine zj_ws (ws' := [(m3, .inl (cI, 24, .inl (zA P2n))), (m4, .inl (cI, 24, .inl (zA R2n))), (m5, .inl (cI, 24, .inl (zA U2n))), (m7, .inl (cI, 16, .inl (zA ((zFin sg (zEx K1 i1) (zEx W1 i1) (zEx T1 i1) n1).2.2.2.2.2.1)))), (m6, .inl (cI, 384, .inl (zA (zGrid sg (zEx K1 i1) (zEx W1 i1) (zEx T1 i1) n1.toNat)))), (m8, .inl (cI, 16, .inl (zA ((zFin sg (zEx K1 i1) (zEx W1 i1) (zEx T1 i1) n1).2.2.2.2.1)))), (q5, .inr (5, [.int (zI th), .ref m0, .ref m1, .int (zI sm), .ref m2, .int (zI ty), .ref m3, .ref m4, .ref m5, .ref m6, .ref m7, .ref m8, .int (zI pg2n), .int (zI rw2n), .int (zI un2n), .ref m9, .int (zI pm), .int (zI sp), .int (zI wr), .long ha])), (m0, .inl (cI, 74, .inl (zA (zXk (zXk Z1 i1 3) i1 3))))]) rfl ?_
    refine zj_iload_n 31 0 C dX5_exchanged_30 rfl rfl rfl ?_
    refine zj_ext 7 [(m3, .inl (cI, 24, .inl (zA P2n))), (m4, .inl (cI, 24, .inl (zA R2n))), (m5, .inl (cI, 24, .inl (zA U2n))), (m7, .inl (cI, 16, .inl (zA ((zFin sg (zEx K1 i1) (zEx W1 i1) (zEx T1 i1) n1).2.2.2.2.2.1)))), (m6, .inl (cI, 384, .inl (zA (zGrid sg (zEx K1 i1) (zEx W1 i1) (zEx T1 i1) n1.toNat)))), (m8, .inl (cI, 16, .inl (zA ((zFin sg (zEx K1 i1) (zEx W1 i1) (zEx T1 i1) n1).2.2.2.2.1)))), (q5, .inr (5, [.int (zI th), .ref m0, .ref m1, .int (zI sm), .ref m2, .int (zI ty), .ref m3, .ref m4, .ref m5, .ref m6, .ref m7, .ref m8, .int (zI pg2n), .int (zI rw2n), .int (zI un2n), .ref m9, .int (zI pm), .int (zI sp), .int (zI wr), .long ha])), (m0, .inl (cI, 74, .inl (zA Z1)))] (fun x _ _ => zXk_2 Z1 i1 x) rfl rfl ?_
    refine zj_re [6, 7, 0, 1, 2, 4, 3, 5] [(q5, .inr (5, [.int (zI th), .ref m0, .ref m1, .int (zI sm), .ref m2, .int (zI ty), .ref m3, .ref m4, .ref m5, .ref m6, .ref m7, .ref m8, .int (zI pg2n), .int (zI rw2n), .int (zI un2n), .ref m9, .int (zI pm), .int (zI sp), .int (zI wr), .long ha])), (m0, .inl (cI, 74, .inl (zA Z1))), (m3, .inl (cI, 24, .inl (zA P2n))), (m4, .inl (cI, 24, .inl (zA R2n))), (m5, .inl (cI, 24, .inl (zA U2n))), (m6, .inl (cI, 384, .inl (zA (zGrid sg (zEx K1 i1) (zEx W1 i1) (zEx T1 i1) n1.toNat)))), (m7, .inl (cI, 16, .inl (zA ((zFin sg (zEx K1 i1) (zEx W1 i1) (zEx T1 i1) n1).2.2.2.2.2.1)))), (m8, .inl (cI, 16, .inl (zA ((zFin sg (zEx K1 i1) (zEx W1 i1) (zEx T1 i1) n1).2.2.2.2.1))))] (by decide) rfl ?_
    refine zj_st (st' := [.int (zI (if x1 = 0 then zUsed (zFin sg (zEx K1 i1) (zEx W1 i1) (zEx T1 i1) n1) else zEmp (zFin sg (zEx K1 i1) (zEx W1 i1) (zEx T1 i1) n1)))]) (by rw [if_neg h10]) ?_
    subst hQ
    exact zj_ireturn C hr ⟨pg2n, rw2n, un2n, P2n, R2n, U2n, (zGrid sg (zEx K1 i1) (zEx W1 i1) (zEx T1 i1) n1.toNat), (zFin sg (zEx K1 i1) (zEx W1 i1) (zEx T1 i1) n1).2.2.2.2.2.1, (zFin sg (zEx K1 i1) (zEx W1 i1) (zEx T1 i1) n1).2.2.2.2.1, rfl, rfl⟩ (by decide) (by decide) dX5_exchanged_31
  · skip
    refine zj_aload_n 14 0 C dX5_exchanged_13 rfl rfl rfl ?_
    refine zj_ci 17 [0, 7] [1, 2, 3, 4, 5, 6] C (wr := [(m0, .inl (cI, 74, .inl (zA (zXk Z1 i1 3)))), (m3, .inl (cI, 24, .inl (zA P2n))), (m4, .inl (cI, 24, .inl (zA R2n))), (m5, .inl (cI, 24, .inl (zA U2n))), (m6, .inl (cI, 384, .inl (zA (zGrid sg (zEx K1 i1) (zEx W1 i1) (zEx T1 i1) n1.toNat)))), (m7, .inl (cI, 16, .inl (zA ((zFin sg (zEx K1 i1) (zEx W1 i1) (zEx T1 i1) n1).2.2.2.2.2.1))))]) (zr_V [0, 7] C (As := []) (rest := []) (c_X5_used2 l D cI cS cJ q5 m0 m1 m2 m3 m4 m5 m6 m7 m8 m9 th sm ty pg2n rw2n un2n pm sp wr ha n1 sg (zEx K1 i1) (zEx W1 i1) (zEx T1 i1) (zOk_ex hst hi)) (cwV 0 C.1.2.2.2.2 gX5_exchanged_X5_used rfl rfl rfl (by decide +kernel) ⟨Nat.le_of_ble_eq_true rfl, Nat.le_of_ble_eq_true rfl⟩) rfl (by decide) 0 rfl rfl rfl rfl (Nat.le_of_ble_eq_true rfl) dX5_exchanged_14 ⟨Nat.le_of_ble_eq_true rfl, Nat.le_of_ble_eq_true rfl⟩) rfl rfl (by decide) (by decide) rfl (fun r_9 w_ hp_10 => ?_)
    obtain ⟨rfl, rfl⟩ := hp_10
    refine zj_ws (ws' := [(m0, .inl (cI, 74, .inl (zA (zXk Z1 i1 3)))), (m3, .inl (cI, 24, .inl (zA P2n))), (m4, .inl (cI, 24, .inl (zA R2n))), (m5, .inl (cI, 24, .inl (zA U2n))), (m6, .inl (cI, 384, .inl (zA (zGrid sg (zEx K1 i1) (zEx W1 i1) (zEx T1 i1) n1.toNat)))), (m7, .inl (cI, 16, .inl (zA ((zFin sg (zEx K1 i1) (zEx W1 i1) (zEx T1 i1) n1).2.2.2.2.2.1)))), (q5, .inr (5, [.int (zI th), .ref m0, .ref m1, .int (zI sm), .ref m2, .int (zI ty), .ref m3, .ref m4, .ref m5, .ref m6, .ref m7, .ref m8, .int (zI pg2n), .int (zI rw2n), .int (zI un2n), .ref m9, .int (zI pm), .int (zI sp), .int (zI wr), .long ha])), (m8, .inl (cI, 16, .inl (zA ((zFin sg (zEx K1 i1) (zEx W1 i1) (zEx T1 i1) n1).2.2.2.2.1))))]) rfl ?_
    refine zj_goto 24 C dX5_exchanged_17 (by decide) ?_
    refine zj_istore_n 25 [(3, .int (zI (zUsed (zFin sg (zEx K1 i1) (zEx W1 i1) (zEx T1 i1) n1)))), (0, .ref q5), (1, .int (zI i1)), (2, .int (zI x1))] C dX5_exchanged_24 rfl rfl (by decide) rfl ?_
    refine zj_aload_n 26 1 C dX5_exchanged_25 rfl rfl rfl ?_
    refine zj_iload_n 27 2 C dX5_exchanged_26 rfl rfl rfl ?_
    refine zj_cv 30 [6, 0] [1, 2, 3, 4, 5, 7] C (wr := [(m3, .inl (cI, 24, .inl (zA P2n))), (m4, .inl (cI, 24, .inl (zA R2n))), (m5, .inl (cI, 24, .inl (zA U2n))), (m6, .inl (cI, 384, .inl (zA (zGrid sg (zEx K1 i1) (zEx W1 i1) (zEx T1 i1) n1.toNat)))), (m7, .inl (cI, 16, .inl (zA ((zFin sg (zEx K1 i1) (zEx W1 i1) (zEx T1 i1) n1).2.2.2.2.2.1)))), (m8, .inl (cI, 16, .inl (zA ((zFin sg (zEx K1 i1) (zEx W1 i1) (zEx T1 i1) n1).2.2.2.2.1))))]) (zr_V [6, 0] C (As := [.int (zI i1)]) (rest := []) (c_X5_exchange l D cI cS cJ q5 m0 m1 m2 m3 m4 m5 m6 m7 m8 m9 th sm ty pg2n rw2n un2n pm sp wr ha (zXk Z1 i1 3) i1 (by omega)) (cwV 1 C.1.2.2.2.2 gX5_exchanged_X5_exchange rfl rfl rfl (by decide +kernel) ⟨Nat.le_of_ble_eq_true rfl, Nat.le_of_ble_eq_true rfl⟩) rfl (by decide) 0 rfl rfl rfl rfl (Nat.le_of_ble_eq_true rfl) dX5_exchanged_27 ⟨Nat.le_of_ble_eq_true rfl, Nat.le_of_ble_eq_true rfl⟩) rfl rfl (by decide) (by decide) rfl (fun w_ hp_12 => ?_)
    obtain rfl := hp_12
    refine zj_ws (ws' := [(m3, .inl (cI, 24, .inl (zA P2n))), (m4, .inl (cI, 24, .inl (zA R2n))), (m5, .inl (cI, 24, .inl (zA U2n))), (m6, .inl (cI, 384, .inl (zA (zGrid sg (zEx K1 i1) (zEx W1 i1) (zEx T1 i1) n1.toNat)))), (m7, .inl (cI, 16, .inl (zA ((zFin sg (zEx K1 i1) (zEx W1 i1) (zEx T1 i1) n1).2.2.2.2.2.1)))), (m8, .inl (cI, 16, .inl (zA ((zFin sg (zEx K1 i1) (zEx W1 i1) (zEx T1 i1) n1).2.2.2.2.1)))), (q5, .inr (5, [.int (zI th), .ref m0, .ref m1, .int (zI sm), .ref m2, .int (zI ty), .ref m3, .ref m4, .ref m5, .ref m6, .ref m7, .ref m8, .int (zI pg2n), .int (zI rw2n), .int (zI un2n), .ref m9, .int (zI pm), .int (zI sp), .int (zI wr), .long ha])), (m0, .inl (cI, 74, .inl (zA (zXk (zXk Z1 i1 3) i1 3))))]) rfl ?_
    refine zj_iload_n 31 0 C dX5_exchanged_30 rfl rfl rfl ?_
    refine zj_ext 7 [(m3, .inl (cI, 24, .inl (zA P2n))), (m4, .inl (cI, 24, .inl (zA R2n))), (m5, .inl (cI, 24, .inl (zA U2n))), (m6, .inl (cI, 384, .inl (zA (zGrid sg (zEx K1 i1) (zEx W1 i1) (zEx T1 i1) n1.toNat)))), (m7, .inl (cI, 16, .inl (zA ((zFin sg (zEx K1 i1) (zEx W1 i1) (zEx T1 i1) n1).2.2.2.2.2.1)))), (m8, .inl (cI, 16, .inl (zA ((zFin sg (zEx K1 i1) (zEx W1 i1) (zEx T1 i1) n1).2.2.2.2.1)))), (q5, .inr (5, [.int (zI th), .ref m0, .ref m1, .int (zI sm), .ref m2, .int (zI ty), .ref m3, .ref m4, .ref m5, .ref m6, .ref m7, .ref m8, .int (zI pg2n), .int (zI rw2n), .int (zI un2n), .ref m9, .int (zI pm), .int (zI sp), .int (zI wr), .long ha])), (m0, .inl (cI, 74, .inl (zA Z1)))] (fun x _ _ => zXk_2 Z1 i1 x) rfl rfl ?_
    refine zj_re [6, 7, 0, 1, 2, 3, 4, 5] [(q5, .inr (5, [.int (zI th), .ref m0, .ref m1, .int (zI sm), .ref m2, .int (zI ty), .ref m3, .ref m4, .ref m5, .ref m6, .ref m7, .ref m8, .int (zI pg2n), .int (zI rw2n), .int (zI un2n), .ref m9, .int (zI pm), .int (zI sp), .int (zI wr), .long ha])), (m0, .inl (cI, 74, .inl (zA Z1))), (m3, .inl (cI, 24, .inl (zA P2n))), (m4, .inl (cI, 24, .inl (zA R2n))), (m5, .inl (cI, 24, .inl (zA U2n))), (m6, .inl (cI, 384, .inl (zA (zGrid sg (zEx K1 i1) (zEx W1 i1) (zEx T1 i1) n1.toNat)))), (m7, .inl (cI, 16, .inl (zA ((zFin sg (zEx K1 i1) (zEx W1 i1) (zEx T1 i1) n1).2.2.2.2.2.1)))), (m8, .inl (cI, 16, .inl (zA ((zFin sg (zEx K1 i1) (zEx W1 i1) (zEx T1 i1) n1).2.2.2.2.1))))] (by decide) rfl ?_
    refine zj_st (st' := [.int (zI (if x1 = 0 then zUsed (zFin sg (zEx K1 i1) (zEx W1 i1) (zEx T1 i1) n1) else zEmp (zFin sg (zEx K1 i1) (zEx W1 i1) (zEx T1 i1) n1)))]) (by rw [if_pos h10]) ?_
    subst hQ
    exact zj_ireturn C hr ⟨pg2n, rw2n, un2n, P2n, R2n, U2n, (zGrid sg (zEx K1 i1) (zEx W1 i1) (zEx T1 i1) n1.toNat), (zFin sg (zEx K1 i1) (zEx W1 i1) (zEx T1 i1) n1).2.2.2.2.2.1, (zFin sg (zEx K1 i1) (zEx W1 i1) (zEx T1 i1) n1).2.2.2.2.1, rfl, rfl⟩ (by decide) (by decide) dX5_exchanged_31

theorem fl_X5_least_7 : Cond.fieldLink RX5 7 "SplashPagesModel" "z" "[I" ∈ wsX5_least := by decide +kernel
theorem im_X5_least_5 : ∀ w ∈ u_ws RX5 TX5 20, w ∈ wsX5_least := by decide +kernel
abbrev rm_X5_least : Room := { frames := 4, cells := 0, slots := 0, locals := 92 }
set_option maxRecDepth 100000 in
set_option maxHeartbeats 4000000 in
theorem c_X5_least (l : Launch) (D : va_G) (cI cS cJ : ClassId) (q5 : Nat) (m0 : Nat) (m1 : Nat) (m2 : Nat) (m3 : Nat) (m4 : Nat) (m5 : Nat) (m6 : Nat) (m7 : Nat) (m8 : Nat) (m9 : Nat) (th : Int) (sm : Int) (ty : Int) (pg : Int) (rw : Int) (un : Int) (pm : Int) (sp : Int) (wr : Int) (ha : Int64) (Z1 : Int → Int) (P1 : Int → Int) (R1 : Int → Int) (U1 : Int → Int) (G1 : Int → Int) (b1 : Int → Int) (c1 : Int → Int) (n1 : Int) (sg : Int) (K1 : Int → Int) (W1 : Int → Int) (T1 : Int → Int) (hst : zOk n1 sg K1 W1 T1) (hz : zRel n1 sg K1 W1 T1 Z1) : zMi l yX5_least wsX5_least rm_X5_least D (zTy cI cS cJ) [.ref q5] [(q5, .inr (5, [.int (zI th), .ref m0, .ref m1, .int (zI sm), .ref m2, .int (zI ty), .ref m3, .ref m4, .ref m5, .ref m6, .ref m7, .ref m8, .int (zI pg), .int (zI rw), .int (zI un), .ref m9, .int (zI pm), .int (zI sp), .int (zI wr), .long ha])), (m0, .inl (cI, 74, .inl (zA Z1))), (m3, .inl (cI, 24, .inl (zA P1))), (m4, .inl (cI, 24, .inl (zA R1))), (m5, .inl (cI, 24, .inl (zA U1))), (m6, .inl (cI, 384, .inl (zA G1))), (m7, .inl (cI, 16, .inl (zA b1))), (m8, .inl (cI, 16, .inl (zA c1)))] (fun r w => ∃ (pg2 : Int), ∃ (rw2 : Int), ∃ (un2 : Int), ∃ (P2 : Int → Int), ∃ (R2 : Int → Int), ∃ (U2 : Int → Int), ∃ (G2 : Int → Int), ∃ (b2 : Int → Int), ∃ (c2 : Int → Int), r = zI (zLeast n1 sg K1 W1 T1 (sg - 9).toNat) ∧ w = [(q5, .inr (5, [.int (zI th), .ref m0, .ref m1, .int (zI sm), .ref m2, .int (zI ty), .ref m3, .ref m4, .ref m5, .ref m6, .ref m7, .ref m8, .int (zI pg2), .int (zI rw2), .int (zI un2), .ref m9, .int (zI pm), .int (zI sp), .int (zI wr), .long ha])), (m0, .inl (cI, 74, .inl (zA Z1))), (m3, .inl (cI, 24, .inl (zA P2))), (m4, .inl (cI, 24, .inl (zA R2))), (m5, .inl (cI, 24, .inl (zA U2))), (m6, .inl (cI, 384, .inl (zA G2))), (m7, .inl (cI, 16, .inl (zA b2))), (m8, .inl (cI, 16, .inl (zA c2)))]) 0 0 := by
  intro sz
  refine zMet_of (Qc := fun A => va_Qi _ (zB D (zTy cI cS cJ) A) A) RX5 [(0, .ref q5)] rfl (by decide +kernel) rfl (Nat.le_of_ble_eq_true rfl) rfl ?_ sz
  intro p e s m args below meth c A Q hQ C hr hini
  have hn := hst.1
  have hsg := hst.2.1
  have huf := (zFin_m hst).1
  have hof := zOut_b hst
  have hz1 := hz.2.1
  refine zj_aload_n 1 0 C dX5_least_0 rfl rfl rfl ?_
  refine zj_get 4 0 1 C (T := TX5) im_X5_least_5 fl_X5_least_7 rfl rfl (by decide) rfl rfl dX5_least_1 rfl ?_
  refine zj_iconst 5 C dX5_least_4 rfl ?_
  refine zj_iald 6 1 C (by omega) (by omega) rfl rfl dX5_least_5 rfl ?_
  refine zj_istore_n 7 [(1, .int (zI (Z1 0))), (0, .ref q5)] C dX5_least_6 rfl rfl (by decide) rfl ?_
  refine zj_aload_n 8 1 C dX5_least_7 rfl rfl rfl ?_
  refine zj_cv 11 [0, 1, 2, 3, 4, 5, 6, 7] [] C (wr := []) (zr_V [0, 1, 2, 3, 4, 5, 6, 7] C (As := []) (rest := []) (c_X5_pour2 l D cI cS cJ q5 m0 m1 m2 m3 m4 m5 m6 m7 m8 m9 th sm ty pg rw un pm sp wr ha Z1 P1 R1 U1 G1 b1 c1 n1 sg K1 W1 T1 hst hz) (cwV 0 C.1.2.2.2.2 gX5_least_X5_pour rfl rfl rfl (by decide +kernel) ⟨Nat.le_of_ble_eq_true rfl, Nat.le_of_ble_eq_true rfl⟩) rfl (by decide) 0 rfl rfl rfl rfl (Nat.le_of_ble_eq_true rfl) dX5_least_8 ⟨Nat.le_of_ble_eq_true rfl, Nat.le_of_ble_eq_true rfl⟩) rfl rfl (by decide) (by decide) rfl (fun w_ hp_2 => ?_)
  obtain ⟨pg2n, rw2n, un2n, P2n, R2n, U2n, hPn, rfl⟩ := hp_2
  refine zj_ws (ws' := [(q5, .inr (5, [.int (zI th), .ref m0, .ref m1, .int (zI sm), .ref m2, .int (zI ty), .ref m3, .ref m4, .ref m5, .ref m6, .ref m7, .ref m8, .int (zI pg2n), .int (zI rw2n), .int (zI un2n), .ref m9, .int (zI pm), .int (zI sp), .int (zI wr), .long ha])), (m0, .inl (cI, 74, .inl (zA Z1))), (m3, .inl (cI, 24, .inl (zA P2n))), (m4, .inl (cI, 24, .inl (zA R2n))), (m5, .inl (cI, 24, .inl (zA U2n))), (m6, .inl (cI, 384, .inl (zA (zGrid sg K1 W1 T1 n1.toNat)))), (m7, .inl (cI, 16, .inl (zA ((zFin sg K1 W1 T1 n1).2.2.2.2.2.1)))), (m8, .inl (cI, 16, .inl (zA ((zFin sg K1 W1 T1 n1).2.2.2.2.1))))]) rfl ?_
  refine zj_aload_n 12 1 C dX5_least_11 rfl rfl rfl ?_
  refine zj_ci 15 [0, 7] [1, 2, 3, 4, 5, 6] C (wr := [(m0, .inl (cI, 74, .inl (zA Z1))), (m3, .inl (cI, 24, .inl (zA P2n))), (m4, .inl (cI, 24, .inl (zA R2n))), (m5, .inl (cI, 24, .inl (zA U2n))), (m6, .inl (cI, 384, .inl (zA (zGrid sg K1 W1 T1 n1.toNat)))), (m7, .inl (cI, 16, .inl (zA ((zFin sg K1 W1 T1 n1).2.2.2.2.2.1))))]) (zr_V [0, 7] C (As := []) (rest := []) (c_X5_used2 l D cI cS cJ q5 m0 m1 m2 m3 m4 m5 m6 m7 m8 m9 th sm ty pg2n rw2n un2n pm sp wr ha n1 sg K1 W1 T1 hst) (cwV 0 C.1.2.2.2.2 gX5_least_X5_used rfl rfl rfl (by decide +kernel) ⟨Nat.le_of_ble_eq_true rfl, Nat.le_of_ble_eq_true rfl⟩) rfl (by decide) 0 rfl rfl rfl rfl (Nat.le_of_ble_eq_true rfl) dX5_least_12 ⟨Nat.le_of_ble_eq_true rfl, Nat.le_of_ble_eq_true rfl⟩) rfl rfl (by decide) (by decide) rfl (fun r_3 w_ hp_4 => ?_)
  obtain ⟨rfl, rfl⟩ := hp_4
  refine zj_ws (ws' := [(m0, .inl (cI, 74, .inl (zA Z1))), (m3, .inl (cI, 24, .inl (zA P2n))), (m4, .inl (cI, 24, .inl (zA R2n))), (m5, .inl (cI, 24, .inl (zA U2n))), (m6, .inl (cI, 384, .inl (zA (zGrid sg K1 W1 T1 n1.toNat)))), (m7, .inl (cI, 16, .inl (zA ((zFin sg K1 W1 T1 n1).2.2.2.2.2.1)))), (q5, .inr (5, [.int (zI th), .ref m0, .ref m1, .int (zI sm), .ref m2, .int (zI ty), .ref m3, .ref m4, .ref m5, .ref m6, .ref m7, .ref m8, .int (zI pg2n), .int (zI rw2n), .int (zI un2n), .ref m9, .int (zI pm), .int (zI sp), .int (zI wr), .long ha])), (m8, .inl (cI, 16, .inl (zA ((zFin sg K1 W1 T1 n1).2.2.2.2.1))))]) rfl ?_
  refine zj_istore_n 16 [(2, .int (zI (zUsed (zFin sg K1 W1 T1 n1)))), (1, .int (zI (Z1 0))), (0, .ref q5)] C dX5_least_15 rfl rfl (by decide) rfl ?_
  refine zj_aload_n 17 2 C dX5_least_16 rfl rfl rfl ?_
  refine zj_ci 20 [6, 0, 1] [2, 3, 4, 5, 7] C (wr := [(m4, .inl (cI, 24, .inl (zA R2n))), (m5, .inl (cI, 24, .inl (zA U2n))), (m6, .inl (cI, 384, .inl (zA (zGrid sg K1 W1 T1 n1.toNat)))), (m7, .inl (cI, 16, .inl (zA ((zFin sg K1 W1 T1 n1).2.2.2.2.2.1)))), (m8, .inl (cI, 16, .inl (zA ((zFin sg K1 W1 T1 n1).2.2.2.2.1))))]) (zr_V [6, 0, 1] C (As := []) (rest := []) (c_X5_leftOut2 l D cI cS cJ q5 m0 m1 m2 m3 m4 m5 m6 m7 m8 m9 th sm ty pg2n rw2n un2n pm sp wr ha Z1 P2n R2n U2n n1 sg K1 W1 T1 hst hz hPn) (cwV 0 C.1.2.2.2.2 gX5_least_X5_leftOut rfl rfl rfl (by decide +kernel) ⟨Nat.le_of_ble_eq_true rfl, Nat.le_of_ble_eq_true rfl⟩) rfl (by decide) 0 rfl rfl rfl rfl (Nat.le_of_ble_eq_true rfl) dX5_least_17 ⟨Nat.le_of_ble_eq_true rfl, Nat.le_of_ble_eq_true rfl⟩) rfl rfl (by decide) (by decide) rfl (fun r_5 w_ hp_6 => ?_)
  obtain ⟨rfl, rfl⟩ := hp_6
  refine zj_ws (ws' := [(m4, .inl (cI, 24, .inl (zA R2n))), (m5, .inl (cI, 24, .inl (zA U2n))), (m6, .inl (cI, 384, .inl (zA (zGrid sg K1 W1 T1 n1.toNat)))), (m7, .inl (cI, 16, .inl (zA ((zFin sg K1 W1 T1 n1).2.2.2.2.2.1)))), (m8, .inl (cI, 16, .inl (zA ((zFin sg K1 W1 T1 n1).2.2.2.2.1)))), (q5, .inr (5, [.int (zI th), .ref m0, .ref m1, .int (zI sm), .ref m2, .int (zI ty), .ref m3, .ref m4, .ref m5, .ref m6, .ref m7, .ref m8, .int (zI pg2n), .int (zI rw2n), .int (zI un2n), .ref m9, .int (zI pm), .int (zI sp), .int (zI wr), .long ha])), (m0, .inl (cI, 74, .inl (zA Z1))), (m3, .inl (cI, 24, .inl (zA P2n)))]) rfl ?_
  refine zj_istore_n 21 [(3, .int (zI (zOut n1 sg K1 W1 T1))), (2, .int (zI (zUsed (zFin sg K1 W1 T1 n1)))), (1, .int (zI (Z1 0))), (0, .ref q5)] C dX5_least_20 rfl rfl (by decide) rfl ?_
  refine zj_aload_n 22 3 C dX5_least_21 rfl rfl rfl ?_
  refine zj_get 25 5 1 C (T := TX5) im_X5_least_5 fl_X5_least_7 rfl rfl (by decide) rfl rfl dX5_least_22 rfl ?_
  refine zj_iconst 26 C dX5_least_25 rfl ?_
  refine zj_bipush 28 C dX5_least_26 rfl rfl ?_
  refine zj_iast 29 6 [(m4, .inl (cI, 24, .inl (zA R2n))), (m5, .inl (cI, 24, .inl (zA U2n))), (m6, .inl (cI, 384, .inl (zA (zGrid sg K1 W1 T1 n1.toNat)))), (m7, .inl (cI, 16, .inl (zA ((zFin sg K1 W1 T1 n1).2.2.2.2.2.1)))), (m8, .inl (cI, 16, .inl (zA ((zFin sg K1 W1 T1 n1).2.2.2.2.1)))), (q5, .inr (5, [.int (zI th), .ref m0, .ref m1, .int (zI sm), .ref m2, .int (zI ty), .ref m3, .ref m4, .ref m5, .ref m6, .ref m7, .ref m8, .int (zI pg2n), .int (zI rw2n), .int (zI un2n), .ref m9, .int (zI pm), .int (zI sp), .int (zI wr), .long ha])), (m0, .inl (cI, 74, .inl (zA (zU Z1 0 8)))), (m3, .inl (cI, 24, .inl (zA P2n)))] C (by omega) (by omega) rfl rfl rfl dX5_least_28 rfl ?_
  refine zj_iconst 30 C dX5_least_29 rfl ?_
  refine zj_istore 32 [(4, .int (zI 0)), (3, .int (zI (zOut n1 sg K1 W1 T1))), (2, .int (zI (zUsed (zFin sg K1 W1 T1 n1)))), (1, .int (zI (Z1 0))), (0, .ref q5)] C dX5_least_30 rfl (by decide) rfl ?_
  have hL32 : ∀ (N : Nat) (s3 : Int) (d3 : Int) (pg3 : Int) (rw3 : Int) (un3 : Int) (P3 : Int → Int) (R3 : Int → Int) (U3 : Int → Int) (G3 : Int → Int) (b3 : Int → Int) (c3 : Int → Int), ((d3 = 0 ∧ (8 ≤ s3 ∧ s3 < sg) ∧ zLeast n1 sg K1 W1 T1 (sg - 9).toNat = zLeast n1 sg K1 W1 T1 (sg - s3 - 1).toNat) ∨ (d3 = 1 ∧ (8 ≤ s3 ∧ s3 ≤ sg) ∧ zLeast n1 sg K1 W1 T1 (sg - 9).toNat = s3)) → ((sg + 1 - s3) - d3 < N) → zJ p l e rm_X5_least s m args below meth c Q D A 6 [(q5, .inr (5, [.int (zI th), .ref m0, .ref m1, .int (zI sm), .ref m2, .int (zI ty), .ref m3, .ref m4, .ref m5, .ref m6, .ref m7, .ref m8, .int (zI pg3), .int (zI rw3), .int (zI un3), .ref m9, .int (zI pm), .int (zI sp), .int (zI wr), .long ha])), (m0, .inl (cI, 74, .inl (zA (zU Z1 0 s3)))), (m3, .inl (cI, 24, .inl (zA P3))), (m4, .inl (cI, 24, .inl (zA R3))), (m5, .inl (cI, 24, .inl (zA U3))), (m6, .inl (cI, 384, .inl (zA G3))), (m7, .inl (cI, 16, .inl (zA b3))), (m8, .inl (cI, 16, .inl (zA c3)))] 0 0 [(0, .ref q5), (1, .int (zI (Z1 0))), (2, .int (zI (zUsed (zFin sg K1 W1 T1 n1)))), (3, .int (zI (zOut n1 sg K1 W1 T1))), (4, .int (zI d3))] 32 [] := by
    intro N
    induction N with
    | zero => intro s3 d3 pg3 rw3 un3 P3 R3 U3 G3 b3 c3 hd hN; exact absurd hN (by omega)
    | succ N ih =>
      intro s3 d3 pg3 rw3 un3 P3 R3 U3 G3 b3 c3 hd hN
      refine zj_iload 34 4 C dX5_least_32 rfl rfl ?_
      refine zj_if_ne 37 77 C (by omega) dX5_least_34 rfl (by decide) (fun h34 => ?_) (fun h34 => ?_)
      · skip
        have hd1 := hd.resolve_left (fun q => absurd q.1 (by omega))
        refine zj_aload_n 78 0 C dX5_least_77 rfl rfl rfl ?_
        refine zj_get 81 0 1 C (T := TX5) im_X5_least_5 fl_X5_least_7 rfl rfl (by decide) rfl rfl dX5_least_78 rfl ?_
        refine zj_iconst 82 C dX5_least_81 rfl ?_
        refine zj_iald 83 1 C (by omega) (by omega) rfl rfl dX5_least_82 rfl ?_
        refine zj_istore 85 [(5, .int (zI ((zU Z1 0 s3) 0))), (0, .ref q5), (1, .int (zI (Z1 0))), (2, .int (zI (zUsed (zFin sg K1 W1 T1 n1)))), (3, .int (zI (zOut n1 sg K1 W1 T1))), (4, .int (zI d3))] C dX5_least_83 rfl (by decide) rfl ?_
        refine zj_aload_n 86 1 C dX5_least_85 rfl rfl rfl ?_
        refine zj_get 89 0 1 C (T := TX5) im_X5_least_5 fl_X5_least_7 rfl rfl (by decide) rfl rfl dX5_least_86 rfl ?_
        refine zj_iconst 90 C dX5_least_89 rfl ?_
        refine zj_iload_n 91 2 C dX5_least_90 rfl rfl rfl ?_
        refine zj_iast 92 1 [(q5, .inr (5, [.int (zI th), .ref m0, .ref m1, .int (zI sm), .ref m2, .int (zI ty), .ref m3, .ref m4, .ref m5, .ref m6, .ref m7, .ref m8, .int (zI pg3), .int (zI rw3), .int (zI un3), .ref m9, .int (zI pm), .int (zI sp), .int (zI wr), .long ha])), (m0, .inl (cI, 74, .inl (zA (zU (zU Z1 0 s3) 0 (Z1 0))))), (m3, .inl (cI, 24, .inl (zA P3))), (m4, .inl (cI, 24, .inl (zA R3))), (m5, .inl (cI, 24, .inl (zA U3))), (m6, .inl (cI, 384, .inl (zA G3))), (m7, .inl (cI, 16, .inl (zA b3))), (m8, .inl (cI, 16, .inl (zA c3)))] C (by omega) (by omega) rfl rfl rfl dX5_least_91 rfl ?_
        refine zj_iload 94 0 C dX5_least_92 rfl rfl ?_
        refine zj_ext 1 [(q5, .inr (5, [.int (zI th), .ref m0, .ref m1, .int (zI sm), .ref m2, .int (zI ty), .ref m3, .ref m4, .ref m5, .ref m6, .ref m7, .ref m8, .int (zI pg3), .int (zI rw3), .int (zI un3), .ref m9, .int (zI pm), .int (zI sp), .int (zI wr), .long ha])), (m0, .inl (cI, 74, .inl (zA Z1))), (m3, .inl (cI, 24, .inl (zA P3))), (m4, .inl (cI, 24, .inl (zA R3))), (m5, .inl (cI, 24, .inl (zA U3))), (m6, .inl (cI, 384, .inl (zA G3))), (m7, .inl (cI, 16, .inl (zA b3))), (m8, .inl (cI, 16, .inl (zA c3)))] (fun x _ _ => by by_cases h : x = 0; (subst h; rw [zU_eq]); (rw [zU_ne _ _ h, zU_ne _ _ h])) rfl rfl ?_
        refine zj_st (st' := [.int (zI (zLeast n1 sg K1 W1 T1 (sg - 9).toNat))]) (by rw [hd1.2.2, zU_eq]) ?_
        subst hQ
        exact zj_ireturn C hr ⟨pg3, rw3, un3, P3, R3, U3, G3, b3, c3, rfl, rfl⟩ (by decide) (by decide) dX5_least_94
      · skip
        have hd0 := hd.resolve_right (fun q => absurd q.1 (by omega))
        obtain ⟨-, hs3, hl⟩ := hd0
        have hok3 := zOk_s hst (sg' := s3 + 1) (by omega)
        have hr3 := zRel_s (s := s3 + 1) hz
        have hu3 := (zFin_m hok3).1
        have ho3 := zOut_b hok3
        refine zj_aload_n 38 0 C dX5_least_37 rfl rfl rfl ?_
        refine zj_get 41 0 1 C (T := TX5) im_X5_least_5 fl_X5_least_7 rfl rfl (by decide) rfl rfl dX5_least_38 rfl ?_
        refine zj_iconst 42 C dX5_least_41 rfl ?_
        refine zj_dup2 43 C dX5_least_42 rfl rfl rfl ?_
        refine zj_iald 44 1 C (by omega) (by omega) rfl rfl dX5_least_43 rfl ?_
        refine zj_iconst 45 C dX5_least_44 rfl ?_
        refine zj_iadd 46 C dX5_least_45 rfl ?_
        refine zj_iast 47 1 [(q5, .inr (5, [.int (zI th), .ref m0, .ref m1, .int (zI sm), .ref m2, .int (zI ty), .ref m3, .ref m4, .ref m5, .ref m6, .ref m7, .ref m8, .int (zI pg3), .int (zI rw3), .int (zI un3), .ref m9, .int (zI pm), .int (zI sp), .int (zI wr), .long ha])), (m0, .inl (cI, 74, .inl (zA (zU (zU Z1 0 s3) 0 (((zU Z1 0 s3) 0) + 1))))), (m3, .inl (cI, 24, .inl (zA P3))), (m4, .inl (cI, 24, .inl (zA R3))), (m5, .inl (cI, 24, .inl (zA U3))), (m6, .inl (cI, 384, .inl (zA G3))), (m7, .inl (cI, 16, .inl (zA b3))), (m8, .inl (cI, 16, .inl (zA c3)))] C (by omega) (by omega) rfl rfl rfl dX5_least_46 rfl ?_
        refine zj_ext 1 [(q5, .inr (5, [.int (zI th), .ref m0, .ref m1, .int (zI sm), .ref m2, .int (zI ty), .ref m3, .ref m4, .ref m5, .ref m6, .ref m7, .ref m8, .int (zI pg3), .int (zI rw3), .int (zI un3), .ref m9, .int (zI pm), .int (zI sp), .int (zI wr), .long ha])), (m0, .inl (cI, 74, .inl (zA (zU Z1 0 (s3 + 1))))), (m3, .inl (cI, 24, .inl (zA P3))), (m4, .inl (cI, 24, .inl (zA R3))), (m5, .inl (cI, 24, .inl (zA U3))), (m6, .inl (cI, 384, .inl (zA G3))), (m7, .inl (cI, 16, .inl (zA b3))), (m8, .inl (cI, 16, .inl (zA c3)))] (fun x _ _ => by by_cases h : x = 0; (subst h; rw [zU_eq, zU_eq, zU_eq]); (rw [zU_ne _ _ h, zU_ne _ _ h, zU_ne _ _ h])) rfl rfl ?_
        skip
        refine zj_aload_n 48 0 C dX5_least_47 rfl rfl rfl ?_
        refine zj_cv 51 [0, 1, 2, 3, 4, 5, 6, 7] [] C (wr := []) (zr_V [0, 1, 2, 3, 4, 5, 6, 7] C (As := []) (rest := []) (c_X5_pour2 l D cI cS cJ q5 m0 m1 m2 m3 m4 m5 m6 m7 m8 m9 th sm ty pg3 rw3 un3 pm sp wr ha (zU Z1 0 (s3 + 1)) P3 R3 U3 G3 b3 c3 n1 (s3 + 1) K1 W1 T1 hok3 hr3) (cwV 0 C.1.2.2.2.2 gX5_least_X5_pour rfl rfl rfl (by decide +kernel) ⟨Nat.le_of_ble_eq_true rfl, Nat.le_of_ble_eq_true rfl⟩) rfl (by decide) 0 rfl rfl rfl rfl (Nat.le_of_ble_eq_true rfl) dX5_least_48 ⟨Nat.le_of_ble_eq_true rfl, Nat.le_of_ble_eq_true rfl⟩) rfl rfl (by decide) (by decide) rfl (fun w_ hp_8 => ?_)
        obtain ⟨pg2nn, rw2nn, un2nn, P2nn, R2nn, U2nn, hPnn, rfl⟩ := hp_8
        refine zj_ws (ws' := [(q5, .inr (5, [.int (zI th), .ref m0, .ref m1, .int (zI sm), .ref m2, .int (zI ty), .ref m3, .ref m4, .ref m5, .ref m6, .ref m7, .ref m8, .int (zI pg2nn), .int (zI rw2nn), .int (zI un2nn), .ref m9, .int (zI pm), .int (zI sp), .int (zI wr), .long ha])), (m0, .inl (cI, 74, .inl (zA (zU Z1 0 (s3 + 1))))), (m3, .inl (cI, 24, .inl (zA P2nn))), (m4, .inl (cI, 24, .inl (zA R2nn))), (m5, .inl (cI, 24, .inl (zA U2nn))), (m6, .inl (cI, 384, .inl (zA (zGrid (s3 + 1) K1 W1 T1 n1.toNat)))), (m7, .inl (cI, 16, .inl (zA ((zFin (s3 + 1) K1 W1 T1 n1).2.2.2.2.2.1)))), (m8, .inl (cI, 16, .inl (zA ((zFin (s3 + 1) K1 W1 T1 n1).2.2.2.2.1))))]) rfl ?_
        refine zj_aload_n 52 0 C dX5_least_51 rfl rfl rfl ?_
        refine zj_ci 55 [0, 7] [1, 2, 3, 4, 5, 6] C (wr := [(m0, .inl (cI, 74, .inl (zA (zU Z1 0 (s3 + 1))))), (m3, .inl (cI, 24, .inl (zA P2nn))), (m4, .inl (cI, 24, .inl (zA R2nn))), (m5, .inl (cI, 24, .inl (zA U2nn))), (m6, .inl (cI, 384, .inl (zA (zGrid (s3 + 1) K1 W1 T1 n1.toNat)))), (m7, .inl (cI, 16, .inl (zA ((zFin (s3 + 1) K1 W1 T1 n1).2.2.2.2.2.1))))]) (zr_V [0, 7] C (As := []) (rest := []) (c_X5_used2 l D cI cS cJ q5 m0 m1 m2 m3 m4 m5 m6 m7 m8 m9 th sm ty pg2nn rw2nn un2nn pm sp wr ha n1 (s3 + 1) K1 W1 T1 hok3) (cwV 0 C.1.2.2.2.2 gX5_least_X5_used rfl rfl rfl (by decide +kernel) ⟨Nat.le_of_ble_eq_true rfl, Nat.le_of_ble_eq_true rfl⟩) rfl (by decide) 0 rfl rfl rfl rfl (Nat.le_of_ble_eq_true rfl) dX5_least_52 ⟨Nat.le_of_ble_eq_true rfl, Nat.le_of_ble_eq_true rfl⟩) rfl rfl (by decide) (by decide) rfl (fun r_9 w_ hp_10 => ?_)
        obtain ⟨rfl, rfl⟩ := hp_10
        refine zj_ws (ws' := [(m0, .inl (cI, 74, .inl (zA (zU Z1 0 (s3 + 1))))), (m3, .inl (cI, 24, .inl (zA P2nn))), (m4, .inl (cI, 24, .inl (zA R2nn))), (m5, .inl (cI, 24, .inl (zA U2nn))), (m6, .inl (cI, 384, .inl (zA (zGrid (s3 + 1) K1 W1 T1 n1.toNat)))), (m7, .inl (cI, 16, .inl (zA ((zFin (s3 + 1) K1 W1 T1 n1).2.2.2.2.2.1)))), (q5, .inr (5, [.int (zI th), .ref m0, .ref m1, .int (zI sm), .ref m2, .int (zI ty), .ref m3, .ref m4, .ref m5, .ref m6, .ref m7, .ref m8, .int (zI pg2nn), .int (zI rw2nn), .int (zI un2nn), .ref m9, .int (zI pm), .int (zI sp), .int (zI wr), .long ha])), (m8, .inl (cI, 16, .inl (zA ((zFin (s3 + 1) K1 W1 T1 n1).2.2.2.2.1))))]) rfl ?_
        refine zj_iload_n 56 2 C dX5_least_55 rfl rfl rfl ?_
        refine zj_icmp_gt 59 71 C (by omega) (by omega) dX5_least_56 rfl (by decide) (fun h56 => ?_) (fun h56 => ?_)
        · skip
          refine zj_iconst 72 C dX5_least_71 rfl ?_
          refine zj_istore 74 [(4, .int (zI 0)), (0, .ref q5), (1, .int (zI (Z1 0))), (2, .int (zI (zUsed (zFin sg K1 W1 T1 n1)))), (3, .int (zI (zOut n1 sg K1 W1 T1)))] C dX5_least_72 rfl (by decide) rfl ?_
          refine zj_goto 32 C dX5_least_74 (by decide) ?_
          refine zj_re [6, 0, 1, 2, 3, 4, 5, 7] [(q5, .inr (5, [.int (zI th), .ref m0, .ref m1, .int (zI sm), .ref m2, .int (zI ty), .ref m3, .ref m4, .ref m5, .ref m6, .ref m7, .ref m8, .int (zI pg2nn), .int (zI rw2nn), .int (zI un2nn), .ref m9, .int (zI pm), .int (zI sp), .int (zI wr), .long ha])), (m0, .inl (cI, 74, .inl (zA (zU Z1 0 (s3 + 1))))), (m3, .inl (cI, 24, .inl (zA P2nn))), (m4, .inl (cI, 24, .inl (zA R2nn))), (m5, .inl (cI, 24, .inl (zA U2nn))), (m6, .inl (cI, 384, .inl (zA (zGrid (s3 + 1) K1 W1 T1 n1.toNat)))), (m7, .inl (cI, 16, .inl (zA ((zFin (s3 + 1) K1 W1 T1 n1).2.2.2.2.2.1)))), (m8, .inl (cI, 16, .inl (zA ((zFin (s3 + 1) K1 W1 T1 n1).2.2.2.2.1))))] (by decide) rfl ?_
          refine zj_lv [1, 2, 3, 4, 0] [(0, .ref q5), (1, .int (zI (Z1 0))), (2, .int (zI (zUsed (zFin sg K1 W1 T1 n1)))), (3, .int (zI (zOut n1 sg K1 W1 T1))), (4, .int (zI 0))] rfl ?_
          exact ih (s3 + 1) 0 pg2nn rw2nn un2nn P2nn R2nn U2nn (zGrid (s3 + 1) K1 W1 T1 n1.toNat) ((zFin (s3 + 1) K1 W1 T1 n1).2.2.2.2.2.1) ((zFin (s3 + 1) K1 W1 T1 n1).2.2.2.2.1) (by have hlt : s3 + 1 < sg := (by rcases (show s3 + 1 = sg ∨ s3 + 1 < sg by omega) with q | q; rw [q] at h56; omega; exact q); exact Or.inl ⟨rfl, ⟨by omega, by omega⟩, by rw [show (sg - s3 - 1).toNat = (sg - (s3 + 1) - 1).toNat + 1 by omega, zLeast, show sg - (((sg - (s3 + 1) - 1).toNat : Int) + 1) = s3 + 1 by omega, if_neg (by omega)] at hl; exact hl⟩) (by omega)
        · skip
          refine zj_aload_n 60 0 C dX5_least_59 rfl rfl rfl ?_
          refine zj_ci 63 [6, 0, 1] [2, 3, 4, 5, 7] C (wr := [(m4, .inl (cI, 24, .inl (zA R2nn))), (m5, .inl (cI, 24, .inl (zA U2nn))), (m6, .inl (cI, 384, .inl (zA (zGrid (s3 + 1) K1 W1 T1 n1.toNat)))), (m7, .inl (cI, 16, .inl (zA ((zFin (s3 + 1) K1 W1 T1 n1).2.2.2.2.2.1)))), (m8, .inl (cI, 16, .inl (zA ((zFin (s3 + 1) K1 W1 T1 n1).2.2.2.2.1))))]) (zr_V [6, 0, 1] C (As := []) (rest := []) (c_X5_leftOut2 l D cI cS cJ q5 m0 m1 m2 m3 m4 m5 m6 m7 m8 m9 th sm ty pg2nn rw2nn un2nn pm sp wr ha (zU Z1 0 (s3 + 1)) P2nn R2nn U2nn n1 (s3 + 1) K1 W1 T1 hok3 hr3 hPnn) (cwV 0 C.1.2.2.2.2 gX5_least_X5_leftOut rfl rfl rfl (by decide +kernel) ⟨Nat.le_of_ble_eq_true rfl, Nat.le_of_ble_eq_true rfl⟩) rfl (by decide) 0 rfl rfl rfl rfl (Nat.le_of_ble_eq_true rfl) dX5_least_60 ⟨Nat.le_of_ble_eq_true rfl, Nat.le_of_ble_eq_true rfl⟩) rfl rfl (by decide) (by decide) rfl (fun r_11 w_ hp_12 => ?_)
          obtain ⟨rfl, rfl⟩ := hp_12
          refine zj_ws (ws' := [(m4, .inl (cI, 24, .inl (zA R2nn))), (m5, .inl (cI, 24, .inl (zA U2nn))), (m6, .inl (cI, 384, .inl (zA (zGrid (s3 + 1) K1 W1 T1 n1.toNat)))), (m7, .inl (cI, 16, .inl (zA ((zFin (s3 + 1) K1 W1 T1 n1).2.2.2.2.2.1)))), (m8, .inl (cI, 16, .inl (zA ((zFin (s3 + 1) K1 W1 T1 n1).2.2.2.2.1)))), (q5, .inr (5, [.int (zI th), .ref m0, .ref m1, .int (zI sm), .ref m2, .int (zI ty), .ref m3, .ref m4, .ref m5, .ref m6, .ref m7, .ref m8, .int (zI pg2nn), .int (zI rw2nn), .int (zI un2nn), .ref m9, .int (zI pm), .int (zI sp), .int (zI wr), .long ha])), (m0, .inl (cI, 74, .inl (zA (zU Z1 0 (s3 + 1))))), (m3, .inl (cI, 24, .inl (zA P2nn)))]) rfl ?_
          refine zj_iload_n 64 3 C dX5_least_63 rfl rfl rfl ?_
          refine zj_icmp_gt 67 71 C (by omega) (by omega) dX5_least_64 rfl (by decide) (fun h64 => ?_) (fun h64 => ?_)
          · skip
            refine zj_iconst 72 C dX5_least_71 rfl ?_
            refine zj_istore 74 [(4, .int (zI 0)), (0, .ref q5), (1, .int (zI (Z1 0))), (2, .int (zI (zUsed (zFin sg K1 W1 T1 n1)))), (3, .int (zI (zOut n1 sg K1 W1 T1)))] C dX5_least_72 rfl (by decide) rfl ?_
            refine zj_goto 32 C dX5_least_74 (by decide) ?_
            refine zj_re [5, 6, 7, 0, 1, 2, 3, 4] [(q5, .inr (5, [.int (zI th), .ref m0, .ref m1, .int (zI sm), .ref m2, .int (zI ty), .ref m3, .ref m4, .ref m5, .ref m6, .ref m7, .ref m8, .int (zI pg2nn), .int (zI rw2nn), .int (zI un2nn), .ref m9, .int (zI pm), .int (zI sp), .int (zI wr), .long ha])), (m0, .inl (cI, 74, .inl (zA (zU Z1 0 (s3 + 1))))), (m3, .inl (cI, 24, .inl (zA P2nn))), (m4, .inl (cI, 24, .inl (zA R2nn))), (m5, .inl (cI, 24, .inl (zA U2nn))), (m6, .inl (cI, 384, .inl (zA (zGrid (s3 + 1) K1 W1 T1 n1.toNat)))), (m7, .inl (cI, 16, .inl (zA ((zFin (s3 + 1) K1 W1 T1 n1).2.2.2.2.2.1)))), (m8, .inl (cI, 16, .inl (zA ((zFin (s3 + 1) K1 W1 T1 n1).2.2.2.2.1))))] (by decide) rfl ?_
            refine zj_lv [1, 2, 3, 4, 0] [(0, .ref q5), (1, .int (zI (Z1 0))), (2, .int (zI (zUsed (zFin sg K1 W1 T1 n1)))), (3, .int (zI (zOut n1 sg K1 W1 T1))), (4, .int (zI 0))] rfl ?_
            exact ih (s3 + 1) 0 pg2nn rw2nn un2nn P2nn R2nn U2nn (zGrid (s3 + 1) K1 W1 T1 n1.toNat) ((zFin (s3 + 1) K1 W1 T1 n1).2.2.2.2.2.1) ((zFin (s3 + 1) K1 W1 T1 n1).2.2.2.2.1) (by have hlt : s3 + 1 < sg := (by rcases (show s3 + 1 = sg ∨ s3 + 1 < sg by omega) with q | q; rw [q] at h64; omega; exact q); exact Or.inl ⟨rfl, ⟨by omega, by omega⟩, by rw [show (sg - s3 - 1).toNat = (sg - (s3 + 1) - 1).toNat + 1 by omega, zLeast, show sg - (((sg - (s3 + 1) - 1).toNat : Int) + 1) = s3 + 1 by omega, if_neg (by omega)] at hl; exact hl⟩) (by omega)
          · skip
            refine zj_iconst 68 C dX5_least_67 rfl ?_
            refine zj_goto 72 C dX5_least_68 (by decide) ?_
            refine zj_istore 74 [(4, .int (zI 1)), (0, .ref q5), (1, .int (zI (Z1 0))), (2, .int (zI (zUsed (zFin sg K1 W1 T1 n1)))), (3, .int (zI (zOut n1 sg K1 W1 T1)))] C dX5_least_72 rfl (by decide) rfl ?_
            refine zj_goto 32 C dX5_least_74 (by decide) ?_
            refine zj_re [5, 6, 7, 0, 1, 2, 3, 4] [(q5, .inr (5, [.int (zI th), .ref m0, .ref m1, .int (zI sm), .ref m2, .int (zI ty), .ref m3, .ref m4, .ref m5, .ref m6, .ref m7, .ref m8, .int (zI pg2nn), .int (zI rw2nn), .int (zI un2nn), .ref m9, .int (zI pm), .int (zI sp), .int (zI wr), .long ha])), (m0, .inl (cI, 74, .inl (zA (zU Z1 0 (s3 + 1))))), (m3, .inl (cI, 24, .inl (zA P2nn))), (m4, .inl (cI, 24, .inl (zA R2nn))), (m5, .inl (cI, 24, .inl (zA U2nn))), (m6, .inl (cI, 384, .inl (zA (zGrid (s3 + 1) K1 W1 T1 n1.toNat)))), (m7, .inl (cI, 16, .inl (zA ((zFin (s3 + 1) K1 W1 T1 n1).2.2.2.2.2.1)))), (m8, .inl (cI, 16, .inl (zA ((zFin (s3 + 1) K1 W1 T1 n1).2.2.2.2.1))))] (by decide) rfl ?_
            refine zj_lv [1, 2, 3, 4, 0] [(0, .ref q5), (1, .int (zI (Z1 0))), (2, .int (zI (zUsed (zFin sg K1 W1 T1 n1)))), (3, .int (zI (zOut n1 sg K1 W1 T1))), (4, .int (zI 1))] rfl ?_
            exact ih (s3 + 1) 1 pg2nn rw2nn un2nn P2nn R2nn U2nn (zGrid (s3 + 1) K1 W1 T1 n1.toNat) ((zFin (s3 + 1) K1 W1 T1 n1).2.2.2.2.2.1) ((zFin (s3 + 1) K1 W1 T1 n1).2.2.2.2.1) (Or.inr ⟨rfl, ⟨by omega, by omega⟩, by rw [hl]; rcases (show s3 + 1 = sg ∨ s3 + 1 < sg by omega) with q | q; rw [show (sg - s3 - 1).toNat = 0 by omega, zLeast]; omega; rw [show (sg - s3 - 1).toNat = (sg - (s3 + 1) - 1).toNat + 1 by omega, zLeast, show sg - (((sg - (s3 + 1) - 1).toNat : Int) + 1) = s3 + 1 by omega, if_pos (by omega)]⟩) (by omega)
  refine zj_re [5, 6, 7, 0, 1, 2, 3, 4] [(q5, .inr (5, [.int (zI th), .ref m0, .ref m1, .int (zI sm), .ref m2, .int (zI ty), .ref m3, .ref m4, .ref m5, .ref m6, .ref m7, .ref m8, .int (zI pg2n), .int (zI rw2n), .int (zI un2n), .ref m9, .int (zI pm), .int (zI sp), .int (zI wr), .long ha])), (m0, .inl (cI, 74, .inl (zA (zU Z1 0 8)))), (m3, .inl (cI, 24, .inl (zA P2n))), (m4, .inl (cI, 24, .inl (zA R2n))), (m5, .inl (cI, 24, .inl (zA U2n))), (m6, .inl (cI, 384, .inl (zA (zGrid sg K1 W1 T1 n1.toNat)))), (m7, .inl (cI, 16, .inl (zA ((zFin sg K1 W1 T1 n1).2.2.2.2.2.1)))), (m8, .inl (cI, 16, .inl (zA ((zFin sg K1 W1 T1 n1).2.2.2.2.1))))] (by decide) rfl ?_
  refine zj_lv [4, 3, 2, 1, 0] [(0, .ref q5), (1, .int (zI (Z1 0))), (2, .int (zI (zUsed (zFin sg K1 W1 T1 n1)))), (3, .int (zI (zOut n1 sg K1 W1 T1))), (4, .int (zI 0))] rfl ?_
  exact hL32 (60) 8 0 pg2n rw2n un2n P2n R2n U2n (zGrid sg K1 W1 T1 n1.toNat) ((zFin sg K1 W1 T1 n1).2.2.2.2.2.1) ((zFin sg K1 W1 T1 n1).2.2.2.2.1) (Or.inl ⟨rfl, ⟨by omega, by omega⟩, by rw [show (sg - 9).toNat = (sg - 8 - 1).toNat by omega]⟩) (by omega)

theorem wc_X5_widthFor_187 : Cond.constant RX5 187 (100000) ∈ wsX5_widthFor := by decide +kernel
abbrev rm_X5_widthFor : Room := { frames := 4, cells := 0, slots := 0, locals := 92 }
set_option maxRecDepth 100000 in
set_option maxHeartbeats 4000000 in
theorem c_X5_widthFor (l : Launch) (D : va_G) (cI cS cJ : ClassId) (q5 : Nat) (m0 : Nat) (m1 : Nat) (m2 : Nat) (m3 : Nat) (m4 : Nat) (m5 : Nat) (m6 : Nat) (m7 : Nat) (m8 : Nat) (m9 : Nat) (th : Int) (sm : Int) (ty : Int) (pg : Int) (rw : Int) (un : Int) (pm : Int) (sp : Int) (wr : Int) (ha : Int64) (Z1 : Int → Int) (P1 : Int → Int) (R1 : Int → Int) (U1 : Int → Int) (G1 : Int → Int) (b1 : Int → Int) (c1 : Int → Int) (n1 : Int) (sg : Int) (K1 : Int → Int) (W1 : Int → Int) (T1 : Int → Int) (i1 : Int) (hst : zOk n1 sg K1 W1 T1) (hz : zRel n1 sg K1 W1 T1 Z1) (hi : 0 ≤ i1 ∧ i1 < n1) : zMi l yX5_widthFor wsX5_widthFor rm_X5_widthFor D (zTy cI cS cJ) [.ref q5, .int (zI i1)] [(q5, .inr (5, [.int (zI th), .ref m0, .ref m1, .int (zI sm), .ref m2, .int (zI ty), .ref m3, .ref m4, .ref m5, .ref m6, .ref m7, .ref m8, .int (zI pg), .int (zI rw), .int (zI un), .ref m9, .int (zI pm), .int (zI sp), .int (zI wr), .long ha])), (m0, .inl (cI, 74, .inl (zA Z1))), (m3, .inl (cI, 24, .inl (zA P1))), (m4, .inl (cI, 24, .inl (zA R1))), (m5, .inl (cI, 24, .inl (zA U1))), (m6, .inl (cI, 384, .inl (zA G1))), (m7, .inl (cI, 16, .inl (zA b1))), (m8, .inl (cI, 16, .inl (zA c1)))] (fun r w => ∃ (pg2 : Int), ∃ (rw2 : Int), ∃ (un2 : Int), ∃ (P2 : Int → Int), ∃ (R2 : Int → Int), ∃ (U2 : Int → Int), ∃ (G2 : Int → Int), ∃ (b2 : Int → Int), ∃ (c2 : Int → Int), r = zI ((zBw (fun w => zCost n1 sg K1 (zU W1 i1 w) T1) 6).1) ∧ w = [(q5, .inr (5, [.int (zI th), .ref m0, .ref m1, .int (zI sm), .ref m2, .int (zI ty), .ref m3, .ref m4, .ref m5, .ref m6, .ref m7, .ref m8, .int (zI pg2), .int (zI rw2), .int (zI un2), .ref m9, .int (zI pm), .int (zI sp), .int (zI wr), .long ha])), (m0, .inl (cI, 74, .inl (zA Z1))), (m3, .inl (cI, 24, .inl (zA P2))), (m4, .inl (cI, 24, .inl (zA R2))), (m5, .inl (cI, 24, .inl (zA U2))), (m6, .inl (cI, 384, .inl (zA G2))), (m7, .inl (cI, 16, .inl (zA b2))), (m8, .inl (cI, 16, .inl (zA c2)))]) 0 0 := by
  intro sz
  refine zMet_of (Qc := fun A => va_Qi _ (zB D (zTy cI cS cJ) A) A) RX5 [(0, .ref q5), (1, .int (zI i1))] rfl (by decide +kernel) rfl (Nat.le_of_ble_eq_true rfl) rfl ?_ sz
  intro p e s m args below meth c A Q hQ C hr hini
  have hn := hst.1
  refine zj_aload_n 1 0 C dX5_widthFor_0 rfl rfl rfl ?_
  refine zj_iload_n 2 1 C dX5_widthFor_1 rfl rfl rfl ?_
  refine zj_iconst 3 C dX5_widthFor_2 rfl ?_
  refine zj_ci 6 [0, 1] [2, 3, 4, 5, 6, 7] C (wr := [(m3, .inl (cI, 24, .inl (zA P1))), (m4, .inl (cI, 24, .inl (zA R1))), (m5, .inl (cI, 24, .inl (zA U1))), (m6, .inl (cI, 384, .inl (zA G1))), (m7, .inl (cI, 16, .inl (zA b1))), (m8, .inl (cI, 16, .inl (zA c1)))]) (zr_V [0, 1] C (As := [.int (zI i1), .int (zI 1)]) (rest := []) (c_X5_of l D cI cS cJ q5 m0 m1 m2 m3 m4 m5 m6 m7 m8 m9 th sm ty pg rw un pm sp wr ha Z1 i1 1 (by omega) (by omega)) (cwV 2 C.1.2.2.2.2 gX5_widthFor_X5_of rfl rfl rfl (by decide +kernel) ⟨Nat.le_of_ble_eq_true rfl, Nat.le_of_ble_eq_true rfl⟩) rfl (by decide) 0 rfl rfl rfl rfl (Nat.le_of_ble_eq_true rfl) dX5_widthFor_3 ⟨Nat.le_of_ble_eq_true rfl, Nat.le_of_ble_eq_true rfl⟩) rfl rfl (by decide) (by decide) rfl (fun r_1 w_ hp_2 => ?_)
  obtain ⟨rfl, rfl⟩ := hp_2
  refine zj_ws (ws' := [(m3, .inl (cI, 24, .inl (zA P1))), (m4, .inl (cI, 24, .inl (zA R1))), (m5, .inl (cI, 24, .inl (zA U1))), (m6, .inl (cI, 384, .inl (zA G1))), (m7, .inl (cI, 16, .inl (zA b1))), (m8, .inl (cI, 16, .inl (zA c1))), (q5, .inr (5, [.int (zI th), .ref m0, .ref m1, .int (zI sm), .ref m2, .int (zI ty), .ref m3, .ref m4, .ref m5, .ref m6, .ref m7, .ref m8, .int (zI pg), .int (zI rw), .int (zI un), .ref m9, .int (zI pm), .int (zI sp), .int (zI wr), .long ha])), (m0, .inl (cI, 74, .inl (zA Z1)))]) rfl ?_
  refine zj_istore_n 7 [(2, .int (zI (Z1 (2 + 3 * i1 + 1)))), (0, .ref q5), (1, .int (zI i1))] C dX5_widthFor_6 rfl rfl (by decide) rfl ?_
  refine zj_iconst 8 C dX5_widthFor_7 rfl ?_
  refine zj_istore_n 9 [(3, .int (zI (-1))), (2, .int (zI (Z1 (2 + 3 * i1 + 1)))), (0, .ref q5), (1, .int (zI i1))] C dX5_widthFor_8 rfl rfl (by decide) rfl ?_
  refine zj_iconst 10 C dX5_widthFor_9 rfl ?_
  refine zj_istore 12 [(4, .int (zI 0)), (3, .int (zI (-1))), (2, .int (zI (Z1 (2 + 3 * i1 + 1)))), (0, .ref q5), (1, .int (zI i1))] C dX5_widthFor_10 rfl (by decide) rfl ?_
  refine zj_iconst 13 C dX5_widthFor_12 rfl ?_
  refine zj_istore 15 [(5, .int (zI 1)), (4, .int (zI 0)), (3, .int (zI (-1))), (2, .int (zI (Z1 (2 + 3 * i1 + 1)))), (0, .ref q5), (1, .int (zI i1))] C dX5_widthFor_13 rfl (by decide) rfl ?_
  have hL15 : ∀ (N : Nat) (k6 : Nat) (be6 : Int) (le6 : Int) (z3 : Int → Int) (pg3 : Int) (rw3 : Int) (un3 : Int) (P3 : Int → Int) (R3 : Int → Int) (U3 : Int → Int) (G3 : Int → Int) (b3 : Int → Int) (c3 : Int → Int), ((k6 : Int) ≤ 6) → (be6 = (zBw (fun w => zCosM n1 sg K1 (zU W1 i1 w) T1) k6).1) → (le6 = (zBw (fun w => zCosM n1 sg K1 (zU W1 i1 w) T1) k6).2) → (-1 ≤ be6 ∧ be6 ≤ 6) → (-100000000 ≤ le6 ∧ le6 ≤ 100000000) → (∀ x, ¬ x = 2 + 3 * i1 + 1 → z3 x = Z1 x) → (6 - (k6 : Int) < N) → zJ p l e rm_X5_widthFor s m args below meth c Q D A 8 [(q5, .inr (5, [.int (zI th), .ref m0, .ref m1, .int (zI sm), .ref m2, .int (zI ty), .ref m3, .ref m4, .ref m5, .ref m6, .ref m7, .ref m8, .int (zI pg3), .int (zI rw3), .int (zI un3), .ref m9, .int (zI pm), .int (zI sp), .int (zI wr), .long ha])), (m0, .inl (cI, 74, .inl (zA z3))), (m3, .inl (cI, 24, .inl (zA P3))), (m4, .inl (cI, 24, .inl (zA R3))), (m5, .inl (cI, 24, .inl (zA U3))), (m6, .inl (cI, 384, .inl (zA G3))), (m7, .inl (cI, 16, .inl (zA b3))), (m8, .inl (cI, 16, .inl (zA c3)))] 0 0 [(0, .ref q5), (1, .int (zI i1)), (2, .int (zI (Z1 (2 + 3 * i1 + 1)))), (3, .int (zI be6)), (4, .int (zI le6)), (5, .int (zI ((k6 : Int) + 1)))] 15 [] := by
    intro N
    induction N with
    | zero => intro k6 be6 le6 z3 pg3 rw3 un3 P3 R3 U3 G3 b3 c3 hm hb6 hl6 hbb hll hw3 hN; exact absurd hN (by omega)
    | succ N ih =>
      intro k6 be6 le6 z3 pg3 rw3 un3 P3 R3 U3 G3 b3 c3 hm hb6 hl6 hbb hll hw3 hN
      refine zj_iload 17 5 C dX5_widthFor_15 rfl rfl ?_
      refine zj_bipush 19 C dX5_widthFor_17 rfl rfl ?_
      refine zj_icmp_gt 22 108 C (by omega) (by omega) dX5_widthFor_19 rfl (by decide) (fun h19 => ?_) (fun h19 => ?_)
      · skip
        refine zj_aload_n 109 0 C dX5_widthFor_108 rfl rfl rfl ?_
        refine zj_iload_n 110 1 C dX5_widthFor_109 rfl rfl rfl ?_
        refine zj_iconst 111 C dX5_widthFor_110 rfl ?_
        refine zj_iload_n 112 2 C dX5_widthFor_111 rfl rfl rfl ?_
        refine zj_cv 115 [0, 1] [2, 3, 4, 5, 6, 7] C (wr := [(m3, .inl (cI, 24, .inl (zA P3))), (m4, .inl (cI, 24, .inl (zA R3))), (m5, .inl (cI, 24, .inl (zA U3))), (m6, .inl (cI, 384, .inl (zA G3))), (m7, .inl (cI, 16, .inl (zA b3))), (m8, .inl (cI, 16, .inl (zA c3)))]) (zr_V [0, 1] C (As := [.int (zI i1), .int (zI 1), .int (zI (Z1 (2 + 3 * i1 + 1)))]) (rest := []) (c_X5_lay l D cI cS cJ q5 m0 m1 m2 m3 m4 m5 m6 m7 m8 m9 th sm ty pg3 rw3 un3 pm sp wr ha z3 i1 1 (Z1 (2 + 3 * i1 + 1)) (by omega) (by omega)) (cwV 3 C.1.2.2.2.2 gX5_widthFor_X5_lay rfl rfl rfl (by decide +kernel) ⟨Nat.le_of_ble_eq_true rfl, Nat.le_of_ble_eq_true rfl⟩) rfl (by decide) 0 rfl rfl rfl rfl (Nat.le_of_ble_eq_true rfl) dX5_widthFor_112 ⟨Nat.le_of_ble_eq_true rfl, Nat.le_of_ble_eq_true rfl⟩) rfl rfl (by decide) (by decide) rfl (fun w_ hp_4 => ?_)
        obtain rfl := hp_4
        refine zj_ws (ws' := [(m3, .inl (cI, 24, .inl (zA P3))), (m4, .inl (cI, 24, .inl (zA R3))), (m5, .inl (cI, 24, .inl (zA U3))), (m6, .inl (cI, 384, .inl (zA G3))), (m7, .inl (cI, 16, .inl (zA b3))), (m8, .inl (cI, 16, .inl (zA c3))), (q5, .inr (5, [.int (zI th), .ref m0, .ref m1, .int (zI sm), .ref m2, .int (zI ty), .ref m3, .ref m4, .ref m5, .ref m6, .ref m7, .ref m8, .int (zI pg3), .int (zI rw3), .int (zI un3), .ref m9, .int (zI pm), .int (zI sp), .int (zI wr), .long ha])), (m0, .inl (cI, 74, .inl (zA (zU z3 (2 + 3 * i1 + 1) (Z1 (2 + 3 * i1 + 1))))))]) rfl ?_
        refine zj_iload_n 116 3 C dX5_widthFor_115 rfl rfl rfl ?_
        refine zj_ext 7 [(m3, .inl (cI, 24, .inl (zA P3))), (m4, .inl (cI, 24, .inl (zA R3))), (m5, .inl (cI, 24, .inl (zA U3))), (m6, .inl (cI, 384, .inl (zA G3))), (m7, .inl (cI, 16, .inl (zA b3))), (m8, .inl (cI, 16, .inl (zA c3))), (q5, .inr (5, [.int (zI th), .ref m0, .ref m1, .int (zI sm), .ref m2, .int (zI ty), .ref m3, .ref m4, .ref m5, .ref m6, .ref m7, .ref m8, .int (zI pg3), .int (zI rw3), .int (zI un3), .ref m9, .int (zI pm), .int (zI sp), .int (zI wr), .long ha])), (m0, .inl (cI, 74, .inl (zA Z1)))] (fun x _ _ => by by_cases h : x = 2 + 3 * i1 + 1; (subst h; rw [zU_eq]); (rw [zU_ne _ _ h]; exact hw3 x h)) rfl rfl ?_
        refine zj_re [6, 7, 0, 1, 2, 3, 4, 5] [(q5, .inr (5, [.int (zI th), .ref m0, .ref m1, .int (zI sm), .ref m2, .int (zI ty), .ref m3, .ref m4, .ref m5, .ref m6, .ref m7, .ref m8, .int (zI pg3), .int (zI rw3), .int (zI un3), .ref m9, .int (zI pm), .int (zI sp), .int (zI wr), .long ha])), (m0, .inl (cI, 74, .inl (zA Z1))), (m3, .inl (cI, 24, .inl (zA P3))), (m4, .inl (cI, 24, .inl (zA R3))), (m5, .inl (cI, 24, .inl (zA U3))), (m6, .inl (cI, 384, .inl (zA G3))), (m7, .inl (cI, 16, .inl (zA b3))), (m8, .inl (cI, 16, .inl (zA c3)))] (by decide) rfl ?_
        refine zj_st (st' := [.int (zI ((zBw (fun w => zCost n1 sg K1 (zU W1 i1 w) T1) 6).1))]) (by rw [hb6, show k6 = 6 by omega]; rw [zBw_m hst]) ?_
        subst hQ
        exact zj_ireturn C hr ⟨pg3, rw3, un3, P3, R3, U3, G3, b3, c3, rfl, rfl⟩ (by decide) (by decide) dX5_widthFor_116
      · skip
        have hok3 := zOk_w (p := i1) hst (w := (k6 : Int) + 1) (by omega)
        have hr3 : zRel n1 sg K1 (zU W1 i1 ((k6 : Int) + 1)) T1 (zU z3 (2 + 3 * i1 + 1) ((k6 : Int) + 1)) := zRel_w hz hi.1 (fun x h => by rw [zU_ne _ _ h]; exact hw3 x h) (zU_eq _ _ _)
        have hu3 := (zFin_m hok3).1
        have ho3 := zOut_b hok3
        have he3 := zq_emp hok3
        refine zj_aload_n 23 0 C dX5_widthFor_22 rfl rfl rfl ?_
        refine zj_iload_n 24 1 C dX5_widthFor_23 rfl rfl rfl ?_
        refine zj_iconst 25 C dX5_widthFor_24 rfl ?_
        refine zj_iload 27 5 C dX5_widthFor_25 rfl rfl ?_
        refine zj_cv 30 [0, 1] [2, 3, 4, 5, 6, 7] C (wr := [(m3, .inl (cI, 24, .inl (zA P3))), (m4, .inl (cI, 24, .inl (zA R3))), (m5, .inl (cI, 24, .inl (zA U3))), (m6, .inl (cI, 384, .inl (zA G3))), (m7, .inl (cI, 16, .inl (zA b3))), (m8, .inl (cI, 16, .inl (zA c3)))]) (zr_V [0, 1] C (As := [.int (zI i1), .int (zI 1), .int (zI ((k6 : Int) + 1))]) (rest := []) (c_X5_lay l D cI cS cJ q5 m0 m1 m2 m3 m4 m5 m6 m7 m8 m9 th sm ty pg3 rw3 un3 pm sp wr ha z3 i1 1 ((k6 : Int) + 1) (by omega) (by omega)) (cwV 3 C.1.2.2.2.2 gX5_widthFor_X5_lay rfl rfl rfl (by decide +kernel) ⟨Nat.le_of_ble_eq_true rfl, Nat.le_of_ble_eq_true rfl⟩) rfl (by decide) 0 rfl rfl rfl rfl (Nat.le_of_ble_eq_true rfl) dX5_widthFor_27 ⟨Nat.le_of_ble_eq_true rfl, Nat.le_of_ble_eq_true rfl⟩) rfl rfl (by decide) (by decide) rfl (fun w_ hp_6 => ?_)
        obtain rfl := hp_6
        refine zj_ws (ws' := [(m3, .inl (cI, 24, .inl (zA P3))), (m4, .inl (cI, 24, .inl (zA R3))), (m5, .inl (cI, 24, .inl (zA U3))), (m6, .inl (cI, 384, .inl (zA G3))), (m7, .inl (cI, 16, .inl (zA b3))), (m8, .inl (cI, 16, .inl (zA c3))), (q5, .inr (5, [.int (zI th), .ref m0, .ref m1, .int (zI sm), .ref m2, .int (zI ty), .ref m3, .ref m4, .ref m5, .ref m6, .ref m7, .ref m8, .int (zI pg3), .int (zI rw3), .int (zI un3), .ref m9, .int (zI pm), .int (zI sp), .int (zI wr), .long ha])), (m0, .inl (cI, 74, .inl (zA (zU z3 (2 + 3 * i1 + 1) ((k6 : Int) + 1)))))]) rfl ?_
        refine zj_aload_n 31 0 C dX5_widthFor_30 rfl rfl rfl ?_
        refine zj_cv 34 [6, 7, 0, 1, 2, 3, 4, 5] [] C (wr := []) (zr_V [6, 7, 0, 1, 2, 3, 4, 5] C (As := []) (rest := []) (c_X5_pour2 l D cI cS cJ q5 m0 m1 m2 m3 m4 m5 m6 m7 m8 m9 th sm ty pg3 rw3 un3 pm sp wr ha (zU z3 (2 + 3 * i1 + 1) ((k6 : Int) + 1)) P3 R3 U3 G3 b3 c3 n1 sg K1 (zU W1 i1 ((k6 : Int) + 1)) T1 hok3 hr3) (cwV 0 C.1.2.2.2.2 gX5_widthFor_X5_pour rfl rfl rfl (by decide +kernel) ⟨Nat.le_of_ble_eq_true rfl, Nat.le_of_ble_eq_true rfl⟩) rfl (by decide) 0 rfl rfl rfl rfl (Nat.le_of_ble_eq_true rfl) dX5_widthFor_31 ⟨Nat.le_of_ble_eq_true rfl, Nat.le_of_ble_eq_true rfl⟩) rfl rfl (by decide) (by decide) rfl (fun w_ hp_8 => ?_)
        obtain ⟨pg2n, rw2n, un2n, P2n, R2n, U2n, hPn, rfl⟩ := hp_8
        refine zj_ws (ws' := [(q5, .inr (5, [.int (zI th), .ref m0, .ref m1, .int (zI sm), .ref m2, .int (zI ty), .ref m3, .ref m4, .ref m5, .ref m6, .ref m7, .ref m8, .int (zI pg2n), .int (zI rw2n), .int (zI un2n), .ref m9, .int (zI pm), .int (zI sp), .int (zI wr), .long ha])), (m0, .inl (cI, 74, .inl (zA (zU z3 (2 + 3 * i1 + 1) ((k6 : Int) + 1))))), (m3, .inl (cI, 24, .inl (zA P2n))), (m4, .inl (cI, 24, .inl (zA R2n))), (m5, .inl (cI, 24, .inl (zA U2n))), (m6, .inl (cI, 384, .inl (zA (zGrid sg K1 (zU W1 i1 ((k6 : Int) + 1)) T1 n1.toNat)))), (m7, .inl (cI, 16, .inl (zA ((zFin sg K1 (zU W1 i1 ((k6 : Int) + 1)) T1 n1).2.2.2.2.2.1)))), (m8, .inl (cI, 16, .inl (zA ((zFin sg K1 (zU W1 i1 ((k6 : Int) + 1)) T1 n1).2.2.2.2.1))))]) rfl ?_
        refine zj_ldc 36 C (100000) rfl wc_X5_widthFor_187 dX5_widthFor_34 rfl ?_
        refine zj_aload_n 37 0 C dX5_widthFor_36 rfl rfl rfl ?_
        refine zj_ci 40 [0, 1, 2] [3, 4, 5, 6, 7] C (wr := [(m4, .inl (cI, 24, .inl (zA R2n))), (m5, .inl (cI, 24, .inl (zA U2n))), (m6, .inl (cI, 384, .inl (zA (zGrid sg K1 (zU W1 i1 ((k6 : Int) + 1)) T1 n1.toNat)))), (m7, .inl (cI, 16, .inl (zA ((zFin sg K1 (zU W1 i1 ((k6 : Int) + 1)) T1 n1).2.2.2.2.2.1)))), (m8, .inl (cI, 16, .inl (zA ((zFin sg K1 (zU W1 i1 ((k6 : Int) + 1)) T1 n1).2.2.2.2.1))))]) (zr_V [0, 1, 2] C (As := []) (rest := [.int (zI 100000)]) (c_X5_leftOut2 l D cI cS cJ q5 m0 m1 m2 m3 m4 m5 m6 m7 m8 m9 th sm ty pg2n rw2n un2n pm sp wr ha (zU z3 (2 + 3 * i1 + 1) ((k6 : Int) + 1)) P2n R2n U2n n1 sg K1 (zU W1 i1 ((k6 : Int) + 1)) T1 hok3 hr3 hPn) (cwV 0 C.1.2.2.2.2 gX5_widthFor_X5_leftOut rfl rfl rfl (by decide +kernel) ⟨Nat.le_of_ble_eq_true rfl, Nat.le_of_ble_eq_true rfl⟩) rfl (by decide) 0 rfl rfl rfl rfl (Nat.le_of_ble_eq_true rfl) dX5_widthFor_37 ⟨Nat.le_of_ble_eq_true rfl, Nat.le_of_ble_eq_true rfl⟩) rfl rfl (by decide) (by decide) rfl (fun r_9 w_ hp_10 => ?_)
        obtain ⟨rfl, rfl⟩ := hp_10
        refine zj_ws (ws' := [(m4, .inl (cI, 24, .inl (zA R2n))), (m5, .inl (cI, 24, .inl (zA U2n))), (m6, .inl (cI, 384, .inl (zA (zGrid sg K1 (zU W1 i1 ((k6 : Int) + 1)) T1 n1.toNat)))), (m7, .inl (cI, 16, .inl (zA ((zFin sg K1 (zU W1 i1 ((k6 : Int) + 1)) T1 n1).2.2.2.2.2.1)))), (m8, .inl (cI, 16, .inl (zA ((zFin sg K1 (zU W1 i1 ((k6 : Int) + 1)) T1 n1).2.2.2.2.1)))), (q5, .inr (5, [.int (zI th), .ref m0, .ref m1, .int (zI sm), .ref m2, .int (zI ty), .ref m3, .ref m4, .ref m5, .ref m6, .ref m7, .ref m8, .int (zI pg2n), .int (zI rw2n), .int (zI un2n), .ref m9, .int (zI pm), .int (zI sp), .int (zI wr), .long ha])), (m0, .inl (cI, 74, .inl (zA (zU z3 (2 + 3 * i1 + 1) ((k6 : Int) + 1))))), (m3, .inl (cI, 24, .inl (zA P2n)))]) rfl ?_
        refine zj_imul 41 C dX5_widthFor_40 rfl ?_
        refine zj_sipush 44 C dX5_widthFor_41 rfl rfl ?_
        refine zj_aload_n 45 0 C dX5_widthFor_44 rfl rfl rfl ?_
        refine zj_ci 48 [5, 4] [0, 1, 2, 3, 6, 7] C (wr := [(m4, .inl (cI, 24, .inl (zA R2n))), (m5, .inl (cI, 24, .inl (zA U2n))), (m6, .inl (cI, 384, .inl (zA (zGrid sg K1 (zU W1 i1 ((k6 : Int) + 1)) T1 n1.toNat)))), (m7, .inl (cI, 16, .inl (zA ((zFin sg K1 (zU W1 i1 ((k6 : Int) + 1)) T1 n1).2.2.2.2.2.1)))), (m0, .inl (cI, 74, .inl (zA (zU z3 (2 + 3 * i1 + 1) ((k6 : Int) + 1))))), (m3, .inl (cI, 24, .inl (zA P2n)))]) (zr_V [5, 4] C (As := []) (rest := [.int (zI 1000), .int (zI (100000 * (zOut n1 sg K1 (zU W1 i1 ((k6 : Int) + 1)) T1)))]) (c_X5_used2 l D cI cS cJ q5 m0 m1 m2 m3 m4 m5 m6 m7 m8 m9 th sm ty pg2n rw2n un2n pm sp wr ha n1 sg K1 (zU W1 i1 ((k6 : Int) + 1)) T1 hok3) (cwV 0 C.1.2.2.2.2 gX5_widthFor_X5_used rfl rfl rfl (by decide +kernel) ⟨Nat.le_of_ble_eq_true rfl, Nat.le_of_ble_eq_true rfl⟩) rfl (by decide) 0 rfl rfl rfl rfl (Nat.le_of_ble_eq_true rfl) dX5_widthFor_45 ⟨Nat.le_of_ble_eq_true rfl, Nat.le_of_ble_eq_true rfl⟩) rfl rfl (by decide) (by decide) rfl (fun r_11 w_ hp_12 => ?_)
        obtain ⟨rfl, rfl⟩ := hp_12
        refine zj_ws (ws' := [(m4, .inl (cI, 24, .inl (zA R2n))), (m5, .inl (cI, 24, .inl (zA U2n))), (m6, .inl (cI, 384, .inl (zA (zGrid sg K1 (zU W1 i1 ((k6 : Int) + 1)) T1 n1.toNat)))), (m7, .inl (cI, 16, .inl (zA ((zFin sg K1 (zU W1 i1 ((k6 : Int) + 1)) T1 n1).2.2.2.2.2.1)))), (m0, .inl (cI, 74, .inl (zA (zU z3 (2 + 3 * i1 + 1) ((k6 : Int) + 1))))), (m3, .inl (cI, 24, .inl (zA P2n))), (q5, .inr (5, [.int (zI th), .ref m0, .ref m1, .int (zI sm), .ref m2, .int (zI ty), .ref m3, .ref m4, .ref m5, .ref m6, .ref m7, .ref m8, .int (zI pg2n), .int (zI rw2n), .int (zI un2n), .ref m9, .int (zI pm), .int (zI sp), .int (zI wr), .long ha])), (m8, .inl (cI, 16, .inl (zA ((zFin sg K1 (zU W1 i1 ((k6 : Int) + 1)) T1 n1).2.2.2.2.1))))]) rfl ?_
        refine zj_imul 49 C dX5_widthFor_48 rfl ?_
        refine zj_iadd 50 C dX5_widthFor_49 rfl ?_
        refine zj_aload_n 51 0 C dX5_widthFor_50 rfl rfl rfl ?_
        refine zj_ci 54 [6, 2, 7] [0, 1, 3, 4, 5] C (wr := [(m4, .inl (cI, 24, .inl (zA R2n))), (m5, .inl (cI, 24, .inl (zA U2n))), (m7, .inl (cI, 16, .inl (zA ((zFin sg K1 (zU W1 i1 ((k6 : Int) + 1)) T1 n1).2.2.2.2.2.1)))), (m0, .inl (cI, 74, .inl (zA (zU z3 (2 + 3 * i1 + 1) ((k6 : Int) + 1))))), (m3, .inl (cI, 24, .inl (zA P2n)))]) (zr_V [6, 2, 7] C (As := []) (rest := [.int (zI ((100000 * (zOut n1 sg K1 (zU W1 i1 ((k6 : Int) + 1)) T1)) + (1000 * (zUsed (zFin sg K1 (zU W1 i1 ((k6 : Int) + 1)) T1 n1)))))]) (c_X5_emptyUnits2 l D cI cS cJ q5 m0 m1 m2 m3 m4 m5 m6 m7 m8 m9 th sm ty pg2n rw2n un2n pm sp wr ha n1 sg K1 (zU W1 i1 ((k6 : Int) + 1)) T1 hok3) (cwV 0 C.1.2.2.2.2 gX5_widthFor_X5_emptyUnits rfl rfl rfl (by decide +kernel) ⟨Nat.le_of_ble_eq_true rfl, Nat.le_of_ble_eq_true rfl⟩) rfl (by decide) 0 rfl rfl rfl rfl (Nat.le_of_ble_eq_true rfl) dX5_widthFor_51 ⟨Nat.le_of_ble_eq_true rfl, Nat.le_of_ble_eq_true rfl⟩) rfl rfl (by decide) (by decide) rfl (fun r_13 w_ hp_14 => ?_)
        obtain ⟨rfl, rfl⟩ := hp_14
        refine zj_ws (ws' := [(m4, .inl (cI, 24, .inl (zA R2n))), (m5, .inl (cI, 24, .inl (zA U2n))), (m7, .inl (cI, 16, .inl (zA ((zFin sg K1 (zU W1 i1 ((k6 : Int) + 1)) T1 n1).2.2.2.2.2.1)))), (m0, .inl (cI, 74, .inl (zA (zU z3 (2 + 3 * i1 + 1) ((k6 : Int) + 1))))), (m3, .inl (cI, 24, .inl (zA P2n))), (q5, .inr (5, [.int (zI th), .ref m0, .ref m1, .int (zI sm), .ref m2, .int (zI ty), .ref m3, .ref m4, .ref m5, .ref m6, .ref m7, .ref m8, .int (zI pg2n), .int (zI rw2n), .int (zI un2n), .ref m9, .int (zI pm), .int (zI sp), .int (zI wr), .long ha])), (m6, .inl (cI, 384, .inl (zA (zGrid sg K1 (zU W1 i1 ((k6 : Int) + 1)) T1 n1.toNat)))), (m8, .inl (cI, 16, .inl (zA ((zFin sg K1 (zU W1 i1 ((k6 : Int) + 1)) T1 n1).2.2.2.2.1))))]) rfl ?_
        refine zj_iadd 55 C dX5_widthFor_54 rfl ?_
        refine zj_st (st' := [.int (zI (zCosM n1 sg K1 (zU W1 i1 ((k6 : Int) + 1)) T1))]) (by rfl) ?_
        have hcb : -100000000 ≤ zCosM n1 sg K1 (zU W1 i1 ((k6 : Int) + 1)) T1 ∧ zCosM n1 sg K1 (zU W1 i1 ((k6 : Int) + 1)) T1 ≤ 100000000 := by unfold zCosM; omega
        refine zj_istore 57 [(6, .int (zI (zCosM n1 sg K1 (zU W1 i1 ((k6 : Int) + 1)) T1))), (0, .ref q5), (1, .int (zI i1)), (2, .int (zI (Z1 (2 + 3 * i1 + 1)))), (3, .int (zI be6)), (4, .int (zI le6)), (5, .int (zI ((k6 : Int) + 1)))] C dX5_widthFor_55 rfl (by decide) rfl ?_
        refine zj_iload_n 58 4 C dX5_widthFor_57 rfl rfl rfl ?_
        refine zj_iconst 59 C dX5_widthFor_58 rfl ?_
        refine zj_icmp_eq 62 69 C (by omega) (by omega) dX5_widthFor_59 rfl (by decide) (fun h59 => ?_) (fun h59 => ?_)
        · skip
          refine zj_iconst 70 C dX5_widthFor_69 rfl ?_
          refine zj_goto 74 C dX5_widthFor_70 (by decide) ?_
          refine zj_istore 76 [(7, .int (zI 1)), (6, .int (zI (zCosM n1 sg K1 (zU W1 i1 ((k6 : Int) + 1)) T1))), (0, .ref q5), (1, .int (zI i1)), (2, .int (zI (Z1 (2 + 3 * i1 + 1)))), (3, .int (zI be6)), (4, .int (zI le6)), (5, .int (zI ((k6 : Int) + 1)))] C dX5_widthFor_74 rfl (by decide) rfl ?_
          refine zj_iload 78 0 C dX5_widthFor_76 rfl rfl ?_
          refine zj_if_eq 81 86 C (by omega) dX5_widthFor_78 rfl (by decide) (fun h_15 => ?_) (fun h_15 => ?_)
          · exact absurd h_15 (by omega)
          · skip
            refine zj_iload 83 7 C dX5_widthFor_81 rfl rfl ?_
            refine zj_goto 87 C dX5_widthFor_83 (by decide) ?_
            refine zj_istore_n 88 [(3, .int (zI ((k6 : Int) + 1))), (7, .int (zI 1)), (6, .int (zI (zCosM n1 sg K1 (zU W1 i1 ((k6 : Int) + 1)) T1))), (0, .ref q5), (1, .int (zI i1)), (2, .int (zI (Z1 (2 + 3 * i1 + 1)))), (4, .int (zI le6)), (5, .int (zI ((k6 : Int) + 1)))] C dX5_widthFor_87 rfl rfl (by decide) rfl ?_
            refine zj_iload 90 1 C dX5_widthFor_88 rfl rfl ?_
            refine zj_if_eq 93 98 C (by omega) dX5_widthFor_90 rfl (by decide) (fun h_16 => ?_) (fun h_16 => ?_)
            · exact absurd h_16 (by omega)
            · skip
              refine zj_iload 95 2 C dX5_widthFor_93 rfl rfl ?_
              refine zj_goto 100 C dX5_widthFor_95 (by decide) ?_
              refine zj_istore 102 [(4, .int (zI (zCosM n1 sg K1 (zU W1 i1 ((k6 : Int) + 1)) T1))), (3, .int (zI ((k6 : Int) + 1))), (7, .int (zI 1)), (6, .int (zI (zCosM n1 sg K1 (zU W1 i1 ((k6 : Int) + 1)) T1))), (0, .ref q5), (1, .int (zI i1)), (2, .int (zI (Z1 (2 + 3 * i1 + 1)))), (5, .int (zI ((k6 : Int) + 1)))] C dX5_widthFor_100 rfl (by decide) rfl ?_
              refine zj_iinc 105 7 [(5, .int (zI (((k6 : Int) + 1) + 1))), (4, .int (zI (zCosM n1 sg K1 (zU W1 i1 ((k6 : Int) + 1)) T1))), (3, .int (zI ((k6 : Int) + 1))), (7, .int (zI 1)), (6, .int (zI (zCosM n1 sg K1 (zU W1 i1 ((k6 : Int) + 1)) T1))), (0, .ref q5), (1, .int (zI i1)), (2, .int (zI (Z1 (2 + 3 * i1 + 1))))] C dX5_widthFor_102 rfl rfl (by decide) rfl ?_
              refine zj_goto 15 C dX5_widthFor_105 (by decide) ?_
              have hbw : zBw (fun w => zCosM n1 sg K1 (zU W1 i1 w) T1) (k6 + 1) = ((k6 : Int) + 1, zCosM n1 sg K1 (zU W1 i1 ((k6 : Int) + 1)) T1) := by rw [zBw, if_pos (Or.inl (by omega))]
              refine zj_re [5, 3, 4, 0, 1, 6, 2, 7] [(q5, .inr (5, [.int (zI th), .ref m0, .ref m1, .int (zI sm), .ref m2, .int (zI ty), .ref m3, .ref m4, .ref m5, .ref m6, .ref m7, .ref m8, .int (zI pg2n), .int (zI rw2n), .int (zI un2n), .ref m9, .int (zI pm), .int (zI sp), .int (zI wr), .long ha])), (m0, .inl (cI, 74, .inl (zA (zU z3 (2 + 3 * i1 + 1) ((k6 : Int) + 1))))), (m3, .inl (cI, 24, .inl (zA P2n))), (m4, .inl (cI, 24, .inl (zA R2n))), (m5, .inl (cI, 24, .inl (zA U2n))), (m6, .inl (cI, 384, .inl (zA (zGrid sg K1 (zU W1 i1 ((k6 : Int) + 1)) T1 n1.toNat)))), (m7, .inl (cI, 16, .inl (zA ((zFin sg K1 (zU W1 i1 ((k6 : Int) + 1)) T1 n1).2.2.2.2.2.1)))), (m8, .inl (cI, 16, .inl (zA ((zFin sg K1 (zU W1 i1 ((k6 : Int) + 1)) T1 n1).2.2.2.2.1))))] (by decide) rfl ?_
              refine zj_lv [5, 6, 7, 2, 1, 0] [(0, .ref q5), (1, .int (zI i1)), (2, .int (zI (Z1 (2 + 3 * i1 + 1)))), (3, .int (zI ((k6 : Int) + 1))), (4, .int (zI (zCosM n1 sg K1 (zU W1 i1 ((k6 : Int) + 1)) T1))), (5, .int (zI (((k6 : Int) + 1) + 1)))] rfl ?_
              refine zj_eqlv (lv' := [(0, .ref q5), (1, .int (zI i1)), (2, .int (zI (Z1 (2 + 3 * i1 + 1)))), (3, .int (zI ((k6 : Int) + 1))), (4, .int (zI (zCosM n1 sg K1 (zU W1 i1 ((k6 : Int) + 1)) T1))), (5, .int (zI (((k6 + 1) : Int) + 1)))]) (by rfl) ?_
              exact ih (k6 + 1) ((k6 : Int) + 1) (zCosM n1 sg K1 (zU W1 i1 ((k6 : Int) + 1)) T1) (zU z3 (2 + 3 * i1 + 1) ((k6 : Int) + 1)) pg2n rw2n un2n P2n R2n U2n (zGrid sg K1 (zU W1 i1 ((k6 : Int) + 1)) T1 n1.toNat) ((zFin sg K1 (zU W1 i1 ((k6 : Int) + 1)) T1 n1).2.2.2.2.2.1) ((zFin sg K1 (zU W1 i1 ((k6 : Int) + 1)) T1 n1).2.2.2.2.1) (by omega) (by rw [hbw]) (by rw [hbw]) (by omega) (by omega) (fun x h => by rw [zU_ne _ _ h]; exact hw3 x h) (by omega)
        · skip
          refine zj_iload 64 0 C dX5_widthFor_62 rfl rfl ?_
          refine zj_iload 66 5 C dX5_widthFor_64 rfl rfl ?_
          refine zj_icmp_ge 69 73 C (by omega) (by omega) dX5_widthFor_66 rfl (by decide) (fun h66 => ?_) (fun h66 => ?_)
          · skip
            refine zj_iconst 74 C dX5_widthFor_73 rfl ?_
            refine zj_istore 76 [(7, .int (zI 0)), (6, .int (zI (zCosM n1 sg K1 (zU W1 i1 ((k6 : Int) + 1)) T1))), (0, .ref q5), (1, .int (zI i1)), (2, .int (zI (Z1 (2 + 3 * i1 + 1)))), (3, .int (zI be6)), (4, .int (zI le6)), (5, .int (zI ((k6 : Int) + 1)))] C dX5_widthFor_74 rfl (by decide) rfl ?_
            refine zj_iload 78 0 C dX5_widthFor_76 rfl rfl ?_
            refine zj_if_eq 81 86 C (by omega) dX5_widthFor_78 rfl (by decide) (fun h_17 => ?_) (fun h_17 => ?_)
            · skip
              refine zj_iload_n 87 5 C dX5_widthFor_86 rfl rfl rfl ?_
              refine zj_istore_n 88 [(3, .int (zI be6)), (7, .int (zI 0)), (6, .int (zI (zCosM n1 sg K1 (zU W1 i1 ((k6 : Int) + 1)) T1))), (0, .ref q5), (1, .int (zI i1)), (2, .int (zI (Z1 (2 + 3 * i1 + 1)))), (4, .int (zI le6)), (5, .int (zI ((k6 : Int) + 1)))] C dX5_widthFor_87 rfl rfl (by decide) rfl ?_
              refine zj_iload 90 1 C dX5_widthFor_88 rfl rfl ?_
              refine zj_if_eq 93 98 C (by omega) dX5_widthFor_90 rfl (by decide) (fun h_18 => ?_) (fun h_18 => ?_)
              · skip
                refine zj_iload 100 6 C dX5_widthFor_98 rfl rfl ?_
                refine zj_istore 102 [(4, .int (zI le6)), (3, .int (zI be6)), (7, .int (zI 0)), (6, .int (zI (zCosM n1 sg K1 (zU W1 i1 ((k6 : Int) + 1)) T1))), (0, .ref q5), (1, .int (zI i1)), (2, .int (zI (Z1 (2 + 3 * i1 + 1)))), (5, .int (zI ((k6 : Int) + 1)))] C dX5_widthFor_100 rfl (by decide) rfl ?_
                refine zj_iinc 105 7 [(5, .int (zI (((k6 : Int) + 1) + 1))), (4, .int (zI le6)), (3, .int (zI be6)), (7, .int (zI 0)), (6, .int (zI (zCosM n1 sg K1 (zU W1 i1 ((k6 : Int) + 1)) T1))), (0, .ref q5), (1, .int (zI i1)), (2, .int (zI (Z1 (2 + 3 * i1 + 1))))] C dX5_widthFor_102 rfl rfl (by decide) rfl ?_
                refine zj_goto 15 C dX5_widthFor_105 (by decide) ?_
                have hbw : zBw (fun w => zCosM n1 sg K1 (zU W1 i1 w) T1) (k6 + 1) = zBw (fun w => zCosM n1 sg K1 (zU W1 i1 w) T1) k6 := by rw [zBw, if_neg (by rintro (q | q); exact h59 (by omega); rw [← hl6] at q; exact absurd q (by show ¬ (zCosM n1 sg K1 (zU W1 i1 ((k6 : Int) + 1)) T1 < le6); omega))]
                refine zj_re [5, 3, 4, 0, 1, 6, 2, 7] [(q5, .inr (5, [.int (zI th), .ref m0, .ref m1, .int (zI sm), .ref m2, .int (zI ty), .ref m3, .ref m4, .ref m5, .ref m6, .ref m7, .ref m8, .int (zI pg2n), .int (zI rw2n), .int (zI un2n), .ref m9, .int (zI pm), .int (zI sp), .int (zI wr), .long ha])), (m0, .inl (cI, 74, .inl (zA (zU z3 (2 + 3 * i1 + 1) ((k6 : Int) + 1))))), (m3, .inl (cI, 24, .inl (zA P2n))), (m4, .inl (cI, 24, .inl (zA R2n))), (m5, .inl (cI, 24, .inl (zA U2n))), (m6, .inl (cI, 384, .inl (zA (zGrid sg K1 (zU W1 i1 ((k6 : Int) + 1)) T1 n1.toNat)))), (m7, .inl (cI, 16, .inl (zA ((zFin sg K1 (zU W1 i1 ((k6 : Int) + 1)) T1 n1).2.2.2.2.2.1)))), (m8, .inl (cI, 16, .inl (zA ((zFin sg K1 (zU W1 i1 ((k6 : Int) + 1)) T1 n1).2.2.2.2.1))))] (by decide) rfl ?_
                refine zj_lv [5, 6, 7, 2, 1, 0] [(0, .ref q5), (1, .int (zI i1)), (2, .int (zI (Z1 (2 + 3 * i1 + 1)))), (3, .int (zI be6)), (4, .int (zI le6)), (5, .int (zI (((k6 : Int) + 1) + 1)))] rfl ?_
                refine zj_eqlv (lv' := [(0, .ref q5), (1, .int (zI i1)), (2, .int (zI (Z1 (2 + 3 * i1 + 1)))), (3, .int (zI be6)), (4, .int (zI le6)), (5, .int (zI (((k6 + 1) : Int) + 1)))]) (by rfl) ?_
                exact ih (k6 + 1) be6 le6 (zU z3 (2 + 3 * i1 + 1) ((k6 : Int) + 1)) pg2n rw2n un2n P2n R2n U2n (zGrid sg K1 (zU W1 i1 ((k6 : Int) + 1)) T1 n1.toNat) ((zFin sg K1 (zU W1 i1 ((k6 : Int) + 1)) T1 n1).2.2.2.2.2.1) ((zFin sg K1 (zU W1 i1 ((k6 : Int) + 1)) T1 n1).2.2.2.2.1) (by omega) (by rw [hbw]; exact hb6) (by rw [hbw]; exact hl6) (by omega) (by omega) (fun x h => by rw [zU_ne _ _ h]; exact hw3 x h) (by omega)
              · exact absurd h_18 (by omega)
            · exact absurd h_17 (by omega)
          · skip
            refine zj_iconst 70 C dX5_widthFor_69 rfl ?_
            refine zj_goto 74 C dX5_widthFor_70 (by decide) ?_
            refine zj_istore 76 [(7, .int (zI 1)), (6, .int (zI (zCosM n1 sg K1 (zU W1 i1 ((k6 : Int) + 1)) T1))), (0, .ref q5), (1, .int (zI i1)), (2, .int (zI (Z1 (2 + 3 * i1 + 1)))), (3, .int (zI be6)), (4, .int (zI le6)), (5, .int (zI ((k6 : Int) + 1)))] C dX5_widthFor_74 rfl (by decide) rfl ?_
            refine zj_iload 78 0 C dX5_widthFor_76 rfl rfl ?_
            refine zj_if_eq 81 86 C (by omega) dX5_widthFor_78 rfl (by decide) (fun h_19 => ?_) (fun h_19 => ?_)
            · exact absurd h_19 (by omega)
            · skip
              refine zj_iload 83 7 C dX5_widthFor_81 rfl rfl ?_
              refine zj_goto 87 C dX5_widthFor_83 (by decide) ?_
              refine zj_istore_n 88 [(3, .int (zI ((k6 : Int) + 1))), (7, .int (zI 1)), (6, .int (zI (zCosM n1 sg K1 (zU W1 i1 ((k6 : Int) + 1)) T1))), (0, .ref q5), (1, .int (zI i1)), (2, .int (zI (Z1 (2 + 3 * i1 + 1)))), (4, .int (zI le6)), (5, .int (zI ((k6 : Int) + 1)))] C dX5_widthFor_87 rfl rfl (by decide) rfl ?_
              refine zj_iload 90 1 C dX5_widthFor_88 rfl rfl ?_
              refine zj_if_eq 93 98 C (by omega) dX5_widthFor_90 rfl (by decide) (fun h_20 => ?_) (fun h_20 => ?_)
              · exact absurd h_20 (by omega)
              · skip
                refine zj_iload 95 2 C dX5_widthFor_93 rfl rfl ?_
                refine zj_goto 100 C dX5_widthFor_95 (by decide) ?_
                refine zj_istore 102 [(4, .int (zI (zCosM n1 sg K1 (zU W1 i1 ((k6 : Int) + 1)) T1))), (3, .int (zI ((k6 : Int) + 1))), (7, .int (zI 1)), (6, .int (zI (zCosM n1 sg K1 (zU W1 i1 ((k6 : Int) + 1)) T1))), (0, .ref q5), (1, .int (zI i1)), (2, .int (zI (Z1 (2 + 3 * i1 + 1)))), (5, .int (zI ((k6 : Int) + 1)))] C dX5_widthFor_100 rfl (by decide) rfl ?_
                refine zj_iinc 105 7 [(5, .int (zI (((k6 : Int) + 1) + 1))), (4, .int (zI (zCosM n1 sg K1 (zU W1 i1 ((k6 : Int) + 1)) T1))), (3, .int (zI ((k6 : Int) + 1))), (7, .int (zI 1)), (6, .int (zI (zCosM n1 sg K1 (zU W1 i1 ((k6 : Int) + 1)) T1))), (0, .ref q5), (1, .int (zI i1)), (2, .int (zI (Z1 (2 + 3 * i1 + 1))))] C dX5_widthFor_102 rfl rfl (by decide) rfl ?_
                refine zj_goto 15 C dX5_widthFor_105 (by decide) ?_
                have hbw : zBw (fun w => zCosM n1 sg K1 (zU W1 i1 w) T1) (k6 + 1) = ((k6 : Int) + 1, zCosM n1 sg K1 (zU W1 i1 ((k6 : Int) + 1)) T1) := by rw [zBw, if_pos (Or.inr (by rw [← hl6]; exact h66))]
                refine zj_re [5, 3, 4, 0, 1, 6, 2, 7] [(q5, .inr (5, [.int (zI th), .ref m0, .ref m1, .int (zI sm), .ref m2, .int (zI ty), .ref m3, .ref m4, .ref m5, .ref m6, .ref m7, .ref m8, .int (zI pg2n), .int (zI rw2n), .int (zI un2n), .ref m9, .int (zI pm), .int (zI sp), .int (zI wr), .long ha])), (m0, .inl (cI, 74, .inl (zA (zU z3 (2 + 3 * i1 + 1) ((k6 : Int) + 1))))), (m3, .inl (cI, 24, .inl (zA P2n))), (m4, .inl (cI, 24, .inl (zA R2n))), (m5, .inl (cI, 24, .inl (zA U2n))), (m6, .inl (cI, 384, .inl (zA (zGrid sg K1 (zU W1 i1 ((k6 : Int) + 1)) T1 n1.toNat)))), (m7, .inl (cI, 16, .inl (zA ((zFin sg K1 (zU W1 i1 ((k6 : Int) + 1)) T1 n1).2.2.2.2.2.1)))), (m8, .inl (cI, 16, .inl (zA ((zFin sg K1 (zU W1 i1 ((k6 : Int) + 1)) T1 n1).2.2.2.2.1))))] (by decide) rfl ?_
                refine zj_lv [5, 6, 7, 2, 1, 0] [(0, .ref q5), (1, .int (zI i1)), (2, .int (zI (Z1 (2 + 3 * i1 + 1)))), (3, .int (zI ((k6 : Int) + 1))), (4, .int (zI (zCosM n1 sg K1 (zU W1 i1 ((k6 : Int) + 1)) T1))), (5, .int (zI (((k6 : Int) + 1) + 1)))] rfl ?_
                refine zj_eqlv (lv' := [(0, .ref q5), (1, .int (zI i1)), (2, .int (zI (Z1 (2 + 3 * i1 + 1)))), (3, .int (zI ((k6 : Int) + 1))), (4, .int (zI (zCosM n1 sg K1 (zU W1 i1 ((k6 : Int) + 1)) T1))), (5, .int (zI (((k6 + 1) : Int) + 1)))]) (by rfl) ?_
                exact ih (k6 + 1) ((k6 : Int) + 1) (zCosM n1 sg K1 (zU W1 i1 ((k6 : Int) + 1)) T1) (zU z3 (2 + 3 * i1 + 1) ((k6 : Int) + 1)) pg2n rw2n un2n P2n R2n U2n (zGrid sg K1 (zU W1 i1 ((k6 : Int) + 1)) T1 n1.toNat) ((zFin sg K1 (zU W1 i1 ((k6 : Int) + 1)) T1 n1).2.2.2.2.2.1) ((zFin sg K1 (zU W1 i1 ((k6 : Int) + 1)) T1 n1).2.2.2.2.1) (by omega) (by rw [hbw]) (by rw [hbw]) (by omega) (by omega) (fun x h => by rw [zU_ne _ _ h]; exact hw3 x h) (by omega)
  refine zj_re [6, 7, 0, 1, 2, 3, 4, 5] [(q5, .inr (5, [.int (zI th), .ref m0, .ref m1, .int (zI sm), .ref m2, .int (zI ty), .ref m3, .ref m4, .ref m5, .ref m6, .ref m7, .ref m8, .int (zI pg), .int (zI rw), .int (zI un), .ref m9, .int (zI pm), .int (zI sp), .int (zI wr), .long ha])), (m0, .inl (cI, 74, .inl (zA Z1))), (m3, .inl (cI, 24, .inl (zA P1))), (m4, .inl (cI, 24, .inl (zA R1))), (m5, .inl (cI, 24, .inl (zA U1))), (m6, .inl (cI, 384, .inl (zA G1))), (m7, .inl (cI, 16, .inl (zA b1))), (m8, .inl (cI, 16, .inl (zA c1)))] (by decide) rfl ?_
  refine zj_lv [4, 5, 3, 2, 1, 0] [(0, .ref q5), (1, .int (zI i1)), (2, .int (zI (Z1 (2 + 3 * i1 + 1)))), (3, .int (zI (-1))), (4, .int (zI 0)), (5, .int (zI 1))] rfl ?_
  refine zj_eqlv (lv' := [(0, .ref q5), (1, .int (zI i1)), (2, .int (zI (Z1 (2 + 3 * i1 + 1)))), (3, .int (zI (-1))), (4, .int (zI 0)), (5, .int (zI ((0 : Int) + 1)))]) (by rfl) ?_
  exact hL15 (8) 0 (-1) 0 Z1 pg rw un P1 R1 U1 G1 b1 c1 (by omega) (rfl) (rfl) (by omega) (by omega) (fun x _ => rfl) (by omega)

abbrev rm_X5_share : Room := { frames := 2, cells := 0, slots := 0, locals := 45 }
set_option maxRecDepth 100000 in
set_option maxHeartbeats 4000000 in
theorem c_X5_share (l : Launch) (D : va_G) (cI cS cJ : ClassId) (q5 : Nat) (m0 : Nat) (m1 : Nat) (m2 : Nat) (m3 : Nat) (m4 : Nat) (m5 : Nat) (m6 : Nat) (m7 : Nat) (m8 : Nat) (m9 : Nat) (th : Int) (sm : Int) (ty : Int) (pg : Int) (rw : Int) (un : Int) (pm : Int) (sp : Int) (wr : Int) (ha : Int64) (n1 : Int) (sg : Int) (K1 : Int → Int) (W1 : Int → Int) (T1 : Int → Int) (hst : zOk n1 sg K1 W1 T1) : zMd l yX5_share wsX5_share rm_X5_share D (zTy cI cS cJ) [.ref q5] [(q5, .inr (5, [.int (zI th), .ref m0, .ref m1, .int (zI sm), .ref m2, .int (zI ty), .ref m3, .ref m4, .ref m5, .ref m6, .ref m7, .ref m8, .int (zI pg), .int (zI rw), .int (zI un), .ref m9, .int (zI pm), .int (zI sp), .int (zI wr), .long ha])), (m6, .inl (cI, 384, .inl (zA (zGrid sg K1 W1 T1 n1.toNat)))), (m8, .inl (cI, 16, .inl (zA ((zFin sg K1 W1 T1 n1).2.2.2.2.1))))] (fun r w => r = (zShr ((zFin sg K1 W1 T1 n1).2.2.2.2.2.2.2.2.2.2) ((zFin sg K1 W1 T1 n1).2.2.2.2.2.2.2.2.2.1)) ∧ w = [(q5, .inr (5, [.int (zI th), .ref m0, .ref m1, .int (zI sm), .ref m2, .int (zI ty), .ref m3, .ref m4, .ref m5, .ref m6, .ref m7, .ref m8, .int (zI pg), .int (zI rw), .int (zI un), .ref m9, .int (zI pm), .int (zI sp), .int (zI wr), .long ha])), (m6, .inl (cI, 384, .inl (zA (zGrid sg K1 W1 T1 n1.toNat)))), (m8, .inl (cI, 16, .inl (zA ((zFin sg K1 W1 T1 n1).2.2.2.2.1))))]) 0 0 := by
  intro sz
  refine zMet_of (Qc := fun A => va_Qd _ (zB D (zTy cI cS cJ) A) A) RX5 [(0, .ref q5)] rfl (by decide +kernel) rfl (Nat.le_of_ble_eq_true rfl) rfl ?_ sz
  intro p e s m args below meth c A Q hQ C hr hini
  have hf := zq_fi hst
  have hee : zEmp (zFin sg K1 W1 T1 n1) = (zFin sg K1 W1 T1 n1).2.2.2.2.2.2.2.2.2.1 * 24 - (zFin sg K1 W1 T1 n1).2.2.2.2.2.2.2.2.2.2 := rfl
  refine zj_bipush 2 C dX5_share_0 rfl rfl ?_
  refine zj_aload_n 3 0 C dX5_share_2 rfl rfl rfl ?_
  refine zj_ci 6 [0, 2] [1] C (wr := [(m6, .inl (cI, 384, .inl (zA (zGrid sg K1 W1 T1 n1.toNat))))]) (zr_V [0, 2] C (As := []) (rest := [.int (zI 24)]) (c_X5_pagesSet2 l D cI cS cJ q5 m0 m1 m2 m3 m4 m5 m6 m7 m8 m9 th sm ty pg rw un pm sp wr ha n1 sg K1 W1 T1 hst) (cwV 0 C.1.2.2.2.2 gX5_share_X5_pagesSet rfl rfl rfl (by decide +kernel) ⟨Nat.le_of_ble_eq_true rfl, Nat.le_of_ble_eq_true rfl⟩) rfl (by decide) 0 rfl rfl rfl rfl (Nat.le_of_ble_eq_true rfl) dX5_share_3 ⟨Nat.le_of_ble_eq_true rfl, Nat.le_of_ble_eq_true rfl⟩) rfl rfl (by decide) (by decide) rfl (fun r_1 w_ hp_2 => ?_)
  obtain ⟨rfl, rfl⟩ := hp_2
  refine zj_ws (ws' := [(m6, .inl (cI, 384, .inl (zA (zGrid sg K1 W1 T1 n1.toNat)))), (q5, .inr (5, [.int (zI th), .ref m0, .ref m1, .int (zI sm), .ref m2, .int (zI ty), .ref m3, .ref m4, .ref m5, .ref m6, .ref m7, .ref m8, .int (zI pg), .int (zI rw), .int (zI un), .ref m9, .int (zI pm), .int (zI sp), .int (zI wr), .long ha])), (m8, .inl (cI, 16, .inl (zA ((zFin sg K1 W1 T1 n1).2.2.2.2.1))))]) rfl ?_
  refine zj_imul 7 C dX5_share_6 rfl ?_
  refine zj_istore_n 8 [(1, .int (zI (24 * ((zFin sg K1 W1 T1 n1).2.2.2.2.2.2.2.2.2.1)))), (0, .ref q5)] C dX5_share_7 rfl rfl (by decide) rfl ?_
  refine zj_iload_n 9 0 C dX5_share_8 rfl rfl rfl ?_
  refine zj_if_ne 12 16 C (by omega) dX5_share_9 rfl (by decide) (fun h9 => ?_) (fun h9 => ?_)
  · skip
    refine zj_iload_n 17 0 C dX5_share_16 rfl rfl rfl ?_
    refine zj_aload_n 18 1 C dX5_share_17 rfl rfl rfl ?_
    refine zj_ci 21 [1, 0, 2] [] C (wr := []) (zr_V [1, 0, 2] C (As := []) (rest := [.int (zI (24 * ((zFin sg K1 W1 T1 n1).2.2.2.2.2.2.2.2.2.1)))]) (c_X5_emptyUnits2 l D cI cS cJ q5 m0 m1 m2 m3 m4 m5 m6 m7 m8 m9 th sm ty pg rw un pm sp wr ha n1 sg K1 W1 T1 hst) (cwV 0 C.1.2.2.2.2 gX5_share_X5_emptyUnits rfl rfl rfl (by decide +kernel) ⟨Nat.le_of_ble_eq_true rfl, Nat.le_of_ble_eq_true rfl⟩) rfl (by decide) 0 rfl rfl rfl rfl (Nat.le_of_ble_eq_true rfl) dX5_share_18 ⟨Nat.le_of_ble_eq_true rfl, Nat.le_of_ble_eq_true rfl⟩) rfl rfl (by decide) (by decide) rfl (fun r_3 w_ hp_4 => ?_)
    obtain ⟨rfl, rfl⟩ := hp_4
    refine zj_ws (ws' := [(q5, .inr (5, [.int (zI th), .ref m0, .ref m1, .int (zI sm), .ref m2, .int (zI ty), .ref m3, .ref m4, .ref m5, .ref m6, .ref m7, .ref m8, .int (zI pg), .int (zI rw), .int (zI un), .ref m9, .int (zI pm), .int (zI sp), .int (zI wr), .long ha])), (m6, .inl (cI, 384, .inl (zA (zGrid sg K1 W1 T1 n1.toNat)))), (m8, .inl (cI, 16, .inl (zA ((zFin sg K1 W1 T1 n1).2.2.2.2.1))))]) rfl ?_
    refine zj_isub 22 C dX5_share_21 rfl ?_
    refine zj_i2d 23 C dX5_share_22 rfl ?_
    refine zj_iload_n 24 0 C dX5_share_23 rfl rfl rfl ?_
    refine zj_i2d 25 C dX5_share_24 rfl ?_
    refine zj_ddiv 26 C (by have h1 := (zQk_n (zQ_of (fi := (zFin sg K1 W1 T1 n1).2.2.2.2.2.2.2.2.2.2) (be := (zFin sg K1 W1 T1 n1).2.2.2.2.2.2.2.2.2.1) (by omega) (by omega))).1; rw [show 24 * (zFin sg K1 W1 T1 n1).2.2.2.2.2.2.2.2.2.1 - zEmp (zFin sg K1 W1 T1 n1) = (zFin sg K1 W1 T1 n1).2.2.2.2.2.2.2.2.2.2 by omega, show 24 * (zFin sg K1 W1 T1 n1).2.2.2.2.2.2.2.2.2.1 = (zFin sg K1 W1 T1 n1).2.2.2.2.2.2.2.2.2.1 * 24 by omega]; exact h1) dX5_share_25 rfl ?_
    refine zj_st (st' := [.double (zShr ((zFin sg K1 W1 T1 n1).2.2.2.2.2.2.2.2.2.2) ((zFin sg K1 W1 T1 n1).2.2.2.2.2.2.2.2.2.1))]) (by unfold zShr; rw [if_neg (by omega), show 24 * (zFin sg K1 W1 T1 n1).2.2.2.2.2.2.2.2.2.1 - zEmp (zFin sg K1 W1 T1 n1) = (zFin sg K1 W1 T1 n1).2.2.2.2.2.2.2.2.2.2 by omega, show 24 * (zFin sg K1 W1 T1 n1).2.2.2.2.2.2.2.2.2.1 = (zFin sg K1 W1 T1 n1).2.2.2.2.2.2.2.2.2.1 * 24 by omega]) ?_
    subst hQ
    exact zj_dreturn C hr ⟨rfl, rfl⟩ (by decide) (by decide) dX5_share_26
  · skip
    refine zj_dconst1 13 C dX5_share_12 rfl ?_
    refine zj_goto 26 C dX5_share_13 (by decide) ?_
    refine zj_re [1, 0, 2] [(q5, .inr (5, [.int (zI th), .ref m0, .ref m1, .int (zI sm), .ref m2, .int (zI ty), .ref m3, .ref m4, .ref m5, .ref m6, .ref m7, .ref m8, .int (zI pg), .int (zI rw), .int (zI un), .ref m9, .int (zI pm), .int (zI sp), .int (zI wr), .long ha])), (m6, .inl (cI, 384, .inl (zA (zGrid sg K1 W1 T1 n1.toNat)))), (m8, .inl (cI, 16, .inl (zA ((zFin sg K1 W1 T1 n1).2.2.2.2.1))))] (by decide) rfl ?_
    refine zj_st (st' := [.double (zShr ((zFin sg K1 W1 T1 n1).2.2.2.2.2.2.2.2.2.2) ((zFin sg K1 W1 T1 n1).2.2.2.2.2.2.2.2.2.1))]) (by unfold zShr; rw [if_pos (by omega)]) ?_
    subst hQ
    exact zj_dreturn C hr ⟨rfl, rfl⟩ (by decide) (by decide) dX5_share_26

theorem wc_X5_mix_203 : Cond.constantLong RX5 203 (31) ∈ wsX5_mix := by decide +kernel
theorem fl_X5_mix_205 : Cond.fieldLink RX5 205 "SplashPagesModel" "hash" "J" ∈ wsX5_mix := by decide +kernel
theorem im_X5_mix_5 : ∀ w ∈ u_ws RX5 TX5 20, w ∈ wsX5_mix := by decide +kernel
abbrev rm_X5_mix : Room := { frames := 0, cells := 0, slots := 0, locals := 0 }
set_option maxRecDepth 100000 in
set_option maxHeartbeats 4000000 in
theorem c_X5_mix (l : Launch) (D : va_G) (cI cS cJ : ClassId) (q5 : Nat) (m0 : Nat) (m1 : Nat) (m2 : Nat) (m3 : Nat) (m4 : Nat) (m5 : Nat) (m6 : Nat) (m7 : Nat) (m8 : Nat) (m9 : Nat) (th : Int) (sm : Int) (ty : Int) (pg : Int) (rw : Int) (un : Int) (pm : Int) (sp : Int) (wr : Int) (ha : Int64) (v1 : Int64) : zMv l yX5_mix wsX5_mix rm_X5_mix D (zTy cI cS cJ) [.ref q5, .long v1] [(q5, .inr (5, [.int (zI th), .ref m0, .ref m1, .int (zI sm), .ref m2, .int (zI ty), .ref m3, .ref m4, .ref m5, .ref m6, .ref m7, .ref m8, .int (zI pg), .int (zI rw), .int (zI un), .ref m9, .int (zI pm), .int (zI sp), .int (zI wr), .long ha]))] (fun w => w = [(q5, .inr (5, [.int (zI th), .ref m0, .ref m1, .int (zI sm), .ref m2, .int (zI ty), .ref m3, .ref m4, .ref m5, .ref m6, .ref m7, .ref m8, .int (zI pg), .int (zI rw), .int (zI un), .ref m9, .int (zI pm), .int (zI sp), .int (zI wr), .long (31 * ha + v1)]))]) 0 0 := by
  intro sz
  refine zMet_of (Qc := fun A => va_Qv _ (zB D (zTy cI cS cJ) A) A) RX5 [(0, .ref q5), (1, .long v1)] rfl (by decide +kernel) rfl (Nat.le_of_ble_eq_true rfl) rfl ?_ sz
  intro p e s m args below meth c A Q hQ C hr hini
  refine zj_aload_n 1 0 C dX5_mix_0 rfl rfl rfl ?_
  refine zj_ldc2 4 C (31) wc_X5_mix_203 dX5_mix_1 rfl ?_
  refine zj_aload_n 5 0 C dX5_mix_4 rfl rfl rfl ?_
  refine zj_get 8 0 19 C (T := TX5) im_X5_mix_5 fl_X5_mix_205 rfl rfl (by decide) rfl rfl dX5_mix_5 rfl ?_
  refine zj_lmul 9 C dX5_mix_8 rfl ?_
  refine zj_lload_n 10 1 C dX5_mix_9 rfl rfl rfl ?_
  refine zj_ladd 11 C dX5_mix_10 rfl ?_
  refine zj_put 14 0 19 [(q5, .inr (5, [.int (zI th), .ref m0, .ref m1, .int (zI sm), .ref m2, .int (zI ty), .ref m3, .ref m4, .ref m5, .ref m6, .ref m7, .ref m8, .int (zI pg), .int (zI rw), .int (zI un), .ref m9, .int (zI pm), .int (zI sp), .int (zI wr), .long (((31 : Int64) * ha) + v1)]))] C (T := TX5) tyX5 tyX5_ok nmX5 im_X5_mix_5 fl_X5_mix_205 rfl rfl (by decide) rfl rfl rfl rfl rfl (Nat.le_of_ble_eq_true rfl) rfl dX5_mix_11 rfl ?_
  refine zj_ws (ws' := [(q5, .inr (5, [.int (zI th), .ref m0, .ref m1, .int (zI sm), .ref m2, .int (zI ty), .ref m3, .ref m4, .ref m5, .ref m6, .ref m7, .ref m8, .int (zI pg), .int (zI rw), .int (zI un), .ref m9, .int (zI pm), .int (zI sp), .int (zI wr), .long (31 * ha + v1)]))]) (by rfl) ?_
  subst hQ
  exact zj_return C hr rfl (by decide) (by decide) dX5_mix_14
