theorem zErr_e {F : Int → Int} {e : Int} : ∀ (m i : Nat), (i : Int) ≤ e → (∀ k : Nat, i ≤ k → (k : Int) < e → zRun F (k + 1) ≠ -1) → (e = (i : Int) + m ∨ (e < (i : Int) + m ∧ zRun F (e.toNat + 1) = -1)) → zErr F m i = e
  | 0, i, h1, h2, h3 => by rw [zErr]; omega
  | m + 1, i, h1, h2, h3 => by
    rw [zErr]
    by_cases q : zAw (zRun F i) (F i) = -1
    · rw [if_pos q]
      by_cases e1 : (i : Int) = e
      · exact e1
      · exact absurd q (h2 i (Nat.le_refl i) (by omega))
    · rw [if_neg q]
      have hi : ¬ (i : Int) = e := fun e1 => by
        rcases h3 with h | ⟨h, h4⟩
        · omega
        · rw [← e1, Int.toNat_natCast] at h4; exact q h4
      exact zErr_e m (i + 1) (by omega) (fun k k1 k2 => h2 k (by omega) k2) (by omega)
theorem zRun_1 {F : Int → Int} {i : Nat} : zRun F (i + 1) = zAw (zRun F i) (F i) := rfl
theorem zIs_y {c : Int} (h : zIs c = 1) : (zKk c < 2 ∧ zAk (zKd c) = 1 ∧ zKd c = zKk c) ∨ (¬ zKk c < 2 ∧ zAk (zKd c) = 2 ∧ zKd c = zKk c) := by
  unfold zIs at h
  have hc : c = 112 ∨ c = 98 ∨ c = 115 ∨ c = 100 := by
    by_cases q : c = 112 ∨ c = 98 ∨ c = 115 ∨ c = 100
    · exact q
    · rw [if_neg q] at h; omega
  rcases hc with rfl | rfl | rfl | rfl <;> decide
theorem zIs_n {c : Int} (h : ¬ zIs c = 1) : zAk (zKd c) = -1 := by
  unfold zIs at h
  have hc : ¬ (c = 112 ∨ c = 98 ∨ c = 115 ∨ c = 100) := fun q => h (if_pos q)
  have : zKd c = -1 := by unfold zKd; rw [if_neg (by omega), if_neg (by omega), if_neg (by omega), if_neg (by omega)]
  rw [this]; decide
/-- a text that is read up to sp, in the state r -/
def zRt (F : Int → Int) (ty sp : Int) (r : Int) : Prop := 0 ≤ sp ∧ sp ≤ ty ∧ zRun F sp.toNat = r
/-- where the reading found fault -/
def zFt (F : Int → Int) (ty e : Int) : Prop := 0 ≤ e ∧ zErr F ty.toNat 0 = e ∧ ¬ (0 < ty ∧ zRun F ty.toNat = 0)
theorem zFt_in {F : Int → Int} {ty sp r : Int} (h : zRt F ty sp r) (hr : r ≠ -1) (hs : sp < ty) (ha : zAw r (F sp) = -1) : zFt F ty sp := by
  obtain ⟨h1, h2, h3⟩ := h
  obtain ⟨i, rfl⟩ := Int.eq_ofNat_of_zero_le h1
  rw [Int.toNat_natCast] at h3
  have e1 : zRun F (i + 1) = -1 := by rw [zRun_1, h3]; exact ha
  refine ⟨h1, zErr_e _ 0 (by omega) (fun k _ k2 e => ?_) (Or.inr ⟨by omega, by rw [Int.toNat_natCast]; exact e1⟩), fun q => ?_⟩
  · have := zRun_n e (i - (k + 1))
    rw [show k + 1 + (i - (k + 1)) = i by omega, h3] at this
    exact hr this
  · have := zRun_n e1 (ty.toNat - (i + 1))
    rw [show i + 1 + (ty.toNat - (i + 1)) = ty.toNat by omega, q.2] at this
    omega
theorem zFt_end {F : Int → Int} {ty r : Int} (h : zRt F ty ty r) (hr : r ≠ -1) (h0 : ¬ (0 < ty ∧ r = 0)) : zFt F ty ty := by
  obtain ⟨h1, -, h3⟩ := h
  refine ⟨h1, zErr_e _ 0 (by omega) (fun k _ k2 e => ?_) (Or.inl (by omega)), fun q => h0 ⟨q.1, by rw [← h3]; exact q.2⟩⟩
  have := zRun_n e (ty.toNat - (k + 1))
  rw [show k + 1 + (ty.toNat - (k + 1)) = ty.toNat by omega, h3] at this
  exact hr this
theorem zRt_s {F : Int → Int} {ty sp r r' : Int} (h : zRt F ty sp r) (hs : sp < ty) (ha : zAw r (F sp) = r') : zRt F ty (sp + 1) r' := by
  obtain ⟨h1, h2, h3⟩ := h
  obtain ⟨i, rfl⟩ := Int.eq_ofNat_of_zero_le h1
  rw [Int.toNat_natCast] at h3
  refine ⟨by omega, by omega, ?_⟩
  rw [show ((i : Int) + 1).toNat = i + 1 by omega, zRun_1, h3]; exact ha
/-- a digit: in state 1 a width, in state 2 beats -/
theorem zDg_s {F : Int → Int} {ty sp r hi r' : Int} (h : zRt F ty sp r) (hr : (r = 1 ∧ hi = 6 ∧ r' = 2) ∨ (r = 2 ∧ hi = 9 ∧ r' = 0)) : (zWr (-1) sp (zIn (zLet F ty sp - 48) hi) = -1 ∧ zSpn (-1) sp = sp + 1 ∧ zRt F ty (sp + 1) r' ∧ sp < ty ∧ zLet F ty sp = F sp ∧ 1 ≤ F sp - 48 ∧ F sp - 48 ≤ hi) ∨ (zWr (-1) sp (zIn (zLet F ty sp - 48) hi) = sp ∧ zFt F ty sp) := by
  by_cases hs : sp < ty
  · have el : zLet F ty sp = F sp := if_pos hs
    rw [el]
    by_cases q : 1 ≤ F sp - 48 ∧ F sp - 48 ≤ hi
    · left
      have e1 : zIn (F sp - 48) hi = 1 := if_pos q
      refine ⟨by rw [e1]; rfl, rfl, zRt_s h hs ?_, hs, rfl, q.1, q.2⟩
      unfold zAw
      rcases hr with ⟨rfl, rfl, rfl⟩ | ⟨rfl, rfl, rfl⟩
      · rw [if_neg (show ¬ (1 : Int) = 0 by omega), if_pos rfl, if_pos q]
      · rw [if_neg (show ¬ (2 : Int) = 0 by omega), if_neg (show ¬ (2 : Int) = 1 by omega), if_pos rfl, if_pos q]
    · right
      have e1 : zIn (F sp - 48) hi = 0 := if_neg q
      refine ⟨by rw [e1]; rfl, zFt_in h (by omega) hs ?_⟩
      unfold zAw
      rcases hr with ⟨rfl, rfl, rfl⟩ | ⟨rfl, rfl, rfl⟩
      · rw [if_neg (show ¬ (1 : Int) = 0 by omega), if_pos rfl, if_neg q]
      · rw [if_neg (show ¬ (2 : Int) = 0 by omega), if_neg (show ¬ (2 : Int) = 1 by omega), if_pos rfl, if_neg q]
  · right
    have el : zLet F ty sp = -1 := if_neg hs
    have e1 : zIn (zLet F ty sp - 48) hi = 0 := by rw [el]; unfold zIn; rw [if_neg (by omega)]
    have e2 : sp = ty := by have := h.2.1; omega
    subst e2
    exact ⟨by rw [e1]; rfl, zFt_end h (by omega) (by omega)⟩

theorem zWr_k {wr sp b : Int} (h : ¬ wr = -1) : zWr wr sp b = wr := if_neg h
theorem zSpn_k {wr sp : Int} (h : ¬ wr = -1) : zSpn wr sp = sp := if_neg h
theorem zPb_step {F : Int → Int} {ty : Int} {s : zPB} (hw : s.2.2.1 = -1) (hr : zRt F ty s.2.1 0) (hs : s.2.1 < ty ∨ (s.2.1 = 0 ∧ ty = 0)) :
    ((zPb1 F ty s).2.2.1 = -1 ∧ zRt F ty (zPb1 F ty s).2.1 0 ∧ s.2.1 + 2 ≤ (zPb1 F ty s).2.1) ∨ (¬ (zPb1 F ty s).2.2.1 = -1 ∧ (zPb1 F ty s).2.2.1 ≤ ty ∧ zFt F ty (zPb1 F ty s).2.2.1) := by
  obtain ⟨pm, sp, wr, P⟩ := s
  dsimp only at hw hr hs
  subst hw
  have h0 := hr.1
  unfold zPb1 zRp2
  dsimp only
  by_cases hlt : sp < ty
  · have el : zLet F ty sp = F sp := if_pos hlt
    rw [el]
    by_cases hi : zIs (F sp) = 1
    · have e1 : zWr (-1) sp (zIs (F sp)) = -1 := by rw [hi]; rfl
      have e2 : zSpn (-1) sp = sp + 1 := rfl
      rw [e1, e2]
      rcases zIs_y hi with ⟨k1, k2, -⟩ | ⟨k1, k2, -⟩
      · have r1 : zRt F ty (sp + 1) 1 := zRt_s hr hlt (by unfold zAw; rw [if_pos rfl]; exact k2)
        unfold zRw
        rw [if_pos k1]
        dsimp only
        rcases zDg_s (hi := 6) (r' := 2) r1 (Or.inl ⟨rfl, rfl, rfl⟩) with ⟨a1, a2, a3, a4, -⟩ | ⟨a1, a2⟩
        · rw [a1, a2]
          rcases zDg_s (hi := 9) (r' := 0) a3 (Or.inr ⟨rfl, rfl, rfl⟩) with ⟨b1, b2, b3, b4, -⟩ | ⟨b1, b2⟩
          · rw [b1, b2]; exact Or.inl ⟨rfl, b3, by omega⟩
          · rw [b1]; exact Or.inr ⟨by omega, by have := a3.2.1; omega, b2⟩
        · rw [a1, zWr_k (show ¬ sp + 1 = -1 by omega)]
          exact Or.inr ⟨by omega, by have := r1.2.1; omega, a2⟩
      · have r1 : zRt F ty (sp + 1) 2 := zRt_s hr hlt (by unfold zAw; rw [if_pos rfl]; exact k2)
        unfold zRw
        rw [if_neg k1]
        dsimp only
        rcases zDg_s (hi := 9) (r' := 0) r1 (Or.inr ⟨rfl, rfl, rfl⟩) with ⟨b1, b2, b3, b4, -⟩ | ⟨b1, b2⟩
        · rw [b1, b2]; exact Or.inl ⟨rfl, b3, by omega⟩
        · rw [b1]; exact Or.inr ⟨by omega, by have := r1.2.1; omega, b2⟩
    · have hz : zIs (F sp) = 0 := by rcases zIs_b (F sp) with q | q; exact q; exact absurd q hi
      have e1 : zWr (-1) sp (zIs (F sp)) = sp := by rw [hz]; rfl
      rw [e1]
      have hft : zFt F ty sp := zFt_in hr (by omega) hlt (by unfold zAw; rw [if_pos rfl]; exact zIs_n hi)
      right
      unfold zRw
      split
      · dsimp only
        rw [zWr_k (show ¬ sp = -1 by omega), zWr_k (show ¬ sp = -1 by omega)]
        exact ⟨by omega, by omega, hft⟩
      · dsimp only
        rw [zWr_k (show ¬ sp = -1 by omega)]
        exact ⟨by omega, by omega, hft⟩
  · obtain ⟨rfl, rfl⟩ : sp = 0 ∧ ty = 0 := by omega
    have el : zLet F 0 0 = -1 := if_neg (by omega)
    rw [el]
    have e1 : zWr (-1) 0 (zIs (-1)) = 0 := by decide
    have e3 : ¬ zKk (-1) < 2 := by decide
    rw [e1]
    right
    unfold zRw
    rw [if_neg e3]
    dsimp only
    rw [zWr_k (show ¬ (0 : Int) = -1 by omega)]
    exact ⟨by omega, by omega, by omega, rfl, fun q => by omega⟩

theorem fl_X5_readBuffer_133 : Cond.fieldLink RX5 133 "SplashPagesModel" "partMany" "I" ∈ wsX5_readBuffer := by decide +kernel
theorem im_X5_readBuffer_5 : ∀ w ∈ u_ws RX5 TX5 20, w ∈ wsX5_readBuffer := by decide +kernel
theorem fl_X5_readBuffer_120 : Cond.fieldLink RX5 120 "SplashPagesModel" "spot" "I" ∈ wsX5_readBuffer := by decide +kernel
theorem fl_X5_readBuffer_123 : Cond.fieldLink RX5 123 "SplashPagesModel" "wrong" "I" ∈ wsX5_readBuffer := by decide +kernel
theorem fl_X5_readBuffer_117 : Cond.fieldLink RX5 117 "SplashPagesModel" "typed" "I" ∈ wsX5_readBuffer := by decide +kernel
abbrev rm_X5_readBuffer : Room := { frames := 3, cells := 0, slots := 0, locals := 66 }
set_option maxRecDepth 100000 in
set_option maxHeartbeats 4000000 in
theorem c_X5_readBuffer (l : Launch) (D : va_G) (cI cS cJ : ClassId) (q5 : Nat) (m0 : Nat) (m1 : Nat) (m2 : Nat) (m3 : Nat) (m4 : Nat) (m5 : Nat) (m6 : Nat) (m7 : Nat) (m8 : Nat) (m9 : Nat) (th : Int) (sm : Int) (ty : Int) (pg : Int) (rw : Int) (un : Int) (pm : Int) (sp : Int) (wr : Int) (ha : Int64) (F1 : Int → Int) (Pt : Int → Int) (hty : 0 ≤ ty ∧ ty ≤ 60) (htf : ∀ x, 0 ≤ x → x < ty → 0 ≤ F1 x ∧ F1 x ≤ 1000) : zMi l yX5_readBuffer wsX5_readBuffer rm_X5_readBuffer D (zTy cI cS cJ) [.ref q5] [(q5, .inr (5, [.int (zI th), .ref m0, .ref m1, .int (zI sm), .ref m2, .int (zI ty), .ref m3, .ref m4, .ref m5, .ref m6, .ref m7, .ref m8, .int (zI pg), .int (zI rw), .int (zI un), .ref m9, .int (zI pm), .int (zI sp), .int (zI wr), .long ha])), (m2, .inl (cI, 60, .inl (zA F1))), (m9, .inl (cI, 93, .inl (zA Pt)))] (fun r w => ∃ (j : Nat), (((zPbs F1 ty Pt j).2.2.1 = -1 ∧ (zPbs F1 ty Pt j).2.1 = ty ∧ zRun F1 ty.toNat = 0 ∧ 0 < ty) ∨ (¬ (zPbs F1 ty Pt j).2.2.1 = -1 ∧ (zPbs F1 ty Pt j).2.2.1 ≤ ty ∧ zFt F1 ty (zPbs F1 ty Pt j).2.2.1)) ∧ ((j : Int) ≤ 31 ∧ 1 ≤ j ∧ (zPbs F1 ty Pt j).1 = j) ∧ r = zI ((zPbs F1 ty Pt j).2.2.1) ∧ w = [(q5, .inr (5, [.int (zI th), .ref m0, .ref m1, .int (zI sm), .ref m2, .int (zI ty), .ref m3, .ref m4, .ref m5, .ref m6, .ref m7, .ref m8, .int (zI pg), .int (zI rw), .int (zI un), .ref m9, .int (zI ((zPbs F1 ty Pt j).1)), .int (zI ((zPbs F1 ty Pt j).2.1)), .int (zI ((zPbs F1 ty Pt j).2.2.1)), .long ha])), (m2, .inl (cI, 60, .inl (zA F1))), (m9, .inl (cI, 93, .inl (zA ((zPbs F1 ty Pt j).2.2.2))))]) 0 0 := by
  intro sz
  refine zMet_of (Qc := fun A => va_Qi _ (zB D (zTy cI cS cJ) A) A) RX5 [(0, .ref q5)] rfl (by decide +kernel) rfl (Nat.le_of_ble_eq_true rfl) rfl ?_ sz
  intro p e s m args below meth c A Q hQ C hr hini
  refine zj_aload_n 1 0 C dX5_readBuffer_0 rfl rfl rfl ?_
  refine zj_iconst 2 C dX5_readBuffer_1 rfl ?_
  refine zj_put 5 0 16 [(q5, .inr (5, [.int (zI th), .ref m0, .ref m1, .int (zI sm), .ref m2, .int (zI ty), .ref m3, .ref m4, .ref m5, .ref m6, .ref m7, .ref m8, .int (zI pg), .int (zI rw), .int (zI un), .ref m9, .int (zI 0), .int (zI sp), .int (zI wr), .long ha])), (m2, .inl (cI, 60, .inl (zA F1))), (m9, .inl (cI, 93, .inl (zA Pt)))] C (T := TX5) tyX5 tyX5_ok nmX5 im_X5_readBuffer_5 fl_X5_readBuffer_133 rfl rfl (by decide) rfl rfl rfl rfl rfl (Nat.le_of_ble_eq_true rfl) rfl dX5_readBuffer_2 rfl ?_
  refine zj_aload_n 6 0 C dX5_readBuffer_5 rfl rfl rfl ?_
  refine zj_iconst 7 C dX5_readBuffer_6 rfl ?_
  refine zj_put 10 0 17 [(q5, .inr (5, [.int (zI th), .ref m0, .ref m1, .int (zI sm), .ref m2, .int (zI ty), .ref m3, .ref m4, .ref m5, .ref m6, .ref m7, .ref m8, .int (zI pg), .int (zI rw), .int (zI un), .ref m9, .int (zI 0), .int (zI 0), .int (zI wr), .long ha])), (m2, .inl (cI, 60, .inl (zA F1))), (m9, .inl (cI, 93, .inl (zA Pt)))] C (T := TX5) tyX5 tyX5_ok nmX5 im_X5_readBuffer_5 fl_X5_readBuffer_120 rfl rfl (by decide) rfl rfl rfl rfl rfl (Nat.le_of_ble_eq_true rfl) rfl dX5_readBuffer_7 rfl ?_
  refine zj_aload_n 11 0 C dX5_readBuffer_10 rfl rfl rfl ?_
  refine zj_iconst 12 C dX5_readBuffer_11 rfl ?_
  refine zj_put 15 0 18 [(q5, .inr (5, [.int (zI th), .ref m0, .ref m1, .int (zI sm), .ref m2, .int (zI ty), .ref m3, .ref m4, .ref m5, .ref m6, .ref m7, .ref m8, .int (zI pg), .int (zI rw), .int (zI un), .ref m9, .int (zI 0), .int (zI 0), .int (zI (-1)), .long ha])), (m2, .inl (cI, 60, .inl (zA F1))), (m9, .inl (cI, 93, .inl (zA Pt)))] C (T := TX5) tyX5 tyX5_ok nmX5 im_X5_readBuffer_5 fl_X5_readBuffer_123 rfl rfl (by decide) rfl rfl rfl rfl rfl (Nat.le_of_ble_eq_true rfl) rfl dX5_readBuffer_12 rfl ?_
  refine zj_iconst 16 C dX5_readBuffer_15 rfl ?_
  refine zj_istore_n 17 [(1, .int (zI 1)), (0, .ref q5)] C dX5_readBuffer_16 rfl rfl (by decide) rfl ?_
  have hL17 : ∀ (N : Nat) (j : Nat) (d3 : Int), ((d3 = 1 ∧ (zPbs F1 ty Pt j).2.2.1 = -1 ∧ zRt F1 ty (zPbs F1 ty Pt j).2.1 0 ∧ ((zPbs F1 ty Pt j).2.1 < ty ∨ ((zPbs F1 ty Pt j).2.1 = 0 ∧ ty = 0)) ∧ 2 * (j : Int) ≤ (zPbs F1 ty Pt j).2.1 ∧ (zPbs F1 ty Pt j).1 = j) ∨ (d3 = 0 ∧ (((zPbs F1 ty Pt j).2.2.1 = -1 ∧ (zPbs F1 ty Pt j).2.1 = ty ∧ zRun F1 ty.toNat = 0 ∧ 0 < ty) ∨ (¬ (zPbs F1 ty Pt j).2.2.1 = -1 ∧ (zPbs F1 ty Pt j).2.2.1 ≤ ty ∧ zFt F1 ty (zPbs F1 ty Pt j).2.2.1)) ∧ (zPbs F1 ty Pt j).1 = j ∧ 1 ≤ j)) → ((j : Int) ≤ 31) → (33 - (j : Int) < N) → zJ p l e rm_X5_readBuffer s m args below meth c Q D A 2 [(q5, .inr (5, [.int (zI th), .ref m0, .ref m1, .int (zI sm), .ref m2, .int (zI ty), .ref m3, .ref m4, .ref m5, .ref m6, .ref m7, .ref m8, .int (zI pg), .int (zI rw), .int (zI un), .ref m9, .int (zI ((zPbs F1 ty Pt j).1)), .int (zI ((zPbs F1 ty Pt j).2.1)), .int (zI ((zPbs F1 ty Pt j).2.2.1)), .long ha])), (m2, .inl (cI, 60, .inl (zA F1))), (m9, .inl (cI, 93, .inl (zA ((zPbs F1 ty Pt j).2.2.2))))] 0 0 [(0, .ref q5), (1, .int (zI d3))] 17 [] := by
    intro N
    induction N with
    | zero => intro j d3 hd hj hN; exact absurd hN (by omega)
    | succ N ih =>
      intro j d3 hd hj hN
      refine zj_iload_n 18 1 C dX5_readBuffer_17 rfl rfl rfl ?_
      refine zj_if_eq 21 53 C (by omega) dX5_readBuffer_18 rfl (by decide) (fun h18 => ?_) (fun h18 => ?_)
      · skip
        obtain ⟨he1, he2, he3, he4⟩ := hd.resolve_left (fun q => absurd q.1 (by omega))
        refine zj_aload_n 54 0 C dX5_readBuffer_53 rfl rfl rfl ?_
        refine zj_get 57 0 18 C (T := TX5) im_X5_readBuffer_5 fl_X5_readBuffer_123 rfl rfl (by decide) rfl rfl dX5_readBuffer_54 rfl ?_
        subst hQ
        exact zj_ireturn C hr ⟨j, he2, ⟨hj, he4, he3⟩, rfl, rfl⟩ (by decide) (by decide) dX5_readBuffer_57
      · skip
        obtain ⟨hd1, hd2, hd3, hd4, hd5, hd6⟩ := hd.resolve_right (fun q => absurd q.1 (by omega))
        have hsp := hd3.1
        have hsp2 := hd3.2.1
        refine zj_aload_n 22 0 C dX5_readBuffer_21 rfl rfl rfl ?_
        refine zj_cv 25 [0, 1, 2] [] C (wr := []) (zr_V [0, 1, 2] C (As := []) (rest := []) (c_X5_readPart l D cI cS cJ q5 m0 m1 m2 m3 m4 m5 m6 m7 m8 m9 th sm ty pg rw un ((zPbs F1 ty Pt j).1) ((zPbs F1 ty Pt j).2.1) ((zPbs F1 ty Pt j).2.2.1) ha F1 ((zPbs F1 ty Pt j).2.2.2) (by omega) htf (by omega) (by omega) (by omega)) (cwV 0 C.1.2.2.2.2 gX5_readBuffer_X5_readPart rfl rfl rfl (by decide +kernel) ⟨Nat.le_of_ble_eq_true rfl, Nat.le_of_ble_eq_true rfl⟩) rfl (by decide) 0 rfl rfl rfl rfl (Nat.le_of_ble_eq_true rfl) dX5_readBuffer_22 ⟨Nat.le_of_ble_eq_true rfl, Nat.le_of_ble_eq_true rfl⟩) rfl rfl (by decide) (by decide) rfl (fun w_ hp_2 => ?_)
        obtain rfl := hp_2
        refine zj_ws (ws' := [(q5, .inr (5, [.int (zI th), .ref m0, .ref m1, .int (zI sm), .ref m2, .int (zI ty), .ref m3, .ref m4, .ref m5, .ref m6, .ref m7, .ref m8, .int (zI pg), .int (zI rw), .int (zI un), .ref m9, .int (zI (((zPbs F1 ty Pt j).1) + 1)), .int (zI ((zPb1 F1 ty (((zPbs F1 ty Pt j).1), ((zPbs F1 ty Pt j).2.1), ((zPbs F1 ty Pt j).2.2.1), ((zPbs F1 ty Pt j).2.2.2))).2.1)), .int (zI ((zPb1 F1 ty (((zPbs F1 ty Pt j).1), ((zPbs F1 ty Pt j).2.1), ((zPbs F1 ty Pt j).2.2.1), ((zPbs F1 ty Pt j).2.2.2))).2.2.1)), .long ha])), (m2, .inl (cI, 60, .inl (zA F1))), (m9, .inl (cI, 93, .inl (zA ((zPb1 F1 ty (((zPbs F1 ty Pt j).1), ((zPbs F1 ty Pt j).2.1), ((zPbs F1 ty Pt j).2.2.1), ((zPbs F1 ty Pt j).2.2.2))).2.2.2))))]) rfl ?_
        have hst2 := zPb_step (s := ((zPbs F1 ty Pt j).1, (zPbs F1 ty Pt j).2.1, (zPbs F1 ty Pt j).2.2.1, (zPbs F1 ty Pt j).2.2.2)) hd2 hd3 hd4
        have hpm2 : (zPb1 F1 ty ((zPbs F1 ty Pt j).1, (zPbs F1 ty Pt j).2.1, (zPbs F1 ty Pt j).2.2.1, (zPbs F1 ty Pt j).2.2.2)).1 = (j : Int) + 1 := by show (zPbs F1 ty Pt j).1 + 1 = _; omega
        have hrg : -1 ≤ (zPb1 F1 ty ((zPbs F1 ty Pt j).1, (zPbs F1 ty Pt j).2.1, (zPbs F1 ty Pt j).2.2.1, (zPbs F1 ty Pt j).2.2.2)).2.2.1 ∧ (zPb1 F1 ty ((zPbs F1 ty Pt j).1, (zPbs F1 ty Pt j).2.1, (zPbs F1 ty Pt j).2.2.1, (zPbs F1 ty Pt j).2.2.2)).2.2.1 ≤ 100 := by rcases hst2 with q | q; (rw [q.1]; omega); (have := q.2.2.1; omega)
        refine zj_aload_n 26 0 C dX5_readBuffer_25 rfl rfl rfl ?_
        refine zj_get 29 0 18 C (T := TX5) im_X5_readBuffer_5 fl_X5_readBuffer_123 rfl rfl (by decide) rfl rfl dX5_readBuffer_26 rfl ?_
        refine zj_iconst 30 C dX5_readBuffer_29 rfl ?_
        refine zj_icmp_ne 33 48 C (by omega) (by omega) dX5_readBuffer_30 rfl (by decide) (fun h30 => ?_) (fun h30 => ?_)
        · skip
          have hst3 := hst2.resolve_left (fun q => h30 q.1)
          refine zj_iconst 49 C dX5_readBuffer_48 rfl ?_
          refine zj_istore_n 50 [(1, .int (zI 0)), (0, .ref q5)] C dX5_readBuffer_49 rfl rfl (by decide) rfl ?_
          refine zj_goto 17 C dX5_readBuffer_50 (by decide) ?_
          refine zj_lv [1, 0] [(0, .ref q5), (1, .int (zI 0))] rfl ?_
          refine zj_ws (ws' := [(q5, .inr (5, [.int (zI th), .ref m0, .ref m1, .int (zI sm), .ref m2, .int (zI ty), .ref m3, .ref m4, .ref m5, .ref m6, .ref m7, .ref m8, .int (zI pg), .int (zI rw), .int (zI un), .ref m9, .int (zI ((zPbs F1 ty Pt (j + 1)).1)), .int (zI ((zPbs F1 ty Pt (j + 1)).2.1)), .int (zI ((zPbs F1 ty Pt (j + 1)).2.2.1)), .long ha])), (m2, .inl (cI, 60, .inl (zA F1))), (m9, .inl (cI, 93, .inl (zA ((zPbs F1 ty Pt (j + 1)).2.2.2))))]) (by rfl) ?_
          exact ih (j + 1) 0 (Or.inr ⟨rfl, Or.inr hst3, hpm2, by omega⟩) (by omega) (by omega)
        · skip
          have hst3 := hst2.resolve_right (fun q => q.1 h30)
          have hs5 := hst3.2.1.1
          have hs6 := hst3.2.1.2.1
          have hs7 : (zPbs F1 ty Pt j).2.1 + 2 ≤ (zPb1 F1 ty ((zPbs F1 ty Pt j).1, (zPbs F1 ty Pt j).2.1, (zPbs F1 ty Pt j).2.2.1, (zPbs F1 ty Pt j).2.2.2)).2.1 := hst3.2.2
          refine zj_aload_n 34 0 C dX5_readBuffer_33 rfl rfl rfl ?_
          refine zj_get 37 0 17 C (T := TX5) im_X5_readBuffer_5 fl_X5_readBuffer_120 rfl rfl (by decide) rfl rfl dX5_readBuffer_34 rfl ?_
          refine zj_aload_n 38 0 C dX5_readBuffer_37 rfl rfl rfl ?_
          refine zj_get 41 0 5 C (T := TX5) im_X5_readBuffer_5 fl_X5_readBuffer_117 rfl rfl (by decide) rfl rfl dX5_readBuffer_38 rfl ?_
          refine zj_icmp_ge 44 48 C (by omega) (by omega) dX5_readBuffer_41 rfl (by decide) (fun h41 => ?_) (fun h41 => ?_)
          · skip
            refine zj_iconst 49 C dX5_readBuffer_48 rfl ?_
            refine zj_istore_n 50 [(1, .int (zI 0)), (0, .ref q5)] C dX5_readBuffer_49 rfl rfl (by decide) rfl ?_
            refine zj_goto 17 C dX5_readBuffer_50 (by decide) ?_
            refine zj_lv [1, 0] [(0, .ref q5), (1, .int (zI 0))] rfl ?_
            refine zj_ws (ws' := [(q5, .inr (5, [.int (zI th), .ref m0, .ref m1, .int (zI sm), .ref m2, .int (zI ty), .ref m3, .ref m4, .ref m5, .ref m6, .ref m7, .ref m8, .int (zI pg), .int (zI rw), .int (zI un), .ref m9, .int (zI ((zPbs F1 ty Pt (j + 1)).1)), .int (zI ((zPbs F1 ty Pt (j + 1)).2.1)), .int (zI ((zPbs F1 ty Pt (j + 1)).2.2.1)), .long ha])), (m2, .inl (cI, 60, .inl (zA F1))), (m9, .inl (cI, 93, .inl (zA ((zPbs F1 ty Pt (j + 1)).2.2.2))))]) (by rfl) ?_
            exact ih (j + 1) 0 (Or.inr ⟨rfl, Or.inl ⟨hst3.1, (show (zPb1 F1 ty ((zPbs F1 ty Pt j).1, (zPbs F1 ty Pt j).2.1, (zPbs F1 ty Pt j).2.2.1, (zPbs F1 ty Pt j).2.2.2)).2.1 = ty by omega), (by have h9 := hst3.2.1.2.2; rw [show (zPb1 F1 ty ((zPbs F1 ty Pt j).1, (zPbs F1 ty Pt j).2.1, (zPbs F1 ty Pt j).2.2.1, (zPbs F1 ty Pt j).2.2.2)).2.1 = ty by omega] at h9; exact h9), by omega⟩, hpm2, by omega⟩) (by omega) (by omega)
          · skip
            refine zj_iconst 45 C dX5_readBuffer_44 rfl ?_
            refine zj_goto 49 C dX5_readBuffer_45 (by decide) ?_
            refine zj_istore_n 50 [(1, .int (zI 1)), (0, .ref q5)] C dX5_readBuffer_49 rfl rfl (by decide) rfl ?_
            refine zj_goto 17 C dX5_readBuffer_50 (by decide) ?_
            refine zj_lv [1, 0] [(0, .ref q5), (1, .int (zI 1))] rfl ?_
            refine zj_ws (ws' := [(q5, .inr (5, [.int (zI th), .ref m0, .ref m1, .int (zI sm), .ref m2, .int (zI ty), .ref m3, .ref m4, .ref m5, .ref m6, .ref m7, .ref m8, .int (zI pg), .int (zI rw), .int (zI un), .ref m9, .int (zI ((zPbs F1 ty Pt (j + 1)).1)), .int (zI ((zPbs F1 ty Pt (j + 1)).2.1)), .int (zI ((zPbs F1 ty Pt (j + 1)).2.2.1)), .long ha])), (m2, .inl (cI, 60, .inl (zA F1))), (m9, .inl (cI, 93, .inl (zA ((zPbs F1 ty Pt (j + 1)).2.2.2))))]) (by rfl) ?_
            exact ih (j + 1) 1 (Or.inl ⟨rfl, hst3.1, hst3.2.1, Or.inl h41, (show 2 * ((j + 1 : Nat) : Int) ≤ (zPb1 F1 ty ((zPbs F1 ty Pt j).1, (zPbs F1 ty Pt j).2.1, (zPbs F1 ty Pt j).2.2.1, (zPbs F1 ty Pt j).2.2.2)).2.1 by omega), hpm2⟩) (by omega) (by omega)
  refine zj_lv [1, 0] [(0, .ref q5), (1, .int (zI 1))] rfl ?_
  refine zj_ws (ws' := [(q5, .inr (5, [.int (zI th), .ref m0, .ref m1, .int (zI sm), .ref m2, .int (zI ty), .ref m3, .ref m4, .ref m5, .ref m6, .ref m7, .ref m8, .int (zI pg), .int (zI rw), .int (zI un), .ref m9, .int (zI ((zPbs F1 ty Pt 0).1)), .int (zI ((zPbs F1 ty Pt 0).2.1)), .int (zI ((zPbs F1 ty Pt 0).2.2.1)), .long ha])), (m2, .inl (cI, 60, .inl (zA F1))), (m9, .inl (cI, 93, .inl (zA ((zPbs F1 ty Pt 0).2.2.2))))]) (by rfl) ?_
  exact hL17 (34) 0 1 (Or.inl ⟨rfl, rfl, ⟨Int.le_refl 0, hty.1, rfl⟩, (by show (0 : Int) < ty ∨ ((0 : Int) = 0 ∧ ty = 0); omega), (by show 2 * (0 : Int) ≤ 0; omega), rfl⟩) (by omega) (by omega)
