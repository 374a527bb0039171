theorem zPbs_1 (F : Int → Int) (ty : Int) (P : Int → Int) : ∀ i : Nat, (zPbs F ty P i).1 = i
  | 0 => rfl
  | i + 1 => by
    show (zPbs F ty P i).1 + 1 = _
    rw [zPbs_1 F ty P i]; omega
theorem zPb_f {F : Int → Int} {ty : Int} {s : zPB} (h : ¬ zWr s.2.2.1 s.2.1 (zIs (zLet F ty s.2.1)) = -1) : ¬ (zPb1 F ty s).2.2.1 = -1 := by
  have e2 : (zRp2 F ty s).2.1 = zWr s.2.2.1 s.2.1 (zIs (zLet F ty s.2.1)) := by
    unfold zRp2 zRw
    split
    · exact zWr_k h
    · rfl
  show ¬ zWr (zRp2 F ty s).2.1 _ _ = _
  rw [e2, zWr_k h]; exact h
theorem zPbs_wr {F : Int → Int} {ty : Int} {P : Int → Int} {i : Nat} : ∀ d : Nat, (zPbs F ty P (i + d)).2.2.1 = -1 → (zPbs F ty P i).2.2.1 = -1
  | 0, h => h
  | d + 1, h => by
    refine zPbs_wr d ?_
    by_cases q : (zPbs F ty P (i + d)).2.2.1 = -1
    · exact q
    · exact absurd h (zPb_f (s := zPbs F ty P (i + d)) (by rw [zWr_k q]; exact q))
theorem zPbs_in {F : Int → Int} {ty : Int} {P : Int → Int} {i : Nat} (d : Nat) {x : Int} (h : x < 3 * (i : Int)) : (zPbs F ty P (i + d)).2.2.2 x = (zPbs F ty P i).2.2.2 x := by
  induction d with
  | zero => rfl
  | succ d ih =>
    rw [← ih]
    have e := zPbs_1 F ty P (i + d)
    show zU (zU (zU (zPbs F ty P (i + d)).2.2.2 (3 * (zPbs F ty P (i + d)).1) _) (3 * (zPbs F ty P (i + d)).1 + 1) _) (3 * (zPbs F ty P (i + d)).1 + 2) _ x = _
    rw [zU_ne _ _ (by omega), zU_ne _ _ (by omega), zU_ne _ _ (by omega)]
theorem zPb_ok {F : Int → Int} {ty : Int} {s : zPB} (hs : s.2.2.1 = -1) (hr : zRt F ty s.2.1 0) (hw : (zPb1 F ty s).2.2.1 = -1) :
    s.2.1 < ty ∧ ((zAk (zKd (F s.2.1)) = 1 ∧ (zPb1 F ty s).2.1 = s.2.1 + 3 ∧ zRt F ty (s.2.1 + 1) 1 ∧ zRt F ty (s.2.1 + 2) 2 ∧ zRt F ty (s.2.1 + 3) 0 ∧ (zPb1 F ty s).2.2.2 (3 * s.1) = zKd (F s.2.1) ∧ (zPb1 F ty s).2.2.2 (3 * s.1 + 1) = F (s.2.1 + 1) - 48 ∧ (zPb1 F ty s).2.2.2 (3 * s.1 + 2) = F (s.2.1 + 2) - 48) ∨
      (zAk (zKd (F s.2.1)) = 2 ∧ (zPb1 F ty s).2.1 = s.2.1 + 2 ∧ zRt F ty (s.2.1 + 1) 2 ∧ zRt F ty (s.2.1 + 2) 0 ∧ (zPb1 F ty s).2.2.2 (3 * s.1) = zKd (F s.2.1) ∧ (zPb1 F ty s).2.2.2 (3 * s.1 + 1) = 6 ∧ (zPb1 F ty s).2.2.2 (3 * s.1 + 2) = F (s.2.1 + 1) - 48)) := by
  obtain ⟨pm, sp, wr, P⟩ := s
  dsimp only at hs hr ⊢
  subst hs
  have h0 := hr.1
  by_cases hlt : sp < ty
  · have el : zLet F ty sp = F sp := if_pos hlt
    refine ⟨hlt, ?_⟩
    by_cases hi : zIs (F sp) = 1
    · have e1 : zWr (-1) sp (zIs (F sp)) = -1 := by rw [hi]; rfl
      have e2 : zSpn (-1) sp = sp + 1 := rfl
      unfold zPb1 zRp2 at hw ⊢
      dsimp only at hw ⊢
      rw [el, e1, e2] at hw ⊢
      rcases zIs_y hi with ⟨k1, k2, k3⟩ | ⟨k1, k2, k3⟩
      · left
        have r1 : zRt F ty (sp + 1) 1 := zRt_s hr hlt (by unfold zAw; rw [if_pos rfl]; exact k2)
        unfold zRw at hw ⊢
        rw [if_pos k1] at hw ⊢
        dsimp only at hw ⊢
        rcases zDg_s (hi := 6) (r' := 2) r1 (Or.inl ⟨rfl, rfl, rfl⟩) with ⟨a1, a2, a3, a4, a5, -⟩ | ⟨a1, a2⟩
        · rw [a1, a2, show sp + 1 + 1 = sp + 2 by omega] at hw ⊢
          rw [show sp + 1 + 1 = sp + 2 by omega] at a3
          rcases zDg_s (hi := 9) (r' := 0) a3 (Or.inr ⟨rfl, rfl, rfl⟩) with ⟨b1, b2, b3, b4, b5, -⟩ | ⟨b1, b2⟩
          · rw [show sp + 2 + 1 = sp + 3 by omega] at b2 b3
            exact ⟨k2, b2, r1, a3, b3, by rw [zU_ne _ _ (by omega), zU_ne _ _ (by omega), zU_eq, k3], by rw [zU_ne _ _ (by omega), zU_eq, a5], by rw [zU_eq, b5]⟩
          · rw [b1] at hw; omega
        · rw [a1, zWr_k (show ¬ sp + 1 = -1 by omega)] at hw
          omega
      · right
        have r1 : zRt F ty (sp + 1) 2 := zRt_s hr hlt (by unfold zAw; rw [if_pos rfl]; exact k2)
        unfold zRw at hw ⊢
        rw [if_neg k1] at hw ⊢
        dsimp only at hw ⊢
        rcases zDg_s (hi := 9) (r' := 0) r1 (Or.inr ⟨rfl, rfl, rfl⟩) with ⟨b1, b2, b3, b4, b5, -⟩ | ⟨b1, b2⟩
        · rw [show sp + 1 + 1 = sp + 2 by omega] at b2 b3
          exact ⟨k2, b2, r1, b3, by rw [zU_ne _ _ (by omega), zU_ne _ _ (by omega), zU_eq, k3], by rw [zU_ne _ _ (by omega), zU_eq], by rw [zU_eq, b5]⟩
        · rw [b1] at hw; omega
    · have hz : zIs (F sp) = 0 := by
        rcases zIs_b (F sp) with q | q
        · exact q
        · exact absurd q hi
      refine absurd hw (zPb_f ?_)
      dsimp only
      rw [el, hz]
      show ¬ sp = -1
      omega
  · refine absurd hw (zPb_f ?_)
    dsimp only
    rw [show zLet F ty sp = -1 from if_neg hlt, show zIs (-1) = 0 by decide]
    show ¬ sp = -1
    omega
theorem zPbs_rt {F : Int → Int} {ty : Int} {P : Int → Int} {j : Nat} (hty : 0 ≤ ty) (h : (zPbs F ty P j).2.2.1 = -1) : ∀ k : Nat, k ≤ j → zRt F ty (zPbs F ty P k).2.1 0
  | 0, _ => ⟨Int.le_refl 0, hty, rfl⟩
  | k + 1, hk => by
    have w0 : (zPbs F ty P k).2.2.1 = -1 := zPbs_wr (j - k) (by rw [show k + (j - k) = j by omega]; exact h)
    have w1 : (zPbs F ty P (k + 1)).2.2.1 = -1 := zPbs_wr (j - (k + 1)) (by rw [show k + 1 + (j - (k + 1)) = j by omega]; exact h)
    obtain ⟨-, ⟨-, e, -, -, r, -⟩ | ⟨-, e, -, r, -⟩⟩ := zPb_ok w0 (zPbs_rt hty h k (by omega)) w1
    · show zRt F ty (zPb1 F ty (zPbs F ty P k)).2.1 0
      rw [e]; exact r
    · show zRt F ty (zPb1 F ty (zPbs F ty P k)).2.1 0
      rw [e]; exact r
theorem zTx_0 {F : Int → Int} {t : zTs} {i : Nat} (h : (zTx F t i).2.1 < 24) (h0 : (zTx F t i).1.1 = 0) : zTx F t (i + 1) = ((zAk (zKd (F i)), zKd (F i), 6), (zTx F t i).2) := by
  show zTx1 _ _ = _
  unfold zTx1
  rw [if_neg (by omega), if_pos h0, h0]
  unfold zAw
  rw [if_pos rfl]
theorem zTx_1 {F : Int → Int} {t : zTs} {i : Nat} (h : (zTx F t i).2.1 < 24) (h0 : (zTx F t i).1.1 = 1) : zTx F t (i + 1) = ((zAw 1 (F i), (zTx F t i).1.2.1, F i - 48), (zTx F t i).2) := by
  show zTx1 _ _ = _
  unfold zTx1
  rw [if_neg (by omega), if_neg (by omega), if_pos h0, h0]
theorem zTx_2 {F : Int → Int} {t : zTs} {i : Nat} (h : (zTx F t i).2.1 < 24) (h0 : (zTx F t i).1.1 = 2) : (zTx F t (i + 1)).2 = ((zTx F t i).2.1 + 1, zIns (zTx F t i).2.2.1 (zTx F t i).2.1 (zTx F t i).1.2.1, zIns (zTx F t i).2.2.2.1 (zTx F t i).2.1 (zTx F t i).1.2.2, zIns (zTx F t i).2.2.2.2 (zTx F t i).2.1 (F i - 48)) := by
  show (zTx1 _ _).2 = _
  unfold zTx1
  rw [if_neg (by omega), if_neg (by omega), if_neg (by omega)]
/-- a part read is a panel laid to the story -/
theorem zTx_p {F : Int → Int} {ty : Int} {s : zPB} {t : zTs} (hs : s.2.2.1 = -1) (hr : zRt F ty s.2.1 0) (hw : (zPb1 F ty s).2.2.1 = -1) (ht : (zTx F t s.2.1.toNat).2.1 < 24) (h0 : (zTx F t s.2.1.toNat).1.1 = 0) :
    (zTx F t (zPb1 F ty s).2.1.toNat).2 = ((zTx F t s.2.1.toNat).2.1 + 1, zIns (zTx F t s.2.1.toNat).2.2.1 (zTx F t s.2.1.toNat).2.1 ((zPb1 F ty s).2.2.2 (3 * s.1)), zIns (zTx F t s.2.1.toNat).2.2.2.1 (zTx F t s.2.1.toNat).2.1 ((zPb1 F ty s).2.2.2 (3 * s.1 + 1)), zIns (zTx F t s.2.1.toNat).2.2.2.2 (zTx F t s.2.1.toNat).2.1 ((zPb1 F ty s).2.2.2 (3 * s.1 + 2))) := by
  obtain ⟨hlt, h⟩ := zPb_ok hs hr hw
  obtain ⟨i, hi⟩ := Int.eq_ofNat_of_zero_le hr.1
  have h1i : ((i + 1 : Nat) : Int) = (i : Int) + 1 := by omega
  have h2i : ((i + 1 + 1 : Nat) : Int) = (i : Int) + 2 := by omega
  rcases h with ⟨k2, h1, r1, r2, -, p0, p1, p2⟩ | ⟨k2, h1, r1, -, p0, p1, p2⟩
  · rw [p0, p1, p2, h1]
    rw [hi] at ht h0 r1 r2 k2 ⊢
    rw [Int.toNat_natCast] at ht h0 ⊢
    rw [show ((i : Int) + 3).toNat = i + 1 + 1 + 1 by omega]
    have e0 := zTx_0 ht h0
    rw [k2] at e0
    have a1 : zAw 1 (F ((i + 1 : Nat) : Int)) = 2 := by
      have q2 := r2.2.2
      have q1 := r1.2.2
      rw [show ((i : Int) + 2).toNat = i + 1 + 1 by omega, zRun_1] at q2
      rw [show ((i : Int) + 1).toNat = i + 1 by omega] at q1
      rw [q1] at q2
      exact q2
    have e1 := zTx_1 (F := F) (t := t) (i := i + 1) (by rw [e0]; exact ht) (by rw [e0])
    rw [a1, e0] at e1
    rw [zTx_2 (i := i + 1 + 1) (by rw [e1]; exact ht) (by rw [e1]), e1, h1i, h2i]
  · rw [p0, p1, p2, h1]
    rw [hi] at ht h0 r1 k2 ⊢
    rw [Int.toNat_natCast] at ht h0 ⊢
    rw [show ((i : Int) + 2).toNat = i + 1 + 1 by omega]
    have e0 := zTx_0 ht h0
    rw [k2] at e0
    rw [zTx_2 (i := i + 1) (by rw [e0]; exact ht) (by rw [e0]), e0, h1i]
theorem zPbs_p {F : Int → Int} {ty : Int} {P : Int → Int} {t : zTs} {j k : Nat} (hty : 0 ≤ ty) (h : (zPbs F ty P j).2.2.1 = -1) (hk : k < j) (ht : (zTx F t (zPbs F ty P k).2.1.toNat).2.1 < 24) (h0 : (zTx F t (zPbs F ty P k).2.1.toNat).1.1 = 0) :
    (zTx F t (zPbs F ty P (k + 1)).2.1.toNat).2 = ((zTx F t (zPbs F ty P k).2.1.toNat).2.1 + 1, zIns (zTx F t (zPbs F ty P k).2.1.toNat).2.2.1 (zTx F t (zPbs F ty P k).2.1.toNat).2.1 ((zPbs F ty P j).2.2.2 (3 * (k : Int))), zIns (zTx F t (zPbs F ty P k).2.1.toNat).2.2.2.1 (zTx F t (zPbs F ty P k).2.1.toNat).2.1 ((zPbs F ty P j).2.2.2 (3 * (k : Int) + 1)), zIns (zTx F t (zPbs F ty P k).2.1.toNat).2.2.2.2 (zTx F t (zPbs F ty P k).2.1.toNat).2.1 ((zPbs F ty P j).2.2.2 (3 * (k : Int) + 2))) := by
  have w0 : (zPbs F ty P k).2.2.1 = -1 := zPbs_wr (j - k) (by rw [show k + (j - k) = j by omega]; exact h)
  have w1 : (zPbs F ty P (k + 1)).2.2.1 = -1 := zPbs_wr (j - (k + 1)) (by rw [show k + 1 + (j - (k + 1)) = j by omega]; exact h)
  have e := zTx_p (t := t) w0 (zPbs_rt hty h k (by omega)) w1 ht h0
  rw [zPbs_1] at e
  have ein : ∀ x, x < 3 * ((k + 1 : Nat) : Int) → (zPbs F ty P j).2.2.2 x = (zPb1 F ty (zPbs F ty P k)).2.2.2 x := fun x hx => by
    have := zPbs_in (F := F) (ty := ty) (P := P) (i := k + 1) (j - (k + 1)) hx
    rw [show k + 1 + (j - (k + 1)) = j by omega] at this
    exact this
  rw [ein (3 * (k : Int)) (by omega), ein (3 * (k : Int) + 1) (by omega), ein (3 * (k : Int) + 2) (by omega)]
  exact e

theorem fl_X5_story_40 : Cond.fieldLink RX5 40 "SplashPagesModel" "thrown" "I" ∈ wsX5_story := by decide +kernel
theorem im_X5_story_5 : ∀ w ∈ u_ws RX5 TX5 20, w ∈ wsX5_story := by decide +kernel
theorem fl_X5_story_133 : Cond.fieldLink RX5 133 "SplashPagesModel" "partMany" "I" ∈ wsX5_story := by decide +kernel
theorem fl_X5_story_117 : Cond.fieldLink RX5 117 "SplashPagesModel" "typed" "I" ∈ wsX5_story := by decide +kernel
theorem fl_X5_story_7 : Cond.fieldLink RX5 7 "SplashPagesModel" "z" "[I" ∈ wsX5_story := by decide +kernel
theorem fl_X5_story_37 : Cond.fieldLink RX5 37 "SplashPagesModel" "parts" "[I" ∈ wsX5_story := by decide +kernel
abbrev rm_X5_story : Room := { frames := 4, cells := 0, slots := 0, locals := 87 }
set_option maxRecDepth 100000 in
set_option maxHeartbeats 4000000 in
theorem c_X5_story (l : Launch) (D : va_G) (cI cS cJ : ClassId) (q5 : Nat) (m0 : Nat) (m1 : Nat) (m2 : Nat) (m3 : Nat) (m4 : Nat) (m5 : Nat) (m6 : Nat) (m7 : Nat) (m8 : Nat) (m9 : Nat) (th : Int) (sm : Int) (ty : Int) (pg : Int) (rw : Int) (un : Int) (pm : Int) (sp : Int) (wr : Int) (ha : Int64) (Z1 : Int → Int) (S1 : Int → Int) (n1 : Int) (sg : Int) (K1 : Int → Int) (W1 : Int → Int) (T1 : Int → Int) (F1 : Int → Int) (Pt : Int → Int) (hst : zOk n1 sg K1 W1 T1) (hz : zRel n1 sg K1 W1 T1 Z1) (hsm : 0 ≤ sm ∧ sm ≤ 6) (hty : 0 ≤ ty ∧ ty ≤ 60) (htf : ∀ x, 0 ≤ x → x < ty → 0 ≤ F1 x ∧ F1 x ≤ 1000) : zMi l yX5_story wsX5_story rm_X5_story D (zTy cI cS cJ) [.ref q5] [(q5, .inr (5, [.int (zI th), .ref m0, .ref m1, .int (zI sm), .ref m2, .int (zI ty), .ref m3, .ref m4, .ref m5, .ref m6, .ref m7, .ref m8, .int (zI pg), .int (zI rw), .int (zI un), .ref m9, .int (zI pm), .int (zI sp), .int (zI wr), .long ha])), (m0, .inl (cI, 74, .inl (zA Z1))), (m1, .inl (cI, 444, .inl (zA S1))), (m2, .inl (cI, 60, .inl (zA F1))), (m9, .inl (cI, 93, .inl (zA Pt)))] (fun r w => ∃ (j : Nat), ∃ (Z2 : Int → Int), zRel ((zIt (zKy F1 ty) ((zTx F1 ((0, 0, 6), n1, K1, W1, T1) ty.toNat).2.1, sg, (zTx F1 ((0, 0, 6), n1, K1, W1, T1) ty.toNat).2.2.1, (zTx F1 ((0, 0, 6), n1, K1, W1, T1) ty.toNat).2.2.2.1, (zTx F1 ((0, 0, 6), n1, K1, W1, T1) ty.toNat).2.2.2.2) (n1, sg, K1, W1, T1)).1) ((zIt (zKy F1 ty) ((zTx F1 ((0, 0, 6), n1, K1, W1, T1) ty.toNat).2.1, sg, (zTx F1 ((0, 0, 6), n1, K1, W1, T1) ty.toNat).2.2.1, (zTx F1 ((0, 0, 6), n1, K1, W1, T1) ty.toNat).2.2.2.1, (zTx F1 ((0, 0, 6), n1, K1, W1, T1) ty.toNat).2.2.2.2) (n1, sg, K1, W1, T1)).2.1) ((zIt (zKy F1 ty) ((zTx F1 ((0, 0, 6), n1, K1, W1, T1) ty.toNat).2.1, sg, (zTx F1 ((0, 0, 6), n1, K1, W1, T1) ty.toNat).2.2.1, (zTx F1 ((0, 0, 6), n1, K1, W1, T1) ty.toNat).2.2.2.1, (zTx F1 ((0, 0, 6), n1, K1, W1, T1) ty.toNat).2.2.2.2) (n1, sg, K1, W1, T1)).2.2.1) ((zIt (zKy F1 ty) ((zTx F1 ((0, 0, 6), n1, K1, W1, T1) ty.toNat).2.1, sg, (zTx F1 ((0, 0, 6), n1, K1, W1, T1) ty.toNat).2.2.1, (zTx F1 ((0, 0, 6), n1, K1, W1, T1) ty.toNat).2.2.2.1, (zTx F1 ((0, 0, 6), n1, K1, W1, T1) ty.toNat).2.2.2.2) (n1, sg, K1, W1, T1)).2.2.2.1) ((zIt (zKy F1 ty) ((zTx F1 ((0, 0, 6), n1, K1, W1, T1) ty.toNat).2.1, sg, (zTx F1 ((0, 0, 6), n1, K1, W1, T1) ty.toNat).2.2.1, (zTx F1 ((0, 0, 6), n1, K1, W1, T1) ty.toNat).2.2.2.1, (zTx F1 ((0, 0, 6), n1, K1, W1, T1) ty.toNat).2.2.2.2) (n1, sg, K1, W1, T1)).2.2.2.2) Z2 ∧ r = zI (zIt (zKy F1 ty) ((zTx F1 ((0, 0, 6), n1, K1, W1, T1) ty.toNat).2.1 - n1) 0) ∧ w = [(q5, .inr (5, [.int (zI (zKy F1 ty)), .ref m0, .ref m1, .int (zI (zIt (zKy F1 ty) (zHn sm) sm)), .ref m2, .int (zI (zIt (zKy F1 ty) 0 ty)), .ref m3, .ref m4, .ref m5, .ref m6, .ref m7, .ref m8, .int (zI pg), .int (zI rw), .int (zI un), .ref m9, .int (zI ((zPbs F1 ty Pt j).1)), .int (zI ((zPbs F1 ty Pt j).2.1)), .int (zI ((zPbs F1 ty Pt j).2.2.1)), .long ha])), (m0, .inl (cI, 74, .inl (zA Z2))), (m1, .inl (cI, 444, .inl (zA (zIt (zKy F1 ty) (zSvd S1 Z1 sm) S1)))), (m2, .inl (cI, 60, .inl (zA F1))), (m9, .inl (cI, 93, .inl (zA ((zPbs F1 ty Pt j).2.2.2))))]) 0 0 := by
  intro sz
  refine zMet_of (Qc := fun A => va_Qi _ (zB D (zTy cI cS cJ) A) A) RX5 [(0, .ref q5)] rfl (by decide +kernel) rfl (Nat.le_of_ble_eq_true rfl) rfl ?_ sz
  intro p e s m args below meth c A Q hQ C hr hini
  have hn := hst.1
  have hz1 := hz.1
  refine zj_aload_n 1 0 C dX5_story_0 rfl rfl rfl ?_
  refine zj_aload_n 2 0 C dX5_story_1 rfl rfl rfl ?_
  refine zj_ci 5 [0, 3, 4] [1, 2] C (wr := [(m0, .inl (cI, 74, .inl (zA Z1))), (m1, .inl (cI, 444, .inl (zA S1)))]) (zr_V [0, 3, 4] C (As := []) (rest := [.ref q5]) (c_X5_readBuffer l D cI cS cJ q5 m0 m1 m2 m3 m4 m5 m6 m7 m8 m9 th sm ty pg rw un pm sp wr ha F1 Pt (by omega) htf) (cwV 0 C.1.2.2.2.2 gX5_story_X5_readBuffer rfl rfl rfl (by decide +kernel) ⟨Nat.le_of_ble_eq_true rfl, Nat.le_of_ble_eq_true rfl⟩) rfl (by decide) 0 rfl rfl rfl rfl (Nat.le_of_ble_eq_true rfl) dX5_story_2 ⟨Nat.le_of_ble_eq_true rfl, Nat.le_of_ble_eq_true rfl⟩) rfl rfl (by decide) (by decide) rfl (fun r_1 w_ hp_2 => ?_)
  obtain ⟨j, he, hj, rfl, rfl⟩ := hp_2
  refine zj_ws (ws' := [(m0, .inl (cI, 74, .inl (zA Z1))), (m1, .inl (cI, 444, .inl (zA S1))), (q5, .inr (5, [.int (zI th), .ref m0, .ref m1, .int (zI sm), .ref m2, .int (zI ty), .ref m3, .ref m4, .ref m5, .ref m6, .ref m7, .ref m8, .int (zI pg), .int (zI rw), .int (zI un), .ref m9, .int (zI ((zPbs F1 ty Pt j).1)), .int (zI ((zPbs F1 ty Pt j).2.1)), .int (zI ((zPbs F1 ty Pt j).2.2.1)), .long ha])), (m2, .inl (cI, 60, .inl (zA F1))), (m9, .inl (cI, 93, .inl (zA ((zPbs F1 ty Pt j).2.2.2))))]) rfl ?_
  have hrg : -1 ≤ (zPbs F1 ty Pt j).2.2.1 ∧ (zPbs F1 ty Pt j).2.2.1 ≤ 100 := by rcases he with q | q; (rw [q.1]; omega); (have := q.2.2.1; omega)
  refine zj_iconst 6 C dX5_story_5 rfl ?_
  refine zj_icmp_ne 9 13 C (by omega) (by omega) dX5_story_6 rfl (by decide) (fun h6 => ?_) (fun h6 => ?_)
  · skip
    obtain ⟨he1, he2, he3, he4, he5⟩ := he.resolve_left (fun q => h6 q.1)
    have hky : zKy F1 ty = 1 := if_neg he5
    refine zj_iconst 14 C dX5_story_13 rfl ?_
    refine zj_put 17 2 0 [(m0, .inl (cI, 74, .inl (zA Z1))), (m1, .inl (cI, 444, .inl (zA S1))), (q5, .inr (5, [.int (zI 1), .ref m0, .ref m1, .int (zI sm), .ref m2, .int (zI ty), .ref m3, .ref m4, .ref m5, .ref m6, .ref m7, .ref m8, .int (zI pg), .int (zI rw), .int (zI un), .ref m9, .int (zI ((zPbs F1 ty Pt j).1)), .int (zI ((zPbs F1 ty Pt j).2.1)), .int (zI ((zPbs F1 ty Pt j).2.2.1)), .long ha])), (m2, .inl (cI, 60, .inl (zA F1))), (m9, .inl (cI, 93, .inl (zA ((zPbs F1 ty Pt j).2.2.2))))] C (T := TX5) tyX5 tyX5_ok nmX5 im_X5_story_5 fl_X5_story_40 rfl rfl (by decide) rfl rfl rfl rfl rfl (Nat.le_of_ble_eq_true rfl) rfl dX5_story_14 rfl ?_
    refine zj_aload_n 18 0 C dX5_story_17 rfl rfl rfl ?_
    refine zj_get 21 2 0 C (T := TX5) im_X5_story_5 fl_X5_story_40 rfl rfl (by decide) rfl rfl dX5_story_18 rfl ?_
    refine zj_if_le 24 26 C (by omega) dX5_story_21 rfl (by decide) (fun h_3 => ?_) (fun h_3 => ?_)
    · exact absurd h_3 (by omega)
    · skip
      refine zj_iconst 25 C dX5_story_24 rfl ?_
      refine zj_re [2, 0, 1, 3, 4] [(q5, .inr (5, [.int (zI 1), .ref m0, .ref m1, .int (zI sm), .ref m2, .int (zI ty), .ref m3, .ref m4, .ref m5, .ref m6, .ref m7, .ref m8, .int (zI pg), .int (zI rw), .int (zI un), .ref m9, .int (zI ((zPbs F1 ty Pt j).1)), .int (zI ((zPbs F1 ty Pt j).2.1)), .int (zI ((zPbs F1 ty Pt j).2.2.1)), .long ha])), (m0, .inl (cI, 74, .inl (zA Z1))), (m1, .inl (cI, 444, .inl (zA S1))), (m2, .inl (cI, 60, .inl (zA F1))), (m9, .inl (cI, 93, .inl (zA ((zPbs F1 ty Pt j).2.2.2))))] (by decide) rfl ?_
      refine zj_ws (ws' := [(q5, .inr (5, [.int (zI (zKy F1 ty)), .ref m0, .ref m1, .int (zI (zIt (zKy F1 ty) (zHn sm) sm)), .ref m2, .int (zI (zIt (zKy F1 ty) 0 ty)), .ref m3, .ref m4, .ref m5, .ref m6, .ref m7, .ref m8, .int (zI pg), .int (zI rw), .int (zI un), .ref m9, .int (zI ((zPbs F1 ty Pt j).1)), .int (zI ((zPbs F1 ty Pt j).2.1)), .int (zI ((zPbs F1 ty Pt j).2.2.1)), .long ha])), (m0, .inl (cI, 74, .inl (zA Z1))), (m1, .inl (cI, 444, .inl (zA (zIt (zKy F1 ty) (zSvd S1 Z1 sm) S1)))), (m2, .inl (cI, 60, .inl (zA F1))), (m9, .inl (cI, 93, .inl (zA ((zPbs F1 ty Pt j).2.2.2))))]) (by rw [zIt_n (show ¬ zKy F1 ty = 0 by omega), zIt_n (show ¬ zKy F1 ty = 0 by omega), zIt_n (show ¬ zKy F1 ty = 0 by omega), hky]) ?_
      refine zj_st (st' := [.int (zI (zIt (zKy F1 ty) ((zTx F1 ((0, 0, 6), n1, K1, W1, T1) ty.toNat).2.1 - n1) 0))]) (by rw [zIt_n (show ¬ zKy F1 ty = 0 by omega)]) ?_
      subst hQ
      exact zj_ireturn C hr ⟨j, Z1, (by simp only [zIt_n (show ¬ zKy F1 ty = 0 by omega)]; exact hz), rfl, rfl⟩ (by decide) (by decide) dX5_story_25
  · skip
    obtain ⟨he1, he2, he3, he4⟩ := he.resolve_right (fun q => q.1 (by omega))
    have hky : zKy F1 ty = 0 := if_pos ⟨he4, he3⟩
    have hpm := hj.2.2
    refine zj_iconst 10 C dX5_story_9 rfl ?_
    refine zj_goto 14 C dX5_story_10 (by decide) ?_
    refine zj_put 17 2 0 [(m0, .inl (cI, 74, .inl (zA Z1))), (m1, .inl (cI, 444, .inl (zA S1))), (q5, .inr (5, [.int (zI 0), .ref m0, .ref m1, .int (zI sm), .ref m2, .int (zI ty), .ref m3, .ref m4, .ref m5, .ref m6, .ref m7, .ref m8, .int (zI pg), .int (zI rw), .int (zI un), .ref m9, .int (zI ((zPbs F1 ty Pt j).1)), .int (zI ((zPbs F1 ty Pt j).2.1)), .int (zI ((zPbs F1 ty Pt j).2.2.1)), .long ha])), (m2, .inl (cI, 60, .inl (zA F1))), (m9, .inl (cI, 93, .inl (zA ((zPbs F1 ty Pt j).2.2.2))))] C (T := TX5) tyX5 tyX5_ok nmX5 im_X5_story_5 fl_X5_story_40 rfl rfl (by decide) rfl rfl rfl rfl rfl (Nat.le_of_ble_eq_true rfl) rfl dX5_story_14 rfl ?_
    refine zj_aload_n 18 0 C dX5_story_17 rfl rfl rfl ?_
    refine zj_get 21 2 0 C (T := TX5) im_X5_story_5 fl_X5_story_40 rfl rfl (by decide) rfl rfl dX5_story_18 rfl ?_
    refine zj_if_le 24 26 C (by omega) dX5_story_21 rfl (by decide) (fun h_4 => ?_) (fun h_4 => ?_)
    · skip
      refine zj_aload_n 27 0 C dX5_story_26 rfl rfl rfl ?_
      refine zj_cv 30 [2, 0, 1] [3, 4] C (wr := [(m2, .inl (cI, 60, .inl (zA F1))), (m9, .inl (cI, 93, .inl (zA ((zPbs F1 ty Pt j).2.2.2))))]) (zr_V [2, 0, 1] C (As := []) (rest := []) (c_X5_save l D cI cS cJ q5 m0 m1 m2 m3 m4 m5 m6 m7 m8 m9 0 sm ty pg rw un ((zPbs F1 ty Pt j).1) ((zPbs F1 ty Pt j).2.1) ((zPbs F1 ty Pt j).2.2.1) ha Z1 S1 (by omega)) (cwV 0 C.1.2.2.2.2 gX5_story_X5_save rfl rfl rfl (by decide +kernel) ⟨Nat.le_of_ble_eq_true rfl, Nat.le_of_ble_eq_true rfl⟩) rfl (by decide) 0 rfl rfl rfl rfl (Nat.le_of_ble_eq_true rfl) dX5_story_27 ⟨Nat.le_of_ble_eq_true rfl, Nat.le_of_ble_eq_true rfl⟩) rfl rfl (by decide) (by decide) rfl (fun w_ hp_6 => ?_)
      obtain rfl := hp_6
      refine zj_ws (ws' := [(m2, .inl (cI, 60, .inl (zA F1))), (m9, .inl (cI, 93, .inl (zA ((zPbs F1 ty Pt j).2.2.2)))), (q5, .inr (5, [.int (zI 0), .ref m0, .ref m1, .int (zI (zHn sm)), .ref m2, .int (zI ty), .ref m3, .ref m4, .ref m5, .ref m6, .ref m7, .ref m8, .int (zI pg), .int (zI rw), .int (zI un), .ref m9, .int (zI ((zPbs F1 ty Pt j).1)), .int (zI ((zPbs F1 ty Pt j).2.1)), .int (zI ((zPbs F1 ty Pt j).2.2.1)), .long ha])), (m0, .inl (cI, 74, .inl (zA Z1))), (m1, .inl (cI, 444, .inl (zA (zSvd S1 Z1 sm))))]) rfl ?_
      refine zj_iconst 31 C dX5_story_30 rfl ?_
      refine zj_istore_n 32 [(1, .int (zI 0)), (0, .ref q5)] C dX5_story_31 rfl rfl (by decide) rfl ?_
      have hL32 : ∀ (N : Nat) (k : Nat) (Zk : Int → Int), ((k : Int) ≤ j) → (zRel (zTx F1 ((0, 0, 6), n1, K1, W1, T1) (zPbs F1 ty Pt k).2.1.toNat).2.1 sg (zTx F1 ((0, 0, 6), n1, K1, W1, T1) (zPbs F1 ty Pt k).2.1.toNat).2.2.1 (zTx F1 ((0, 0, 6), n1, K1, W1, T1) (zPbs F1 ty Pt k).2.1.toNat).2.2.2.1 (zTx F1 ((0, 0, 6), n1, K1, W1, T1) (zPbs F1 ty Pt k).2.1.toNat).2.2.2.2 Zk) → ((zTx F1 ((0, 0, 6), n1, K1, W1, T1) (zPbs F1 ty Pt k).2.1.toNat).2.1 = n1 + k) → ((j : Int) - (k : Int) < N) → zJ p l e rm_X5_story s m args below meth c Q D A 2 [(q5, .inr (5, [.int (zI 0), .ref m0, .ref m1, .int (zI (zHn sm)), .ref m2, .int (zI ty), .ref m3, .ref m4, .ref m5, .ref m6, .ref m7, .ref m8, .int (zI pg), .int (zI rw), .int (zI un), .ref m9, .int (zI ((zPbs F1 ty Pt j).1)), .int (zI ((zPbs F1 ty Pt j).2.1)), .int (zI ((zPbs F1 ty Pt j).2.2.1)), .long ha])), (m0, .inl (cI, 74, .inl (zA Zk))), (m1, .inl (cI, 444, .inl (zA (zSvd S1 Z1 sm)))), (m2, .inl (cI, 60, .inl (zA F1))), (m9, .inl (cI, 93, .inl (zA ((zPbs F1 ty Pt j).2.2.2))))] 0 0 [(0, .ref q5), (1, .int (zI (k : Int)))] 32 [] := by
        intro N
        induction N with
        | zero => intro k Zk hk hrel hnk hN; exact absurd hN (by omega)
        | succ N ih =>
          intro k Zk hk hrel hnk hN
          have hrk := zPbs_rt hty.1 he1 k (by omega)
          have hrk1 := hrk.1
          have hrk2 := hrk.2.1
          have htx := zTx_ok hst ty.toNat (by rw [he3]; decide) (zPbs F1 ty Pt k).2.1.toNat (by omega)
          have hnb := htx.1.1
          have hzk1 := hrel.1
          refine zj_iload_n 33 1 C dX5_story_32 rfl rfl rfl ?_
          refine zj_aload_n 34 0 C dX5_story_33 rfl rfl rfl ?_
          refine zj_get 37 0 16 C (T := TX5) im_X5_story_5 fl_X5_story_133 rfl rfl (by decide) rfl rfl dX5_story_34 rfl ?_
          refine zj_icmp_ge 40 95 C (by omega) (by omega) dX5_story_37 rfl (by decide) (fun h37 => ?_) (fun h37 => ?_)
          · skip
            refine zj_aload_n 96 0 C dX5_story_95 rfl rfl rfl ?_
            refine zj_iconst 97 C dX5_story_96 rfl ?_
            refine zj_put 100 0 5 [(q5, .inr (5, [.int (zI 0), .ref m0, .ref m1, .int (zI (zHn sm)), .ref m2, .int (zI 0), .ref m3, .ref m4, .ref m5, .ref m6, .ref m7, .ref m8, .int (zI pg), .int (zI rw), .int (zI un), .ref m9, .int (zI ((zPbs F1 ty Pt j).1)), .int (zI ((zPbs F1 ty Pt j).2.1)), .int (zI ((zPbs F1 ty Pt j).2.2.1)), .long ha])), (m0, .inl (cI, 74, .inl (zA Zk))), (m1, .inl (cI, 444, .inl (zA (zSvd S1 Z1 sm)))), (m2, .inl (cI, 60, .inl (zA F1))), (m9, .inl (cI, 93, .inl (zA ((zPbs F1 ty Pt j).2.2.2))))] C (T := TX5) tyX5 tyX5_ok nmX5 im_X5_story_5 fl_X5_story_117 rfl rfl (by decide) rfl rfl rfl rfl rfl (Nat.le_of_ble_eq_true rfl) rfl dX5_story_97 rfl ?_
            refine zj_iload_n 101 1 C dX5_story_100 rfl rfl rfl ?_
            have hfin : (zTx F1 ((0, 0, 6), n1, K1, W1, T1) ty.toNat) = (zTx F1 ((0, 0, 6), n1, K1, W1, T1) (zPbs F1 ty Pt k).2.1.toNat) := by rw [show k = j by omega, he2]
            refine zj_ws (ws' := [(q5, .inr (5, [.int (zI (zKy F1 ty)), .ref m0, .ref m1, .int (zI (zIt (zKy F1 ty) (zHn sm) sm)), .ref m2, .int (zI (zIt (zKy F1 ty) 0 ty)), .ref m3, .ref m4, .ref m5, .ref m6, .ref m7, .ref m8, .int (zI pg), .int (zI rw), .int (zI un), .ref m9, .int (zI ((zPbs F1 ty Pt j).1)), .int (zI ((zPbs F1 ty Pt j).2.1)), .int (zI ((zPbs F1 ty Pt j).2.2.1)), .long ha])), (m0, .inl (cI, 74, .inl (zA Zk))), (m1, .inl (cI, 444, .inl (zA (zIt (zKy F1 ty) (zSvd S1 Z1 sm) S1)))), (m2, .inl (cI, 60, .inl (zA F1))), (m9, .inl (cI, 93, .inl (zA ((zPbs F1 ty Pt j).2.2.2))))]) (by rw [zIt_0 (show zKy F1 ty = 0 by omega), zIt_0 (show zKy F1 ty = 0 by omega), zIt_0 (show zKy F1 ty = 0 by omega), hky]) ?_
            refine zj_st (st' := [.int (zI (zIt (zKy F1 ty) ((zTx F1 ((0, 0, 6), n1, K1, W1, T1) ty.toNat).2.1 - n1) 0))]) (by rw [zIt_0 (show zKy F1 ty = 0 by omega), hfin, show (zTx F1 ((0, 0, 6), n1, K1, W1, T1) (zPbs F1 ty Pt k).2.1.toNat).2.1 - n1 = (k : Int) by omega]) ?_
            subst hQ
            exact zj_ireturn C hr ⟨j, Zk, (by simp only [zIt_0 (show zKy F1 ty = 0 by omega)]; rw [hfin]; exact hrel), rfl, rfl⟩ (by decide) (by decide) dX5_story_101
          · skip
            refine zj_aload_n 41 0 C dX5_story_40 rfl rfl rfl ?_
            refine zj_get 44 0 1 C (T := TX5) im_X5_story_5 fl_X5_story_7 rfl rfl (by decide) rfl rfl dX5_story_41 rfl ?_
            refine zj_iconst 45 C dX5_story_44 rfl ?_
            refine zj_iald 46 1 C (by omega) (by omega) rfl rfl dX5_story_45 rfl ?_
            refine zj_bipush 48 C dX5_story_46 rfl rfl ?_
            refine zj_icmp_ge 51 95 C (by omega) (by omega) dX5_story_48 rfl (by decide) (fun h48 => ?_) (fun h48 => ?_)
            · skip
              refine zj_aload_n 96 0 C dX5_story_95 rfl rfl rfl ?_
              refine zj_iconst 97 C dX5_story_96 rfl ?_
              refine zj_put 100 0 5 [(q5, .inr (5, [.int (zI 0), .ref m0, .ref m1, .int (zI (zHn sm)), .ref m2, .int (zI 0), .ref m3, .ref m4, .ref m5, .ref m6, .ref m7, .ref m8, .int (zI pg), .int (zI rw), .int (zI un), .ref m9, .int (zI ((zPbs F1 ty Pt j).1)), .int (zI ((zPbs F1 ty Pt j).2.1)), .int (zI ((zPbs F1 ty Pt j).2.2.1)), .long ha])), (m0, .inl (cI, 74, .inl (zA Zk))), (m1, .inl (cI, 444, .inl (zA (zSvd S1 Z1 sm)))), (m2, .inl (cI, 60, .inl (zA F1))), (m9, .inl (cI, 93, .inl (zA ((zPbs F1 ty Pt j).2.2.2))))] C (T := TX5) tyX5 tyX5_ok nmX5 im_X5_story_5 fl_X5_story_117 rfl rfl (by decide) rfl rfl rfl rfl rfl (Nat.le_of_ble_eq_true rfl) rfl dX5_story_97 rfl ?_
              refine zj_iload_n 101 1 C dX5_story_100 rfl rfl rfl ?_
              have hfin : (zTx F1 ((0, 0, 6), n1, K1, W1, T1) ty.toNat) = (zTx F1 ((0, 0, 6), n1, K1, W1, T1) (zPbs F1 ty Pt k).2.1.toNat) := by rw [show ty.toNat = (zPbs F1 ty Pt k).2.1.toNat + (ty.toNat - (zPbs F1 ty Pt k).2.1.toNat) by omega, zTx_full _ _ _ (by omega)]
              refine zj_ws (ws' := [(q5, .inr (5, [.int (zI (zKy F1 ty)), .ref m0, .ref m1, .int (zI (zIt (zKy F1 ty) (zHn sm) sm)), .ref m2, .int (zI (zIt (zKy F1 ty) 0 ty)), .ref m3, .ref m4, .ref m5, .ref m6, .ref m7, .ref m8, .int (zI pg), .int (zI rw), .int (zI un), .ref m9, .int (zI ((zPbs F1 ty Pt j).1)), .int (zI ((zPbs F1 ty Pt j).2.1)), .int (zI ((zPbs F1 ty Pt j).2.2.1)), .long ha])), (m0, .inl (cI, 74, .inl (zA Zk))), (m1, .inl (cI, 444, .inl (zA (zIt (zKy F1 ty) (zSvd S1 Z1 sm) S1)))), (m2, .inl (cI, 60, .inl (zA F1))), (m9, .inl (cI, 93, .inl (zA ((zPbs F1 ty Pt j).2.2.2))))]) (by rw [zIt_0 (show zKy F1 ty = 0 by omega), zIt_0 (show zKy F1 ty = 0 by omega), zIt_0 (show zKy F1 ty = 0 by omega), hky]) ?_
              refine zj_st (st' := [.int (zI (zIt (zKy F1 ty) ((zTx F1 ((0, 0, 6), n1, K1, W1, T1) ty.toNat).2.1 - n1) 0))]) (by rw [zIt_0 (show zKy F1 ty = 0 by omega), hfin, show (zTx F1 ((0, 0, 6), n1, K1, W1, T1) (zPbs F1 ty Pt k).2.1.toNat).2.1 - n1 = (k : Int) by omega]) ?_
              subst hQ
              exact zj_ireturn C hr ⟨j, Zk, (by simp only [zIt_0 (show zKy F1 ty = 0 by omega)]; rw [hfin]; exact hrel), rfl, rfl⟩ (by decide) (by decide) dX5_story_101
            · skip
              refine zj_aload_n 52 0 C dX5_story_51 rfl rfl rfl ?_
              refine zj_aload_n 53 0 C dX5_story_52 rfl rfl rfl ?_
              refine zj_get 56 0 1 C (T := TX5) im_X5_story_5 fl_X5_story_7 rfl rfl (by decide) rfl rfl dX5_story_53 rfl ?_
              refine zj_iconst 57 C dX5_story_56 rfl ?_
              refine zj_iald 58 1 C (by omega) (by omega) rfl rfl dX5_story_57 rfl ?_
              refine zj_aload_n 59 0 C dX5_story_58 rfl rfl rfl ?_
              refine zj_get 62 0 15 C (T := TX5) im_X5_story_5 fl_X5_story_37 rfl rfl (by decide) rfl rfl dX5_story_59 rfl ?_
              refine zj_iconst 63 C dX5_story_62 rfl ?_
              refine zj_iload_n 64 1 C dX5_story_63 rfl rfl rfl ?_
              refine zj_imul 65 C dX5_story_64 rfl ?_
              refine zj_iald 66 4 C (by omega) (by omega) rfl rfl dX5_story_65 rfl ?_
              refine zj_aload_n 67 0 C dX5_story_66 rfl rfl rfl ?_
              refine zj_get 70 0 15 C (T := TX5) im_X5_story_5 fl_X5_story_37 rfl rfl (by decide) rfl rfl dX5_story_67 rfl ?_
              refine zj_iconst 71 C dX5_story_70 rfl ?_
              refine zj_iload_n 72 1 C dX5_story_71 rfl rfl rfl ?_
              refine zj_imul 73 C dX5_story_72 rfl ?_
              refine zj_iconst 74 C dX5_story_73 rfl ?_
              refine zj_iadd 75 C dX5_story_74 rfl ?_
              refine zj_iald 76 4 C (by omega) (by omega) rfl rfl dX5_story_75 rfl ?_
              refine zj_aload_n 77 0 C dX5_story_76 rfl rfl rfl ?_
              refine zj_get 80 0 15 C (T := TX5) im_X5_story_5 fl_X5_story_37 rfl rfl (by decide) rfl rfl dX5_story_77 rfl ?_
              refine zj_iconst 81 C dX5_story_80 rfl ?_
              refine zj_iload_n 82 1 C dX5_story_81 rfl rfl rfl ?_
              refine zj_imul 83 C dX5_story_82 rfl ?_
              refine zj_iconst 84 C dX5_story_83 rfl ?_
              refine zj_iadd 85 C dX5_story_84 rfl ?_
              refine zj_iald 86 4 C (by omega) (by omega) rfl rfl dX5_story_85 rfl ?_
              refine zj_cv 89 [0, 1] [2, 3, 4] C (wr := [(m1, .inl (cI, 444, .inl (zA (zSvd S1 Z1 sm)))), (m2, .inl (cI, 60, .inl (zA F1))), (m9, .inl (cI, 93, .inl (zA ((zPbs F1 ty Pt j).2.2.2))))]) (zr_V [0, 1] C (As := [.int (zI (Zk 1)), .int (zI (((zPbs F1 ty Pt j).2.2.2) (3 * (k : Int)))), .int (zI (((zPbs F1 ty Pt j).2.2.2) ((3 * (k : Int)) + 1))), .int (zI (((zPbs F1 ty Pt j).2.2.2) ((3 * (k : Int)) + 2)))]) (rest := []) (c_X5_insert l D cI cS cJ q5 m0 m1 m2 m3 m4 m5 m6 m7 m8 m9 0 (zHn sm) ty pg rw un ((zPbs F1 ty Pt j).1) ((zPbs F1 ty Pt j).2.1) ((zPbs F1 ty Pt j).2.2.1) ha Zk ((zTx F1 ((0, 0, 6), n1, K1, W1, T1) (zPbs F1 ty Pt k).2.1.toNat).2.1) sg ((zTx F1 ((0, 0, 6), n1, K1, W1, T1) (zPbs F1 ty Pt k).2.1.toNat).2.2.1) ((zTx F1 ((0, 0, 6), n1, K1, W1, T1) (zPbs F1 ty Pt k).2.1.toNat).2.2.2.1) ((zTx F1 ((0, 0, 6), n1, K1, W1, T1) (zPbs F1 ty Pt k).2.1.toNat).2.2.2.2) (Zk 1) (((zPbs F1 ty Pt j).2.2.2) (3 * (k : Int))) (((zPbs F1 ty Pt j).2.2.2) ((3 * (k : Int)) + 1)) (((zPbs F1 ty Pt j).2.2.2) ((3 * (k : Int)) + 2)) (by omega) hrel (by omega)) (cwV 4 C.1.2.2.2.2 gX5_story_X5_insert rfl rfl rfl (by decide +kernel) ⟨Nat.le_of_ble_eq_true rfl, Nat.le_of_ble_eq_true rfl⟩) rfl (by decide) 0 rfl rfl rfl rfl (Nat.le_of_ble_eq_true rfl) dX5_story_86 ⟨Nat.le_of_ble_eq_true rfl, Nat.le_of_ble_eq_true rfl⟩) rfl rfl (by decide) (by decide) rfl (fun w_ hp_8 => ?_)
              obtain ⟨Zn, hzn, rfl⟩ := hp_8
              refine zj_ws (ws' := [(m1, .inl (cI, 444, .inl (zA (zSvd S1 Z1 sm)))), (m2, .inl (cI, 60, .inl (zA F1))), (m9, .inl (cI, 93, .inl (zA ((zPbs F1 ty Pt j).2.2.2)))), (q5, .inr (5, [.int (zI 0), .ref m0, .ref m1, .int (zI (zHn sm)), .ref m2, .int (zI ty), .ref m3, .ref m4, .ref m5, .ref m6, .ref m7, .ref m8, .int (zI pg), .int (zI rw), .int (zI un), .ref m9, .int (zI ((zPbs F1 ty Pt j).1)), .int (zI ((zPbs F1 ty Pt j).2.1)), .int (zI ((zPbs F1 ty Pt j).2.2.1)), .long ha])), (m0, .inl (cI, 74, .inl (zA Zn)))]) rfl ?_
              refine zj_iinc 92 1 [(1, .int (zI ((k : Int) + 1))), (0, .ref q5)] C dX5_story_89 rfl rfl (by decide) rfl ?_
              refine zj_goto 32 C dX5_story_92 (by decide) ?_
              have hp := zPbs_p hty.1 he1 (k := k) (t := ((0, 0, 6), n1, K1, W1, T1)) (by omega) (by omega) (by rw [(htx.2 (by omega)).1]; exact hrk.2.2)
              refine zj_re [3, 4, 0, 1, 2] [(q5, .inr (5, [.int (zI 0), .ref m0, .ref m1, .int (zI (zHn sm)), .ref m2, .int (zI ty), .ref m3, .ref m4, .ref m5, .ref m6, .ref m7, .ref m8, .int (zI pg), .int (zI rw), .int (zI un), .ref m9, .int (zI ((zPbs F1 ty Pt j).1)), .int (zI ((zPbs F1 ty Pt j).2.1)), .int (zI ((zPbs F1 ty Pt j).2.2.1)), .long ha])), (m0, .inl (cI, 74, .inl (zA Zn))), (m1, .inl (cI, 444, .inl (zA (zSvd S1 Z1 sm)))), (m2, .inl (cI, 60, .inl (zA F1))), (m9, .inl (cI, 93, .inl (zA ((zPbs F1 ty Pt j).2.2.2))))] (by decide) rfl ?_
              refine zj_lv [1, 0] [(0, .ref q5), (1, .int (zI ((k : Int) + 1)))] rfl ?_
              refine zj_eqlv (lv' := [(0, .ref q5), (1, .int (zI ((k + 1) : Int)))]) (by rfl) ?_
              exact ih (k + 1) Zn (by omega) (by rw [hp]; rw [hzk1] at hzn; exact hzn) (by rw [hp]; dsimp only; omega) (by omega)
      refine zj_re [2, 3, 4, 0, 1] [(q5, .inr (5, [.int (zI 0), .ref m0, .ref m1, .int (zI (zHn sm)), .ref m2, .int (zI ty), .ref m3, .ref m4, .ref m5, .ref m6, .ref m7, .ref m8, .int (zI pg), .int (zI rw), .int (zI un), .ref m9, .int (zI ((zPbs F1 ty Pt j).1)), .int (zI ((zPbs F1 ty Pt j).2.1)), .int (zI ((zPbs F1 ty Pt j).2.2.1)), .long ha])), (m0, .inl (cI, 74, .inl (zA Z1))), (m1, .inl (cI, 444, .inl (zA (zSvd S1 Z1 sm)))), (m2, .inl (cI, 60, .inl (zA F1))), (m9, .inl (cI, 93, .inl (zA ((zPbs F1 ty Pt j).2.2.2))))] (by decide) rfl ?_
      refine zj_lv [1, 0] [(0, .ref q5), (1, .int (zI 0))] rfl ?_
      refine zj_eqlv (lv' := [(0, .ref q5), (1, .int (zI (0 : Int)))]) (by rfl) ?_
      exact hL32 (40) 0 Z1 (by omega) (hz) (by show n1 = n1 + ((0 : Nat) : Int); omega) (by omega)
    · exact absurd h_4 (by omega)
