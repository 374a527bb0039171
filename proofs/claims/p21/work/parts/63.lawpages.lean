/-! ===== what the class tells, by its numbers ===== -/
section ZNG
variable {n1 sg p hs : Int} {K1 W1 T1 : Int → Int}
theorem zNg_0 : zNg n1 sg K1 W1 T1 p 0 = (zFin sg K1 W1 T1 n1).2.2.2.2.1 p := by unfold zNg zPgN zPgF; rw [if_pos rfl]
theorem zNg_1 : zNg n1 sg K1 W1 T1 p 1 = (zFin sg K1 W1 T1 n1).2.2.2.2.2.1 p := by unfold zNg zPgN zPgF; rw [if_neg (by omega), if_pos rfl]
theorem zNg_2 : zNg n1 sg K1 W1 T1 p 2 = 24 - (zFin sg K1 W1 T1 n1).2.2.2.2.2.2.1 p := by unfold zNg zPgN zPgF; rw [if_neg (by omega), if_neg (by omega), if_pos rfl]
theorem zNg_3 : zNg n1 sg K1 W1 T1 p 3 = if 0 < (zFin sg K1 W1 T1 n1).2.2.2.2.1 p then (zFin sg K1 W1 T1 n1).2.2.2.2.2.2.2.1 p else -1 := by unfold zNg zPgN; (show zPgF 3 _ _ _ _ _ _ = _); unfold zPgF; rw [if_neg (by omega), if_neg (by omega), if_neg (by omega), if_pos rfl]
theorem zNg_4 : zNg n1 sg K1 W1 T1 p 4 = if ¬ 0 < (zFin sg K1 W1 T1 n1).2.2.2.2.1 p ∧ p < zUsed (zFin sg K1 W1 T1 n1) then 1 else 0 := by unfold zNg zPgN; (show zPgF 4 _ _ _ _ _ _ = _); unfold zPgF; rw [if_neg (by omega), if_neg (by omega), if_neg (by omega), if_neg (by omega), if_pos rfl]
theorem zNg_5 : zNg n1 sg K1 W1 T1 p 5 = (zFin sg K1 W1 T1 n1).2.2.2.1 p := by unfold zNg zPgN; (show zPgF 5 _ _ _ _ _ _ = _); unfold zPgF; rw [if_neg (by omega), if_neg (by omega), if_neg (by omega), if_neg (by omega), if_neg (by omega)]
theorem zNc_0 : zNc n1 sg K1 W1 T1 hs 0 = n1 := by unfold zNc zCtF; rw [if_pos rfl]
theorem zNc_1 : zNc n1 sg K1 W1 T1 hs 1 = zUsed (zFin sg K1 W1 T1 n1) := by unfold zNc zCtF; rw [if_neg (by omega), if_pos rfl]
theorem zNc_2 : zNc n1 sg K1 W1 T1 hs 2 = zUsed (zFin sg K1 W1 T1 n1) - (zFin sg K1 W1 T1 n1).2.2.2.2.2.2.2.2.2.1 := by unfold zNc zCtF; rw [if_neg (by omega), if_neg (by omega), if_pos rfl]
theorem zNc_3 : zNc n1 sg K1 W1 T1 hs 3 = zOut n1 sg K1 W1 T1 := by unfold zNc zCtF; rw [if_neg (by omega), if_neg (by omega), if_neg (by omega), if_pos rfl]
theorem zNc_4 : zNc n1 sg K1 W1 T1 hs 4 = zMx (zFin sg K1 W1 T1 n1).2.2.2.2.2.1 16 := by unfold zNc zCtF; rw [if_neg (by omega), if_neg (by omega), if_neg (by omega), if_neg (by omega), if_pos rfl]
theorem zNc_5 : zNc n1 sg K1 W1 T1 hs 5 = zEmp (zFin sg K1 W1 T1 n1) := by unfold zNc zCtF; rw [if_neg (by omega), if_neg (by omega), if_neg (by omega), if_neg (by omega), if_neg (by omega), if_pos rfl]
theorem zNc_6 : zNc n1 sg K1 W1 T1 hs 6 = zGd (zFin sg K1 W1 T1 n1).2.2.2.2.2.1 8 := by unfold zNc zCtF; rw [if_neg (by omega), if_neg (by omega), if_neg (by omega), if_neg (by omega), if_neg (by omega), if_neg (by omega), if_pos rfl]
theorem zNc_7 : zNc n1 sg K1 W1 T1 hs 7 = sg := by unfold zNc zCtF; rw [if_neg (by omega), if_neg (by omega), if_neg (by omega), if_neg (by omega), if_neg (by omega), if_neg (by omega), if_neg (by omega), if_pos rfl]
end ZNG
def kBn (c : Int → Int) (us : Int) : Nat → Int | 0 => 0 | k + 1 => kBn c us k + if ¬ 0 < c k ∧ (k : Int) < us then 1 else 0
def kEp (c f : Int → Int) : Nat → Int | 0 => 0 | k + 1 => kEp c f k + if 0 < c k then 24 - f k else 0
theorem kEp_s {c f : Int → Int} (h : ∀ p : Int, 0 ≤ p → p < 16 → ¬ 0 < c p → f p = 0) : ∀ k : Nat, k ≤ 16 → kEp c f k = zPs c k * 24 - zSm f k
  | 0, _ => by rw [kEp, zPs, zSm]; omega
  | k + 1, hk => by
    rw [kEp, zPs, zSm, kEp_s h k (by omega)]
    by_cases hc : 0 < c k
    · rw [if_pos hc, if_pos hc]; omega
    · rw [if_neg hc, if_neg hc, h k (by omega) (by omega) hc]; omega
theorem kUn_s {b : Int → Int} {u ul dy bf bt x : Int} {q : Nat} (hul : ul = zUn b u (q / 2)) (hbf : (q = 0 ∧ bf = 0) ∨ (0 < q ∧ bf = b ((q : Int) - 1))) (hbt : bt = b q) (hdy : dy = zAbs (bt - bf))
    (hx : ((q : Int) % 2 = 1 ∧ (q : Int) - 1 < u ∧ ul < dy ∧ x = dy) ∨ (¬ ((q : Int) % 2 = 1 ∧ (q : Int) - 1 < u ∧ ul < dy) ∧ x = ul)) : x = zUn b u ((q + 1) / 2) := by
  by_cases hq : q % 2 = 1
  · have e0 : (q + 1) / 2 = q / 2 + 1 := by omega
    have e1 : 2 * ((q / 2 : Nat) : Int) = (q : Int) - 1 := by omega
    have e2 : (q : Int) - 1 + 1 = q := by omega
    have eb : bf = b ((q : Int) - 1) := by rcases hbf with ⟨a, -⟩ | ⟨-, a⟩; omega; exact a
    have ed : dy = zAbs (b ((q : Int) - 1) - b q) := by rw [hdy, hbt, eb]; unfold zAbs; split <;> split <;> omega
    rw [e0, zUn, e1, e2, ← ed, ← hul]
    by_cases hh : (q : Int) - 1 < u ∧ ul < dy
    · rw [if_pos hh]
      rcases hx with ⟨-, -, -, a⟩ | ⟨a, -⟩
      · exact a
      · exact absurd ⟨by omega, hh.1, hh.2⟩ a
    · rw [if_neg hh]
      rcases hx with ⟨-, a, b, -⟩ | ⟨-, a⟩
      · exact absurd ⟨a, b⟩ hh
      · exact a
  · rw [show (q + 1) / 2 = q / 2 by omega, ← hul]
    rcases hx with ⟨a, -⟩ | ⟨-, a⟩
    · omega
    · exact a
/-- the first panel on a page, searched from behind -/
abbrev kFst (K P : Int → Int) (p n m f0 : Int) : Prop := (f0 = -1 ∧ ∀ x : Int, m ≤ x → x < n → ¬ kOn K P p x) ∨ ((m ≤ f0 ∧ f0 < n) ∧ kOn K P p f0 ∧ ∀ x : Int, m ≤ x → x < f0 → ¬ kOn K P p x)
theorem kFst_y {K P : Int → Int} {p n m f0 : Int} (hm : m < n) (h : kOn K P p m) : kFst K P p n m m := Or.inr ⟨⟨Int.le_refl _, hm⟩, h, fun x h1 h2 => absurd h1 (by omega)⟩
theorem kFst_n {K P : Int → Int} {p n m f0 : Int} (hf : kFst K P p n (m + 1) f0) (h : ¬ kOn K P p m) : kFst K P p n m f0 := by
  rcases hf with ⟨e, a⟩ | ⟨e, a, b⟩
  · refine Or.inl ⟨e, fun x h1 h2 hx => ?_⟩
    by_cases q : x = m
    · subst q; exact h hx
    · exact a x (by omega) h2 hx
  · refine Or.inr ⟨⟨by omega, e.2⟩, a, fun x h1 h2 hx => ?_⟩
    by_cases q : x = m
    · subst q; exact h hx
    · exact b x (by omega) h2 hx
theorem kFst_f {K P c s : Int → Int} {p n f0 : Int} (hf : kFst K P p n 0 f0) (h1 : ∀ i : Int, 0 ≤ i → i < n → kOn K P p i → 0 < c p) (h2 : 0 < c p → 0 ≤ s p ∧ s p < n ∧ kOn K P p (s p) ∧ ∀ x : Int, 0 ≤ x → x < s p → ¬ kOn K P p x) : f0 = if 0 < c p then s p else -1 := by
  rcases hf with ⟨e, a⟩ | ⟨e, a, b⟩
  · rw [if_neg]
    · exact e
    · intro q
      obtain ⟨g1, g2, g3, -⟩ := h2 q
      exact a _ g1 g2 g3
  · have hc := h1 f0 e.1 e.2 a
    obtain ⟨g1, g2, g3, g4⟩ := h2 hc
    rw [if_pos hc]
    by_cases q : f0 < s p
    · exact absurd a (g4 f0 e.1 q)
    · by_cases q2 : s p < f0
      · exact absurd g3 (b _ g1 q2)
      · omega
/-- units of a page are at most 24 -/
theorem kFb {n sg : Int} {K W T : Int → Int} (hok : zOk n sg K W T) : ∀ p : Int, 0 ≤ p → p < 16 → 0 ≤ (zFin sg K W T n).2.2.2.2.2.2.1 p ∧ (zFin sg K W T n).2.2.2.2.2.2.1 p ≤ 24 := fun p p1 p2 => by
  have h1 := zq_em hok ⟨p1, p2⟩
  have h2 := zEm_le (G := zGrid sg K W T n.toNat) (a := 24 * p) (x := 0) 24
  omega
theorem kF0 {n sg : Int} {K W T : Int → Int} (hok : zOk n sg K W T) : ∀ p : Int, 0 ≤ p → p < 16 → (¬ 0 < (zFin sg K W T n).2.2.2.2.1 p → (zFin sg K W T n).2.2.2.2.2.2.1 p = 0) ∧ (zUsed (zFin sg K W T n) ≤ p → ¬ 0 < (zFin sg K W T n).2.2.2.2.1 p) := fun p p1 p2 => by
  obtain ⟨m, -, hw, -⟩ := zEnd hok
  refine ⟨fun h => ?_, fun h => ?_⟩
  · have h1 := hw.1.2.1 p p1 p2
    exact (h1.2.1 (by omega)).1
  · have := zV_high hw.1 (p := p) ⟨p1, p2⟩ h
    omega
theorem kSh {n sg fl em : Int} {K W T : Int → Int} (hf : fl = (zFin sg K W T n).2.2.2.2.2.2.2.2.2.1 * 24) (he : em = zEmp (zFin sg K W T n)) (h0 : 0 < fl) : FP.ddiv (FP.i2d (zI (fl - em))) (FP.i2d (zI fl)) = zSh n sg K W T := by
  unfold zSh zShr
  rw [if_neg (by omega), ← hf]
  unfold zEmp at he
  rw [show fl - em = (zFin sg K W T n).2.2.2.2.2.2.2.2.2.2 by omega]
theorem kSh1 {n sg fl : Int} {K W T : Int → Int} (hf : fl = (zFin sg K W T n).2.2.2.2.2.2.2.2.2.1 * 24) (h0 : fl ≤ 0) : FP.dconst1 = zSh n sg K W T := by
  unfold zSh zShr
  rw [if_pos (by omega)]

theorem wc_L_pages_10 : Cond.constant RL 10 (100000) ∈ wsL_pages := by decide +kernel
abbrev rm_L_pages : Room := { frames := 4, cells := 0, slots := 0, locals := 78 }
set_option maxRecDepth 100000 in
set_option maxHeartbeats 4000000 in
theorem c_L_pages (l : Launch) (D : va_G) (cI cS cJ : ClassId) (q0 : Nat) (q2 : Nat) (g1 : Nat) (g2 : Nat) (g3 : Nat) (q1 : Nat) (a0 : Nat) (a1 : Nat) (a2 : Nat) (a3 : Nat) (a4 : Nat) (a5 : Nat) (a6 : Nat) (a7 : Nat) (qt : Nat) (ql : Nat) (qh : Nat) (qx : Nat) (n1 : Int) (sg : Int) (pg : Int) (rw : Int) (un : Int) (K1 : Int → Int) (W1 : Int → Int) (T1 : Int → Int) (P1 : Int → Int) (R1 : Int → Int) (U1 : Int → Int) (hq : Nat) (hs : Int) (yk : Nat) (yw : Nat) (yb : Nat) (yp : Nat) (yr : Nat) (yu : Nat) (yt : Nat) (Kl : Int → Int) (Wl : Int → Int) (Bl : Int → Int) (Pl : Int → Int) (Rl : Int → Int) (Ul : Int → Int) (ty : Int → Int) (hst : zOk n1 sg K1 W1 T1) (hag : ∀ x, 0 ≤ x → x < n1 → Kl x = K1 x ∧ Wl x = W1 x ∧ Bl x = T1 x) (hPl : ∀ i : Nat, (i : Int) < n1 → Pl i = (zPos sg Kl Wl Bl i).1) (ht : ty 0 = sg ∧ ty 1 = n1) : zMi l yL_pages wsL_pages rm_L_pages D (zTy cI cS cJ) [.ref q0, .ref yk, .ref yw, .ref yb, .ref yp, .ref yr, .ref yu, .ref yt] [(q0, .inr (4, [.ref q2, .ref q1, .ref qt, .ref ql, .ref qh, .ref qx])), (q2, .inr (2, [.ref g1, .ref g2, .ref g3, .int (zI n1), .int (zI sg)])), (q1, .inr (1, [.ref a0, .ref a1, .ref a2, .ref a3, .ref a4, .ref a5, .ref a6, .ref a7, .int (zI pg), .int (zI rw), .int (zI un), .int (zI ((zFin sg K1 W1 T1 n1).2.2.2.2.2.2.2.2.1)), .int (zI ((zFin sg K1 W1 T1 n1).2.2.2.2.2.2.2.2.2.1)), .int (zI ((zFin sg K1 W1 T1 n1).2.2.2.2.2.2.2.2.2.2)), .int (zI (zOut n1 sg K1 W1 T1))])), (a3, .inl (cI, 16, .inl (zA ((zFin sg K1 W1 T1 n1).2.2.2.2.1)))), (a4, .inl (cI, 16, .inl (zA ((zFin sg K1 W1 T1 n1).2.2.2.2.2.1)))), (a5, .inl (cI, 16, .inl (zA ((zFin sg K1 W1 T1 n1).2.2.2.2.2.2.1)))), (a6, .inl (cI, 16, .inl (zA ((zFin sg K1 W1 T1 n1).2.2.2.2.2.2.2.1)))), (a7, .inl (cI, 16, .inl (zA ((zFin sg K1 W1 T1 n1).2.2.2.1)))), (qh, .inr (0, [.ref hq, .int (zI hs)])), (yk, .inl (cI, 24, .inl (zA Kl))), (yw, .inl (cI, 24, .inl (zA Wl))), (yb, .inl (cI, 24, .inl (zA Bl))), (yp, .inl (cI, 24, .inl (zA Pl))), (yr, .inl (cI, 24, .inl (zA Rl))), (yu, .inl (cI, 24, .inl (zA Ul))), (yt, .inl (cI, 2, .inl (zA ty)))] (fun r w => r = zI 1 ∧ w = [(q0, .inr (4, [.ref q2, .ref q1, .ref qt, .ref ql, .ref qh, .ref qx])), (q2, .inr (2, [.ref g1, .ref g2, .ref g3, .int (zI n1), .int (zI sg)])), (q1, .inr (1, [.ref a0, .ref a1, .ref a2, .ref a3, .ref a4, .ref a5, .ref a6, .ref a7, .int (zI pg), .int (zI rw), .int (zI un), .int (zI ((zFin sg K1 W1 T1 n1).2.2.2.2.2.2.2.2.1)), .int (zI ((zFin sg K1 W1 T1 n1).2.2.2.2.2.2.2.2.2.1)), .int (zI ((zFin sg K1 W1 T1 n1).2.2.2.2.2.2.2.2.2.2)), .int (zI (zOut n1 sg K1 W1 T1))])), (a3, .inl (cI, 16, .inl (zA ((zFin sg K1 W1 T1 n1).2.2.2.2.1)))), (a4, .inl (cI, 16, .inl (zA ((zFin sg K1 W1 T1 n1).2.2.2.2.2.1)))), (a5, .inl (cI, 16, .inl (zA ((zFin sg K1 W1 T1 n1).2.2.2.2.2.2.1)))), (a6, .inl (cI, 16, .inl (zA ((zFin sg K1 W1 T1 n1).2.2.2.2.2.2.2.1)))), (a7, .inl (cI, 16, .inl (zA ((zFin sg K1 W1 T1 n1).2.2.2.1)))), (qh, .inr (0, [.ref hq, .int (zI hs)])), (yk, .inl (cI, 24, .inl (zA Kl))), (yw, .inl (cI, 24, .inl (zA Wl))), (yb, .inl (cI, 24, .inl (zA Bl))), (yp, .inl (cI, 24, .inl (zA Pl))), (yr, .inl (cI, 24, .inl (zA Rl))), (yu, .inl (cI, 24, .inl (zA Ul))), (yt, .inl (cI, 2, .inl (zA ty)))]) 0 0 := by
  intro sz
  refine zMet_of (Qc := fun A => va_Qi _ (zB D (zTy cI cS cJ) A) A) RL [(0, .ref q0), (1, .ref yk), (2, .ref yw), (3, .ref yb), (4, .ref yp), (5, .ref yr), (6, .ref yu), (7, .ref yt)] rfl (by decide +kernel) rfl (Nat.le_of_ble_eq_true rfl) rfl ?_ sz
  intro p e s m args below meth c A Q hQ C hr hini
  have hn := hst.1
  have hok2 : zOk n1 sg Kl Wl Bl := zOk_c (fun x h1 h2 => ⟨(hag x h1 h2).1.symm, (hag x h1 h2).2.1.symm, (hag x h1 h2).2.2.symm⟩) hst
  have hFe : zFin sg Kl Wl Bl n1 = (zFin sg K1 W1 T1 n1) := zFin_c hag
  have hkf := kFin hok2 hPl
  have hcu := kCos_u hok2
  rw [hFe] at hkf hcu
  obtain ⟨-, -, -, hkp⟩ := hkf
  have hOe : zOut n1 sg Kl Wl Bl = zOut n1 sg K1 W1 T1 := by unfold zOut; rw [zManyF_c hag]
  obtain ⟨uu, huu⟩ : ∃ y, y = zUsed (zFin sg K1 W1 T1 n1) := ⟨_, rfl⟩
  obtain ⟨cf, hcf⟩ : ∃ f : Int → Int, f = (zFin sg K1 W1 T1 n1).2.2.2.2.1 := ⟨_, rfl⟩
  obtain ⟨bb, hbb⟩ : ∃ f : Int → Int, f = (zFin sg K1 W1 T1 n1).2.2.2.2.2.1 := ⟨_, rfl⟩
  obtain ⟨ff, hff⟩ : ∃ f : Int → Int, f = (zFin sg K1 W1 T1 n1).2.2.2.2.2.2.1 := ⟨_, rfl⟩
  obtain ⟨sf, hsf⟩ : ∃ f : Int → Int, f = (zFin sg K1 W1 T1 n1).2.2.2.2.2.2.2.1 := ⟨_, rfl⟩
  obtain ⟨ef, hef⟩ : ∃ f : Int → Int, f = (zFin sg K1 W1 T1 n1).2.2.2.1 := ⟨_, rfl⟩
  have hum : 0 ≤ uu ∧ uu ≤ 16 := by rw [huu]; exact (zFin_m hst).1
  have hPb := kPb hok2 hPl
  rw [← hcf, ← hbb, ← hff, ← hsf] at hkp
  have hfb : ∀ p : Int, 0 ≤ p → p < 16 → 0 ≤ ff p ∧ ff p ≤ 24 := by rw [hff]; exact kFb hst
  have hbo : ∀ p : Int, 0 ≤ p → p < 16 → zBo Kl Pl p n1.toNat = ef p := fun p p1 p2 => by rw [zq_bo hok2 hPl ⟨p1, p2⟩, hFe, hef]
  refine zj_iconst 1 C dL_pages_0 rfl ?_
  refine zj_istore 3 [(8, .int (zI 0)), (0, .ref q0), (1, .ref yk), (2, .ref yw), (3, .ref yb), (4, .ref yp), (5, .ref yr), (6, .ref yu), (7, .ref yt)] C dL_pages_1 rfl (by decide) rfl ?_
  refine zj_iconst 4 C dL_pages_3 rfl ?_
  refine zj_istore 6 [(9, .int (zI 0)), (8, .int (zI 0)), (0, .ref q0), (1, .ref yk), (2, .ref yw), (3, .ref yb), (4, .ref yp), (5, .ref yr), (6, .ref yu), (7, .ref yt)] C dL_pages_4 rfl (by decide) rfl ?_
  refine zj_iconst 7 C dL_pages_6 rfl ?_
  refine zj_istore 9 [(10, .int (zI 0)), (9, .int (zI 0)), (8, .int (zI 0)), (0, .ref q0), (1, .ref yk), (2, .ref yw), (3, .ref yb), (4, .ref yp), (5, .ref yr), (6, .ref yu), (7, .ref yt)] C dL_pages_7 rfl (by decide) rfl ?_
  refine zj_iconst 10 C dL_pages_9 rfl ?_
  refine zj_istore 12 [(11, .int (zI 0)), (10, .int (zI 0)), (9, .int (zI 0)), (8, .int (zI 0)), (0, .ref q0), (1, .ref yk), (2, .ref yw), (3, .ref yb), (4, .ref yp), (5, .ref yr), (6, .ref yu), (7, .ref yt)] C dL_pages_10 rfl (by decide) rfl ?_
  refine zj_iconst 13 C dL_pages_12 rfl ?_
  refine zj_istore 15 [(12, .int (zI 0)), (11, .int (zI 0)), (10, .int (zI 0)), (9, .int (zI 0)), (8, .int (zI 0)), (0, .ref q0), (1, .ref yk), (2, .ref yw), (3, .ref yb), (4, .ref yp), (5, .ref yr), (6, .ref yu), (7, .ref yt)] C dL_pages_13 rfl (by decide) rfl ?_
  refine zj_aload_n 16 6 C dL_pages_15 rfl rfl rfl ?_
  refine zj_aload_n 17 7 C dL_pages_16 rfl rfl rfl ?_
  refine zj_aload 19 9 C dL_pages_17 rfl rfl ?_
  refine zj_aload 21 12 C dL_pages_19 rfl rfl ?_
  refine zj_ci 24 [9, 10, 12, 15] [0, 1, 2, 3, 4, 5, 6, 7, 8, 11, 13, 14] C (wr := [(q0, .inr (4, [.ref q2, .ref q1, .ref qt, .ref ql, .ref qh, .ref qx])), (q2, .inr (2, [.ref g1, .ref g2, .ref g3, .int (zI n1), .int (zI sg)])), (q1, .inr (1, [.ref a0, .ref a1, .ref a2, .ref a3, .ref a4, .ref a5, .ref a6, .ref a7, .int (zI pg), .int (zI rw), .int (zI un), .int (zI ((zFin sg K1 W1 T1 n1).2.2.2.2.2.2.2.2.1)), .int (zI ((zFin sg K1 W1 T1 n1).2.2.2.2.2.2.2.2.2.1)), .int (zI ((zFin sg K1 W1 T1 n1).2.2.2.2.2.2.2.2.2.2)), .int (zI (zOut n1 sg K1 W1 T1))])), (a3, .inl (cI, 16, .inl (zA ((zFin sg K1 W1 T1 n1).2.2.2.2.1)))), (a4, .inl (cI, 16, .inl (zA ((zFin sg K1 W1 T1 n1).2.2.2.2.2.1)))), (a5, .inl (cI, 16, .inl (zA ((zFin sg K1 W1 T1 n1).2.2.2.2.2.2.1)))), (a6, .inl (cI, 16, .inl (zA ((zFin sg K1 W1 T1 n1).2.2.2.2.2.2.2.1)))), (a7, .inl (cI, 16, .inl (zA ((zFin sg K1 W1 T1 n1).2.2.2.1)))), (qh, .inr (0, [.ref hq, .int (zI hs)])), (yb, .inl (cI, 24, .inl (zA Bl))), (yr, .inl (cI, 24, .inl (zA Rl))), (yu, .inl (cI, 24, .inl (zA Ul)))]) (zr_S [9, 10, 12, 15] C (As := [.ref yk, .ref yw, .ref yp, .ref yt]) (rest := []) (c_L_whole l D cI cS cJ yk yw yp yt Kl Wl Bl Pl ty n1 sg hok2 ht hPl) (va_cwS 4 C.1.2.2.2.2 gL_pages_L_whole rfl rfl rfl (by decide +kernel) ⟨Nat.le_of_ble_eq_true rfl, Nat.le_of_ble_eq_true rfl⟩) rfl (by decide) rfl rfl (Nat.le_of_ble_eq_true rfl) dL_pages_21 ⟨Nat.le_of_ble_eq_true rfl, Nat.le_of_ble_eq_true rfl⟩) rfl rfl (by decide) (by decide) rfl (fun r_1 w_ hp_2 => ?_)
  obtain ⟨rfl, rfl⟩ := hp_2
  refine zj_ws (ws' := [(q0, .inr (4, [.ref q2, .ref q1, .ref qt, .ref ql, .ref qh, .ref qx])), (q2, .inr (2, [.ref g1, .ref g2, .ref g3, .int (zI n1), .int (zI sg)])), (q1, .inr (1, [.ref a0, .ref a1, .ref a2, .ref a3, .ref a4, .ref a5, .ref a6, .ref a7, .int (zI pg), .int (zI rw), .int (zI un), .int (zI ((zFin sg K1 W1 T1 n1).2.2.2.2.2.2.2.2.1)), .int (zI ((zFin sg K1 W1 T1 n1).2.2.2.2.2.2.2.2.2.1)), .int (zI ((zFin sg K1 W1 T1 n1).2.2.2.2.2.2.2.2.2.2)), .int (zI (zOut n1 sg K1 W1 T1))])), (a3, .inl (cI, 16, .inl (zA ((zFin sg K1 W1 T1 n1).2.2.2.2.1)))), (a4, .inl (cI, 16, .inl (zA ((zFin sg K1 W1 T1 n1).2.2.2.2.2.1)))), (a5, .inl (cI, 16, .inl (zA ((zFin sg K1 W1 T1 n1).2.2.2.2.2.2.1)))), (a6, .inl (cI, 16, .inl (zA ((zFin sg K1 W1 T1 n1).2.2.2.2.2.2.2.1)))), (a7, .inl (cI, 16, .inl (zA ((zFin sg K1 W1 T1 n1).2.2.2.1)))), (qh, .inr (0, [.ref hq, .int (zI hs)])), (yb, .inl (cI, 24, .inl (zA Bl))), (yr, .inl (cI, 24, .inl (zA Rl))), (yu, .inl (cI, 24, .inl (zA Ul))), (yk, .inl (cI, 24, .inl (zA Kl))), (yw, .inl (cI, 24, .inl (zA Wl))), (yp, .inl (cI, 24, .inl (zA Pl))), (yt, .inl (cI, 2, .inl (zA ty)))]) rfl ?_
  refine zj_sipush 27 C dL_pages_24 rfl rfl ?_
  refine zj_idiv 28 C (by omega) (by omega) dL_pages_27 rfl ?_
  refine zj_bipush 30 C dL_pages_28 rfl rfl ?_
  refine zj_irem 31 C (by omega) (by omega) dL_pages_30 rfl ?_
  refine zj_st (st' := [.int (zI uu)]) (by rw [hcu.2.1, huu]) ?_
  refine zj_istore 33 [(13, .int (zI uu)), (12, .int (zI 0)), (11, .int (zI 0)), (10, .int (zI 0)), (9, .int (zI 0)), (8, .int (zI 0)), (0, .ref q0), (1, .ref yk), (2, .ref yw), (3, .ref yb), (4, .ref yp), (5, .ref yr), (6, .ref yu), (7, .ref yt)] C dL_pages_31 rfl (by decide) rfl ?_
  refine zj_iconst 34 C dL_pages_33 rfl ?_
  refine zj_istore 36 [(14, .int (zI 0)), (13, .int (zI uu)), (12, .int (zI 0)), (11, .int (zI 0)), (10, .int (zI 0)), (9, .int (zI 0)), (8, .int (zI 0)), (0, .ref q0), (1, .ref yk), (2, .ref yw), (3, .ref yb), (4, .ref yp), (5, .ref yr), (6, .ref yu), (7, .ref yt)] C dL_pages_34 rfl (by decide) rfl ?_
  refine zj_iconst 37 C dL_pages_36 rfl ?_
  refine zj_istore 39 [(15, .int (zI 0)), (14, .int (zI 0)), (13, .int (zI uu)), (12, .int (zI 0)), (11, .int (zI 0)), (10, .int (zI 0)), (9, .int (zI 0)), (8, .int (zI 0)), (0, .ref q0), (1, .ref yk), (2, .ref yw), (3, .ref yb), (4, .ref yp), (5, .ref yr), (6, .ref yu), (7, .ref yt)] C dL_pages_37 rfl (by decide) rfl ?_
  have hL39 : ∀ (N : Nat) (q : Nat) (mo : Int) (ul : Int) (bk : Int) (em : Int) (fl : Int) (bf : Int), ((q : Int) ≤ 16) → (mo = zMx bb q) → (ul = zUn bb uu (q / 2)) → (bk = kBn cf uu q) → (em = kEp cf ff q) → (fl = 24 * zPs cf q) → ((q = 0 ∧ bf = 0) ∨ (0 < q ∧ bf = bb ((q : Int) - 1))) → ((0 ≤ mo ∧ mo ≤ 1000) ∧ (0 ≤ ul ∧ ul ≤ 1000) ∧ (0 ≤ bk ∧ bk ≤ q) ∧ (0 ≤ em ∧ em ≤ 24 * (q : Int)) ∧ (0 ≤ fl ∧ fl ≤ 24 * (q : Int)) ∧ (0 ≤ bf ∧ bf ≤ 216)) → (16 - (q : Int) < N) → zJ p l e rm_L_pages s m args below meth c Q D A 23 [(q0, .inr (4, [.ref q2, .ref q1, .ref qt, .ref ql, .ref qh, .ref qx])), (q2, .inr (2, [.ref g1, .ref g2, .ref g3, .int (zI n1), .int (zI sg)])), (q1, .inr (1, [.ref a0, .ref a1, .ref a2, .ref a3, .ref a4, .ref a5, .ref a6, .ref a7, .int (zI pg), .int (zI rw), .int (zI un), .int (zI ((zFin sg K1 W1 T1 n1).2.2.2.2.2.2.2.2.1)), .int (zI ((zFin sg K1 W1 T1 n1).2.2.2.2.2.2.2.2.2.1)), .int (zI ((zFin sg K1 W1 T1 n1).2.2.2.2.2.2.2.2.2.2)), .int (zI (zOut n1 sg K1 W1 T1))])), (a3, .inl (cI, 16, .inl (zA ((zFin sg K1 W1 T1 n1).2.2.2.2.1)))), (a4, .inl (cI, 16, .inl (zA ((zFin sg K1 W1 T1 n1).2.2.2.2.2.1)))), (a5, .inl (cI, 16, .inl (zA ((zFin sg K1 W1 T1 n1).2.2.2.2.2.2.1)))), (a6, .inl (cI, 16, .inl (zA ((zFin sg K1 W1 T1 n1).2.2.2.2.2.2.2.1)))), (a7, .inl (cI, 16, .inl (zA ((zFin sg K1 W1 T1 n1).2.2.2.1)))), (qh, .inr (0, [.ref hq, .int (zI hs)])), (yk, .inl (cI, 24, .inl (zA Kl))), (yw, .inl (cI, 24, .inl (zA Wl))), (yb, .inl (cI, 24, .inl (zA Bl))), (yp, .inl (cI, 24, .inl (zA Pl))), (yr, .inl (cI, 24, .inl (zA Rl))), (yu, .inl (cI, 24, .inl (zA Ul))), (yt, .inl (cI, 2, .inl (zA ty)))] (0) (0) [(0, .ref q0), (1, .ref yk), (2, .ref yw), (3, .ref yb), (4, .ref yp), (5, .ref yr), (6, .ref yu), (7, .ref yt), (8, .int (zI mo)), (9, .int (zI ul)), (10, .int (zI bk)), (11, .int (zI em)), (12, .int (zI fl)), (13, .int (zI uu)), (14, .int (zI bf)), (15, .int (zI (q : Int)))] 39 [] := by
    intro N
    induction N with
    | zero => intro q mo ul bk em fl bf hqn hmo hul hbk hem hfl hbf hxb hN; exact absurd hN (by omega)
    | succ N ih =>
      intro q mo ul bk em fl bf hqn hmo hul hbk hem hfl hbf hxb hN
      have hL456 : ∀ (bt : Int) (bk2 : Int) (em2 : Int) (fl2 : Int) (mo2 : Int) (ul2 : Int), ((q : Int) < 16) → (bt = bb q) → (0 ≤ bt ∧ bt ≤ 216) → (bk2 = kBn cf uu (q + 1)) → (0 ≤ bk2 ∧ bk2 ≤ q + 1) → (em2 = kEp cf ff (q + 1)) → (fl2 = 24 * zPs cf (q + 1)) → ((0 ≤ em2 ∧ em2 ≤ 24 * ((q : Int) + 1)) ∧ (0 ≤ fl2 ∧ fl2 ≤ 24 * ((q : Int) + 1))) → (mo2 = zMx bb (q + 1)) → (0 ≤ mo2 ∧ mo2 ≤ 1000) → (ul2 = zUn bb uu ((q + 1) / 2)) → (0 ≤ ul2 ∧ ul2 ≤ 1000) → zJ p l e rm_L_pages s m args below meth c Q D A 23 [(q0, .inr (4, [.ref q2, .ref q1, .ref qt, .ref ql, .ref qh, .ref qx])), (q2, .inr (2, [.ref g1, .ref g2, .ref g3, .int (zI n1), .int (zI sg)])), (q1, .inr (1, [.ref a0, .ref a1, .ref a2, .ref a3, .ref a4, .ref a5, .ref a6, .ref a7, .int (zI pg), .int (zI rw), .int (zI un), .int (zI ((zFin sg K1 W1 T1 n1).2.2.2.2.2.2.2.2.1)), .int (zI ((zFin sg K1 W1 T1 n1).2.2.2.2.2.2.2.2.2.1)), .int (zI ((zFin sg K1 W1 T1 n1).2.2.2.2.2.2.2.2.2.2)), .int (zI (zOut n1 sg K1 W1 T1))])), (a3, .inl (cI, 16, .inl (zA ((zFin sg K1 W1 T1 n1).2.2.2.2.1)))), (a4, .inl (cI, 16, .inl (zA ((zFin sg K1 W1 T1 n1).2.2.2.2.2.1)))), (a5, .inl (cI, 16, .inl (zA ((zFin sg K1 W1 T1 n1).2.2.2.2.2.2.1)))), (a6, .inl (cI, 16, .inl (zA ((zFin sg K1 W1 T1 n1).2.2.2.2.2.2.2.1)))), (a7, .inl (cI, 16, .inl (zA ((zFin sg K1 W1 T1 n1).2.2.2.1)))), (qh, .inr (0, [.ref hq, .int (zI hs)])), (yk, .inl (cI, 24, .inl (zA Kl))), (yw, .inl (cI, 24, .inl (zA Wl))), (yb, .inl (cI, 24, .inl (zA Bl))), (yp, .inl (cI, 24, .inl (zA Pl))), (yr, .inl (cI, 24, .inl (zA Rl))), (yu, .inl (cI, 24, .inl (zA Ul))), (yt, .inl (cI, 2, .inl (zA ty)))] (0) (0) [(0, .ref q0), (1, .ref yk), (2, .ref yw), (3, .ref yb), (4, .ref yp), (5, .ref yr), (6, .ref yu), (7, .ref yt), (8, .int (zI mo2)), (9, .int (zI ul2)), (10, .int (zI bk2)), (11, .int (zI em2)), (12, .int (zI fl2)), (13, .int (zI uu)), (14, .int (zI bf)), (15, .int (zI (q : Int))), (17, .int (zI bt))] 456 [] := by
        intro bt bk2 em2 fl2 mo2 ul2 hq2 hvb hvy hbk2 hbb2 hem2 hfl2 hee2 hmo2 hmm2 hul2 huu2
        refine zj_iload 458 16 C dL_pages_456 rfl rfl ?_
        refine zj_istore 460 [(14, .int (zI bt)), (0, .ref q0), (1, .ref yk), (2, .ref yw), (3, .ref yb), (4, .ref yp), (5, .ref yr), (6, .ref yu), (7, .ref yt), (8, .int (zI mo2)), (9, .int (zI ul2)), (10, .int (zI bk2)), (11, .int (zI em2)), (12, .int (zI fl2)), (13, .int (zI uu)), (15, .int (zI (q : Int))), (17, .int (zI bt))] C dL_pages_458 rfl (by decide) rfl ?_
        refine zj_iinc 463 15 [(15, .int (zI ((q : Int) + 1))), (14, .int (zI bt)), (0, .ref q0), (1, .ref yk), (2, .ref yw), (3, .ref yb), (4, .ref yp), (5, .ref yr), (6, .ref yu), (7, .ref yt), (8, .int (zI mo2)), (9, .int (zI ul2)), (10, .int (zI bk2)), (11, .int (zI em2)), (12, .int (zI fl2)), (13, .int (zI uu)), (17, .int (zI bt))] C dL_pages_460 rfl rfl (by decide) rfl ?_
        refine zj_goto 39 C dL_pages_463 (by decide) ?_
        refine zj_lv [2, 3, 4, 5, 6, 7, 8, 9, 10, 11, 12, 13, 14, 15, 1, 0] [(0, .ref q0), (1, .ref yk), (2, .ref yw), (3, .ref yb), (4, .ref yp), (5, .ref yr), (6, .ref yu), (7, .ref yt), (8, .int (zI mo2)), (9, .int (zI ul2)), (10, .int (zI bk2)), (11, .int (zI em2)), (12, .int (zI fl2)), (13, .int (zI uu)), (14, .int (zI bt)), (15, .int (zI ((q : Int) + 1)))] rfl ?_
        refine zj_eqlv (lv' := [(0, .ref q0), (1, .ref yk), (2, .ref yw), (3, .ref yb), (4, .ref yp), (5, .ref yr), (6, .ref yu), (7, .ref yt), (8, .int (zI mo2)), (9, .int (zI ul2)), (10, .int (zI bk2)), (11, .int (zI em2)), (12, .int (zI fl2)), (13, .int (zI uu)), (14, .int (zI bt)), (15, .int (zI ((q + 1) : Int)))]) (by rfl) ?_
        exact ih (q + 1) mo2 ul2 bk2 em2 fl2 bt (by omega) (hmo2) (hul2) (hbk2) (hem2) (hfl2) (Or.inr ⟨by omega, by rw [show ((q + 1 : Nat) : Int) - 1 = q by omega]; exact hvb⟩) (by omega) (by omega)
      have hL423 : ∀ (bt : Int) (bk2 : Int) (em2 : Int) (fl2 : Int) (mo2 : Int) (dy : Int), ((q : Int) < 16) → (bt = bb q) → (0 ≤ bt ∧ bt ≤ 216) → (bk2 = kBn cf uu (q + 1)) → (0 ≤ bk2 ∧ bk2 ≤ q + 1) → (em2 = kEp cf ff (q + 1)) → (fl2 = 24 * zPs cf (q + 1)) → ((0 ≤ em2 ∧ em2 ≤ 24 * ((q : Int) + 1)) ∧ (0 ≤ fl2 ∧ fl2 ≤ 24 * ((q : Int) + 1))) → (mo2 = zMx bb (q + 1)) → (0 ≤ mo2 ∧ mo2 ≤ 1000) → (dy = zAbs (bt - bf)) → (0 ≤ dy ∧ dy ≤ 216) → zJ p l e rm_L_pages s m args below meth c Q D A 23 [(q0, .inr (4, [.ref q2, .ref q1, .ref qt, .ref ql, .ref qh, .ref qx])), (q2, .inr (2, [.ref g1, .ref g2, .ref g3, .int (zI n1), .int (zI sg)])), (q1, .inr (1, [.ref a0, .ref a1, .ref a2, .ref a3, .ref a4, .ref a5, .ref a6, .ref a7, .int (zI pg), .int (zI rw), .int (zI un), .int (zI ((zFin sg K1 W1 T1 n1).2.2.2.2.2.2.2.2.1)), .int (zI ((zFin sg K1 W1 T1 n1).2.2.2.2.2.2.2.2.2.1)), .int (zI ((zFin sg K1 W1 T1 n1).2.2.2.2.2.2.2.2.2.2)), .int (zI (zOut n1 sg K1 W1 T1))])), (a3, .inl (cI, 16, .inl (zA ((zFin sg K1 W1 T1 n1).2.2.2.2.1)))), (a4, .inl (cI, 16, .inl (zA ((zFin sg K1 W1 T1 n1).2.2.2.2.2.1)))), (a5, .inl (cI, 16, .inl (zA ((zFin sg K1 W1 T1 n1).2.2.2.2.2.2.1)))), (a6, .inl (cI, 16, .inl (zA ((zFin sg K1 W1 T1 n1).2.2.2.2.2.2.2.1)))), (a7, .inl (cI, 16, .inl (zA ((zFin sg K1 W1 T1 n1).2.2.2.1)))), (qh, .inr (0, [.ref hq, .int (zI hs)])), (yk, .inl (cI, 24, .inl (zA Kl))), (yw, .inl (cI, 24, .inl (zA Wl))), (yb, .inl (cI, 24, .inl (zA Bl))), (yp, .inl (cI, 24, .inl (zA Pl))), (yr, .inl (cI, 24, .inl (zA Rl))), (yu, .inl (cI, 24, .inl (zA Ul))), (yt, .inl (cI, 2, .inl (zA ty)))] (0) (0) [(0, .ref q0), (1, .ref yk), (2, .ref yw), (3, .ref yb), (4, .ref yp), (5, .ref yr), (6, .ref yu), (7, .ref yt), (8, .int (zI mo2)), (9, .int (zI ul)), (10, .int (zI bk2)), (11, .int (zI em2)), (12, .int (zI fl2)), (13, .int (zI uu)), (14, .int (zI bf)), (15, .int (zI (q : Int))), (17, .int (zI bt)), (22, .int (zI dy))] 423 [] := by
        intro bt bk2 em2 fl2 mo2 dy hq2 hvb hvy hbk2 hbb2 hem2 hfl2 hee2 hmo2 hmm2 hdy hdb
        refine zj_iload 425 15 C dL_pages_423 rfl rfl ?_
        refine zj_iconst 426 C dL_pages_425 rfl ?_
        refine zj_irem 427 C (by omega) (by omega) dL_pages_426 rfl ?_
        refine zj_iconst 428 C dL_pages_427 rfl ?_
        refine zj_icmp_ne 431 452 C (by omega) (by omega) dL_pages_428 rfl (by decide) (fun h_3 => ?_) (fun h_3 => ?_)
        · skip
          refine zj_iload 454 9 C dL_pages_452 rfl rfl ?_
          refine zj_istore 456 [(9, .int (zI ul)), (0, .ref q0), (1, .ref yk), (2, .ref yw), (3, .ref yb), (4, .ref yp), (5, .ref yr), (6, .ref yu), (7, .ref yt), (8, .int (zI mo2)), (10, .int (zI bk2)), (11, .int (zI em2)), (12, .int (zI fl2)), (13, .int (zI uu)), (14, .int (zI bf)), (15, .int (zI (q : Int))), (17, .int (zI bt)), (22, .int (zI dy))] C dL_pages_454 rfl (by decide) rfl ?_
          refine zj_lv [1, 2, 3, 4, 5, 6, 7, 8, 9, 0, 10, 11, 12, 13, 14, 15, 16] [(0, .ref q0), (1, .ref yk), (2, .ref yw), (3, .ref yb), (4, .ref yp), (5, .ref yr), (6, .ref yu), (7, .ref yt), (8, .int (zI mo2)), (9, .int (zI ul)), (10, .int (zI bk2)), (11, .int (zI em2)), (12, .int (zI fl2)), (13, .int (zI uu)), (14, .int (zI bf)), (15, .int (zI (q : Int))), (17, .int (zI bt))] rfl ?_
          exact hL456 bt bk2 em2 fl2 mo2 ul (by omega) (by omega) (by omega) (hbk2) (by omega) (hem2) (hfl2) (by omega) (hmo2) (by omega) (by exact kUn_s hul hbf hvb hdy (by omega)) (by omega)
        · skip
          refine zj_iload 433 15 C dL_pages_431 rfl rfl ?_
          refine zj_iconst 434 C dL_pages_433 rfl ?_
          refine zj_isub 435 C dL_pages_434 rfl ?_
          refine zj_iload 437 13 C dL_pages_435 rfl rfl ?_
          refine zj_icmp_ge 440 452 C (by omega) (by omega) dL_pages_437 rfl (by decide) (fun h_4 => ?_) (fun h_4 => ?_)
          · skip
            refine zj_iload 454 9 C dL_pages_452 rfl rfl ?_
            refine zj_istore 456 [(9, .int (zI ul)), (0, .ref q0), (1, .ref yk), (2, .ref yw), (3, .ref yb), (4, .ref yp), (5, .ref yr), (6, .ref yu), (7, .ref yt), (8, .int (zI mo2)), (10, .int (zI bk2)), (11, .int (zI em2)), (12, .int (zI fl2)), (13, .int (zI uu)), (14, .int (zI bf)), (15, .int (zI (q : Int))), (17, .int (zI bt)), (22, .int (zI dy))] C dL_pages_454 rfl (by decide) rfl ?_
            refine zj_lv [1, 2, 3, 4, 5, 6, 7, 8, 9, 0, 10, 11, 12, 13, 14, 15, 16] [(0, .ref q0), (1, .ref yk), (2, .ref yw), (3, .ref yb), (4, .ref yp), (5, .ref yr), (6, .ref yu), (7, .ref yt), (8, .int (zI mo2)), (9, .int (zI ul)), (10, .int (zI bk2)), (11, .int (zI em2)), (12, .int (zI fl2)), (13, .int (zI uu)), (14, .int (zI bf)), (15, .int (zI (q : Int))), (17, .int (zI bt))] rfl ?_
            exact hL456 bt bk2 em2 fl2 mo2 ul (by omega) (by omega) (by omega) (hbk2) (by omega) (hem2) (hfl2) (by omega) (hmo2) (by omega) (by exact kUn_s hul hbf hvb hdy (by omega)) (by omega)
          · skip
            refine zj_iload 442 17 C dL_pages_440 rfl rfl ?_
            refine zj_iload 444 9 C dL_pages_442 rfl rfl ?_
            refine zj_icmp_le 447 452 C (by omega) (by omega) dL_pages_444 rfl (by decide) (fun h_5 => ?_) (fun h_5 => ?_)
            · skip
              refine zj_iload 454 9 C dL_pages_452 rfl rfl ?_
              refine zj_istore 456 [(9, .int (zI ul)), (0, .ref q0), (1, .ref yk), (2, .ref yw), (3, .ref yb), (4, .ref yp), (5, .ref yr), (6, .ref yu), (7, .ref yt), (8, .int (zI mo2)), (10, .int (zI bk2)), (11, .int (zI em2)), (12, .int (zI fl2)), (13, .int (zI uu)), (14, .int (zI bf)), (15, .int (zI (q : Int))), (17, .int (zI bt)), (22, .int (zI dy))] C dL_pages_454 rfl (by decide) rfl ?_
              refine zj_lv [1, 2, 3, 4, 5, 6, 7, 8, 9, 0, 10, 11, 12, 13, 14, 15, 16] [(0, .ref q0), (1, .ref yk), (2, .ref yw), (3, .ref yb), (4, .ref yp), (5, .ref yr), (6, .ref yu), (7, .ref yt), (8, .int (zI mo2)), (9, .int (zI ul)), (10, .int (zI bk2)), (11, .int (zI em2)), (12, .int (zI fl2)), (13, .int (zI uu)), (14, .int (zI bf)), (15, .int (zI (q : Int))), (17, .int (zI bt))] rfl ?_
              exact hL456 bt bk2 em2 fl2 mo2 ul (by omega) (by omega) (by omega) (hbk2) (by omega) (hem2) (hfl2) (by omega) (hmo2) (by omega) (by exact kUn_s hul hbf hvb hdy (by omega)) (by omega)
            · skip
              refine zj_iload 449 17 C dL_pages_447 rfl rfl ?_
              refine zj_goto 454 C dL_pages_449 (by decide) ?_
              refine zj_istore 456 [(9, .int (zI dy)), (0, .ref q0), (1, .ref yk), (2, .ref yw), (3, .ref yb), (4, .ref yp), (5, .ref yr), (6, .ref yu), (7, .ref yt), (8, .int (zI mo2)), (10, .int (zI bk2)), (11, .int (zI em2)), (12, .int (zI fl2)), (13, .int (zI uu)), (14, .int (zI bf)), (15, .int (zI (q : Int))), (17, .int (zI bt)), (22, .int (zI dy))] C dL_pages_454 rfl (by decide) rfl ?_
              refine zj_lv [1, 2, 3, 4, 5, 6, 7, 8, 9, 0, 10, 11, 12, 13, 14, 15, 16] [(0, .ref q0), (1, .ref yk), (2, .ref yw), (3, .ref yb), (4, .ref yp), (5, .ref yr), (6, .ref yu), (7, .ref yt), (8, .int (zI mo2)), (9, .int (zI dy)), (10, .int (zI bk2)), (11, .int (zI em2)), (12, .int (zI fl2)), (13, .int (zI uu)), (14, .int (zI bf)), (15, .int (zI (q : Int))), (17, .int (zI bt))] rfl ?_
              exact hL456 bt bk2 em2 fl2 mo2 dy (by omega) (by omega) (by omega) (hbk2) (by omega) (hem2) (hfl2) (by omega) (hmo2) (by omega) (by exact kUn_s hul hbf hvb hdy (by omega)) (by omega)
      have hL401 : ∀ (bt : Int) (bk2 : Int) (em2 : Int) (fl2 : Int) (mo2 : Int), ((q : Int) < 16) → (bt = bb q) → (0 ≤ bt ∧ bt ≤ 216) → (bk2 = kBn cf uu (q + 1)) → (0 ≤ bk2 ∧ bk2 ≤ q + 1) → (em2 = kEp cf ff (q + 1)) → (fl2 = 24 * zPs cf (q + 1)) → ((0 ≤ em2 ∧ em2 ≤ 24 * ((q : Int) + 1)) ∧ (0 ≤ fl2 ∧ fl2 ≤ 24 * ((q : Int) + 1))) → (mo2 = zMx bb (q + 1)) → (0 ≤ mo2 ∧ mo2 ≤ 1000) → zJ p l e rm_L_pages s m args below meth c Q D A 23 [(q0, .inr (4, [.ref q2, .ref q1, .ref qt, .ref ql, .ref qh, .ref qx])), (q2, .inr (2, [.ref g1, .ref g2, .ref g3, .int (zI n1), .int (zI sg)])), (q1, .inr (1, [.ref a0, .ref a1, .ref a2, .ref a3, .ref a4, .ref a5, .ref a6, .ref a7, .int (zI pg), .int (zI rw), .int (zI un), .int (zI ((zFin sg K1 W1 T1 n1).2.2.2.2.2.2.2.2.1)), .int (zI ((zFin sg K1 W1 T1 n1).2.2.2.2.2.2.2.2.2.1)), .int (zI ((zFin sg K1 W1 T1 n1).2.2.2.2.2.2.2.2.2.2)), .int (zI (zOut n1 sg K1 W1 T1))])), (a3, .inl (cI, 16, .inl (zA ((zFin sg K1 W1 T1 n1).2.2.2.2.1)))), (a4, .inl (cI, 16, .inl (zA ((zFin sg K1 W1 T1 n1).2.2.2.2.2.1)))), (a5, .inl (cI, 16, .inl (zA ((zFin sg K1 W1 T1 n1).2.2.2.2.2.2.1)))), (a6, .inl (cI, 16, .inl (zA ((zFin sg K1 W1 T1 n1).2.2.2.2.2.2.2.1)))), (a7, .inl (cI, 16, .inl (zA ((zFin sg K1 W1 T1 n1).2.2.2.1)))), (qh, .inr (0, [.ref hq, .int (zI hs)])), (yk, .inl (cI, 24, .inl (zA Kl))), (yw, .inl (cI, 24, .inl (zA Wl))), (yb, .inl (cI, 24, .inl (zA Bl))), (yp, .inl (cI, 24, .inl (zA Pl))), (yr, .inl (cI, 24, .inl (zA Rl))), (yu, .inl (cI, 24, .inl (zA Ul))), (yt, .inl (cI, 2, .inl (zA ty)))] (0) (0) [(0, .ref q0), (1, .ref yk), (2, .ref yw), (3, .ref yb), (4, .ref yp), (5, .ref yr), (6, .ref yu), (7, .ref yt), (8, .int (zI mo2)), (9, .int (zI ul)), (10, .int (zI bk2)), (11, .int (zI em2)), (12, .int (zI fl2)), (13, .int (zI uu)), (14, .int (zI bf)), (15, .int (zI (q : Int))), (17, .int (zI bt))] 401 [] := by
        intro bt bk2 em2 fl2 mo2 hq2 hvb hvy hbk2 hbb2 hem2 hfl2 hee2 hmo2 hmm2
        refine zj_iload 403 16 C dL_pages_401 rfl rfl ?_
        refine zj_iload 405 14 C dL_pages_403 rfl rfl ?_
        refine zj_icmp_le 408 416 C (by omega) (by omega) dL_pages_405 rfl (by decide) (fun h_6 => ?_) (fun h_6 => ?_)
        · skip
          refine zj_iload 418 14 C dL_pages_416 rfl rfl ?_
          refine zj_iload 420 16 C dL_pages_418 rfl rfl ?_
          refine zj_isub 421 C dL_pages_420 rfl ?_
          refine zj_istore 423 [(22, .int (zI (bf - bt))), (0, .ref q0), (1, .ref yk), (2, .ref yw), (3, .ref yb), (4, .ref yp), (5, .ref yr), (6, .ref yu), (7, .ref yt), (8, .int (zI mo2)), (9, .int (zI ul)), (10, .int (zI bk2)), (11, .int (zI em2)), (12, .int (zI fl2)), (13, .int (zI uu)), (14, .int (zI bf)), (15, .int (zI (q : Int))), (17, .int (zI bt))] C dL_pages_421 rfl (by decide) rfl ?_
          refine zj_lv [1, 2, 3, 4, 5, 6, 7, 8, 9, 10, 11, 12, 13, 14, 15, 16, 17, 0] [(0, .ref q0), (1, .ref yk), (2, .ref yw), (3, .ref yb), (4, .ref yp), (5, .ref yr), (6, .ref yu), (7, .ref yt), (8, .int (zI mo2)), (9, .int (zI ul)), (10, .int (zI bk2)), (11, .int (zI em2)), (12, .int (zI fl2)), (13, .int (zI uu)), (14, .int (zI bf)), (15, .int (zI (q : Int))), (17, .int (zI bt)), (22, .int (zI (bf - bt)))] rfl ?_
          exact hL423 bt bk2 em2 fl2 mo2 (bf - bt) (by omega) (by omega) (by omega) (hbk2) (by omega) (hem2) (hfl2) (by omega) (hmo2) (by omega) (by unfold zAbs; split <;> omega) (by omega)
        · skip
          refine zj_iload 410 16 C dL_pages_408 rfl rfl ?_
          refine zj_iload 412 14 C dL_pages_410 rfl rfl ?_
          refine zj_isub 413 C dL_pages_412 rfl ?_
          refine zj_goto 421 C dL_pages_413 (by decide) ?_
          refine zj_istore 423 [(22, .int (zI (bt - bf))), (0, .ref q0), (1, .ref yk), (2, .ref yw), (3, .ref yb), (4, .ref yp), (5, .ref yr), (6, .ref yu), (7, .ref yt), (8, .int (zI mo2)), (9, .int (zI ul)), (10, .int (zI bk2)), (11, .int (zI em2)), (12, .int (zI fl2)), (13, .int (zI uu)), (14, .int (zI bf)), (15, .int (zI (q : Int))), (17, .int (zI bt))] C dL_pages_421 rfl (by decide) rfl ?_
          refine zj_lv [1, 2, 3, 4, 5, 6, 7, 8, 9, 10, 11, 12, 13, 14, 15, 16, 17, 0] [(0, .ref q0), (1, .ref yk), (2, .ref yw), (3, .ref yb), (4, .ref yp), (5, .ref yr), (6, .ref yu), (7, .ref yt), (8, .int (zI mo2)), (9, .int (zI ul)), (10, .int (zI bk2)), (11, .int (zI em2)), (12, .int (zI fl2)), (13, .int (zI uu)), (14, .int (zI bf)), (15, .int (zI (q : Int))), (17, .int (zI bt)), (22, .int (zI (bt - bf)))] rfl ?_
          exact hL423 bt bk2 em2 fl2 mo2 (bt - bf) (by omega) (by omega) (by omega) (hbk2) (by omega) (hem2) (hfl2) (by omega) (hmo2) (by omega) (by unfold zAbs; split <;> omega) (by omega)
      have hL385 : ∀ (bt : Int) (bk2 : Int) (em2 : Int) (fl2 : Int), ((q : Int) < 16) → (bt = bb q) → (0 ≤ bt ∧ bt ≤ 216) → (bk2 = kBn cf uu (q + 1)) → (0 ≤ bk2 ∧ bk2 ≤ q + 1) → (em2 = kEp cf ff (q + 1)) → (fl2 = 24 * zPs cf (q + 1)) → ((0 ≤ em2 ∧ em2 ≤ 24 * ((q : Int) + 1)) ∧ (0 ≤ fl2 ∧ fl2 ≤ 24 * ((q : Int) + 1))) → zJ p l e rm_L_pages s m args below meth c Q D A 23 [(q0, .inr (4, [.ref q2, .ref q1, .ref qt, .ref ql, .ref qh, .ref qx])), (q2, .inr (2, [.ref g1, .ref g2, .ref g3, .int (zI n1), .int (zI sg)])), (q1, .inr (1, [.ref a0, .ref a1, .ref a2, .ref a3, .ref a4, .ref a5, .ref a6, .ref a7, .int (zI pg), .int (zI rw), .int (zI un), .int (zI ((zFin sg K1 W1 T1 n1).2.2.2.2.2.2.2.2.1)), .int (zI ((zFin sg K1 W1 T1 n1).2.2.2.2.2.2.2.2.2.1)), .int (zI ((zFin sg K1 W1 T1 n1).2.2.2.2.2.2.2.2.2.2)), .int (zI (zOut n1 sg K1 W1 T1))])), (a3, .inl (cI, 16, .inl (zA ((zFin sg K1 W1 T1 n1).2.2.2.2.1)))), (a4, .inl (cI, 16, .inl (zA ((zFin sg K1 W1 T1 n1).2.2.2.2.2.1)))), (a5, .inl (cI, 16, .inl (zA ((zFin sg K1 W1 T1 n1).2.2.2.2.2.2.1)))), (a6, .inl (cI, 16, .inl (zA ((zFin sg K1 W1 T1 n1).2.2.2.2.2.2.2.1)))), (a7, .inl (cI, 16, .inl (zA ((zFin sg K1 W1 T1 n1).2.2.2.1)))), (qh, .inr (0, [.ref hq, .int (zI hs)])), (yk, .inl (cI, 24, .inl (zA Kl))), (yw, .inl (cI, 24, .inl (zA Wl))), (yb, .inl (cI, 24, .inl (zA Bl))), (yp, .inl (cI, 24, .inl (zA Pl))), (yr, .inl (cI, 24, .inl (zA Rl))), (yu, .inl (cI, 24, .inl (zA Ul))), (yt, .inl (cI, 2, .inl (zA ty)))] (0) (0) [(0, .ref q0), (1, .ref yk), (2, .ref yw), (3, .ref yb), (4, .ref yp), (5, .ref yr), (6, .ref yu), (7, .ref yt), (8, .int (zI mo)), (9, .int (zI ul)), (10, .int (zI bk2)), (11, .int (zI em2)), (12, .int (zI fl2)), (13, .int (zI uu)), (14, .int (zI bf)), (15, .int (zI (q : Int))), (17, .int (zI bt))] 385 [] := by
        intro bt bk2 em2 fl2 hq2 hvb hvy hbk2 hbb2 hem2 hfl2 hee2
        refine zj_iload 387 16 C dL_pages_385 rfl rfl ?_
        refine zj_iload 389 8 C dL_pages_387 rfl rfl ?_
        refine zj_icmp_le 392 397 C (by omega) (by omega) dL_pages_389 rfl (by decide) (fun h_7 => ?_) (fun h_7 => ?_)
        · skip
          refine zj_iload 399 8 C dL_pages_397 rfl rfl ?_
          refine zj_istore 401 [(8, .int (zI mo)), (0, .ref q0), (1, .ref yk), (2, .ref yw), (3, .ref yb), (4, .ref yp), (5, .ref yr), (6, .ref yu), (7, .ref yt), (9, .int (zI ul)), (10, .int (zI bk2)), (11, .int (zI em2)), (12, .int (zI fl2)), (13, .int (zI uu)), (14, .int (zI bf)), (15, .int (zI (q : Int))), (17, .int (zI bt))] C dL_pages_399 rfl (by decide) rfl ?_
          refine zj_lv [1, 2, 3, 4, 5, 6, 7, 8, 0, 9, 10, 11, 12, 13, 14, 15, 16] [(0, .ref q0), (1, .ref yk), (2, .ref yw), (3, .ref yb), (4, .ref yp), (5, .ref yr), (6, .ref yu), (7, .ref yt), (8, .int (zI mo)), (9, .int (zI ul)), (10, .int (zI bk2)), (11, .int (zI em2)), (12, .int (zI fl2)), (13, .int (zI uu)), (14, .int (zI bf)), (15, .int (zI (q : Int))), (17, .int (zI bt))] rfl ?_
          exact hL401 bt bk2 em2 fl2 mo (by omega) (by omega) (by omega) (hbk2) (by omega) (hem2) (hfl2) (by omega) (by rw [zMx, ← hmo]; split <;> omega) (by omega)
        · skip
          refine zj_iload 394 16 C dL_pages_392 rfl rfl ?_
          refine zj_goto 399 C dL_pages_394 (by decide) ?_
          refine zj_istore 401 [(8, .int (zI bt)), (0, .ref q0), (1, .ref yk), (2, .ref yw), (3, .ref yb), (4, .ref yp), (5, .ref yr), (6, .ref yu), (7, .ref yt), (9, .int (zI ul)), (10, .int (zI bk2)), (11, .int (zI em2)), (12, .int (zI fl2)), (13, .int (zI uu)), (14, .int (zI bf)), (15, .int (zI (q : Int))), (17, .int (zI bt))] C dL_pages_399 rfl (by decide) rfl ?_
          refine zj_lv [1, 2, 3, 4, 5, 6, 7, 8, 0, 9, 10, 11, 12, 13, 14, 15, 16] [(0, .ref q0), (1, .ref yk), (2, .ref yw), (3, .ref yb), (4, .ref yp), (5, .ref yr), (6, .ref yu), (7, .ref yt), (8, .int (zI bt)), (9, .int (zI ul)), (10, .int (zI bk2)), (11, .int (zI em2)), (12, .int (zI fl2)), (13, .int (zI uu)), (14, .int (zI bf)), (15, .int (zI (q : Int))), (17, .int (zI bt))] rfl ?_
          exact hL401 bt bk2 em2 fl2 bt (by omega) (by omega) (by omega) (hbk2) (by omega) (hem2) (hfl2) (by omega) (by rw [zMx, ← hmo]; split <;> omega) (by omega)
      have hL350 : ∀ (mn : Int) (bt : Int) (tn : Int) (bk2 : Int), ((q : Int) < 16) → (mn = cf q) → (bt = bb q) → (tn = ff q) → ((0 ≤ mn ∧ mn ≤ 24) ∧ (0 ≤ bt ∧ bt ≤ 216) ∧ (0 ≤ tn ∧ tn ≤ 24)) → (bk2 = kBn cf uu (q + 1)) → (0 ≤ bk2 ∧ bk2 ≤ q + 1) → zJ p l e rm_L_pages s m args below meth c Q D A 23 [(q0, .inr (4, [.ref q2, .ref q1, .ref qt, .ref ql, .ref qh, .ref qx])), (q2, .inr (2, [.ref g1, .ref g2, .ref g3, .int (zI n1), .int (zI sg)])), (q1, .inr (1, [.ref a0, .ref a1, .ref a2, .ref a3, .ref a4, .ref a5, .ref a6, .ref a7, .int (zI pg), .int (zI rw), .int (zI un), .int (zI ((zFin sg K1 W1 T1 n1).2.2.2.2.2.2.2.2.1)), .int (zI ((zFin sg K1 W1 T1 n1).2.2.2.2.2.2.2.2.2.1)), .int (zI ((zFin sg K1 W1 T1 n1).2.2.2.2.2.2.2.2.2.2)), .int (zI (zOut n1 sg K1 W1 T1))])), (a3, .inl (cI, 16, .inl (zA ((zFin sg K1 W1 T1 n1).2.2.2.2.1)))), (a4, .inl (cI, 16, .inl (zA ((zFin sg K1 W1 T1 n1).2.2.2.2.2.1)))), (a5, .inl (cI, 16, .inl (zA ((zFin sg K1 W1 T1 n1).2.2.2.2.2.2.1)))), (a6, .inl (cI, 16, .inl (zA ((zFin sg K1 W1 T1 n1).2.2.2.2.2.2.2.1)))), (a7, .inl (cI, 16, .inl (zA ((zFin sg K1 W1 T1 n1).2.2.2.1)))), (qh, .inr (0, [.ref hq, .int (zI hs)])), (yk, .inl (cI, 24, .inl (zA Kl))), (yw, .inl (cI, 24, .inl (zA Wl))), (yb, .inl (cI, 24, .inl (zA Bl))), (yp, .inl (cI, 24, .inl (zA Pl))), (yr, .inl (cI, 24, .inl (zA Rl))), (yu, .inl (cI, 24, .inl (zA Ul))), (yt, .inl (cI, 2, .inl (zA ty)))] (0) (0) [(0, .ref q0), (1, .ref yk), (2, .ref yw), (3, .ref yb), (4, .ref yp), (5, .ref yr), (6, .ref yu), (7, .ref yt), (8, .int (zI mo)), (9, .int (zI ul)), (10, .int (zI bk2)), (11, .int (zI em)), (12, .int (zI fl)), (13, .int (zI uu)), (14, .int (zI bf)), (15, .int (zI (q : Int))), (16, .int (zI mn)), (17, .int (zI bt)), (20, .int (zI tn))] 350 [] := by
        intro mn bt tn bk2 hq2 hvm hvb hvt hvz hbk2 hbb2
        refine zj_iload 352 11 C dL_pages_350 rfl rfl ?_
        refine zj_iload 354 16 C dL_pages_352 rfl rfl ?_
        refine zj_if_le 357 365 C (by omega) dL_pages_354 rfl (by decide) (fun h_8 => ?_) (fun h_8 => ?_)
        · skip
          refine zj_iconst 366 C dL_pages_365 rfl ?_
          refine zj_iadd 367 C dL_pages_366 rfl ?_
          refine zj_istore 369 [(11, .int (zI (em + 0))), (0, .ref q0), (1, .ref yk), (2, .ref yw), (3, .ref yb), (4, .ref yp), (5, .ref yr), (6, .ref yu), (7, .ref yt), (8, .int (zI mo)), (9, .int (zI ul)), (10, .int (zI bk2)), (12, .int (zI fl)), (13, .int (zI uu)), (14, .int (zI bf)), (15, .int (zI (q : Int))), (16, .int (zI mn)), (17, .int (zI bt)), (20, .int (zI tn))] C dL_pages_367 rfl (by decide) rfl ?_
          refine zj_iload 371 12 C dL_pages_369 rfl rfl ?_
          refine zj_iload 373 16 C dL_pages_371 rfl rfl ?_
          refine zj_if_le 376 381 C (by omega) dL_pages_373 rfl (by decide) (fun h_9 => ?_) (fun h_9 => ?_)
          · skip
            refine zj_iconst 382 C dL_pages_381 rfl ?_
            refine zj_iadd 383 C dL_pages_382 rfl ?_
            refine zj_istore 385 [(12, .int (zI (fl + 0))), (11, .int (zI (em + 0))), (0, .ref q0), (1, .ref yk), (2, .ref yw), (3, .ref yb), (4, .ref yp), (5, .ref yr), (6, .ref yu), (7, .ref yt), (8, .int (zI mo)), (9, .int (zI ul)), (10, .int (zI bk2)), (13, .int (zI uu)), (14, .int (zI bf)), (15, .int (zI (q : Int))), (16, .int (zI mn)), (17, .int (zI bt)), (20, .int (zI tn))] C dL_pages_383 rfl (by decide) rfl ?_
            refine zj_lv [2, 3, 4, 5, 6, 7, 8, 9, 10, 11, 12, 1, 0, 13, 14, 15, 17] [(0, .ref q0), (1, .ref yk), (2, .ref yw), (3, .ref yb), (4, .ref yp), (5, .ref yr), (6, .ref yu), (7, .ref yt), (8, .int (zI mo)), (9, .int (zI ul)), (10, .int (zI bk2)), (11, .int (zI (em + 0))), (12, .int (zI (fl + 0))), (13, .int (zI uu)), (14, .int (zI bf)), (15, .int (zI (q : Int))), (17, .int (zI bt))] rfl ?_
            exact hL385 bt bk2 (em + 0) (fl + 0) (by omega) (by omega) (by omega) (hbk2) (by omega) (by rw [kEp, ← hem]; split <;> omega) (by rw [zPs]; split <;> omega) (by omega)
          · skip
            refine zj_bipush 378 C dL_pages_376 rfl rfl ?_
            refine zj_goto 382 C dL_pages_378 (by decide) ?_
            refine zj_iadd 383 C dL_pages_382 rfl ?_
            refine zj_istore 385 [(12, .int (zI (fl + 24))), (11, .int (zI (em + 0))), (0, .ref q0), (1, .ref yk), (2, .ref yw), (3, .ref yb), (4, .ref yp), (5, .ref yr), (6, .ref yu), (7, .ref yt), (8, .int (zI mo)), (9, .int (zI ul)), (10, .int (zI bk2)), (13, .int (zI uu)), (14, .int (zI bf)), (15, .int (zI (q : Int))), (16, .int (zI mn)), (17, .int (zI bt)), (20, .int (zI tn))] C dL_pages_383 rfl (by decide) rfl ?_
            refine zj_lv [2, 3, 4, 5, 6, 7, 8, 9, 10, 11, 12, 1, 0, 13, 14, 15, 17] [(0, .ref q0), (1, .ref yk), (2, .ref yw), (3, .ref yb), (4, .ref yp), (5, .ref yr), (6, .ref yu), (7, .ref yt), (8, .int (zI mo)), (9, .int (zI ul)), (10, .int (zI bk2)), (11, .int (zI (em + 0))), (12, .int (zI (fl + 24))), (13, .int (zI uu)), (14, .int (zI bf)), (15, .int (zI (q : Int))), (17, .int (zI bt))] rfl ?_
            exact hL385 bt bk2 (em + 0) (fl + 24) (by omega) (by omega) (by omega) (hbk2) (by omega) (by rw [kEp, ← hem]; split <;> omega) (by rw [zPs]; split <;> omega) (by omega)
        · skip
          refine zj_bipush 359 C dL_pages_357 rfl rfl ?_
          refine zj_iload 361 18 C dL_pages_359 rfl rfl ?_
          refine zj_isub 362 C dL_pages_361 rfl ?_
          refine zj_goto 366 C dL_pages_362 (by decide) ?_
          refine zj_iadd 367 C dL_pages_366 rfl ?_
          refine zj_istore 369 [(11, .int (zI (em + (24 - tn)))), (0, .ref q0), (1, .ref yk), (2, .ref yw), (3, .ref yb), (4, .ref yp), (5, .ref yr), (6, .ref yu), (7, .ref yt), (8, .int (zI mo)), (9, .int (zI ul)), (10, .int (zI bk2)), (12, .int (zI fl)), (13, .int (zI uu)), (14, .int (zI bf)), (15, .int (zI (q : Int))), (16, .int (zI mn)), (17, .int (zI bt)), (20, .int (zI tn))] C dL_pages_367 rfl (by decide) rfl ?_
          refine zj_iload 371 12 C dL_pages_369 rfl rfl ?_
          refine zj_iload 373 16 C dL_pages_371 rfl rfl ?_
          refine zj_if_le 376 381 C (by omega) dL_pages_373 rfl (by decide) (fun h_10 => ?_) (fun h_10 => ?_)
          · skip
            refine zj_iconst 382 C dL_pages_381 rfl ?_
            refine zj_iadd 383 C dL_pages_382 rfl ?_
            refine zj_istore 385 [(12, .int (zI (fl + 0))), (11, .int (zI (em + (24 - tn)))), (0, .ref q0), (1, .ref yk), (2, .ref yw), (3, .ref yb), (4, .ref yp), (5, .ref yr), (6, .ref yu), (7, .ref yt), (8, .int (zI mo)), (9, .int (zI ul)), (10, .int (zI bk2)), (13, .int (zI uu)), (14, .int (zI bf)), (15, .int (zI (q : Int))), (16, .int (zI mn)), (17, .int (zI bt)), (20, .int (zI tn))] C dL_pages_383 rfl (by decide) rfl ?_
            refine zj_lv [2, 3, 4, 5, 6, 7, 8, 9, 10, 11, 12, 1, 0, 13, 14, 15, 17] [(0, .ref q0), (1, .ref yk), (2, .ref yw), (3, .ref yb), (4, .ref yp), (5, .ref yr), (6, .ref yu), (7, .ref yt), (8, .int (zI mo)), (9, .int (zI ul)), (10, .int (zI bk2)), (11, .int (zI (em + (24 - tn)))), (12, .int (zI (fl + 0))), (13, .int (zI uu)), (14, .int (zI bf)), (15, .int (zI (q : Int))), (17, .int (zI bt))] rfl ?_
            exact hL385 bt bk2 (em + (24 - tn)) (fl + 0) (by omega) (by omega) (by omega) (hbk2) (by omega) (by rw [kEp, ← hem]; split <;> omega) (by rw [zPs]; split <;> omega) (by omega)
          · skip
            refine zj_bipush 378 C dL_pages_376 rfl rfl ?_
            refine zj_goto 382 C dL_pages_378 (by decide) ?_
            refine zj_iadd 383 C dL_pages_382 rfl ?_
            refine zj_istore 385 [(12, .int (zI (fl + 24))), (11, .int (zI (em + (24 - tn)))), (0, .ref q0), (1, .ref yk), (2, .ref yw), (3, .ref yb), (4, .ref yp), (5, .ref yr), (6, .ref yu), (7, .ref yt), (8, .int (zI mo)), (9, .int (zI ul)), (10, .int (zI bk2)), (13, .int (zI uu)), (14, .int (zI bf)), (15, .int (zI (q : Int))), (16, .int (zI mn)), (17, .int (zI bt)), (20, .int (zI tn))] C dL_pages_383 rfl (by decide) rfl ?_
            refine zj_lv [2, 3, 4, 5, 6, 7, 8, 9, 10, 11, 12, 1, 0, 13, 14, 15, 17] [(0, .ref q0), (1, .ref yk), (2, .ref yw), (3, .ref yb), (4, .ref yp), (5, .ref yr), (6, .ref yu), (7, .ref yt), (8, .int (zI mo)), (9, .int (zI ul)), (10, .int (zI bk2)), (11, .int (zI (em + (24 - tn)))), (12, .int (zI (fl + 24))), (13, .int (zI uu)), (14, .int (zI bf)), (15, .int (zI (q : Int))), (17, .int (zI bt))] rfl ?_
            exact hL385 bt bk2 (em + (24 - tn)) (fl + 24) (by omega) (by omega) (by omega) (hbk2) (by omega) (by rw [kEp, ← hem]; split <;> omega) (by rw [zPs]; split <;> omega) (by omega)
      have hL250 : ∀ (mn : Int) (bt : Int) (f0 : Int) (bl : Int) (tn : Int) (ib : Int), ((q : Int) < 16) → (mn = cf q) → (bt = bb q) → (tn = ff q) → (f0 = if 0 < cf q then sf q else -1) → (bl = ef q) → ((ib = 1 ∧ ¬ 0 < cf q ∧ (q : Int) < uu) ∨ (ib = 0 ∧ ¬ (¬ 0 < cf q ∧ (q : Int) < uu))) → ((0 ≤ mn ∧ mn ≤ 24) ∧ (0 ≤ bt ∧ bt ≤ 216) ∧ (0 ≤ tn ∧ tn ≤ 24)) → ((0 ≤ bl ∧ bl ≤ 24) ∧ (-1 ≤ f0 ∧ f0 ≤ 24)) → zJ p l e rm_L_pages s m args below meth c Q D A 23 [(q0, .inr (4, [.ref q2, .ref q1, .ref qt, .ref ql, .ref qh, .ref qx])), (q2, .inr (2, [.ref g1, .ref g2, .ref g3, .int (zI n1), .int (zI sg)])), (q1, .inr (1, [.ref a0, .ref a1, .ref a2, .ref a3, .ref a4, .ref a5, .ref a6, .ref a7, .int (zI pg), .int (zI rw), .int (zI un), .int (zI ((zFin sg K1 W1 T1 n1).2.2.2.2.2.2.2.2.1)), .int (zI ((zFin sg K1 W1 T1 n1).2.2.2.2.2.2.2.2.2.1)), .int (zI ((zFin sg K1 W1 T1 n1).2.2.2.2.2.2.2.2.2.2)), .int (zI (zOut n1 sg K1 W1 T1))])), (a3, .inl (cI, 16, .inl (zA ((zFin sg K1 W1 T1 n1).2.2.2.2.1)))), (a4, .inl (cI, 16, .inl (zA ((zFin sg K1 W1 T1 n1).2.2.2.2.2.1)))), (a5, .inl (cI, 16, .inl (zA ((zFin sg K1 W1 T1 n1).2.2.2.2.2.2.1)))), (a6, .inl (cI, 16, .inl (zA ((zFin sg K1 W1 T1 n1).2.2.2.2.2.2.2.1)))), (a7, .inl (cI, 16, .inl (zA ((zFin sg K1 W1 T1 n1).2.2.2.1)))), (qh, .inr (0, [.ref hq, .int (zI hs)])), (yk, .inl (cI, 24, .inl (zA Kl))), (yw, .inl (cI, 24, .inl (zA Wl))), (yb, .inl (cI, 24, .inl (zA Bl))), (yp, .inl (cI, 24, .inl (zA Pl))), (yr, .inl (cI, 24, .inl (zA Rl))), (yu, .inl (cI, 24, .inl (zA Ul))), (yt, .inl (cI, 2, .inl (zA ty)))] (0) (0) [(0, .ref q0), (1, .ref yk), (2, .ref yw), (3, .ref yb), (4, .ref yp), (5, .ref yr), (6, .ref yu), (7, .ref yt), (8, .int (zI mo)), (9, .int (zI ul)), (10, .int (zI bk)), (11, .int (zI em)), (12, .int (zI fl)), (13, .int (zI uu)), (14, .int (zI bf)), (15, .int (zI (q : Int))), (16, .int (zI mn)), (17, .int (zI bt)), (18, .int (zI f0)), (19, .int (zI bl)), (20, .int (zI tn)), (21, .int (zI ib))] 250 [] := by
        intro mn bt f0 bl tn ib hq2 hvm hvb hvt hvf hvl hvi hvz hvw
        refine zj_aload_n 251 0 C dL_pages_250 rfl rfl rfl ?_
        refine zj_iload 253 15 C dL_pages_251 rfl rfl ?_
        refine zj_iconst 254 C dL_pages_253 rfl ?_
        refine zj_ci 257 [0, 2, 3, 4, 5, 6, 7] [1, 8, 9, 10, 11, 12, 13, 14, 15] C (wr := [(q2, .inr (2, [.ref g1, .ref g2, .ref g3, .int (zI n1), .int (zI sg)])), (qh, .inr (0, [.ref hq, .int (zI hs)])), (yk, .inl (cI, 24, .inl (zA Kl))), (yw, .inl (cI, 24, .inl (zA Wl))), (yb, .inl (cI, 24, .inl (zA Bl))), (yp, .inl (cI, 24, .inl (zA Pl))), (yr, .inl (cI, 24, .inl (zA Rl))), (yu, .inl (cI, 24, .inl (zA Ul))), (yt, .inl (cI, 2, .inl (zA ty)))]) (zr_V [0, 2, 3, 4, 5, 6, 7] C (As := [.int (zI (q : Int)), .int (zI 0)]) (rest := []) (c_X4_page l D cI cS cJ q0 q2 g1 g2 g3 q1 a0 a1 a2 a3 a4 a5 a6 a7 qt ql qh qx n1 sg pg rw un K1 W1 T1 P1 R1 U1 (q : Int) 0 hst (by omega) (by omega)) (cwV 2 C.1.2.2.2.2 gL_pages_X4_page rfl rfl rfl (by decide +kernel) ⟨Nat.le_of_ble_eq_true rfl, Nat.le_of_ble_eq_true rfl⟩) rfl (by decide) 0 rfl rfl rfl rfl (Nat.le_of_ble_eq_true rfl) dL_pages_254 ⟨Nat.le_of_ble_eq_true rfl, Nat.le_of_ble_eq_true rfl⟩) rfl rfl (by decide) (by decide) rfl (fun r_11 w_ hp_12 => ?_)
        obtain ⟨rfl, rfl⟩ := hp_12
        refine zj_ws (ws' := [(q2, .inr (2, [.ref g1, .ref g2, .ref g3, .int (zI n1), .int (zI sg)])), (qh, .inr (0, [.ref hq, .int (zI hs)])), (yk, .inl (cI, 24, .inl (zA Kl))), (yw, .inl (cI, 24, .inl (zA Wl))), (yb, .inl (cI, 24, .inl (zA Bl))), (yp, .inl (cI, 24, .inl (zA Pl))), (yr, .inl (cI, 24, .inl (zA Rl))), (yu, .inl (cI, 24, .inl (zA Ul))), (yt, .inl (cI, 2, .inl (zA ty))), (q0, .inr (4, [.ref q2, .ref q1, .ref qt, .ref ql, .ref qh, .ref qx])), (q1, .inr (1, [.ref a0, .ref a1, .ref a2, .ref a3, .ref a4, .ref a5, .ref a6, .ref a7, .int (zI pg), .int (zI rw), .int (zI un), .int (zI ((zFin sg K1 W1 T1 n1).2.2.2.2.2.2.2.2.1)), .int (zI ((zFin sg K1 W1 T1 n1).2.2.2.2.2.2.2.2.2.1)), .int (zI ((zFin sg K1 W1 T1 n1).2.2.2.2.2.2.2.2.2.2)), .int (zI (zOut n1 sg K1 W1 T1))])), (a3, .inl (cI, 16, .inl (zA ((zFin sg K1 W1 T1 n1).2.2.2.2.1)))), (a4, .inl (cI, 16, .inl (zA ((zFin sg K1 W1 T1 n1).2.2.2.2.2.1)))), (a5, .inl (cI, 16, .inl (zA ((zFin sg K1 W1 T1 n1).2.2.2.2.2.2.1)))), (a6, .inl (cI, 16, .inl (zA ((zFin sg K1 W1 T1 n1).2.2.2.2.2.2.2.1)))), (a7, .inl (cI, 16, .inl (zA ((zFin sg K1 W1 T1 n1).2.2.2.1))))]) rfl ?_
        refine zj_st (st' := [.int (zI mn)]) (by rw [zNg_0, ← hcf, ← hvm]) ?_
        refine zj_iload 259 16 C dL_pages_257 rfl rfl ?_
        refine zj_icmp_ner 262 C 333 dL_pages_259 rfl (by decide) ?_
        refine zj_aload_n 263 0 C dL_pages_262 rfl rfl rfl ?_
        refine zj_iload 265 15 C dL_pages_263 rfl rfl ?_
        refine zj_iconst 266 C dL_pages_265 rfl ?_
        refine zj_ci 269 [9, 10, 11, 12, 13, 14, 15] [0, 1, 2, 3, 4, 5, 6, 7, 8] C (wr := [(q2, .inr (2, [.ref g1, .ref g2, .ref g3, .int (zI n1), .int (zI sg)])), (qh, .inr (0, [.ref hq, .int (zI hs)])), (yk, .inl (cI, 24, .inl (zA Kl))), (yw, .inl (cI, 24, .inl (zA Wl))), (yb, .inl (cI, 24, .inl (zA Bl))), (yp, .inl (cI, 24, .inl (zA Pl))), (yr, .inl (cI, 24, .inl (zA Rl))), (yu, .inl (cI, 24, .inl (zA Ul))), (yt, .inl (cI, 2, .inl (zA ty)))]) (zr_V [9, 10, 11, 12, 13, 14, 15] C (As := [.int (zI (q : Int)), .int (zI 1)]) (rest := []) (c_X4_page l D cI cS cJ q0 q2 g1 g2 g3 q1 a0 a1 a2 a3 a4 a5 a6 a7 qt ql qh qx n1 sg pg rw un K1 W1 T1 P1 R1 U1 (q : Int) 1 hst (by omega) (by omega)) (cwV 2 C.1.2.2.2.2 gL_pages_X4_page rfl rfl rfl (by decide +kernel) ⟨Nat.le_of_ble_eq_true rfl, Nat.le_of_ble_eq_true rfl⟩) rfl (by decide) 0 rfl rfl rfl rfl (Nat.le_of_ble_eq_true rfl) dL_pages_266 ⟨Nat.le_of_ble_eq_true rfl, Nat.le_of_ble_eq_true rfl⟩) rfl rfl (by decide) (by decide) rfl (fun r_13 w_ hp_14 => ?_)
        obtain ⟨rfl, rfl⟩ := hp_14
        refine zj_ws (ws' := [(q2, .inr (2, [.ref g1, .ref g2, .ref g3, .int (zI n1), .int (zI sg)])), (qh, .inr (0, [.ref hq, .int (zI hs)])), (yk, .inl (cI, 24, .inl (zA Kl))), (yw, .inl (cI, 24, .inl (zA Wl))), (yb, .inl (cI, 24, .inl (zA Bl))), (yp, .inl (cI, 24, .inl (zA Pl))), (yr, .inl (cI, 24, .inl (zA Rl))), (yu, .inl (cI, 24, .inl (zA Ul))), (yt, .inl (cI, 2, .inl (zA ty))), (q0, .inr (4, [.ref q2, .ref q1, .ref qt, .ref ql, .ref qh, .ref qx])), (q1, .inr (1, [.ref a0, .ref a1, .ref a2, .ref a3, .ref a4, .ref a5, .ref a6, .ref a7, .int (zI pg), .int (zI rw), .int (zI un), .int (zI ((zFin sg K1 W1 T1 n1).2.2.2.2.2.2.2.2.1)), .int (zI ((zFin sg K1 W1 T1 n1).2.2.2.2.2.2.2.2.2.1)), .int (zI ((zFin sg K1 W1 T1 n1).2.2.2.2.2.2.2.2.2.2)), .int (zI (zOut n1 sg K1 W1 T1))])), (a3, .inl (cI, 16, .inl (zA ((zFin sg K1 W1 T1 n1).2.2.2.2.1)))), (a4, .inl (cI, 16, .inl (zA ((zFin sg K1 W1 T1 n1).2.2.2.2.2.1)))), (a5, .inl (cI, 16, .inl (zA ((zFin sg K1 W1 T1 n1).2.2.2.2.2.2.1)))), (a6, .inl (cI, 16, .inl (zA ((zFin sg K1 W1 T1 n1).2.2.2.2.2.2.2.1)))), (a7, .inl (cI, 16, .inl (zA ((zFin sg K1 W1 T1 n1).2.2.2.1))))]) rfl ?_
        refine zj_st (st' := [.int (zI bt)]) (by rw [zNg_1, ← hbb, ← hvb]) ?_
        refine zj_iload 271 17 C dL_pages_269 rfl rfl ?_
        refine zj_icmp_ner 274 C 333 dL_pages_271 rfl (by decide) ?_
        refine zj_aload_n 275 0 C dL_pages_274 rfl rfl rfl ?_
        refine zj_iload 277 15 C dL_pages_275 rfl rfl ?_
        refine zj_iconst 278 C dL_pages_277 rfl ?_
        refine zj_ci 281 [9, 10, 11, 12, 13, 14, 15] [0, 1, 2, 3, 4, 5, 6, 7, 8] C (wr := [(q2, .inr (2, [.ref g1, .ref g2, .ref g3, .int (zI n1), .int (zI sg)])), (qh, .inr (0, [.ref hq, .int (zI hs)])), (yk, .inl (cI, 24, .inl (zA Kl))), (yw, .inl (cI, 24, .inl (zA Wl))), (yb, .inl (cI, 24, .inl (zA Bl))), (yp, .inl (cI, 24, .inl (zA Pl))), (yr, .inl (cI, 24, .inl (zA Rl))), (yu, .inl (cI, 24, .inl (zA Ul))), (yt, .inl (cI, 2, .inl (zA ty)))]) (zr_V [9, 10, 11, 12, 13, 14, 15] C (As := [.int (zI (q : Int)), .int (zI 2)]) (rest := []) (c_X4_page l D cI cS cJ q0 q2 g1 g2 g3 q1 a0 a1 a2 a3 a4 a5 a6 a7 qt ql qh qx n1 sg pg rw un K1 W1 T1 P1 R1 U1 (q : Int) 2 hst (by omega) (by omega)) (cwV 2 C.1.2.2.2.2 gL_pages_X4_page rfl rfl rfl (by decide +kernel) ⟨Nat.le_of_ble_eq_true rfl, Nat.le_of_ble_eq_true rfl⟩) rfl (by decide) 0 rfl rfl rfl rfl (Nat.le_of_ble_eq_true rfl) dL_pages_278 ⟨Nat.le_of_ble_eq_true rfl, Nat.le_of_ble_eq_true rfl⟩) rfl rfl (by decide) (by decide) rfl (fun r_15 w_ hp_16 => ?_)
        obtain ⟨rfl, rfl⟩ := hp_16
        refine zj_ws (ws' := [(q2, .inr (2, [.ref g1, .ref g2, .ref g3, .int (zI n1), .int (zI sg)])), (qh, .inr (0, [.ref hq, .int (zI hs)])), (yk, .inl (cI, 24, .inl (zA Kl))), (yw, .inl (cI, 24, .inl (zA Wl))), (yb, .inl (cI, 24, .inl (zA Bl))), (yp, .inl (cI, 24, .inl (zA Pl))), (yr, .inl (cI, 24, .inl (zA Rl))), (yu, .inl (cI, 24, .inl (zA Ul))), (yt, .inl (cI, 2, .inl (zA ty))), (q0, .inr (4, [.ref q2, .ref q1, .ref qt, .ref ql, .ref qh, .ref qx])), (q1, .inr (1, [.ref a0, .ref a1, .ref a2, .ref a3, .ref a4, .ref a5, .ref a6, .ref a7, .int (zI pg), .int (zI rw), .int (zI un), .int (zI ((zFin sg K1 W1 T1 n1).2.2.2.2.2.2.2.2.1)), .int (zI ((zFin sg K1 W1 T1 n1).2.2.2.2.2.2.2.2.2.1)), .int (zI ((zFin sg K1 W1 T1 n1).2.2.2.2.2.2.2.2.2.2)), .int (zI (zOut n1 sg K1 W1 T1))])), (a3, .inl (cI, 16, .inl (zA ((zFin sg K1 W1 T1 n1).2.2.2.2.1)))), (a4, .inl (cI, 16, .inl (zA ((zFin sg K1 W1 T1 n1).2.2.2.2.2.1)))), (a5, .inl (cI, 16, .inl (zA ((zFin sg K1 W1 T1 n1).2.2.2.2.2.2.1)))), (a6, .inl (cI, 16, .inl (zA ((zFin sg K1 W1 T1 n1).2.2.2.2.2.2.2.1)))), (a7, .inl (cI, 16, .inl (zA ((zFin sg K1 W1 T1 n1).2.2.2.1))))]) rfl ?_
        refine zj_st (st' := [.int (zI (24 - tn))]) (by rw [zNg_2, ← hff, ← hvt]) ?_
        refine zj_bipush 283 C dL_pages_281 rfl rfl ?_
        refine zj_iload 285 20 C dL_pages_283 rfl rfl ?_
        refine zj_isub 286 C dL_pages_285 rfl ?_
        refine zj_icmp_ner 289 C 333 dL_pages_286 rfl (by decide) ?_
        refine zj_aload_n 290 0 C dL_pages_289 rfl rfl rfl ?_
        refine zj_iload 292 15 C dL_pages_290 rfl rfl ?_
        refine zj_iconst 293 C dL_pages_292 rfl ?_
        refine zj_ci 296 [9, 10, 11, 12, 13, 14, 15] [0, 1, 2, 3, 4, 5, 6, 7, 8] C (wr := [(q2, .inr (2, [.ref g1, .ref g2, .ref g3, .int (zI n1), .int (zI sg)])), (qh, .inr (0, [.ref hq, .int (zI hs)])), (yk, .inl (cI, 24, .inl (zA Kl))), (yw, .inl (cI, 24, .inl (zA Wl))), (yb, .inl (cI, 24, .inl (zA Bl))), (yp, .inl (cI, 24, .inl (zA Pl))), (yr, .inl (cI, 24, .inl (zA Rl))), (yu, .inl (cI, 24, .inl (zA Ul))), (yt, .inl (cI, 2, .inl (zA ty)))]) (zr_V [9, 10, 11, 12, 13, 14, 15] C (As := [.int (zI (q : Int)), .int (zI 3)]) (rest := []) (c_X4_page l D cI cS cJ q0 q2 g1 g2 g3 q1 a0 a1 a2 a3 a4 a5 a6 a7 qt ql qh qx n1 sg pg rw un K1 W1 T1 P1 R1 U1 (q : Int) 3 hst (by omega) (by omega)) (cwV 2 C.1.2.2.2.2 gL_pages_X4_page rfl rfl rfl (by decide +kernel) ⟨Nat.le_of_ble_eq_true rfl, Nat.le_of_ble_eq_true rfl⟩) rfl (by decide) 0 rfl rfl rfl rfl (Nat.le_of_ble_eq_true rfl) dL_pages_293 ⟨Nat.le_of_ble_eq_true rfl, Nat.le_of_ble_eq_true rfl⟩) rfl rfl (by decide) (by decide) rfl (fun r_17 w_ hp_18 => ?_)
        obtain ⟨rfl, rfl⟩ := hp_18
        refine zj_ws (ws' := [(q2, .inr (2, [.ref g1, .ref g2, .ref g3, .int (zI n1), .int (zI sg)])), (qh, .inr (0, [.ref hq, .int (zI hs)])), (yk, .inl (cI, 24, .inl (zA Kl))), (yw, .inl (cI, 24, .inl (zA Wl))), (yb, .inl (cI, 24, .inl (zA Bl))), (yp, .inl (cI, 24, .inl (zA Pl))), (yr, .inl (cI, 24, .inl (zA Rl))), (yu, .inl (cI, 24, .inl (zA Ul))), (yt, .inl (cI, 2, .inl (zA ty))), (q0, .inr (4, [.ref q2, .ref q1, .ref qt, .ref ql, .ref qh, .ref qx])), (q1, .inr (1, [.ref a0, .ref a1, .ref a2, .ref a3, .ref a4, .ref a5, .ref a6, .ref a7, .int (zI pg), .int (zI rw), .int (zI un), .int (zI ((zFin sg K1 W1 T1 n1).2.2.2.2.2.2.2.2.1)), .int (zI ((zFin sg K1 W1 T1 n1).2.2.2.2.2.2.2.2.2.1)), .int (zI ((zFin sg K1 W1 T1 n1).2.2.2.2.2.2.2.2.2.2)), .int (zI (zOut n1 sg K1 W1 T1))])), (a3, .inl (cI, 16, .inl (zA ((zFin sg K1 W1 T1 n1).2.2.2.2.1)))), (a4, .inl (cI, 16, .inl (zA ((zFin sg K1 W1 T1 n1).2.2.2.2.2.1)))), (a5, .inl (cI, 16, .inl (zA ((zFin sg K1 W1 T1 n1).2.2.2.2.2.2.1)))), (a6, .inl (cI, 16, .inl (zA ((zFin sg K1 W1 T1 n1).2.2.2.2.2.2.2.1)))), (a7, .inl (cI, 16, .inl (zA ((zFin sg K1 W1 T1 n1).2.2.2.1))))]) rfl ?_
        refine zj_st (st' := [.int (zI f0)]) (by rw [zNg_3, ← hcf, ← hsf, ← hvf]) ?_
        refine zj_iload 298 18 C dL_pages_296 rfl rfl ?_
        refine zj_icmp_ner 301 C 333 dL_pages_298 rfl (by decide) ?_
        refine zj_aload_n 302 0 C dL_pages_301 rfl rfl rfl ?_
        refine zj_iload 304 15 C dL_pages_302 rfl rfl ?_
        refine zj_iconst 305 C dL_pages_304 rfl ?_
        refine zj_ci 308 [9, 10, 11, 12, 13, 14, 15] [0, 1, 2, 3, 4, 5, 6, 7, 8] C (wr := [(q2, .inr (2, [.ref g1, .ref g2, .ref g3, .int (zI n1), .int (zI sg)])), (qh, .inr (0, [.ref hq, .int (zI hs)])), (yk, .inl (cI, 24, .inl (zA Kl))), (yw, .inl (cI, 24, .inl (zA Wl))), (yb, .inl (cI, 24, .inl (zA Bl))), (yp, .inl (cI, 24, .inl (zA Pl))), (yr, .inl (cI, 24, .inl (zA Rl))), (yu, .inl (cI, 24, .inl (zA Ul))), (yt, .inl (cI, 2, .inl (zA ty)))]) (zr_V [9, 10, 11, 12, 13, 14, 15] C (As := [.int (zI (q : Int)), .int (zI 4)]) (rest := []) (c_X4_page l D cI cS cJ q0 q2 g1 g2 g3 q1 a0 a1 a2 a3 a4 a5 a6 a7 qt ql qh qx n1 sg pg rw un K1 W1 T1 P1 R1 U1 (q : Int) 4 hst (by omega) (by omega)) (cwV 2 C.1.2.2.2.2 gL_pages_X4_page rfl rfl rfl (by decide +kernel) ⟨Nat.le_of_ble_eq_true rfl, Nat.le_of_ble_eq_true rfl⟩) rfl (by decide) 0 rfl rfl rfl rfl (Nat.le_of_ble_eq_true rfl) dL_pages_305 ⟨Nat.le_of_ble_eq_true rfl, Nat.le_of_ble_eq_true rfl⟩) rfl rfl (by decide) (by decide) rfl (fun r_19 w_ hp_20 => ?_)
        obtain ⟨rfl, rfl⟩ := hp_20
        refine zj_ws (ws' := [(q2, .inr (2, [.ref g1, .ref g2, .ref g3, .int (zI n1), .int (zI sg)])), (qh, .inr (0, [.ref hq, .int (zI hs)])), (yk, .inl (cI, 24, .inl (zA Kl))), (yw, .inl (cI, 24, .inl (zA Wl))), (yb, .inl (cI, 24, .inl (zA Bl))), (yp, .inl (cI, 24, .inl (zA Pl))), (yr, .inl (cI, 24, .inl (zA Rl))), (yu, .inl (cI, 24, .inl (zA Ul))), (yt, .inl (cI, 2, .inl (zA ty))), (q0, .inr (4, [.ref q2, .ref q1, .ref qt, .ref ql, .ref qh, .ref qx])), (q1, .inr (1, [.ref a0, .ref a1, .ref a2, .ref a3, .ref a4, .ref a5, .ref a6, .ref a7, .int (zI pg), .int (zI rw), .int (zI un), .int (zI ((zFin sg K1 W1 T1 n1).2.2.2.2.2.2.2.2.1)), .int (zI ((zFin sg K1 W1 T1 n1).2.2.2.2.2.2.2.2.2.1)), .int (zI ((zFin sg K1 W1 T1 n1).2.2.2.2.2.2.2.2.2.2)), .int (zI (zOut n1 sg K1 W1 T1))])), (a3, .inl (cI, 16, .inl (zA ((zFin sg K1 W1 T1 n1).2.2.2.2.1)))), (a4, .inl (cI, 16, .inl (zA ((zFin sg K1 W1 T1 n1).2.2.2.2.2.1)))), (a5, .inl (cI, 16, .inl (zA ((zFin sg K1 W1 T1 n1).2.2.2.2.2.2.1)))), (a6, .inl (cI, 16, .inl (zA ((zFin sg K1 W1 T1 n1).2.2.2.2.2.2.2.1)))), (a7, .inl (cI, 16, .inl (zA ((zFin sg K1 W1 T1 n1).2.2.2.1))))]) rfl ?_
        refine zj_st (st' := [.int (zI ib)]) (by rw [zNg_4, ← hcf, ← huu, show (if ¬ 0 < cf q ∧ (q : Int) < uu then (1 : Int) else 0) = ib from by split <;> omega]) ?_
        refine zj_iload 310 21 C dL_pages_308 rfl rfl ?_
        refine zj_if_eq 313 317 C (by omega) dL_pages_310 rfl (by decide) (fun h_21 => ?_) (fun h_21 => ?_)
        · skip
          refine zj_iconst 318 C dL_pages_317 rfl ?_
          refine zj_icmp_ne 321 333 C (by omega) (by omega) dL_pages_318 rfl (by decide) (fun h_22 => ?_) (fun h_22 => ?_)
          · exact absurd h_22 (by omega)
          · skip
            refine zj_aload_n 322 0 C dL_pages_321 rfl rfl rfl ?_
            refine zj_iload 324 15 C dL_pages_322 rfl rfl ?_
            refine zj_iconst 325 C dL_pages_324 rfl ?_
            refine zj_ci 328 [9, 10, 11, 12, 13, 14, 15] [0, 1, 2, 3, 4, 5, 6, 7, 8] C (wr := [(q2, .inr (2, [.ref g1, .ref g2, .ref g3, .int (zI n1), .int (zI sg)])), (qh, .inr (0, [.ref hq, .int (zI hs)])), (yk, .inl (cI, 24, .inl (zA Kl))), (yw, .inl (cI, 24, .inl (zA Wl))), (yb, .inl (cI, 24, .inl (zA Bl))), (yp, .inl (cI, 24, .inl (zA Pl))), (yr, .inl (cI, 24, .inl (zA Rl))), (yu, .inl (cI, 24, .inl (zA Ul))), (yt, .inl (cI, 2, .inl (zA ty)))]) (zr_V [9, 10, 11, 12, 13, 14, 15] C (As := [.int (zI (q : Int)), .int (zI 5)]) (rest := []) (c_X4_page l D cI cS cJ q0 q2 g1 g2 g3 q1 a0 a1 a2 a3 a4 a5 a6 a7 qt ql qh qx n1 sg pg rw un K1 W1 T1 P1 R1 U1 (q : Int) 5 hst (by omega) (by omega)) (cwV 2 C.1.2.2.2.2 gL_pages_X4_page rfl rfl rfl (by decide +kernel) ⟨Nat.le_of_ble_eq_true rfl, Nat.le_of_ble_eq_true rfl⟩) rfl (by decide) 0 rfl rfl rfl rfl (Nat.le_of_ble_eq_true rfl) dL_pages_325 ⟨Nat.le_of_ble_eq_true rfl, Nat.le_of_ble_eq_true rfl⟩) rfl rfl (by decide) (by decide) rfl (fun r_23 w_ hp_24 => ?_)
            obtain ⟨rfl, rfl⟩ := hp_24
            refine zj_ws (ws' := [(q2, .inr (2, [.ref g1, .ref g2, .ref g3, .int (zI n1), .int (zI sg)])), (qh, .inr (0, [.ref hq, .int (zI hs)])), (yk, .inl (cI, 24, .inl (zA Kl))), (yw, .inl (cI, 24, .inl (zA Wl))), (yb, .inl (cI, 24, .inl (zA Bl))), (yp, .inl (cI, 24, .inl (zA Pl))), (yr, .inl (cI, 24, .inl (zA Rl))), (yu, .inl (cI, 24, .inl (zA Ul))), (yt, .inl (cI, 2, .inl (zA ty))), (q0, .inr (4, [.ref q2, .ref q1, .ref qt, .ref ql, .ref qh, .ref qx])), (q1, .inr (1, [.ref a0, .ref a1, .ref a2, .ref a3, .ref a4, .ref a5, .ref a6, .ref a7, .int (zI pg), .int (zI rw), .int (zI un), .int (zI ((zFin sg K1 W1 T1 n1).2.2.2.2.2.2.2.2.1)), .int (zI ((zFin sg K1 W1 T1 n1).2.2.2.2.2.2.2.2.2.1)), .int (zI ((zFin sg K1 W1 T1 n1).2.2.2.2.2.2.2.2.2.2)), .int (zI (zOut n1 sg K1 W1 T1))])), (a3, .inl (cI, 16, .inl (zA ((zFin sg K1 W1 T1 n1).2.2.2.2.1)))), (a4, .inl (cI, 16, .inl (zA ((zFin sg K1 W1 T1 n1).2.2.2.2.2.1)))), (a5, .inl (cI, 16, .inl (zA ((zFin sg K1 W1 T1 n1).2.2.2.2.2.2.1)))), (a6, .inl (cI, 16, .inl (zA ((zFin sg K1 W1 T1 n1).2.2.2.2.2.2.2.1)))), (a7, .inl (cI, 16, .inl (zA ((zFin sg K1 W1 T1 n1).2.2.2.1))))]) rfl ?_
            refine zj_st (st' := [.int (zI bl)]) (by rw [zNg_5, ← hef, ← hvl]) ?_
            refine zj_iload 330 19 C dL_pages_328 rfl rfl ?_
            refine zj_icmp_rfl 335 C dL_pages_330 (by decide) ?_
            refine zj_iload 337 10 C dL_pages_335 rfl rfl ?_
            refine zj_iload 339 21 C dL_pages_337 rfl rfl ?_
            refine zj_if_eq 342 346 C (by omega) dL_pages_339 rfl (by decide) (fun h_25 => ?_) (fun h_25 => ?_)
            · skip
              refine zj_iconst 347 C dL_pages_346 rfl ?_
              refine zj_iadd 348 C dL_pages_347 rfl ?_
              refine zj_istore 350 [(10, .int (zI (bk + 0))), (0, .ref q0), (1, .ref yk), (2, .ref yw), (3, .ref yb), (4, .ref yp), (5, .ref yr), (6, .ref yu), (7, .ref yt), (8, .int (zI mo)), (9, .int (zI ul)), (11, .int (zI em)), (12, .int (zI fl)), (13, .int (zI uu)), (14, .int (zI bf)), (15, .int (zI (q : Int))), (16, .int (zI mn)), (17, .int (zI bt)), (18, .int (zI f0)), (19, .int (zI bl)), (20, .int (zI tn)), (21, .int (zI ib))] C dL_pages_348 rfl (by decide) rfl ?_
              refine zj_re [9, 0, 10, 11, 12, 13, 14, 15, 1, 2, 3, 4, 5, 6, 7, 8] [(q0, .inr (4, [.ref q2, .ref q1, .ref qt, .ref ql, .ref qh, .ref qx])), (q2, .inr (2, [.ref g1, .ref g2, .ref g3, .int (zI n1), .int (zI sg)])), (q1, .inr (1, [.ref a0, .ref a1, .ref a2, .ref a3, .ref a4, .ref a5, .ref a6, .ref a7, .int (zI pg), .int (zI rw), .int (zI un), .int (zI ((zFin sg K1 W1 T1 n1).2.2.2.2.2.2.2.2.1)), .int (zI ((zFin sg K1 W1 T1 n1).2.2.2.2.2.2.2.2.2.1)), .int (zI ((zFin sg K1 W1 T1 n1).2.2.2.2.2.2.2.2.2.2)), .int (zI (zOut n1 sg K1 W1 T1))])), (a3, .inl (cI, 16, .inl (zA ((zFin sg K1 W1 T1 n1).2.2.2.2.1)))), (a4, .inl (cI, 16, .inl (zA ((zFin sg K1 W1 T1 n1).2.2.2.2.2.1)))), (a5, .inl (cI, 16, .inl (zA ((zFin sg K1 W1 T1 n1).2.2.2.2.2.2.1)))), (a6, .inl (cI, 16, .inl (zA ((zFin sg K1 W1 T1 n1).2.2.2.2.2.2.2.1)))), (a7, .inl (cI, 16, .inl (zA ((zFin sg K1 W1 T1 n1).2.2.2.1)))), (qh, .inr (0, [.ref hq, .int (zI hs)])), (yk, .inl (cI, 24, .inl (zA Kl))), (yw, .inl (cI, 24, .inl (zA Wl))), (yb, .inl (cI, 24, .inl (zA Bl))), (yp, .inl (cI, 24, .inl (zA Pl))), (yr, .inl (cI, 24, .inl (zA Rl))), (yu, .inl (cI, 24, .inl (zA Ul))), (yt, .inl (cI, 2, .inl (zA ty)))] (by decide) rfl ?_
              refine zj_lv [1, 2, 3, 4, 5, 6, 7, 8, 9, 10, 0, 11, 12, 13, 14, 15, 16, 17, 20] [(0, .ref q0), (1, .ref yk), (2, .ref yw), (3, .ref yb), (4, .ref yp), (5, .ref yr), (6, .ref yu), (7, .ref yt), (8, .int (zI mo)), (9, .int (zI ul)), (10, .int (zI (bk + 0))), (11, .int (zI em)), (12, .int (zI fl)), (13, .int (zI uu)), (14, .int (zI bf)), (15, .int (zI (q : Int))), (16, .int (zI mn)), (17, .int (zI bt)), (20, .int (zI tn))] rfl ?_
              exact hL350 mn bt tn (bk + 0) (by omega) (by omega) (by omega) (by omega) (by omega) (by rw [kBn, ← hbk]; split <;> omega) (by omega)
            · skip
              refine zj_iconst 343 C dL_pages_342 rfl ?_
              refine zj_goto 347 C dL_pages_343 (by decide) ?_
              refine zj_iadd 348 C dL_pages_347 rfl ?_
              refine zj_istore 350 [(10, .int (zI (bk + 1))), (0, .ref q0), (1, .ref yk), (2, .ref yw), (3, .ref yb), (4, .ref yp), (5, .ref yr), (6, .ref yu), (7, .ref yt), (8, .int (zI mo)), (9, .int (zI ul)), (11, .int (zI em)), (12, .int (zI fl)), (13, .int (zI uu)), (14, .int (zI bf)), (15, .int (zI (q : Int))), (16, .int (zI mn)), (17, .int (zI bt)), (18, .int (zI f0)), (19, .int (zI bl)), (20, .int (zI tn)), (21, .int (zI ib))] C dL_pages_348 rfl (by decide) rfl ?_
              refine zj_re [9, 0, 10, 11, 12, 13, 14, 15, 1, 2, 3, 4, 5, 6, 7, 8] [(q0, .inr (4, [.ref q2, .ref q1, .ref qt, .ref ql, .ref qh, .ref qx])), (q2, .inr (2, [.ref g1, .ref g2, .ref g3, .int (zI n1), .int (zI sg)])), (q1, .inr (1, [.ref a0, .ref a1, .ref a2, .ref a3, .ref a4, .ref a5, .ref a6, .ref a7, .int (zI pg), .int (zI rw), .int (zI un), .int (zI ((zFin sg K1 W1 T1 n1).2.2.2.2.2.2.2.2.1)), .int (zI ((zFin sg K1 W1 T1 n1).2.2.2.2.2.2.2.2.2.1)), .int (zI ((zFin sg K1 W1 T1 n1).2.2.2.2.2.2.2.2.2.2)), .int (zI (zOut n1 sg K1 W1 T1))])), (a3, .inl (cI, 16, .inl (zA ((zFin sg K1 W1 T1 n1).2.2.2.2.1)))), (a4, .inl (cI, 16, .inl (zA ((zFin sg K1 W1 T1 n1).2.2.2.2.2.1)))), (a5, .inl (cI, 16, .inl (zA ((zFin sg K1 W1 T1 n1).2.2.2.2.2.2.1)))), (a6, .inl (cI, 16, .inl (zA ((zFin sg K1 W1 T1 n1).2.2.2.2.2.2.2.1)))), (a7, .inl (cI, 16, .inl (zA ((zFin sg K1 W1 T1 n1).2.2.2.1)))), (qh, .inr (0, [.ref hq, .int (zI hs)])), (yk, .inl (cI, 24, .inl (zA Kl))), (yw, .inl (cI, 24, .inl (zA Wl))), (yb, .inl (cI, 24, .inl (zA Bl))), (yp, .inl (cI, 24, .inl (zA Pl))), (yr, .inl (cI, 24, .inl (zA Rl))), (yu, .inl (cI, 24, .inl (zA Ul))), (yt, .inl (cI, 2, .inl (zA ty)))] (by decide) rfl ?_
              refine zj_lv [1, 2, 3, 4, 5, 6, 7, 8, 9, 10, 0, 11, 12, 13, 14, 15, 16, 17, 20] [(0, .ref q0), (1, .ref yk), (2, .ref yw), (3, .ref yb), (4, .ref yp), (5, .ref yr), (6, .ref yu), (7, .ref yt), (8, .int (zI mo)), (9, .int (zI ul)), (10, .int (zI (bk + 1))), (11, .int (zI em)), (12, .int (zI fl)), (13, .int (zI uu)), (14, .int (zI bf)), (15, .int (zI (q : Int))), (16, .int (zI mn)), (17, .int (zI bt)), (20, .int (zI tn))] rfl ?_
              exact hL350 mn bt tn (bk + 1) (by omega) (by omega) (by omega) (by omega) (by omega) (by rw [kBn, ← hbk]; split <;> omega) (by omega)
        · skip
          refine zj_iconst 314 C dL_pages_313 rfl ?_
          refine zj_goto 318 C dL_pages_314 (by decide) ?_
          refine zj_icmp_ne 321 333 C (by omega) (by omega) dL_pages_318 rfl (by decide) (fun h_26 => ?_) (fun h_26 => ?_)
          · exact absurd h_26 (by omega)
          · skip
            refine zj_aload_n 322 0 C dL_pages_321 rfl rfl rfl ?_
            refine zj_iload 324 15 C dL_pages_322 rfl rfl ?_
            refine zj_iconst 325 C dL_pages_324 rfl ?_
            refine zj_ci 328 [9, 10, 11, 12, 13, 14, 15] [0, 1, 2, 3, 4, 5, 6, 7, 8] C (wr := [(q2, .inr (2, [.ref g1, .ref g2, .ref g3, .int (zI n1), .int (zI sg)])), (qh, .inr (0, [.ref hq, .int (zI hs)])), (yk, .inl (cI, 24, .inl (zA Kl))), (yw, .inl (cI, 24, .inl (zA Wl))), (yb, .inl (cI, 24, .inl (zA Bl))), (yp, .inl (cI, 24, .inl (zA Pl))), (yr, .inl (cI, 24, .inl (zA Rl))), (yu, .inl (cI, 24, .inl (zA Ul))), (yt, .inl (cI, 2, .inl (zA ty)))]) (zr_V [9, 10, 11, 12, 13, 14, 15] C (As := [.int (zI (q : Int)), .int (zI 5)]) (rest := []) (c_X4_page l D cI cS cJ q0 q2 g1 g2 g3 q1 a0 a1 a2 a3 a4 a5 a6 a7 qt ql qh qx n1 sg pg rw un K1 W1 T1 P1 R1 U1 (q : Int) 5 hst (by omega) (by omega)) (cwV 2 C.1.2.2.2.2 gL_pages_X4_page rfl rfl rfl (by decide +kernel) ⟨Nat.le_of_ble_eq_true rfl, Nat.le_of_ble_eq_true rfl⟩) rfl (by decide) 0 rfl rfl rfl rfl (Nat.le_of_ble_eq_true rfl) dL_pages_325 ⟨Nat.le_of_ble_eq_true rfl, Nat.le_of_ble_eq_true rfl⟩) rfl rfl (by decide) (by decide) rfl (fun r_27 w_ hp_28 => ?_)
            obtain ⟨rfl, rfl⟩ := hp_28
            refine zj_ws (ws' := [(q2, .inr (2, [.ref g1, .ref g2, .ref g3, .int (zI n1), .int (zI sg)])), (qh, .inr (0, [.ref hq, .int (zI hs)])), (yk, .inl (cI, 24, .inl (zA Kl))), (yw, .inl (cI, 24, .inl (zA Wl))), (yb, .inl (cI, 24, .inl (zA Bl))), (yp, .inl (cI, 24, .inl (zA Pl))), (yr, .inl (cI, 24, .inl (zA Rl))), (yu, .inl (cI, 24, .inl (zA Ul))), (yt, .inl (cI, 2, .inl (zA ty))), (q0, .inr (4, [.ref q2, .ref q1, .ref qt, .ref ql, .ref qh, .ref qx])), (q1, .inr (1, [.ref a0, .ref a1, .ref a2, .ref a3, .ref a4, .ref a5, .ref a6, .ref a7, .int (zI pg), .int (zI rw), .int (zI un), .int (zI ((zFin sg K1 W1 T1 n1).2.2.2.2.2.2.2.2.1)), .int (zI ((zFin sg K1 W1 T1 n1).2.2.2.2.2.2.2.2.2.1)), .int (zI ((zFin sg K1 W1 T1 n1).2.2.2.2.2.2.2.2.2.2)), .int (zI (zOut n1 sg K1 W1 T1))])), (a3, .inl (cI, 16, .inl (zA ((zFin sg K1 W1 T1 n1).2.2.2.2.1)))), (a4, .inl (cI, 16, .inl (zA ((zFin sg K1 W1 T1 n1).2.2.2.2.2.1)))), (a5, .inl (cI, 16, .inl (zA ((zFin sg K1 W1 T1 n1).2.2.2.2.2.2.1)))), (a6, .inl (cI, 16, .inl (zA ((zFin sg K1 W1 T1 n1).2.2.2.2.2.2.2.1)))), (a7, .inl (cI, 16, .inl (zA ((zFin sg K1 W1 T1 n1).2.2.2.1))))]) rfl ?_
            refine zj_st (st' := [.int (zI bl)]) (by rw [zNg_5, ← hef, ← hvl]) ?_
            refine zj_iload 330 19 C dL_pages_328 rfl rfl ?_
            refine zj_icmp_rfl 335 C dL_pages_330 (by decide) ?_
            refine zj_iload 337 10 C dL_pages_335 rfl rfl ?_
            refine zj_iload 339 21 C dL_pages_337 rfl rfl ?_
            refine zj_if_eq 342 346 C (by omega) dL_pages_339 rfl (by decide) (fun h_29 => ?_) (fun h_29 => ?_)
            · skip
              refine zj_iconst 347 C dL_pages_346 rfl ?_
              refine zj_iadd 348 C dL_pages_347 rfl ?_
              refine zj_istore 350 [(10, .int (zI (bk + 0))), (0, .ref q0), (1, .ref yk), (2, .ref yw), (3, .ref yb), (4, .ref yp), (5, .ref yr), (6, .ref yu), (7, .ref yt), (8, .int (zI mo)), (9, .int (zI ul)), (11, .int (zI em)), (12, .int (zI fl)), (13, .int (zI uu)), (14, .int (zI bf)), (15, .int (zI (q : Int))), (16, .int (zI mn)), (17, .int (zI bt)), (18, .int (zI f0)), (19, .int (zI bl)), (20, .int (zI tn)), (21, .int (zI ib))] C dL_pages_348 rfl (by decide) rfl ?_
              refine zj_re [9, 0, 10, 11, 12, 13, 14, 15, 1, 2, 3, 4, 5, 6, 7, 8] [(q0, .inr (4, [.ref q2, .ref q1, .ref qt, .ref ql, .ref qh, .ref qx])), (q2, .inr (2, [.ref g1, .ref g2, .ref g3, .int (zI n1), .int (zI sg)])), (q1, .inr (1, [.ref a0, .ref a1, .ref a2, .ref a3, .ref a4, .ref a5, .ref a6, .ref a7, .int (zI pg), .int (zI rw), .int (zI un), .int (zI ((zFin sg K1 W1 T1 n1).2.2.2.2.2.2.2.2.1)), .int (zI ((zFin sg K1 W1 T1 n1).2.2.2.2.2.2.2.2.2.1)), .int (zI ((zFin sg K1 W1 T1 n1).2.2.2.2.2.2.2.2.2.2)), .int (zI (zOut n1 sg K1 W1 T1))])), (a3, .inl (cI, 16, .inl (zA ((zFin sg K1 W1 T1 n1).2.2.2.2.1)))), (a4, .inl (cI, 16, .inl (zA ((zFin sg K1 W1 T1 n1).2.2.2.2.2.1)))), (a5, .inl (cI, 16, .inl (zA ((zFin sg K1 W1 T1 n1).2.2.2.2.2.2.1)))), (a6, .inl (cI, 16, .inl (zA ((zFin sg K1 W1 T1 n1).2.2.2.2.2.2.2.1)))), (a7, .inl (cI, 16, .inl (zA ((zFin sg K1 W1 T1 n1).2.2.2.1)))), (qh, .inr (0, [.ref hq, .int (zI hs)])), (yk, .inl (cI, 24, .inl (zA Kl))), (yw, .inl (cI, 24, .inl (zA Wl))), (yb, .inl (cI, 24, .inl (zA Bl))), (yp, .inl (cI, 24, .inl (zA Pl))), (yr, .inl (cI, 24, .inl (zA Rl))), (yu, .inl (cI, 24, .inl (zA Ul))), (yt, .inl (cI, 2, .inl (zA ty)))] (by decide) rfl ?_
              refine zj_lv [1, 2, 3, 4, 5, 6, 7, 8, 9, 10, 0, 11, 12, 13, 14, 15, 16, 17, 20] [(0, .ref q0), (1, .ref yk), (2, .ref yw), (3, .ref yb), (4, .ref yp), (5, .ref yr), (6, .ref yu), (7, .ref yt), (8, .int (zI mo)), (9, .int (zI ul)), (10, .int (zI (bk + 0))), (11, .int (zI em)), (12, .int (zI fl)), (13, .int (zI uu)), (14, .int (zI bf)), (15, .int (zI (q : Int))), (16, .int (zI mn)), (17, .int (zI bt)), (20, .int (zI tn))] rfl ?_
              exact hL350 mn bt tn (bk + 0) (by omega) (by omega) (by omega) (by omega) (by omega) (by rw [kBn, ← hbk]; split <;> omega) (by omega)
            · skip
              refine zj_iconst 343 C dL_pages_342 rfl ?_
              refine zj_goto 347 C dL_pages_343 (by decide) ?_
              refine zj_iadd 348 C dL_pages_347 rfl ?_
              refine zj_istore 350 [(10, .int (zI (bk + 1))), (0, .ref q0), (1, .ref yk), (2, .ref yw), (3, .ref yb), (4, .ref yp), (5, .ref yr), (6, .ref yu), (7, .ref yt), (8, .int (zI mo)), (9, .int (zI ul)), (11, .int (zI em)), (12, .int (zI fl)), (13, .int (zI uu)), (14, .int (zI bf)), (15, .int (zI (q : Int))), (16, .int (zI mn)), (17, .int (zI bt)), (18, .int (zI f0)), (19, .int (zI bl)), (20, .int (zI tn)), (21, .int (zI ib))] C dL_pages_348 rfl (by decide) rfl ?_
              refine zj_re [9, 0, 10, 11, 12, 13, 14, 15, 1, 2, 3, 4, 5, 6, 7, 8] [(q0, .inr (4, [.ref q2, .ref q1, .ref qt, .ref ql, .ref qh, .ref qx])), (q2, .inr (2, [.ref g1, .ref g2, .ref g3, .int (zI n1), .int (zI sg)])), (q1, .inr (1, [.ref a0, .ref a1, .ref a2, .ref a3, .ref a4, .ref a5, .ref a6, .ref a7, .int (zI pg), .int (zI rw), .int (zI un), .int (zI ((zFin sg K1 W1 T1 n1).2.2.2.2.2.2.2.2.1)), .int (zI ((zFin sg K1 W1 T1 n1).2.2.2.2.2.2.2.2.2.1)), .int (zI ((zFin sg K1 W1 T1 n1).2.2.2.2.2.2.2.2.2.2)), .int (zI (zOut n1 sg K1 W1 T1))])), (a3, .inl (cI, 16, .inl (zA ((zFin sg K1 W1 T1 n1).2.2.2.2.1)))), (a4, .inl (cI, 16, .inl (zA ((zFin sg K1 W1 T1 n1).2.2.2.2.2.1)))), (a5, .inl (cI, 16, .inl (zA ((zFin sg K1 W1 T1 n1).2.2.2.2.2.2.1)))), (a6, .inl (cI, 16, .inl (zA ((zFin sg K1 W1 T1 n1).2.2.2.2.2.2.2.1)))), (a7, .inl (cI, 16, .inl (zA ((zFin sg K1 W1 T1 n1).2.2.2.1)))), (qh, .inr (0, [.ref hq, .int (zI hs)])), (yk, .inl (cI, 24, .inl (zA Kl))), (yw, .inl (cI, 24, .inl (zA Wl))), (yb, .inl (cI, 24, .inl (zA Bl))), (yp, .inl (cI, 24, .inl (zA Pl))), (yr, .inl (cI, 24, .inl (zA Rl))), (yu, .inl (cI, 24, .inl (zA Ul))), (yt, .inl (cI, 2, .inl (zA ty)))] (by decide) rfl ?_
              refine zj_lv [1, 2, 3, 4, 5, 6, 7, 8, 9, 10, 0, 11, 12, 13, 14, 15, 16, 17, 20] [(0, .ref q0), (1, .ref yk), (2, .ref yw), (3, .ref yb), (4, .ref yp), (5, .ref yr), (6, .ref yu), (7, .ref yt), (8, .int (zI mo)), (9, .int (zI ul)), (10, .int (zI (bk + 1))), (11, .int (zI em)), (12, .int (zI fl)), (13, .int (zI uu)), (14, .int (zI bf)), (15, .int (zI (q : Int))), (16, .int (zI mn)), (17, .int (zI bt)), (20, .int (zI tn))] rfl ?_
              exact hL350 mn bt tn (bk + 1) (by omega) (by omega) (by omega) (by omega) (by omega) (by rw [kBn, ← hbk]; split <;> omega) (by omega)
      refine zj_iload 41 15 C dL_pages_39 rfl rfl ?_
      refine zj_bipush 43 C dL_pages_41 rfl rfl ?_
      refine zj_icmp_ge 46 466 C (by omega) (by omega) dL_pages_43 rfl (by decide) (fun h_30 => ?_) (fun h_30 => ?_)
      · skip
        have hq16 : q = 16 := by omega
        subst hq16
        have hPs : zPs cf 16 = (zFin sg K1 W1 T1 n1).2.2.2.2.2.2.2.2.2.1 := by rw [hcf]; exact zq_ps hst
        have hEm : em = zEmp (zFin sg K1 W1 T1 n1) := by (have h1 := kEp_s (c := cf) (f := ff) (fun p p1 p2 => by rw [hcf, hff]; exact (kF0 hst p p1 p2).1) 16 (by omega); have h2 : zSm ff 16 = (zFin sg K1 W1 T1 n1).2.2.2.2.2.2.2.2.2.2 := (by (rw [hff]; obtain ⟨m9, -, hw, -⟩ := zEnd hst; exact hw.1.2.2.1.2.2.symm)); rw [hem, h1, hPs, h2]; rfl)
        have hBk : bk = zUsed (zFin sg K1 W1 T1 n1) - (zFin sg K1 W1 T1 n1).2.2.2.2.2.2.2.2.2.1 := by (have h1 := kBlk (c := cf) (us := uu) (fun p p1 p2 p3 => by rw [hcf]; exact (kF0 hst p p2 p3).2 (by rw [← huu]; exact p1)) (kBn cf uu) rfl (fun k _ => rfl) (by omega) 16 (by omega); rw [← hbk, hPs] at h1; rw [← huu]; split at h1 <;> omega)
        have hUl : ul = zGd bb 8 := by rw [hul, hbb, huu]; exact zq_un hst
        have hFl : fl = (zFin sg K1 W1 T1 n1).2.2.2.2.2.2.2.2.2.1 * 24 := by rw [hfl, hPs]; omega
        have hfib := zq_fi hst
        have hdc : Op.cmpValue (FP.dcmp (zSh n1 sg K1 W1 T1) (zSh n1 sg K1 W1 T1)) .l = zI 0 := by rw [(zQk_n (zq_qk hst)).2]; rfl
        refine zj_aload_n 467 0 C dL_pages_466 rfl rfl rfl ?_
        refine zj_iconst 468 C dL_pages_467 rfl ?_
        refine zj_ci 471 [0, 1, 2, 4, 8] [3, 5, 6, 7, 9, 10, 11, 12, 13, 14, 15] C (wr := [(a3, .inl (cI, 16, .inl (zA ((zFin sg K1 W1 T1 n1).2.2.2.2.1)))), (a5, .inl (cI, 16, .inl (zA ((zFin sg K1 W1 T1 n1).2.2.2.2.2.2.1)))), (a6, .inl (cI, 16, .inl (zA ((zFin sg K1 W1 T1 n1).2.2.2.2.2.2.2.1)))), (a7, .inl (cI, 16, .inl (zA ((zFin sg K1 W1 T1 n1).2.2.2.1)))), (yk, .inl (cI, 24, .inl (zA Kl))), (yw, .inl (cI, 24, .inl (zA Wl))), (yb, .inl (cI, 24, .inl (zA Bl))), (yp, .inl (cI, 24, .inl (zA Pl))), (yr, .inl (cI, 24, .inl (zA Rl))), (yu, .inl (cI, 24, .inl (zA Ul))), (yt, .inl (cI, 2, .inl (zA ty)))]) (zr_V [0, 1, 2, 4, 8] C (As := [.int (zI 0)]) (rest := []) (c_X4_count l D cI cS cJ q0 q2 g1 g2 g3 q1 a0 a1 a2 a3 a4 a5 a6 a7 qt ql qh qx n1 sg pg rw un K1 W1 T1 P1 R1 U1 hq hs 0 hst (by omega)) (cwV 1 C.1.2.2.2.2 gL_pages_X4_count rfl rfl rfl (by decide +kernel) ⟨Nat.le_of_ble_eq_true rfl, Nat.le_of_ble_eq_true rfl⟩) rfl (by decide) 0 rfl rfl rfl rfl (Nat.le_of_ble_eq_true rfl) dL_pages_468 ⟨Nat.le_of_ble_eq_true rfl, Nat.le_of_ble_eq_true rfl⟩) rfl rfl (by decide) (by decide) rfl (fun r_31 w_ hp_32 => ?_)
        obtain ⟨rfl, rfl⟩ := hp_32
        refine zj_ws (ws' := [(a3, .inl (cI, 16, .inl (zA ((zFin sg K1 W1 T1 n1).2.2.2.2.1)))), (a5, .inl (cI, 16, .inl (zA ((zFin sg K1 W1 T1 n1).2.2.2.2.2.2.1)))), (a6, .inl (cI, 16, .inl (zA ((zFin sg K1 W1 T1 n1).2.2.2.2.2.2.2.1)))), (a7, .inl (cI, 16, .inl (zA ((zFin sg K1 W1 T1 n1).2.2.2.1)))), (yk, .inl (cI, 24, .inl (zA Kl))), (yw, .inl (cI, 24, .inl (zA Wl))), (yb, .inl (cI, 24, .inl (zA Bl))), (yp, .inl (cI, 24, .inl (zA Pl))), (yr, .inl (cI, 24, .inl (zA Rl))), (yu, .inl (cI, 24, .inl (zA Ul))), (yt, .inl (cI, 2, .inl (zA ty))), (q0, .inr (4, [.ref q2, .ref q1, .ref qt, .ref ql, .ref qh, .ref qx])), (q2, .inr (2, [.ref g1, .ref g2, .ref g3, .int (zI n1), .int (zI sg)])), (q1, .inr (1, [.ref a0, .ref a1, .ref a2, .ref a3, .ref a4, .ref a5, .ref a6, .ref a7, .int (zI pg), .int (zI rw), .int (zI un), .int (zI ((zFin sg K1 W1 T1 n1).2.2.2.2.2.2.2.2.1)), .int (zI ((zFin sg K1 W1 T1 n1).2.2.2.2.2.2.2.2.2.1)), .int (zI ((zFin sg K1 W1 T1 n1).2.2.2.2.2.2.2.2.2.2)), .int (zI (zOut n1 sg K1 W1 T1))])), (a4, .inl (cI, 16, .inl (zA ((zFin sg K1 W1 T1 n1).2.2.2.2.2.1)))), (qh, .inr (0, [.ref hq, .int (zI hs)]))]) rfl ?_
        refine zj_st (st' := [.int (zI (ty 1))]) (by rw [zNc_0, ht.2]) ?_
        refine zj_aload 473 7 C dL_pages_471 rfl rfl ?_
        refine zj_iconst 474 C dL_pages_473 rfl ?_
        refine zj_iald 475 10 C (by omega) (by omega) rfl rfl dL_pages_474 rfl ?_
        refine zj_icmp_ner 478 C 587 dL_pages_475 rfl (by decide) ?_
        refine zj_aload_n 479 0 C dL_pages_478 rfl rfl rfl ?_
        refine zj_iconst 480 C dL_pages_479 rfl ?_
        refine zj_ci 483 [11, 12, 13, 14, 15] [0, 1, 2, 3, 4, 5, 6, 7, 8, 9, 10] C (wr := [(a3, .inl (cI, 16, .inl (zA ((zFin sg K1 W1 T1 n1).2.2.2.2.1)))), (a5, .inl (cI, 16, .inl (zA ((zFin sg K1 W1 T1 n1).2.2.2.2.2.2.1)))), (a6, .inl (cI, 16, .inl (zA ((zFin sg K1 W1 T1 n1).2.2.2.2.2.2.2.1)))), (a7, .inl (cI, 16, .inl (zA ((zFin sg K1 W1 T1 n1).2.2.2.1)))), (yk, .inl (cI, 24, .inl (zA Kl))), (yw, .inl (cI, 24, .inl (zA Wl))), (yb, .inl (cI, 24, .inl (zA Bl))), (yp, .inl (cI, 24, .inl (zA Pl))), (yr, .inl (cI, 24, .inl (zA Rl))), (yu, .inl (cI, 24, .inl (zA Ul))), (yt, .inl (cI, 2, .inl (zA ty)))]) (zr_V [11, 12, 13, 14, 15] C (As := [.int (zI 1)]) (rest := []) (c_X4_count l D cI cS cJ q0 q2 g1 g2 g3 q1 a0 a1 a2 a3 a4 a5 a6 a7 qt ql qh qx n1 sg pg rw un K1 W1 T1 P1 R1 U1 hq hs 1 hst (by omega)) (cwV 1 C.1.2.2.2.2 gL_pages_X4_count rfl rfl rfl (by decide +kernel) ⟨Nat.le_of_ble_eq_true rfl, Nat.le_of_ble_eq_true rfl⟩) rfl (by decide) 0 rfl rfl rfl rfl (Nat.le_of_ble_eq_true rfl) dL_pages_480 ⟨Nat.le_of_ble_eq_true rfl, Nat.le_of_ble_eq_true rfl⟩) rfl rfl (by decide) (by decide) rfl (fun r_33 w_ hp_34 => ?_)
        obtain ⟨rfl, rfl⟩ := hp_34
        refine zj_ws (ws' := [(a3, .inl (cI, 16, .inl (zA ((zFin sg K1 W1 T1 n1).2.2.2.2.1)))), (a5, .inl (cI, 16, .inl (zA ((zFin sg K1 W1 T1 n1).2.2.2.2.2.2.1)))), (a6, .inl (cI, 16, .inl (zA ((zFin sg K1 W1 T1 n1).2.2.2.2.2.2.2.1)))), (a7, .inl (cI, 16, .inl (zA ((zFin sg K1 W1 T1 n1).2.2.2.1)))), (yk, .inl (cI, 24, .inl (zA Kl))), (yw, .inl (cI, 24, .inl (zA Wl))), (yb, .inl (cI, 24, .inl (zA Bl))), (yp, .inl (cI, 24, .inl (zA Pl))), (yr, .inl (cI, 24, .inl (zA Rl))), (yu, .inl (cI, 24, .inl (zA Ul))), (yt, .inl (cI, 2, .inl (zA ty))), (q0, .inr (4, [.ref q2, .ref q1, .ref qt, .ref ql, .ref qh, .ref qx])), (q2, .inr (2, [.ref g1, .ref g2, .ref g3, .int (zI n1), .int (zI sg)])), (q1, .inr (1, [.ref a0, .ref a1, .ref a2, .ref a3, .ref a4, .ref a5, .ref a6, .ref a7, .int (zI pg), .int (zI rw), .int (zI un), .int (zI ((zFin sg K1 W1 T1 n1).2.2.2.2.2.2.2.2.1)), .int (zI ((zFin sg K1 W1 T1 n1).2.2.2.2.2.2.2.2.2.1)), .int (zI ((zFin sg K1 W1 T1 n1).2.2.2.2.2.2.2.2.2.2)), .int (zI (zOut n1 sg K1 W1 T1))])), (a4, .inl (cI, 16, .inl (zA ((zFin sg K1 W1 T1 n1).2.2.2.2.2.1)))), (qh, .inr (0, [.ref hq, .int (zI hs)]))]) rfl ?_
        refine zj_st (st' := [.int (zI uu)]) (by rw [zNc_1, huu]) ?_
        refine zj_iload 485 13 C dL_pages_483 rfl rfl ?_
        refine zj_icmp_ner 488 C 587 dL_pages_485 rfl (by decide) ?_
        refine zj_aload_n 489 0 C dL_pages_488 rfl rfl rfl ?_
        refine zj_iconst 490 C dL_pages_489 rfl ?_
        refine zj_ci 493 [11, 12, 13, 14, 15] [0, 1, 2, 3, 4, 5, 6, 7, 8, 9, 10] C (wr := [(a3, .inl (cI, 16, .inl (zA ((zFin sg K1 W1 T1 n1).2.2.2.2.1)))), (a5, .inl (cI, 16, .inl (zA ((zFin sg K1 W1 T1 n1).2.2.2.2.2.2.1)))), (a6, .inl (cI, 16, .inl (zA ((zFin sg K1 W1 T1 n1).2.2.2.2.2.2.2.1)))), (a7, .inl (cI, 16, .inl (zA ((zFin sg K1 W1 T1 n1).2.2.2.1)))), (yk, .inl (cI, 24, .inl (zA Kl))), (yw, .inl (cI, 24, .inl (zA Wl))), (yb, .inl (cI, 24, .inl (zA Bl))), (yp, .inl (cI, 24, .inl (zA Pl))), (yr, .inl (cI, 24, .inl (zA Rl))), (yu, .inl (cI, 24, .inl (zA Ul))), (yt, .inl (cI, 2, .inl (zA ty)))]) (zr_V [11, 12, 13, 14, 15] C (As := [.int (zI 2)]) (rest := []) (c_X4_count l D cI cS cJ q0 q2 g1 g2 g3 q1 a0 a1 a2 a3 a4 a5 a6 a7 qt ql qh qx n1 sg pg rw un K1 W1 T1 P1 R1 U1 hq hs 2 hst (by omega)) (cwV 1 C.1.2.2.2.2 gL_pages_X4_count rfl rfl rfl (by decide +kernel) ⟨Nat.le_of_ble_eq_true rfl, Nat.le_of_ble_eq_true rfl⟩) rfl (by decide) 0 rfl rfl rfl rfl (Nat.le_of_ble_eq_true rfl) dL_pages_490 ⟨Nat.le_of_ble_eq_true rfl, Nat.le_of_ble_eq_true rfl⟩) rfl rfl (by decide) (by decide) rfl (fun r_35 w_ hp_36 => ?_)
        obtain ⟨rfl, rfl⟩ := hp_36
        refine zj_ws (ws' := [(a3, .inl (cI, 16, .inl (zA ((zFin sg K1 W1 T1 n1).2.2.2.2.1)))), (a5, .inl (cI, 16, .inl (zA ((zFin sg K1 W1 T1 n1).2.2.2.2.2.2.1)))), (a6, .inl (cI, 16, .inl (zA ((zFin sg K1 W1 T1 n1).2.2.2.2.2.2.2.1)))), (a7, .inl (cI, 16, .inl (zA ((zFin sg K1 W1 T1 n1).2.2.2.1)))), (yk, .inl (cI, 24, .inl (zA Kl))), (yw, .inl (cI, 24, .inl (zA Wl))), (yb, .inl (cI, 24, .inl (zA Bl))), (yp, .inl (cI, 24, .inl (zA Pl))), (yr, .inl (cI, 24, .inl (zA Rl))), (yu, .inl (cI, 24, .inl (zA Ul))), (yt, .inl (cI, 2, .inl (zA ty))), (q0, .inr (4, [.ref q2, .ref q1, .ref qt, .ref ql, .ref qh, .ref qx])), (q2, .inr (2, [.ref g1, .ref g2, .ref g3, .int (zI n1), .int (zI sg)])), (q1, .inr (1, [.ref a0, .ref a1, .ref a2, .ref a3, .ref a4, .ref a5, .ref a6, .ref a7, .int (zI pg), .int (zI rw), .int (zI un), .int (zI ((zFin sg K1 W1 T1 n1).2.2.2.2.2.2.2.2.1)), .int (zI ((zFin sg K1 W1 T1 n1).2.2.2.2.2.2.2.2.2.1)), .int (zI ((zFin sg K1 W1 T1 n1).2.2.2.2.2.2.2.2.2.2)), .int (zI (zOut n1 sg K1 W1 T1))])), (a4, .inl (cI, 16, .inl (zA ((zFin sg K1 W1 T1 n1).2.2.2.2.2.1)))), (qh, .inr (0, [.ref hq, .int (zI hs)]))]) rfl ?_
        refine zj_st (st' := [.int (zI bk)]) (by rw [zNc_2, hBk]) ?_
        refine zj_iload 495 10 C dL_pages_493 rfl rfl ?_
        refine zj_icmp_ner 498 C 587 dL_pages_495 rfl (by decide) ?_
        refine zj_aload_n 499 0 C dL_pages_498 rfl rfl rfl ?_
        refine zj_iconst 500 C dL_pages_499 rfl ?_
        refine zj_ci 503 [11, 12, 13, 14, 15] [0, 1, 2, 3, 4, 5, 6, 7, 8, 9, 10] C (wr := [(a3, .inl (cI, 16, .inl (zA ((zFin sg K1 W1 T1 n1).2.2.2.2.1)))), (a5, .inl (cI, 16, .inl (zA ((zFin sg K1 W1 T1 n1).2.2.2.2.2.2.1)))), (a6, .inl (cI, 16, .inl (zA ((zFin sg K1 W1 T1 n1).2.2.2.2.2.2.2.1)))), (a7, .inl (cI, 16, .inl (zA ((zFin sg K1 W1 T1 n1).2.2.2.1)))), (yk, .inl (cI, 24, .inl (zA Kl))), (yw, .inl (cI, 24, .inl (zA Wl))), (yb, .inl (cI, 24, .inl (zA Bl))), (yp, .inl (cI, 24, .inl (zA Pl))), (yr, .inl (cI, 24, .inl (zA Rl))), (yu, .inl (cI, 24, .inl (zA Ul))), (yt, .inl (cI, 2, .inl (zA ty)))]) (zr_V [11, 12, 13, 14, 15] C (As := [.int (zI 3)]) (rest := []) (c_X4_count l D cI cS cJ q0 q2 g1 g2 g3 q1 a0 a1 a2 a3 a4 a5 a6 a7 qt ql qh qx n1 sg pg rw un K1 W1 T1 P1 R1 U1 hq hs 3 hst (by omega)) (cwV 1 C.1.2.2.2.2 gL_pages_X4_count rfl rfl rfl (by decide +kernel) ⟨Nat.le_of_ble_eq_true rfl, Nat.le_of_ble_eq_true rfl⟩) rfl (by decide) 0 rfl rfl rfl rfl (Nat.le_of_ble_eq_true rfl) dL_pages_500 ⟨Nat.le_of_ble_eq_true rfl, Nat.le_of_ble_eq_true rfl⟩) rfl rfl (by decide) (by decide) rfl (fun r_37 w_ hp_38 => ?_)
        obtain ⟨rfl, rfl⟩ := hp_38
        refine zj_ws (ws' := [(a3, .inl (cI, 16, .inl (zA ((zFin sg K1 W1 T1 n1).2.2.2.2.1)))), (a5, .inl (cI, 16, .inl (zA ((zFin sg K1 W1 T1 n1).2.2.2.2.2.2.1)))), (a6, .inl (cI, 16, .inl (zA ((zFin sg K1 W1 T1 n1).2.2.2.2.2.2.2.1)))), (a7, .inl (cI, 16, .inl (zA ((zFin sg K1 W1 T1 n1).2.2.2.1)))), (yk, .inl (cI, 24, .inl (zA Kl))), (yw, .inl (cI, 24, .inl (zA Wl))), (yb, .inl (cI, 24, .inl (zA Bl))), (yp, .inl (cI, 24, .inl (zA Pl))), (yr, .inl (cI, 24, .inl (zA Rl))), (yu, .inl (cI, 24, .inl (zA Ul))), (yt, .inl (cI, 2, .inl (zA ty))), (q0, .inr (4, [.ref q2, .ref q1, .ref qt, .ref ql, .ref qh, .ref qx])), (q2, .inr (2, [.ref g1, .ref g2, .ref g3, .int (zI n1), .int (zI sg)])), (q1, .inr (1, [.ref a0, .ref a1, .ref a2, .ref a3, .ref a4, .ref a5, .ref a6, .ref a7, .int (zI pg), .int (zI rw), .int (zI un), .int (zI ((zFin sg K1 W1 T1 n1).2.2.2.2.2.2.2.2.1)), .int (zI ((zFin sg K1 W1 T1 n1).2.2.2.2.2.2.2.2.2.1)), .int (zI ((zFin sg K1 W1 T1 n1).2.2.2.2.2.2.2.2.2.2)), .int (zI (zOut n1 sg K1 W1 T1))])), (a4, .inl (cI, 16, .inl (zA ((zFin sg K1 W1 T1 n1).2.2.2.2.2.1)))), (qh, .inr (0, [.ref hq, .int (zI hs)]))]) rfl ?_
        refine zj_st (st' := [.int (zI (zOut n1 sg K1 W1 T1))]) (by rw [zNc_3]) ?_
        refine zj_aload_n 504 1 C dL_pages_503 rfl rfl rfl ?_
        refine zj_aload_n 505 2 C dL_pages_504 rfl rfl rfl ?_
        refine zj_aload 507 4 C dL_pages_505 rfl rfl ?_
        refine zj_aload 509 7 C dL_pages_507 rfl rfl ?_
        refine zj_ci 512 [4, 5, 7, 10] [0, 1, 2, 3, 6, 8, 9, 11, 12, 13, 14, 15] C (wr := [(a3, .inl (cI, 16, .inl (zA ((zFin sg K1 W1 T1 n1).2.2.2.2.1)))), (a5, .inl (cI, 16, .inl (zA ((zFin sg K1 W1 T1 n1).2.2.2.2.2.2.1)))), (a6, .inl (cI, 16, .inl (zA ((zFin sg K1 W1 T1 n1).2.2.2.2.2.2.2.1)))), (a7, .inl (cI, 16, .inl (zA ((zFin sg K1 W1 T1 n1).2.2.2.1)))), (yb, .inl (cI, 24, .inl (zA Bl))), (yr, .inl (cI, 24, .inl (zA Rl))), (yu, .inl (cI, 24, .inl (zA Ul))), (q0, .inr (4, [.ref q2, .ref q1, .ref qt, .ref ql, .ref qh, .ref qx])), (q2, .inr (2, [.ref g1, .ref g2, .ref g3, .int (zI n1), .int (zI sg)])), (q1, .inr (1, [.ref a0, .ref a1, .ref a2, .ref a3, .ref a4, .ref a5, .ref a6, .ref a7, .int (zI pg), .int (zI rw), .int (zI un), .int (zI ((zFin sg K1 W1 T1 n1).2.2.2.2.2.2.2.2.1)), .int (zI ((zFin sg K1 W1 T1 n1).2.2.2.2.2.2.2.2.2.1)), .int (zI ((zFin sg K1 W1 T1 n1).2.2.2.2.2.2.2.2.2.2)), .int (zI (zOut n1 sg K1 W1 T1))])), (a4, .inl (cI, 16, .inl (zA ((zFin sg K1 W1 T1 n1).2.2.2.2.2.1)))), (qh, .inr (0, [.ref hq, .int (zI hs)]))]) (zr_S [4, 5, 7, 10] C (As := [.ref yk, .ref yw, .ref yp, .ref yt]) (rest := [.int (zI (zOut n1 sg K1 W1 T1))]) (c_L_whole l D cI cS cJ yk yw yp yt Kl Wl Bl Pl ty n1 sg hok2 ht hPl) (va_cwS 4 C.1.2.2.2.2 gL_pages_L_whole rfl rfl rfl (by decide +kernel) ⟨Nat.le_of_ble_eq_true rfl, Nat.le_of_ble_eq_true rfl⟩) rfl (by decide) rfl rfl (Nat.le_of_ble_eq_true rfl) dL_pages_509 ⟨Nat.le_of_ble_eq_true rfl, Nat.le_of_ble_eq_true rfl⟩) rfl rfl (by decide) (by decide) rfl (fun r_39 w_ hp_40 => ?_)
        obtain ⟨rfl, rfl⟩ := hp_40
        refine zj_ws (ws' := [(a3, .inl (cI, 16, .inl (zA ((zFin sg K1 W1 T1 n1).2.2.2.2.1)))), (a5, .inl (cI, 16, .inl (zA ((zFin sg K1 W1 T1 n1).2.2.2.2.2.2.1)))), (a6, .inl (cI, 16, .inl (zA ((zFin sg K1 W1 T1 n1).2.2.2.2.2.2.2.1)))), (a7, .inl (cI, 16, .inl (zA ((zFin sg K1 W1 T1 n1).2.2.2.1)))), (yb, .inl (cI, 24, .inl (zA Bl))), (yr, .inl (cI, 24, .inl (zA Rl))), (yu, .inl (cI, 24, .inl (zA Ul))), (q0, .inr (4, [.ref q2, .ref q1, .ref qt, .ref ql, .ref qh, .ref qx])), (q2, .inr (2, [.ref g1, .ref g2, .ref g3, .int (zI n1), .int (zI sg)])), (q1, .inr (1, [.ref a0, .ref a1, .ref a2, .ref a3, .ref a4, .ref a5, .ref a6, .ref a7, .int (zI pg), .int (zI rw), .int (zI un), .int (zI ((zFin sg K1 W1 T1 n1).2.2.2.2.2.2.2.2.1)), .int (zI ((zFin sg K1 W1 T1 n1).2.2.2.2.2.2.2.2.2.1)), .int (zI ((zFin sg K1 W1 T1 n1).2.2.2.2.2.2.2.2.2.2)), .int (zI (zOut n1 sg K1 W1 T1))])), (a4, .inl (cI, 16, .inl (zA ((zFin sg K1 W1 T1 n1).2.2.2.2.2.1)))), (qh, .inr (0, [.ref hq, .int (zI hs)])), (yk, .inl (cI, 24, .inl (zA Kl))), (yw, .inl (cI, 24, .inl (zA Wl))), (yp, .inl (cI, 24, .inl (zA Pl))), (yt, .inl (cI, 2, .inl (zA ty)))]) rfl ?_
        refine zj_ldc 514 C (100000) rfl wc_L_pages_10 dL_pages_512 rfl ?_
        refine zj_idiv 515 C (by omega) (by omega) dL_pages_514 rfl ?_
        refine zj_st (st' := [.int (zI (zOut n1 sg K1 W1 T1)), .int (zI (zOut n1 sg K1 W1 T1))]) (by rw [hcu.2.2.1, hOe]) ?_
        refine zj_icmp_ner 518 C 587 dL_pages_515 rfl (by decide) ?_
        refine zj_aload_n 519 0 C dL_pages_518 rfl rfl rfl ?_
        refine zj_iconst 520 C dL_pages_519 rfl ?_
        refine zj_ci 523 [7, 8, 9, 10, 11] [0, 1, 2, 3, 4, 5, 6, 12, 13, 14, 15] C (wr := [(a3, .inl (cI, 16, .inl (zA ((zFin sg K1 W1 T1 n1).2.2.2.2.1)))), (a5, .inl (cI, 16, .inl (zA ((zFin sg K1 W1 T1 n1).2.2.2.2.2.2.1)))), (a6, .inl (cI, 16, .inl (zA ((zFin sg K1 W1 T1 n1).2.2.2.2.2.2.2.1)))), (a7, .inl (cI, 16, .inl (zA ((zFin sg K1 W1 T1 n1).2.2.2.1)))), (yb, .inl (cI, 24, .inl (zA Bl))), (yr, .inl (cI, 24, .inl (zA Rl))), (yu, .inl (cI, 24, .inl (zA Ul))), (yk, .inl (cI, 24, .inl (zA Kl))), (yw, .inl (cI, 24, .inl (zA Wl))), (yp, .inl (cI, 24, .inl (zA Pl))), (yt, .inl (cI, 2, .inl (zA ty)))]) (zr_V [7, 8, 9, 10, 11] C (As := [.int (zI 4)]) (rest := []) (c_X4_count l D cI cS cJ q0 q2 g1 g2 g3 q1 a0 a1 a2 a3 a4 a5 a6 a7 qt ql qh qx n1 sg pg rw un K1 W1 T1 P1 R1 U1 hq hs 4 hst (by omega)) (cwV 1 C.1.2.2.2.2 gL_pages_X4_count rfl rfl rfl (by decide +kernel) ⟨Nat.le_of_ble_eq_true rfl, Nat.le_of_ble_eq_true rfl⟩) rfl (by decide) 0 rfl rfl rfl rfl (Nat.le_of_ble_eq_true rfl) dL_pages_520 ⟨Nat.le_of_ble_eq_true rfl, Nat.le_of_ble_eq_true rfl⟩) rfl rfl (by decide) (by decide) rfl (fun r_41 w_ hp_42 => ?_)
        obtain ⟨rfl, rfl⟩ := hp_42
        refine zj_ws (ws' := [(a3, .inl (cI, 16, .inl (zA ((zFin sg K1 W1 T1 n1).2.2.2.2.1)))), (a5, .inl (cI, 16, .inl (zA ((zFin sg K1 W1 T1 n1).2.2.2.2.2.2.1)))), (a6, .inl (cI, 16, .inl (zA ((zFin sg K1 W1 T1 n1).2.2.2.2.2.2.2.1)))), (a7, .inl (cI, 16, .inl (zA ((zFin sg K1 W1 T1 n1).2.2.2.1)))), (yb, .inl (cI, 24, .inl (zA Bl))), (yr, .inl (cI, 24, .inl (zA Rl))), (yu, .inl (cI, 24, .inl (zA Ul))), (yk, .inl (cI, 24, .inl (zA Kl))), (yw, .inl (cI, 24, .inl (zA Wl))), (yp, .inl (cI, 24, .inl (zA Pl))), (yt, .inl (cI, 2, .inl (zA ty))), (q0, .inr (4, [.ref q2, .ref q1, .ref qt, .ref ql, .ref qh, .ref qx])), (q2, .inr (2, [.ref g1, .ref g2, .ref g3, .int (zI n1), .int (zI sg)])), (q1, .inr (1, [.ref a0, .ref a1, .ref a2, .ref a3, .ref a4, .ref a5, .ref a6, .ref a7, .int (zI pg), .int (zI rw), .int (zI un), .int (zI ((zFin sg K1 W1 T1 n1).2.2.2.2.2.2.2.2.1)), .int (zI ((zFin sg K1 W1 T1 n1).2.2.2.2.2.2.2.2.2.1)), .int (zI ((zFin sg K1 W1 T1 n1).2.2.2.2.2.2.2.2.2.2)), .int (zI (zOut n1 sg K1 W1 T1))])), (a4, .inl (cI, 16, .inl (zA ((zFin sg K1 W1 T1 n1).2.2.2.2.2.1)))), (qh, .inr (0, [.ref hq, .int (zI hs)]))]) rfl ?_
        refine zj_st (st' := [.int (zI mo)]) (by rw [zNc_4, hmo, hbb]) ?_
        refine zj_iload 525 8 C dL_pages_523 rfl rfl ?_
        refine zj_icmp_ner 528 C 587 dL_pages_525 rfl (by decide) ?_
        refine zj_aload_n 529 0 C dL_pages_528 rfl rfl rfl ?_
        refine zj_iconst 530 C dL_pages_529 rfl ?_
        refine zj_ci 533 [11, 12, 13, 14, 15] [0, 1, 2, 3, 4, 5, 6, 7, 8, 9, 10] C (wr := [(a3, .inl (cI, 16, .inl (zA ((zFin sg K1 W1 T1 n1).2.2.2.2.1)))), (a5, .inl (cI, 16, .inl (zA ((zFin sg K1 W1 T1 n1).2.2.2.2.2.2.1)))), (a6, .inl (cI, 16, .inl (zA ((zFin sg K1 W1 T1 n1).2.2.2.2.2.2.2.1)))), (a7, .inl (cI, 16, .inl (zA ((zFin sg K1 W1 T1 n1).2.2.2.1)))), (yb, .inl (cI, 24, .inl (zA Bl))), (yr, .inl (cI, 24, .inl (zA Rl))), (yu, .inl (cI, 24, .inl (zA Ul))), (yk, .inl (cI, 24, .inl (zA Kl))), (yw, .inl (cI, 24, .inl (zA Wl))), (yp, .inl (cI, 24, .inl (zA Pl))), (yt, .inl (cI, 2, .inl (zA ty)))]) (zr_V [11, 12, 13, 14, 15] C (As := [.int (zI 5)]) (rest := []) (c_X4_count l D cI cS cJ q0 q2 g1 g2 g3 q1 a0 a1 a2 a3 a4 a5 a6 a7 qt ql qh qx n1 sg pg rw un K1 W1 T1 P1 R1 U1 hq hs 5 hst (by omega)) (cwV 1 C.1.2.2.2.2 gL_pages_X4_count rfl rfl rfl (by decide +kernel) ⟨Nat.le_of_ble_eq_true rfl, Nat.le_of_ble_eq_true rfl⟩) rfl (by decide) 0 rfl rfl rfl rfl (Nat.le_of_ble_eq_true rfl) dL_pages_530 ⟨Nat.le_of_ble_eq_true rfl, Nat.le_of_ble_eq_true rfl⟩) rfl rfl (by decide) (by decide) rfl (fun r_43 w_ hp_44 => ?_)
        obtain ⟨rfl, rfl⟩ := hp_44
        refine zj_ws (ws' := [(a3, .inl (cI, 16, .inl (zA ((zFin sg K1 W1 T1 n1).2.2.2.2.1)))), (a5, .inl (cI, 16, .inl (zA ((zFin sg K1 W1 T1 n1).2.2.2.2.2.2.1)))), (a6, .inl (cI, 16, .inl (zA ((zFin sg K1 W1 T1 n1).2.2.2.2.2.2.2.1)))), (a7, .inl (cI, 16, .inl (zA ((zFin sg K1 W1 T1 n1).2.2.2.1)))), (yb, .inl (cI, 24, .inl (zA Bl))), (yr, .inl (cI, 24, .inl (zA Rl))), (yu, .inl (cI, 24, .inl (zA Ul))), (yk, .inl (cI, 24, .inl (zA Kl))), (yw, .inl (cI, 24, .inl (zA Wl))), (yp, .inl (cI, 24, .inl (zA Pl))), (yt, .inl (cI, 2, .inl (zA ty))), (q0, .inr (4, [.ref q2, .ref q1, .ref qt, .ref ql, .ref qh, .ref qx])), (q2, .inr (2, [.ref g1, .ref g2, .ref g3, .int (zI n1), .int (zI sg)])), (q1, .inr (1, [.ref a0, .ref a1, .ref a2, .ref a3, .ref a4, .ref a5, .ref a6, .ref a7, .int (zI pg), .int (zI rw), .int (zI un), .int (zI ((zFin sg K1 W1 T1 n1).2.2.2.2.2.2.2.2.1)), .int (zI ((zFin sg K1 W1 T1 n1).2.2.2.2.2.2.2.2.2.1)), .int (zI ((zFin sg K1 W1 T1 n1).2.2.2.2.2.2.2.2.2.2)), .int (zI (zOut n1 sg K1 W1 T1))])), (a4, .inl (cI, 16, .inl (zA ((zFin sg K1 W1 T1 n1).2.2.2.2.2.1)))), (qh, .inr (0, [.ref hq, .int (zI hs)]))]) rfl ?_
        refine zj_st (st' := [.int (zI em)]) (by rw [zNc_5, hEm]) ?_
        refine zj_iload 535 11 C dL_pages_533 rfl rfl ?_
        refine zj_icmp_ner 538 C 587 dL_pages_535 rfl (by decide) ?_
        refine zj_aload_n 539 0 C dL_pages_538 rfl rfl rfl ?_
        refine zj_iconst 540 C dL_pages_539 rfl ?_
        refine zj_ci 543 [11, 12, 13, 14, 15] [0, 1, 2, 3, 4, 5, 6, 7, 8, 9, 10] C (wr := [(a3, .inl (cI, 16, .inl (zA ((zFin sg K1 W1 T1 n1).2.2.2.2.1)))), (a5, .inl (cI, 16, .inl (zA ((zFin sg K1 W1 T1 n1).2.2.2.2.2.2.1)))), (a6, .inl (cI, 16, .inl (zA ((zFin sg K1 W1 T1 n1).2.2.2.2.2.2.2.1)))), (a7, .inl (cI, 16, .inl (zA ((zFin sg K1 W1 T1 n1).2.2.2.1)))), (yb, .inl (cI, 24, .inl (zA Bl))), (yr, .inl (cI, 24, .inl (zA Rl))), (yu, .inl (cI, 24, .inl (zA Ul))), (yk, .inl (cI, 24, .inl (zA Kl))), (yw, .inl (cI, 24, .inl (zA Wl))), (yp, .inl (cI, 24, .inl (zA Pl))), (yt, .inl (cI, 2, .inl (zA ty)))]) (zr_V [11, 12, 13, 14, 15] C (As := [.int (zI 5)]) (rest := []) (c_X4_count l D cI cS cJ q0 q2 g1 g2 g3 q1 a0 a1 a2 a3 a4 a5 a6 a7 qt ql qh qx n1 sg pg rw un K1 W1 T1 P1 R1 U1 hq hs 5 hst (by omega)) (cwV 1 C.1.2.2.2.2 gL_pages_X4_count rfl rfl rfl (by decide +kernel) ⟨Nat.le_of_ble_eq_true rfl, Nat.le_of_ble_eq_true rfl⟩) rfl (by decide) 0 rfl rfl rfl rfl (Nat.le_of_ble_eq_true rfl) dL_pages_540 ⟨Nat.le_of_ble_eq_true rfl, Nat.le_of_ble_eq_true rfl⟩) rfl rfl (by decide) (by decide) rfl (fun r_45 w_ hp_46 => ?_)
        obtain ⟨rfl, rfl⟩ := hp_46
        refine zj_ws (ws' := [(a3, .inl (cI, 16, .inl (zA ((zFin sg K1 W1 T1 n1).2.2.2.2.1)))), (a5, .inl (cI, 16, .inl (zA ((zFin sg K1 W1 T1 n1).2.2.2.2.2.2.1)))), (a6, .inl (cI, 16, .inl (zA ((zFin sg K1 W1 T1 n1).2.2.2.2.2.2.2.1)))), (a7, .inl (cI, 16, .inl (zA ((zFin sg K1 W1 T1 n1).2.2.2.1)))), (yb, .inl (cI, 24, .inl (zA Bl))), (yr, .inl (cI, 24, .inl (zA Rl))), (yu, .inl (cI, 24, .inl (zA Ul))), (yk, .inl (cI, 24, .inl (zA Kl))), (yw, .inl (cI, 24, .inl (zA Wl))), (yp, .inl (cI, 24, .inl (zA Pl))), (yt, .inl (cI, 2, .inl (zA ty))), (q0, .inr (4, [.ref q2, .ref q1, .ref qt, .ref ql, .ref qh, .ref qx])), (q2, .inr (2, [.ref g1, .ref g2, .ref g3, .int (zI n1), .int (zI sg)])), (q1, .inr (1, [.ref a0, .ref a1, .ref a2, .ref a3, .ref a4, .ref a5, .ref a6, .ref a7, .int (zI pg), .int (zI rw), .int (zI un), .int (zI ((zFin sg K1 W1 T1 n1).2.2.2.2.2.2.2.2.1)), .int (zI ((zFin sg K1 W1 T1 n1).2.2.2.2.2.2.2.2.2.1)), .int (zI ((zFin sg K1 W1 T1 n1).2.2.2.2.2.2.2.2.2.2)), .int (zI (zOut n1 sg K1 W1 T1))])), (a4, .inl (cI, 16, .inl (zA ((zFin sg K1 W1 T1 n1).2.2.2.2.2.1)))), (qh, .inr (0, [.ref hq, .int (zI hs)]))]) rfl ?_
        refine zj_st (st' := [.int (zI em)]) (by rw [zNc_5, hEm]) ?_
        refine zj_aload_n 544 1 C dL_pages_543 rfl rfl rfl ?_
        refine zj_aload_n 545 2 C dL_pages_544 rfl rfl rfl ?_
        refine zj_aload 547 4 C dL_pages_545 rfl rfl ?_
        refine zj_aload 549 7 C dL_pages_547 rfl rfl ?_
        refine zj_ci 552 [7, 8, 9, 10] [0, 1, 2, 3, 4, 5, 6, 11, 12, 13, 14, 15] C (wr := [(a3, .inl (cI, 16, .inl (zA ((zFin sg K1 W1 T1 n1).2.2.2.2.1)))), (a5, .inl (cI, 16, .inl (zA ((zFin sg K1 W1 T1 n1).2.2.2.2.2.2.1)))), (a6, .inl (cI, 16, .inl (zA ((zFin sg K1 W1 T1 n1).2.2.2.2.2.2.2.1)))), (a7, .inl (cI, 16, .inl (zA ((zFin sg K1 W1 T1 n1).2.2.2.1)))), (yb, .inl (cI, 24, .inl (zA Bl))), (yr, .inl (cI, 24, .inl (zA Rl))), (yu, .inl (cI, 24, .inl (zA Ul))), (q0, .inr (4, [.ref q2, .ref q1, .ref qt, .ref ql, .ref qh, .ref qx])), (q2, .inr (2, [.ref g1, .ref g2, .ref g3, .int (zI n1), .int (zI sg)])), (q1, .inr (1, [.ref a0, .ref a1, .ref a2, .ref a3, .ref a4, .ref a5, .ref a6, .ref a7, .int (zI pg), .int (zI rw), .int (zI un), .int (zI ((zFin sg K1 W1 T1 n1).2.2.2.2.2.2.2.2.1)), .int (zI ((zFin sg K1 W1 T1 n1).2.2.2.2.2.2.2.2.2.1)), .int (zI ((zFin sg K1 W1 T1 n1).2.2.2.2.2.2.2.2.2.2)), .int (zI (zOut n1 sg K1 W1 T1))])), (a4, .inl (cI, 16, .inl (zA ((zFin sg K1 W1 T1 n1).2.2.2.2.2.1)))), (qh, .inr (0, [.ref hq, .int (zI hs)]))]) (zr_S [7, 8, 9, 10] C (As := [.ref yk, .ref yw, .ref yp, .ref yt]) (rest := [.int (zI em)]) (c_L_whole l D cI cS cJ yk yw yp yt Kl Wl Bl Pl ty n1 sg hok2 ht hPl) (va_cwS 4 C.1.2.2.2.2 gL_pages_L_whole rfl rfl rfl (by decide +kernel) ⟨Nat.le_of_ble_eq_true rfl, Nat.le_of_ble_eq_true rfl⟩) rfl (by decide) rfl rfl (Nat.le_of_ble_eq_true rfl) dL_pages_549 ⟨Nat.le_of_ble_eq_true rfl, Nat.le_of_ble_eq_true rfl⟩) rfl rfl (by decide) (by decide) rfl (fun r_47 w_ hp_48 => ?_)
        obtain ⟨rfl, rfl⟩ := hp_48
        refine zj_ws (ws' := [(a3, .inl (cI, 16, .inl (zA ((zFin sg K1 W1 T1 n1).2.2.2.2.1)))), (a5, .inl (cI, 16, .inl (zA ((zFin sg K1 W1 T1 n1).2.2.2.2.2.2.1)))), (a6, .inl (cI, 16, .inl (zA ((zFin sg K1 W1 T1 n1).2.2.2.2.2.2.2.1)))), (a7, .inl (cI, 16, .inl (zA ((zFin sg K1 W1 T1 n1).2.2.2.1)))), (yb, .inl (cI, 24, .inl (zA Bl))), (yr, .inl (cI, 24, .inl (zA Rl))), (yu, .inl (cI, 24, .inl (zA Ul))), (q0, .inr (4, [.ref q2, .ref q1, .ref qt, .ref ql, .ref qh, .ref qx])), (q2, .inr (2, [.ref g1, .ref g2, .ref g3, .int (zI n1), .int (zI sg)])), (q1, .inr (1, [.ref a0, .ref a1, .ref a2, .ref a3, .ref a4, .ref a5, .ref a6, .ref a7, .int (zI pg), .int (zI rw), .int (zI un), .int (zI ((zFin sg K1 W1 T1 n1).2.2.2.2.2.2.2.2.1)), .int (zI ((zFin sg K1 W1 T1 n1).2.2.2.2.2.2.2.2.2.1)), .int (zI ((zFin sg K1 W1 T1 n1).2.2.2.2.2.2.2.2.2.2)), .int (zI (zOut n1 sg K1 W1 T1))])), (a4, .inl (cI, 16, .inl (zA ((zFin sg K1 W1 T1 n1).2.2.2.2.2.1)))), (qh, .inr (0, [.ref hq, .int (zI hs)])), (yk, .inl (cI, 24, .inl (zA Kl))), (yw, .inl (cI, 24, .inl (zA Wl))), (yp, .inl (cI, 24, .inl (zA Pl))), (yt, .inl (cI, 2, .inl (zA ty)))]) rfl ?_
        refine zj_sipush 555 C dL_pages_552 rfl rfl ?_
        refine zj_irem 556 C (by omega) (by omega) dL_pages_555 rfl ?_
        refine zj_st (st' := [.int (zI em), .int (zI em)]) (by rw [hcu.2.2.2, hEm]) ?_
        refine zj_icmp_ner 559 C 587 dL_pages_556 rfl (by decide) ?_
        refine zj_aload_n 560 0 C dL_pages_559 rfl rfl rfl ?_
        refine zj_bipush 562 C dL_pages_560 rfl rfl ?_
        refine zj_ci 565 [7, 8, 9, 10, 11] [0, 1, 2, 3, 4, 5, 6, 12, 13, 14, 15] C (wr := [(a3, .inl (cI, 16, .inl (zA ((zFin sg K1 W1 T1 n1).2.2.2.2.1)))), (a5, .inl (cI, 16, .inl (zA ((zFin sg K1 W1 T1 n1).2.2.2.2.2.2.1)))), (a6, .inl (cI, 16, .inl (zA ((zFin sg K1 W1 T1 n1).2.2.2.2.2.2.2.1)))), (a7, .inl (cI, 16, .inl (zA ((zFin sg K1 W1 T1 n1).2.2.2.1)))), (yb, .inl (cI, 24, .inl (zA Bl))), (yr, .inl (cI, 24, .inl (zA Rl))), (yu, .inl (cI, 24, .inl (zA Ul))), (yk, .inl (cI, 24, .inl (zA Kl))), (yw, .inl (cI, 24, .inl (zA Wl))), (yp, .inl (cI, 24, .inl (zA Pl))), (yt, .inl (cI, 2, .inl (zA ty)))]) (zr_V [7, 8, 9, 10, 11] C (As := [.int (zI 6)]) (rest := []) (c_X4_count l D cI cS cJ q0 q2 g1 g2 g3 q1 a0 a1 a2 a3 a4 a5 a6 a7 qt ql qh qx n1 sg pg rw un K1 W1 T1 P1 R1 U1 hq hs 6 hst (by omega)) (cwV 1 C.1.2.2.2.2 gL_pages_X4_count rfl rfl rfl (by decide +kernel) ⟨Nat.le_of_ble_eq_true rfl, Nat.le_of_ble_eq_true rfl⟩) rfl (by decide) 0 rfl rfl rfl rfl (Nat.le_of_ble_eq_true rfl) dL_pages_562 ⟨Nat.le_of_ble_eq_true rfl, Nat.le_of_ble_eq_true rfl⟩) rfl rfl (by decide) (by decide) rfl (fun r_49 w_ hp_50 => ?_)
        obtain ⟨rfl, rfl⟩ := hp_50
        refine zj_ws (ws' := [(a3, .inl (cI, 16, .inl (zA ((zFin sg K1 W1 T1 n1).2.2.2.2.1)))), (a5, .inl (cI, 16, .inl (zA ((zFin sg K1 W1 T1 n1).2.2.2.2.2.2.1)))), (a6, .inl (cI, 16, .inl (zA ((zFin sg K1 W1 T1 n1).2.2.2.2.2.2.2.1)))), (a7, .inl (cI, 16, .inl (zA ((zFin sg K1 W1 T1 n1).2.2.2.1)))), (yb, .inl (cI, 24, .inl (zA Bl))), (yr, .inl (cI, 24, .inl (zA Rl))), (yu, .inl (cI, 24, .inl (zA Ul))), (yk, .inl (cI, 24, .inl (zA Kl))), (yw, .inl (cI, 24, .inl (zA Wl))), (yp, .inl (cI, 24, .inl (zA Pl))), (yt, .inl (cI, 2, .inl (zA ty))), (q0, .inr (4, [.ref q2, .ref q1, .ref qt, .ref ql, .ref qh, .ref qx])), (q2, .inr (2, [.ref g1, .ref g2, .ref g3, .int (zI n1), .int (zI sg)])), (q1, .inr (1, [.ref a0, .ref a1, .ref a2, .ref a3, .ref a4, .ref a5, .ref a6, .ref a7, .int (zI pg), .int (zI rw), .int (zI un), .int (zI ((zFin sg K1 W1 T1 n1).2.2.2.2.2.2.2.2.1)), .int (zI ((zFin sg K1 W1 T1 n1).2.2.2.2.2.2.2.2.2.1)), .int (zI ((zFin sg K1 W1 T1 n1).2.2.2.2.2.2.2.2.2.2)), .int (zI (zOut n1 sg K1 W1 T1))])), (a4, .inl (cI, 16, .inl (zA ((zFin sg K1 W1 T1 n1).2.2.2.2.2.1)))), (qh, .inr (0, [.ref hq, .int (zI hs)]))]) rfl ?_
        refine zj_st (st' := [.int (zI ul)]) (by rw [zNc_6, hUl, hbb]) ?_
        refine zj_iload 567 9 C dL_pages_565 rfl rfl ?_
        refine zj_icmp_ner 570 C 587 dL_pages_567 rfl (by decide) ?_
        refine zj_aload_n 571 0 C dL_pages_570 rfl rfl rfl ?_
        refine zj_bipush 573 C dL_pages_571 rfl rfl ?_
        refine zj_ci 576 [11, 12, 13, 14, 15] [0, 1, 2, 3, 4, 5, 6, 7, 8, 9, 10] C (wr := [(a3, .inl (cI, 16, .inl (zA ((zFin sg K1 W1 T1 n1).2.2.2.2.1)))), (a5, .inl (cI, 16, .inl (zA ((zFin sg K1 W1 T1 n1).2.2.2.2.2.2.1)))), (a6, .inl (cI, 16, .inl (zA ((zFin sg K1 W1 T1 n1).2.2.2.2.2.2.2.1)))), (a7, .inl (cI, 16, .inl (zA ((zFin sg K1 W1 T1 n1).2.2.2.1)))), (yb, .inl (cI, 24, .inl (zA Bl))), (yr, .inl (cI, 24, .inl (zA Rl))), (yu, .inl (cI, 24, .inl (zA Ul))), (yk, .inl (cI, 24, .inl (zA Kl))), (yw, .inl (cI, 24, .inl (zA Wl))), (yp, .inl (cI, 24, .inl (zA Pl))), (yt, .inl (cI, 2, .inl (zA ty)))]) (zr_V [11, 12, 13, 14, 15] C (As := [.int (zI 7)]) (rest := []) (c_X4_count l D cI cS cJ q0 q2 g1 g2 g3 q1 a0 a1 a2 a3 a4 a5 a6 a7 qt ql qh qx n1 sg pg rw un K1 W1 T1 P1 R1 U1 hq hs 7 hst (by omega)) (cwV 1 C.1.2.2.2.2 gL_pages_X4_count rfl rfl rfl (by decide +kernel) ⟨Nat.le_of_ble_eq_true rfl, Nat.le_of_ble_eq_true rfl⟩) rfl (by decide) 0 rfl rfl rfl rfl (Nat.le_of_ble_eq_true rfl) dL_pages_573 ⟨Nat.le_of_ble_eq_true rfl, Nat.le_of_ble_eq_true rfl⟩) rfl rfl (by decide) (by decide) rfl (fun r_51 w_ hp_52 => ?_)
        obtain ⟨rfl, rfl⟩ := hp_52
        refine zj_ws (ws' := [(a3, .inl (cI, 16, .inl (zA ((zFin sg K1 W1 T1 n1).2.2.2.2.1)))), (a5, .inl (cI, 16, .inl (zA ((zFin sg K1 W1 T1 n1).2.2.2.2.2.2.1)))), (a6, .inl (cI, 16, .inl (zA ((zFin sg K1 W1 T1 n1).2.2.2.2.2.2.2.1)))), (a7, .inl (cI, 16, .inl (zA ((zFin sg K1 W1 T1 n1).2.2.2.1)))), (yb, .inl (cI, 24, .inl (zA Bl))), (yr, .inl (cI, 24, .inl (zA Rl))), (yu, .inl (cI, 24, .inl (zA Ul))), (yk, .inl (cI, 24, .inl (zA Kl))), (yw, .inl (cI, 24, .inl (zA Wl))), (yp, .inl (cI, 24, .inl (zA Pl))), (yt, .inl (cI, 2, .inl (zA ty))), (q0, .inr (4, [.ref q2, .ref q1, .ref qt, .ref ql, .ref qh, .ref qx])), (q2, .inr (2, [.ref g1, .ref g2, .ref g3, .int (zI n1), .int (zI sg)])), (q1, .inr (1, [.ref a0, .ref a1, .ref a2, .ref a3, .ref a4, .ref a5, .ref a6, .ref a7, .int (zI pg), .int (zI rw), .int (zI un), .int (zI ((zFin sg K1 W1 T1 n1).2.2.2.2.2.2.2.2.1)), .int (zI ((zFin sg K1 W1 T1 n1).2.2.2.2.2.2.2.2.2.1)), .int (zI ((zFin sg K1 W1 T1 n1).2.2.2.2.2.2.2.2.2.2)), .int (zI (zOut n1 sg K1 W1 T1))])), (a4, .inl (cI, 16, .inl (zA ((zFin sg K1 W1 T1 n1).2.2.2.2.2.1)))), (qh, .inr (0, [.ref hq, .int (zI hs)]))]) rfl ?_
        refine zj_st (st' := [.int (zI (ty 0))]) (by rw [zNc_7, ht.1]) ?_
        refine zj_aload 578 7 C dL_pages_576 rfl rfl ?_
        refine zj_iconst 579 C dL_pages_578 rfl ?_
        refine zj_iald 580 10 C (by omega) (by omega) rfl rfl dL_pages_579 rfl ?_
        refine zj_icmp_ner 583 C 587 dL_pages_580 rfl (by decide) ?_
        refine zj_iconst 584 C dL_pages_583 rfl ?_
        refine zj_goto 588 C dL_pages_584 (by decide) ?_
        refine zj_istore 590 [(15, .int (zI 1)), (0, .ref q0), (1, .ref yk), (2, .ref yw), (3, .ref yb), (4, .ref yp), (5, .ref yr), (6, .ref yu), (7, .ref yt), (8, .int (zI mo)), (9, .int (zI ul)), (10, .int (zI bk)), (11, .int (zI em)), (12, .int (zI fl)), (13, .int (zI uu)), (14, .int (zI bf))] C dL_pages_588 rfl (by decide) rfl ?_
        refine zj_iload 592 0 C dL_pages_590 rfl rfl ?_
        refine zj_if_eq 595 626 C (by omega) dL_pages_592 rfl (by decide) (fun h_53 => ?_) (fun h_53 => ?_)
        · exact absurd h_53 (by omega)
        · skip
          refine zj_aload_n 596 1 C dL_pages_595 rfl rfl rfl ?_
          refine zj_cd 599 [11, 13] [0, 1, 2, 3, 4, 5, 6, 7, 8, 9, 10, 12, 14, 15] C (wr := [(a3, .inl (cI, 16, .inl (zA ((zFin sg K1 W1 T1 n1).2.2.2.2.1)))), (a5, .inl (cI, 16, .inl (zA ((zFin sg K1 W1 T1 n1).2.2.2.2.2.2.1)))), (a6, .inl (cI, 16, .inl (zA ((zFin sg K1 W1 T1 n1).2.2.2.2.2.2.2.1)))), (a7, .inl (cI, 16, .inl (zA ((zFin sg K1 W1 T1 n1).2.2.2.1)))), (yb, .inl (cI, 24, .inl (zA Bl))), (yr, .inl (cI, 24, .inl (zA Rl))), (yu, .inl (cI, 24, .inl (zA Ul))), (yk, .inl (cI, 24, .inl (zA Kl))), (yw, .inl (cI, 24, .inl (zA Wl))), (yp, .inl (cI, 24, .inl (zA Pl))), (yt, .inl (cI, 2, .inl (zA ty))), (q2, .inr (2, [.ref g1, .ref g2, .ref g3, .int (zI n1), .int (zI sg)])), (a4, .inl (cI, 16, .inl (zA ((zFin sg K1 W1 T1 n1).2.2.2.2.2.1)))), (qh, .inr (0, [.ref hq, .int (zI hs)]))]) (zr_V [11, 13] C (As := []) (rest := []) (c_X4_fullness l D cI cS cJ q0 q2 g1 g2 g3 q1 a0 a1 a2 a3 a4 a5 a6 a7 qt ql qh qx n1 sg pg rw un K1 W1 T1 P1 R1 U1 hst) (cwV 0 C.1.2.2.2.2 gL_pages_X4_fullness rfl rfl rfl (by decide +kernel) ⟨Nat.le_of_ble_eq_true rfl, Nat.le_of_ble_eq_true rfl⟩) rfl (by decide) 0 rfl rfl rfl rfl (Nat.le_of_ble_eq_true rfl) dL_pages_596 ⟨Nat.le_of_ble_eq_true rfl, Nat.le_of_ble_eq_true rfl⟩) rfl rfl (by decide) (by decide) rfl (fun r_54 w_ hp_55 => ?_)
          obtain ⟨rfl, rfl⟩ := hp_55
          refine zj_ws (ws' := [(a3, .inl (cI, 16, .inl (zA ((zFin sg K1 W1 T1 n1).2.2.2.2.1)))), (a5, .inl (cI, 16, .inl (zA ((zFin sg K1 W1 T1 n1).2.2.2.2.2.2.1)))), (a6, .inl (cI, 16, .inl (zA ((zFin sg K1 W1 T1 n1).2.2.2.2.2.2.2.1)))), (a7, .inl (cI, 16, .inl (zA ((zFin sg K1 W1 T1 n1).2.2.2.1)))), (yb, .inl (cI, 24, .inl (zA Bl))), (yr, .inl (cI, 24, .inl (zA Rl))), (yu, .inl (cI, 24, .inl (zA Ul))), (yk, .inl (cI, 24, .inl (zA Kl))), (yw, .inl (cI, 24, .inl (zA Wl))), (yp, .inl (cI, 24, .inl (zA Pl))), (yt, .inl (cI, 2, .inl (zA ty))), (q2, .inr (2, [.ref g1, .ref g2, .ref g3, .int (zI n1), .int (zI sg)])), (a4, .inl (cI, 16, .inl (zA ((zFin sg K1 W1 T1 n1).2.2.2.2.2.1)))), (qh, .inr (0, [.ref hq, .int (zI hs)])), (q0, .inr (4, [.ref q2, .ref q1, .ref qt, .ref ql, .ref qh, .ref qx])), (q1, .inr (1, [.ref a0, .ref a1, .ref a2, .ref a3, .ref a4, .ref a5, .ref a6, .ref a7, .int (zI pg), .int (zI rw), .int (zI un), .int (zI ((zFin sg K1 W1 T1 n1).2.2.2.2.2.2.2.2.1)), .int (zI ((zFin sg K1 W1 T1 n1).2.2.2.2.2.2.2.2.2.1)), .int (zI ((zFin sg K1 W1 T1 n1).2.2.2.2.2.2.2.2.2.2)), .int (zI (zOut n1 sg K1 W1 T1))]))]) rfl ?_
          refine zj_iload 601 13 C dL_pages_599 rfl rfl ?_
          refine zj_if_ne 604 608 C (by omega) dL_pages_601 rfl (by decide) (fun h_56 => ?_) (fun h_56 => ?_)
          · skip
            refine zj_iload 610 13 C dL_pages_608 rfl rfl ?_
            refine zj_iload 612 12 C dL_pages_610 rfl rfl ?_
            refine zj_isub 613 C dL_pages_612 rfl ?_
            refine zj_i2d 614 C dL_pages_613 rfl ?_
            refine zj_iload 616 13 C dL_pages_614 rfl rfl ?_
            refine zj_i2d 617 C dL_pages_616 rfl ?_
            refine zj_ddiv 618 C (by rw [kSh hFl hEm (by omega)]; exact (zQk_n (zq_qk hst)).1) dL_pages_617 rfl ?_
            refine zj_st (st' := [.double (zSh n1 sg K1 W1 T1), .double (zSh n1 sg K1 W1 T1)]) (by rw [kSh hFl hEm (by omega)]) ?_
            refine zj_dcmp 619 C dL_pages_618 rfl ?_
            refine zj_st (st' := [.int (zI 0)]) (by rw [hdc]) ?_
            refine zj_if_ne 622 626 C (by omega) dL_pages_619 rfl (by decide) (fun h_57 => ?_) (fun h_57 => ?_)
            · exact absurd h_57 (by omega)
            · skip
              refine zj_iconst 623 C dL_pages_622 rfl ?_
              refine zj_goto 627 C dL_pages_623 (by decide) ?_
              refine zj_re [14, 11, 15, 0, 12, 1, 2, 3, 13, 7, 8, 4, 9, 5, 6, 10] [(q0, .inr (4, [.ref q2, .ref q1, .ref qt, .ref ql, .ref qh, .ref qx])), (q2, .inr (2, [.ref g1, .ref g2, .ref g3, .int (zI n1), .int (zI sg)])), (q1, .inr (1, [.ref a0, .ref a1, .ref a2, .ref a3, .ref a4, .ref a5, .ref a6, .ref a7, .int (zI pg), .int (zI rw), .int (zI un), .int (zI ((zFin sg K1 W1 T1 n1).2.2.2.2.2.2.2.2.1)), .int (zI ((zFin sg K1 W1 T1 n1).2.2.2.2.2.2.2.2.2.1)), .int (zI ((zFin sg K1 W1 T1 n1).2.2.2.2.2.2.2.2.2.2)), .int (zI (zOut n1 sg K1 W1 T1))])), (a3, .inl (cI, 16, .inl (zA ((zFin sg K1 W1 T1 n1).2.2.2.2.1)))), (a4, .inl (cI, 16, .inl (zA ((zFin sg K1 W1 T1 n1).2.2.2.2.2.1)))), (a5, .inl (cI, 16, .inl (zA ((zFin sg K1 W1 T1 n1).2.2.2.2.2.2.1)))), (a6, .inl (cI, 16, .inl (zA ((zFin sg K1 W1 T1 n1).2.2.2.2.2.2.2.1)))), (a7, .inl (cI, 16, .inl (zA ((zFin sg K1 W1 T1 n1).2.2.2.1)))), (qh, .inr (0, [.ref hq, .int (zI hs)])), (yk, .inl (cI, 24, .inl (zA Kl))), (yw, .inl (cI, 24, .inl (zA Wl))), (yb, .inl (cI, 24, .inl (zA Bl))), (yp, .inl (cI, 24, .inl (zA Pl))), (yr, .inl (cI, 24, .inl (zA Rl))), (yu, .inl (cI, 24, .inl (zA Ul))), (yt, .inl (cI, 2, .inl (zA ty)))] (by decide) rfl ?_
              subst hQ
              exact zj_zret C (zI_bool (by omega)) hr ⟨rfl, rfl⟩ (by decide) (by decide) dL_pages_627
          · skip
            refine zj_dconst1 605 C dL_pages_604 rfl ?_
            refine zj_goto 618 C dL_pages_605 (by decide) ?_
            refine zj_st (st' := [.double (zSh n1 sg K1 W1 T1), .double (zSh n1 sg K1 W1 T1)]) (by have h1 : FP.dconst1 = zSh n1 sg K1 W1 T1 := kSh1 hFl (by omega); exact congrArg (fun z => [Value.double z, .double (zSh n1 sg K1 W1 T1)]) h1) ?_
            refine zj_dcmp 619 C dL_pages_618 rfl ?_
            refine zj_st (st' := [.int (zI 0)]) (by rw [hdc]) ?_
            refine zj_if_ne 622 626 C (by omega) dL_pages_619 rfl (by decide) (fun h_58 => ?_) (fun h_58 => ?_)
            · exact absurd h_58 (by omega)
            · skip
              refine zj_iconst 623 C dL_pages_622 rfl ?_
              refine zj_goto 627 C dL_pages_623 (by decide) ?_
              refine zj_re [14, 11, 15, 0, 12, 1, 2, 3, 13, 7, 8, 4, 9, 5, 6, 10] [(q0, .inr (4, [.ref q2, .ref q1, .ref qt, .ref ql, .ref qh, .ref qx])), (q2, .inr (2, [.ref g1, .ref g2, .ref g3, .int (zI n1), .int (zI sg)])), (q1, .inr (1, [.ref a0, .ref a1, .ref a2, .ref a3, .ref a4, .ref a5, .ref a6, .ref a7, .int (zI pg), .int (zI rw), .int (zI un), .int (zI ((zFin sg K1 W1 T1 n1).2.2.2.2.2.2.2.2.1)), .int (zI ((zFin sg K1 W1 T1 n1).2.2.2.2.2.2.2.2.2.1)), .int (zI ((zFin sg K1 W1 T1 n1).2.2.2.2.2.2.2.2.2.2)), .int (zI (zOut n1 sg K1 W1 T1))])), (a3, .inl (cI, 16, .inl (zA ((zFin sg K1 W1 T1 n1).2.2.2.2.1)))), (a4, .inl (cI, 16, .inl (zA ((zFin sg K1 W1 T1 n1).2.2.2.2.2.1)))), (a5, .inl (cI, 16, .inl (zA ((zFin sg K1 W1 T1 n1).2.2.2.2.2.2.1)))), (a6, .inl (cI, 16, .inl (zA ((zFin sg K1 W1 T1 n1).2.2.2.2.2.2.2.1)))), (a7, .inl (cI, 16, .inl (zA ((zFin sg K1 W1 T1 n1).2.2.2.1)))), (qh, .inr (0, [.ref hq, .int (zI hs)])), (yk, .inl (cI, 24, .inl (zA Kl))), (yw, .inl (cI, 24, .inl (zA Wl))), (yb, .inl (cI, 24, .inl (zA Bl))), (yp, .inl (cI, 24, .inl (zA Pl))), (yr, .inl (cI, 24, .inl (zA Rl))), (yu, .inl (cI, 24, .inl (zA Ul))), (yt, .inl (cI, 2, .inl (zA ty)))] (by decide) rfl ?_
              subst hQ
              exact zj_zret C (zI_bool (by omega)) hr ⟨rfl, rfl⟩ (by decide) (by decide) dL_pages_627
      · skip
        refine zj_iconst 47 C dL_pages_46 rfl ?_
        refine zj_istore 49 [(16, .int (zI 0)), (0, .ref q0), (1, .ref yk), (2, .ref yw), (3, .ref yb), (4, .ref yp), (5, .ref yr), (6, .ref yu), (7, .ref yt), (8, .int (zI mo)), (9, .int (zI ul)), (10, .int (zI bk)), (11, .int (zI em)), (12, .int (zI fl)), (13, .int (zI uu)), (14, .int (zI bf)), (15, .int (zI (q : Int)))] C dL_pages_47 rfl (by decide) rfl ?_
        refine zj_iconst 50 C dL_pages_49 rfl ?_
        refine zj_istore 52 [(17, .int (zI 0)), (16, .int (zI 0)), (0, .ref q0), (1, .ref yk), (2, .ref yw), (3, .ref yb), (4, .ref yp), (5, .ref yr), (6, .ref yu), (7, .ref yt), (8, .int (zI mo)), (9, .int (zI ul)), (10, .int (zI bk)), (11, .int (zI em)), (12, .int (zI fl)), (13, .int (zI uu)), (14, .int (zI bf)), (15, .int (zI (q : Int)))] C dL_pages_50 rfl (by decide) rfl ?_
        refine zj_iconst 53 C dL_pages_52 rfl ?_
        refine zj_istore 55 [(18, .int (zI (-1))), (17, .int (zI 0)), (16, .int (zI 0)), (0, .ref q0), (1, .ref yk), (2, .ref yw), (3, .ref yb), (4, .ref yp), (5, .ref yr), (6, .ref yu), (7, .ref yt), (8, .int (zI mo)), (9, .int (zI ul)), (10, .int (zI bk)), (11, .int (zI em)), (12, .int (zI fl)), (13, .int (zI uu)), (14, .int (zI bf)), (15, .int (zI (q : Int)))] C dL_pages_53 rfl (by decide) rfl ?_
        refine zj_iconst 56 C dL_pages_55 rfl ?_
        refine zj_istore 58 [(19, .int (zI 0)), (18, .int (zI (-1))), (17, .int (zI 0)), (16, .int (zI 0)), (0, .ref q0), (1, .ref yk), (2, .ref yw), (3, .ref yb), (4, .ref yp), (5, .ref yr), (6, .ref yu), (7, .ref yt), (8, .int (zI mo)), (9, .int (zI ul)), (10, .int (zI bk)), (11, .int (zI em)), (12, .int (zI fl)), (13, .int (zI uu)), (14, .int (zI bf)), (15, .int (zI (q : Int)))] C dL_pages_56 rfl (by decide) rfl ?_
        refine zj_iconst 59 C dL_pages_58 rfl ?_
        refine zj_istore 61 [(20, .int (zI 0)), (19, .int (zI 0)), (18, .int (zI (-1))), (17, .int (zI 0)), (16, .int (zI 0)), (0, .ref q0), (1, .ref yk), (2, .ref yw), (3, .ref yb), (4, .ref yp), (5, .ref yr), (6, .ref yu), (7, .ref yt), (8, .int (zI mo)), (9, .int (zI ul)), (10, .int (zI bk)), (11, .int (zI em)), (12, .int (zI fl)), (13, .int (zI uu)), (14, .int (zI bf)), (15, .int (zI (q : Int)))] C dL_pages_59 rfl (by decide) rfl ?_
        refine zj_aload 63 12 C dL_pages_61 rfl rfl ?_
        refine zj_iconst 64 C dL_pages_63 rfl ?_
        refine zj_iald 65 15 C (by omega) (by omega) rfl rfl dL_pages_64 rfl ?_
        refine zj_iconst 66 C dL_pages_65 rfl ?_
        refine zj_isub 67 C dL_pages_66 rfl ?_
        refine zj_istore 69 [(21, .int (zI ((ty 1) - 1))), (20, .int (zI 0)), (19, .int (zI 0)), (18, .int (zI (-1))), (17, .int (zI 0)), (16, .int (zI 0)), (0, .ref q0), (1, .ref yk), (2, .ref yw), (3, .ref yb), (4, .ref yp), (5, .ref yr), (6, .ref yu), (7, .ref yt), (8, .int (zI mo)), (9, .int (zI ul)), (10, .int (zI bk)), (11, .int (zI em)), (12, .int (zI fl)), (13, .int (zI uu)), (14, .int (zI bf)), (15, .int (zI (q : Int)))] C dL_pages_67 rfl (by decide) rfl ?_
        have hL69 : ∀ (N69 : Nat) (mj : Nat) (mn : Int) (bt : Int) (f0 : Int) (bl : Int) (tn : Int), ((q : Int) < 16) → ((mj : Int) ≤ n1) → (mn = kMn Kl Pl q n1.toNat - kMn Kl Pl q mj) → (bt = kBs Bl Pl q n1.toNat - kBs Bl Pl q mj) → (kFst Kl Pl q n1 (mj : Int) f0) → (bl = zBo Kl Pl q n1.toNat - zBo Kl Pl q mj) → (tn = kTn Kl Wl Pl q n1.toNat - kTn Kl Wl Pl q mj) → ((0 ≤ mn ∧ mn + (mj : Int) ≤ n1) ∧ (0 ≤ bt ∧ bt + 9 * (mj : Int) ≤ 9 * n1) ∧ (0 ≤ bl ∧ bl + (mj : Int) ≤ n1) ∧ (0 ≤ tn ∧ tn + 24 * (mj : Int) ≤ 24 * n1) ∧ (-1 ≤ f0 ∧ f0 ≤ 24)) → ((mj : Int) < N69) → zJ p l e rm_L_pages s m args below meth c Q D A 23 [(q0, .inr (4, [.ref q2, .ref q1, .ref qt, .ref ql, .ref qh, .ref qx])), (q2, .inr (2, [.ref g1, .ref g2, .ref g3, .int (zI n1), .int (zI sg)])), (q1, .inr (1, [.ref a0, .ref a1, .ref a2, .ref a3, .ref a4, .ref a5, .ref a6, .ref a7, .int (zI pg), .int (zI rw), .int (zI un), .int (zI ((zFin sg K1 W1 T1 n1).2.2.2.2.2.2.2.2.1)), .int (zI ((zFin sg K1 W1 T1 n1).2.2.2.2.2.2.2.2.2.1)), .int (zI ((zFin sg K1 W1 T1 n1).2.2.2.2.2.2.2.2.2.2)), .int (zI (zOut n1 sg K1 W1 T1))])), (a3, .inl (cI, 16, .inl (zA ((zFin sg K1 W1 T1 n1).2.2.2.2.1)))), (a4, .inl (cI, 16, .inl (zA ((zFin sg K1 W1 T1 n1).2.2.2.2.2.1)))), (a5, .inl (cI, 16, .inl (zA ((zFin sg K1 W1 T1 n1).2.2.2.2.2.2.1)))), (a6, .inl (cI, 16, .inl (zA ((zFin sg K1 W1 T1 n1).2.2.2.2.2.2.2.1)))), (a7, .inl (cI, 16, .inl (zA ((zFin sg K1 W1 T1 n1).2.2.2.1)))), (qh, .inr (0, [.ref hq, .int (zI hs)])), (yk, .inl (cI, 24, .inl (zA Kl))), (yw, .inl (cI, 24, .inl (zA Wl))), (yb, .inl (cI, 24, .inl (zA Bl))), (yp, .inl (cI, 24, .inl (zA Pl))), (yr, .inl (cI, 24, .inl (zA Rl))), (yu, .inl (cI, 24, .inl (zA Ul))), (yt, .inl (cI, 2, .inl (zA ty)))] (0) (0) [(0, .ref q0), (1, .ref yk), (2, .ref yw), (3, .ref yb), (4, .ref yp), (5, .ref yr), (6, .ref yu), (7, .ref yt), (8, .int (zI mo)), (9, .int (zI ul)), (10, .int (zI bk)), (11, .int (zI em)), (12, .int (zI fl)), (13, .int (zI uu)), (14, .int (zI bf)), (15, .int (zI (q : Int))), (16, .int (zI mn)), (17, .int (zI bt)), (18, .int (zI f0)), (19, .int (zI bl)), (20, .int (zI tn)), (21, .int (zI ((mj : Int) - 1)))] 69 [] := by
          intro N69
          induction N69 with
          | zero => intro mj mn bt f0 bl tn hq2 hm hmn hbt hf0 hbl htn hmb hN69; exact absurd hN69 (by omega)
          | succ N69 ih69 =>
            intro mj mn bt f0 bl tn hq2 hm hmn hbt hf0 hbl htn hmb hN69
            have hL112 : ∀ (j : Nat), (mj = j + 1) → ((j : Int) < n1) → (kOn Kl Pl q j) → zJ p l e rm_L_pages s m args below meth c Q D A 23 [(q0, .inr (4, [.ref q2, .ref q1, .ref qt, .ref ql, .ref qh, .ref qx])), (q2, .inr (2, [.ref g1, .ref g2, .ref g3, .int (zI n1), .int (zI sg)])), (q1, .inr (1, [.ref a0, .ref a1, .ref a2, .ref a3, .ref a4, .ref a5, .ref a6, .ref a7, .int (zI pg), .int (zI rw), .int (zI un), .int (zI ((zFin sg K1 W1 T1 n1).2.2.2.2.2.2.2.2.1)), .int (zI ((zFin sg K1 W1 T1 n1).2.2.2.2.2.2.2.2.2.1)), .int (zI ((zFin sg K1 W1 T1 n1).2.2.2.2.2.2.2.2.2.2)), .int (zI (zOut n1 sg K1 W1 T1))])), (a3, .inl (cI, 16, .inl (zA ((zFin sg K1 W1 T1 n1).2.2.2.2.1)))), (a4, .inl (cI, 16, .inl (zA ((zFin sg K1 W1 T1 n1).2.2.2.2.2.1)))), (a5, .inl (cI, 16, .inl (zA ((zFin sg K1 W1 T1 n1).2.2.2.2.2.2.1)))), (a6, .inl (cI, 16, .inl (zA ((zFin sg K1 W1 T1 n1).2.2.2.2.2.2.2.1)))), (a7, .inl (cI, 16, .inl (zA ((zFin sg K1 W1 T1 n1).2.2.2.1)))), (qh, .inr (0, [.ref hq, .int (zI hs)])), (yk, .inl (cI, 24, .inl (zA Kl))), (yw, .inl (cI, 24, .inl (zA Wl))), (yb, .inl (cI, 24, .inl (zA Bl))), (yp, .inl (cI, 24, .inl (zA Pl))), (yr, .inl (cI, 24, .inl (zA Rl))), (yu, .inl (cI, 24, .inl (zA Ul))), (yt, .inl (cI, 2, .inl (zA ty)))] (0) (0) [(0, .ref q0), (1, .ref yk), (2, .ref yw), (3, .ref yb), (4, .ref yp), (5, .ref yr), (6, .ref yu), (7, .ref yt), (8, .int (zI mo)), (9, .int (zI ul)), (10, .int (zI bk)), (11, .int (zI em)), (12, .int (zI fl)), (13, .int (zI uu)), (14, .int (zI bf)), (15, .int (zI (q : Int))), (16, .int (zI mn)), (17, .int (zI bt)), (18, .int (zI f0)), (19, .int (zI bl)), (20, .int (zI tn)), (21, .int (zI (j : Int)))] 112 [] := by
              intro j hmj hjn hon
              subst hmj
              have hkj := hok2.2.2 j (by omega) (by omega)
              have hpj := hPb j (by omega)
              refine zj_iconst 113 C dL_pages_112 rfl ?_
              refine zj_goto 117 C dL_pages_113 (by decide) ?_
              refine zj_istore 119 [(22, .int (zI 1)), (0, .ref q0), (1, .ref yk), (2, .ref yw), (3, .ref yb), (4, .ref yp), (5, .ref yr), (6, .ref yu), (7, .ref yt), (8, .int (zI mo)), (9, .int (zI ul)), (10, .int (zI bk)), (11, .int (zI em)), (12, .int (zI fl)), (13, .int (zI uu)), (14, .int (zI bf)), (15, .int (zI (q : Int))), (16, .int (zI mn)), (17, .int (zI bt)), (18, .int (zI f0)), (19, .int (zI bl)), (20, .int (zI tn)), (21, .int (zI (j : Int)))] C dL_pages_117 rfl (by decide) rfl ?_
              refine zj_iload 121 17 C dL_pages_119 rfl rfl ?_
              refine zj_iload 123 0 C dL_pages_121 rfl rfl ?_
              refine zj_if_eq 126 130 C (by omega) dL_pages_123 rfl (by decide) (fun h_59 => ?_) (fun h_59 => ?_)
              · exact absurd h_59 (by omega)
              · skip
                refine zj_iconst 127 C dL_pages_126 rfl ?_
                refine zj_goto 131 C dL_pages_127 (by decide) ?_
                refine zj_iadd 132 C dL_pages_131 rfl ?_
                refine zj_istore 134 [(16, .int (zI (mn + 1))), (22, .int (zI 1)), (0, .ref q0), (1, .ref yk), (2, .ref yw), (3, .ref yb), (4, .ref yp), (5, .ref yr), (6, .ref yu), (7, .ref yt), (8, .int (zI mo)), (9, .int (zI ul)), (10, .int (zI bk)), (11, .int (zI em)), (12, .int (zI fl)), (13, .int (zI uu)), (14, .int (zI bf)), (15, .int (zI (q : Int))), (17, .int (zI bt)), (18, .int (zI f0)), (19, .int (zI bl)), (20, .int (zI tn)), (21, .int (zI (j : Int)))] C dL_pages_132 rfl (by decide) rfl ?_
                refine zj_iload 136 18 C dL_pages_134 rfl rfl ?_
                refine zj_aload 138 6 C dL_pages_136 rfl rfl ?_
                refine zj_iload 140 22 C dL_pages_138 rfl rfl ?_
                refine zj_iald 141 12 C (by omega) (by omega) rfl rfl dL_pages_140 rfl ?_
                refine zj_iload 143 17 C dL_pages_141 rfl rfl ?_
                refine zj_icmp_ne 146 153 C (by omega) (by omega) dL_pages_143 rfl (by decide) (fun h_60 => ?_) (fun h_60 => ?_)
                · skip
                  refine zj_iconst 154 C dL_pages_153 rfl ?_
                  refine zj_iadd 155 C dL_pages_154 rfl ?_
                  refine zj_istore 157 [(17, .int (zI (bt + 0))), (16, .int (zI (mn + 1))), (22, .int (zI 1)), (0, .ref q0), (1, .ref yk), (2, .ref yw), (3, .ref yb), (4, .ref yp), (5, .ref yr), (6, .ref yu), (7, .ref yt), (8, .int (zI mo)), (9, .int (zI ul)), (10, .int (zI bk)), (11, .int (zI em)), (12, .int (zI fl)), (13, .int (zI uu)), (14, .int (zI bf)), (15, .int (zI (q : Int))), (18, .int (zI f0)), (19, .int (zI bl)), (20, .int (zI tn)), (21, .int (zI (j : Int)))] C dL_pages_155 rfl (by decide) rfl ?_
                  refine zj_iload 159 2 C dL_pages_157 rfl rfl ?_
                  refine zj_if_eq 162 167 C (by omega) dL_pages_159 rfl (by decide) (fun h_61 => ?_) (fun h_61 => ?_)
                  · exact absurd h_61 (by omega)
                  · skip
                    refine zj_iload 164 22 C dL_pages_162 rfl rfl ?_
                    refine zj_goto 169 C dL_pages_164 (by decide) ?_
                    refine zj_istore 171 [(18, .int (zI (j : Int))), (17, .int (zI (bt + 0))), (16, .int (zI (mn + 1))), (22, .int (zI 1)), (0, .ref q0), (1, .ref yk), (2, .ref yw), (3, .ref yb), (4, .ref yp), (5, .ref yr), (6, .ref yu), (7, .ref yt), (8, .int (zI mo)), (9, .int (zI ul)), (10, .int (zI bk)), (11, .int (zI em)), (12, .int (zI fl)), (13, .int (zI uu)), (14, .int (zI bf)), (15, .int (zI (q : Int))), (19, .int (zI bl)), (20, .int (zI tn)), (21, .int (zI (j : Int)))] C dL_pages_169 rfl (by decide) rfl ?_
                    refine zj_iload 173 20 C dL_pages_171 rfl rfl ?_
                    refine zj_iload 175 3 C dL_pages_173 rfl rfl ?_
                    refine zj_if_eq 178 190 C (by omega) dL_pages_175 rfl (by decide) (fun h_62 => ?_) (fun h_62 => ?_)
                    · exact absurd h_62 (by omega)
                    · skip
                      refine zj_aload_n 179 5 C dL_pages_178 rfl rfl rfl ?_
                      refine zj_iload 181 22 C dL_pages_179 rfl rfl ?_
                      refine zj_iald 182 9 C (by omega) (by omega) rfl rfl dL_pages_181 rfl ?_
                      refine zj_iconst 183 C dL_pages_182 rfl ?_
                      refine zj_icmp_ne 186 190 C (by omega) (by omega) dL_pages_183 rfl (by decide) (fun h_63 => ?_) (fun h_63 => ?_)
                      · skip
                        refine zj_iconst 191 C dL_pages_190 rfl ?_
                        refine zj_iadd 192 C dL_pages_191 rfl ?_
                        refine zj_istore 194 [(19, .int (zI (bl + 0))), (18, .int (zI (j : Int))), (17, .int (zI (bt + 0))), (16, .int (zI (mn + 1))), (22, .int (zI 1)), (0, .ref q0), (1, .ref yk), (2, .ref yw), (3, .ref yb), (4, .ref yp), (5, .ref yr), (6, .ref yu), (7, .ref yt), (8, .int (zI mo)), (9, .int (zI ul)), (10, .int (zI bk)), (11, .int (zI em)), (12, .int (zI fl)), (13, .int (zI uu)), (14, .int (zI bf)), (15, .int (zI (q : Int))), (20, .int (zI tn)), (21, .int (zI (j : Int)))] C dL_pages_192 rfl (by decide) rfl ?_
                        refine zj_iload 196 21 C dL_pages_194 rfl rfl ?_
                        refine zj_iload 198 4 C dL_pages_196 rfl rfl ?_
                        refine zj_if_ne 201 205 C (by omega) dL_pages_198 rfl (by decide) (fun h_64 => ?_) (fun h_64 => ?_)
                        · skip
                          refine zj_aload_n 206 6 C dL_pages_205 rfl rfl rfl ?_
                          refine zj_iload 208 22 C dL_pages_206 rfl rfl ?_
                          refine zj_iald 209 9 C (by omega) (by omega) rfl rfl dL_pages_208 rfl ?_
                          refine zj_iconst 210 C dL_pages_209 rfl ?_
                          refine zj_icmp_le 213 218 C (by omega) (by omega) dL_pages_210 rfl (by decide) (fun h_65 => ?_) (fun h_65 => ?_)
                          · skip
                            refine zj_aload_n 219 7 C dL_pages_218 rfl rfl rfl ?_
                            refine zj_iload 221 22 C dL_pages_219 rfl rfl ?_
                            refine zj_iald 222 10 C (by omega) (by omega) rfl rfl dL_pages_221 rfl ?_
                            refine zj_iadd 223 C dL_pages_222 rfl ?_
                            refine zj_istore 225 [(20, .int (zI (tn + (Wl (j : Int))))), (19, .int (zI (bl + 0))), (18, .int (zI (j : Int))), (17, .int (zI (bt + 0))), (16, .int (zI (mn + 1))), (22, .int (zI 1)), (0, .ref q0), (1, .ref yk), (2, .ref yw), (3, .ref yb), (4, .ref yp), (5, .ref yr), (6, .ref yu), (7, .ref yt), (8, .int (zI mo)), (9, .int (zI ul)), (10, .int (zI bk)), (11, .int (zI em)), (12, .int (zI fl)), (13, .int (zI uu)), (14, .int (zI bf)), (15, .int (zI (q : Int))), (21, .int (zI (j : Int)))] C dL_pages_223 rfl (by decide) rfl ?_
                            refine zj_iinc 228 22 [(21, .int (zI ((j : Int) + (-1)))), (20, .int (zI (tn + (Wl (j : Int))))), (19, .int (zI (bl + 0))), (18, .int (zI (j : Int))), (17, .int (zI (bt + 0))), (16, .int (zI (mn + 1))), (22, .int (zI 1)), (0, .ref q0), (1, .ref yk), (2, .ref yw), (3, .ref yb), (4, .ref yp), (5, .ref yr), (6, .ref yu), (7, .ref yt), (8, .int (zI mo)), (9, .int (zI ul)), (10, .int (zI bk)), (11, .int (zI em)), (12, .int (zI fl)), (13, .int (zI uu)), (14, .int (zI bf)), (15, .int (zI (q : Int)))] C dL_pages_225 rfl rfl (by decide) rfl ?_
                            refine zj_goto 69 C dL_pages_228 (by decide) ?_
                            refine zj_lv [7, 8, 9, 10, 11, 12, 13, 14, 15, 16, 17, 18, 19, 20, 21, 22, 5, 4, 3, 2, 1, 0] [(0, .ref q0), (1, .ref yk), (2, .ref yw), (3, .ref yb), (4, .ref yp), (5, .ref yr), (6, .ref yu), (7, .ref yt), (8, .int (zI mo)), (9, .int (zI ul)), (10, .int (zI bk)), (11, .int (zI em)), (12, .int (zI fl)), (13, .int (zI uu)), (14, .int (zI bf)), (15, .int (zI (q : Int))), (16, .int (zI (mn + 1))), (17, .int (zI (bt + 0))), (18, .int (zI (j : Int))), (19, .int (zI (bl + 0))), (20, .int (zI (tn + (Wl (j : Int))))), (21, .int (zI ((j : Int) + (-1))))] rfl ?_
                            refine zj_eqlv (lv' := [(0, .ref q0), (1, .ref yk), (2, .ref yw), (3, .ref yb), (4, .ref yp), (5, .ref yr), (6, .ref yu), (7, .ref yt), (8, .int (zI mo)), (9, .int (zI ul)), (10, .int (zI bk)), (11, .int (zI em)), (12, .int (zI fl)), (13, .int (zI uu)), (14, .int (zI bf)), (15, .int (zI (q : Int))), (16, .int (zI (mn + 1))), (17, .int (zI (bt + 0))), (18, .int (zI (j : Int))), (19, .int (zI (bl + 0))), (20, .int (zI (tn + (Wl (j : Int))))), (21, .int (zI ((j : Int) - 1)))]) (by first | rfl | rw [Int.sub_eq_add_neg]) ?_
                            exact ih69 j (mn + 1) (bt + 0) (j : Int) (bl + 0) (tn + (Wl (j : Int))) (by omega) (by omega) (by rw [kMn] at hmn; rw [if_pos hon] at hmn; omega) (by rw [kBs] at hbt; split at hbt <;> omega) (by exact kFst_y (f0 := f0) (by omega) hon) (by rw [zBo] at hbl; split at hbl <;> (unfold kOn at hon; omega)) (by rw [kTn] at htn; rw [if_pos hon] at htn; split at htn <;> omega) (by omega) (by omega)
                          · skip
                            refine zj_bipush 215 C dL_pages_213 rfl rfl ?_
                            refine zj_goto 222 C dL_pages_215 (by decide) ?_
                            refine zj_iadd 223 C dL_pages_222 rfl ?_
                            refine zj_istore 225 [(20, .int (zI (tn + 24))), (19, .int (zI (bl + 0))), (18, .int (zI (j : Int))), (17, .int (zI (bt + 0))), (16, .int (zI (mn + 1))), (22, .int (zI 1)), (0, .ref q0), (1, .ref yk), (2, .ref yw), (3, .ref yb), (4, .ref yp), (5, .ref yr), (6, .ref yu), (7, .ref yt), (8, .int (zI mo)), (9, .int (zI ul)), (10, .int (zI bk)), (11, .int (zI em)), (12, .int (zI fl)), (13, .int (zI uu)), (14, .int (zI bf)), (15, .int (zI (q : Int))), (21, .int (zI (j : Int)))] C dL_pages_223 rfl (by decide) rfl ?_
                            refine zj_iinc 228 22 [(21, .int (zI ((j : Int) + (-1)))), (20, .int (zI (tn + 24))), (19, .int (zI (bl + 0))), (18, .int (zI (j : Int))), (17, .int (zI (bt + 0))), (16, .int (zI (mn + 1))), (22, .int (zI 1)), (0, .ref q0), (1, .ref yk), (2, .ref yw), (3, .ref yb), (4, .ref yp), (5, .ref yr), (6, .ref yu), (7, .ref yt), (8, .int (zI mo)), (9, .int (zI ul)), (10, .int (zI bk)), (11, .int (zI em)), (12, .int (zI fl)), (13, .int (zI uu)), (14, .int (zI bf)), (15, .int (zI (q : Int)))] C dL_pages_225 rfl rfl (by decide) rfl ?_
                            refine zj_goto 69 C dL_pages_228 (by decide) ?_
                            refine zj_lv [7, 8, 9, 10, 11, 12, 13, 14, 15, 16, 17, 18, 19, 20, 21, 22, 5, 4, 3, 2, 1, 0] [(0, .ref q0), (1, .ref yk), (2, .ref yw), (3, .ref yb), (4, .ref yp), (5, .ref yr), (6, .ref yu), (7, .ref yt), (8, .int (zI mo)), (9, .int (zI ul)), (10, .int (zI bk)), (11, .int (zI em)), (12, .int (zI fl)), (13, .int (zI uu)), (14, .int (zI bf)), (15, .int (zI (q : Int))), (16, .int (zI (mn + 1))), (17, .int (zI (bt + 0))), (18, .int (zI (j : Int))), (19, .int (zI (bl + 0))), (20, .int (zI (tn + 24))), (21, .int (zI ((j : Int) + (-1))))] rfl ?_
                            refine zj_eqlv (lv' := [(0, .ref q0), (1, .ref yk), (2, .ref yw), (3, .ref yb), (4, .ref yp), (5, .ref yr), (6, .ref yu), (7, .ref yt), (8, .int (zI mo)), (9, .int (zI ul)), (10, .int (zI bk)), (11, .int (zI em)), (12, .int (zI fl)), (13, .int (zI uu)), (14, .int (zI bf)), (15, .int (zI (q : Int))), (16, .int (zI (mn + 1))), (17, .int (zI (bt + 0))), (18, .int (zI (j : Int))), (19, .int (zI (bl + 0))), (20, .int (zI (tn + 24))), (21, .int (zI ((j : Int) - 1)))]) (by first | rfl | rw [Int.sub_eq_add_neg]) ?_
                            exact ih69 j (mn + 1) (bt + 0) (j : Int) (bl + 0) (tn + 24) (by omega) (by omega) (by rw [kMn] at hmn; rw [if_pos hon] at hmn; omega) (by rw [kBs] at hbt; split at hbt <;> omega) (by exact kFst_y (f0 := f0) (by omega) hon) (by rw [zBo] at hbl; split at hbl <;> (unfold kOn at hon; omega)) (by rw [kTn] at htn; rw [if_pos hon] at htn; split at htn <;> omega) (by omega) (by omega)
                        · exact absurd h_64 (by omega)
                      · skip
                        refine zj_iconst 187 C dL_pages_186 rfl ?_
                        refine zj_goto 191 C dL_pages_187 (by decide) ?_
                        refine zj_iadd 192 C dL_pages_191 rfl ?_
                        refine zj_istore 194 [(19, .int (zI (bl + 1))), (18, .int (zI (j : Int))), (17, .int (zI (bt + 0))), (16, .int (zI (mn + 1))), (22, .int (zI 1)), (0, .ref q0), (1, .ref yk), (2, .ref yw), (3, .ref yb), (4, .ref yp), (5, .ref yr), (6, .ref yu), (7, .ref yt), (8, .int (zI mo)), (9, .int (zI ul)), (10, .int (zI bk)), (11, .int (zI em)), (12, .int (zI fl)), (13, .int (zI uu)), (14, .int (zI bf)), (15, .int (zI (q : Int))), (20, .int (zI tn)), (21, .int (zI (j : Int)))] C dL_pages_192 rfl (by decide) rfl ?_
                        refine zj_iload 196 21 C dL_pages_194 rfl rfl ?_
                        refine zj_iload 198 4 C dL_pages_196 rfl rfl ?_
                        refine zj_if_ne 201 205 C (by omega) dL_pages_198 rfl (by decide) (fun h_66 => ?_) (fun h_66 => ?_)
                        · skip
                          refine zj_aload_n 206 6 C dL_pages_205 rfl rfl rfl ?_
                          refine zj_iload 208 22 C dL_pages_206 rfl rfl ?_
                          refine zj_iald 209 9 C (by omega) (by omega) rfl rfl dL_pages_208 rfl ?_
                          refine zj_iconst 210 C dL_pages_209 rfl ?_
                          refine zj_icmp_le 213 218 C (by omega) (by omega) dL_pages_210 rfl (by decide) (fun h_67 => ?_) (fun h_67 => ?_)
                          · skip
                            refine zj_aload_n 219 7 C dL_pages_218 rfl rfl rfl ?_
                            refine zj_iload 221 22 C dL_pages_219 rfl rfl ?_
                            refine zj_iald 222 10 C (by omega) (by omega) rfl rfl dL_pages_221 rfl ?_
                            refine zj_iadd 223 C dL_pages_222 rfl ?_
                            refine zj_istore 225 [(20, .int (zI (tn + (Wl (j : Int))))), (19, .int (zI (bl + 1))), (18, .int (zI (j : Int))), (17, .int (zI (bt + 0))), (16, .int (zI (mn + 1))), (22, .int (zI 1)), (0, .ref q0), (1, .ref yk), (2, .ref yw), (3, .ref yb), (4, .ref yp), (5, .ref yr), (6, .ref yu), (7, .ref yt), (8, .int (zI mo)), (9, .int (zI ul)), (10, .int (zI bk)), (11, .int (zI em)), (12, .int (zI fl)), (13, .int (zI uu)), (14, .int (zI bf)), (15, .int (zI (q : Int))), (21, .int (zI (j : Int)))] C dL_pages_223 rfl (by decide) rfl ?_
                            refine zj_iinc 228 22 [(21, .int (zI ((j : Int) + (-1)))), (20, .int (zI (tn + (Wl (j : Int))))), (19, .int (zI (bl + 1))), (18, .int (zI (j : Int))), (17, .int (zI (bt + 0))), (16, .int (zI (mn + 1))), (22, .int (zI 1)), (0, .ref q0), (1, .ref yk), (2, .ref yw), (3, .ref yb), (4, .ref yp), (5, .ref yr), (6, .ref yu), (7, .ref yt), (8, .int (zI mo)), (9, .int (zI ul)), (10, .int (zI bk)), (11, .int (zI em)), (12, .int (zI fl)), (13, .int (zI uu)), (14, .int (zI bf)), (15, .int (zI (q : Int)))] C dL_pages_225 rfl rfl (by decide) rfl ?_
                            refine zj_goto 69 C dL_pages_228 (by decide) ?_
                            refine zj_lv [7, 8, 9, 10, 11, 12, 13, 14, 15, 16, 17, 18, 19, 20, 21, 22, 5, 4, 3, 2, 1, 0] [(0, .ref q0), (1, .ref yk), (2, .ref yw), (3, .ref yb), (4, .ref yp), (5, .ref yr), (6, .ref yu), (7, .ref yt), (8, .int (zI mo)), (9, .int (zI ul)), (10, .int (zI bk)), (11, .int (zI em)), (12, .int (zI fl)), (13, .int (zI uu)), (14, .int (zI bf)), (15, .int (zI (q : Int))), (16, .int (zI (mn + 1))), (17, .int (zI (bt + 0))), (18, .int (zI (j : Int))), (19, .int (zI (bl + 1))), (20, .int (zI (tn + (Wl (j : Int))))), (21, .int (zI ((j : Int) + (-1))))] rfl ?_
                            refine zj_eqlv (lv' := [(0, .ref q0), (1, .ref yk), (2, .ref yw), (3, .ref yb), (4, .ref yp), (5, .ref yr), (6, .ref yu), (7, .ref yt), (8, .int (zI mo)), (9, .int (zI ul)), (10, .int (zI bk)), (11, .int (zI em)), (12, .int (zI fl)), (13, .int (zI uu)), (14, .int (zI bf)), (15, .int (zI (q : Int))), (16, .int (zI (mn + 1))), (17, .int (zI (bt + 0))), (18, .int (zI (j : Int))), (19, .int (zI (bl + 1))), (20, .int (zI (tn + (Wl (j : Int))))), (21, .int (zI ((j : Int) - 1)))]) (by first | rfl | rw [Int.sub_eq_add_neg]) ?_
                            exact ih69 j (mn + 1) (bt + 0) (j : Int) (bl + 1) (tn + (Wl (j : Int))) (by omega) (by omega) (by rw [kMn] at hmn; rw [if_pos hon] at hmn; omega) (by rw [kBs] at hbt; split at hbt <;> omega) (by exact kFst_y (f0 := f0) (by omega) hon) (by rw [zBo] at hbl; split at hbl <;> (unfold kOn at hon; omega)) (by rw [kTn] at htn; rw [if_pos hon] at htn; split at htn <;> omega) (by omega) (by omega)
                          · skip
                            refine zj_bipush 215 C dL_pages_213 rfl rfl ?_
                            refine zj_goto 222 C dL_pages_215 (by decide) ?_
                            refine zj_iadd 223 C dL_pages_222 rfl ?_
                            refine zj_istore 225 [(20, .int (zI (tn + 24))), (19, .int (zI (bl + 1))), (18, .int (zI (j : Int))), (17, .int (zI (bt + 0))), (16, .int (zI (mn + 1))), (22, .int (zI 1)), (0, .ref q0), (1, .ref yk), (2, .ref yw), (3, .ref yb), (4, .ref yp), (5, .ref yr), (6, .ref yu), (7, .ref yt), (8, .int (zI mo)), (9, .int (zI ul)), (10, .int (zI bk)), (11, .int (zI em)), (12, .int (zI fl)), (13, .int (zI uu)), (14, .int (zI bf)), (15, .int (zI (q : Int))), (21, .int (zI (j : Int)))] C dL_pages_223 rfl (by decide) rfl ?_
                            refine zj_iinc 228 22 [(21, .int (zI ((j : Int) + (-1)))), (20, .int (zI (tn + 24))), (19, .int (zI (bl + 1))), (18, .int (zI (j : Int))), (17, .int (zI (bt + 0))), (16, .int (zI (mn + 1))), (22, .int (zI 1)), (0, .ref q0), (1, .ref yk), (2, .ref yw), (3, .ref yb), (4, .ref yp), (5, .ref yr), (6, .ref yu), (7, .ref yt), (8, .int (zI mo)), (9, .int (zI ul)), (10, .int (zI bk)), (11, .int (zI em)), (12, .int (zI fl)), (13, .int (zI uu)), (14, .int (zI bf)), (15, .int (zI (q : Int)))] C dL_pages_225 rfl rfl (by decide) rfl ?_
                            refine zj_goto 69 C dL_pages_228 (by decide) ?_
                            refine zj_lv [7, 8, 9, 10, 11, 12, 13, 14, 15, 16, 17, 18, 19, 20, 21, 22, 5, 4, 3, 2, 1, 0] [(0, .ref q0), (1, .ref yk), (2, .ref yw), (3, .ref yb), (4, .ref yp), (5, .ref yr), (6, .ref yu), (7, .ref yt), (8, .int (zI mo)), (9, .int (zI ul)), (10, .int (zI bk)), (11, .int (zI em)), (12, .int (zI fl)), (13, .int (zI uu)), (14, .int (zI bf)), (15, .int (zI (q : Int))), (16, .int (zI (mn + 1))), (17, .int (zI (bt + 0))), (18, .int (zI (j : Int))), (19, .int (zI (bl + 1))), (20, .int (zI (tn + 24))), (21, .int (zI ((j : Int) + (-1))))] rfl ?_
                            refine zj_eqlv (lv' := [(0, .ref q0), (1, .ref yk), (2, .ref yw), (3, .ref yb), (4, .ref yp), (5, .ref yr), (6, .ref yu), (7, .ref yt), (8, .int (zI mo)), (9, .int (zI ul)), (10, .int (zI bk)), (11, .int (zI em)), (12, .int (zI fl)), (13, .int (zI uu)), (14, .int (zI bf)), (15, .int (zI (q : Int))), (16, .int (zI (mn + 1))), (17, .int (zI (bt + 0))), (18, .int (zI (j : Int))), (19, .int (zI (bl + 1))), (20, .int (zI (tn + 24))), (21, .int (zI ((j : Int) - 1)))]) (by first | rfl | rw [Int.sub_eq_add_neg]) ?_
                            exact ih69 j (mn + 1) (bt + 0) (j : Int) (bl + 1) (tn + 24) (by omega) (by omega) (by rw [kMn] at hmn; rw [if_pos hon] at hmn; omega) (by rw [kBs] at hbt; split at hbt <;> omega) (by exact kFst_y (f0 := f0) (by omega) hon) (by rw [zBo] at hbl; split at hbl <;> (unfold kOn at hon; omega)) (by rw [kTn] at htn; rw [if_pos hon] at htn; split at htn <;> omega) (by omega) (by omega)
                        · exact absurd h_66 (by omega)
                · skip
                  refine zj_aload_n 147 5 C dL_pages_146 rfl rfl rfl ?_
                  refine zj_iload 149 22 C dL_pages_147 rfl rfl ?_
                  refine zj_iald 150 11 C (by omega) (by omega) rfl rfl dL_pages_149 rfl ?_
                  refine zj_goto 154 C dL_pages_150 (by decide) ?_
                  refine zj_iadd 155 C dL_pages_154 rfl ?_
                  refine zj_istore 157 [(17, .int (zI (bt + (Bl (j : Int))))), (16, .int (zI (mn + 1))), (22, .int (zI 1)), (0, .ref q0), (1, .ref yk), (2, .ref yw), (3, .ref yb), (4, .ref yp), (5, .ref yr), (6, .ref yu), (7, .ref yt), (8, .int (zI mo)), (9, .int (zI ul)), (10, .int (zI bk)), (11, .int (zI em)), (12, .int (zI fl)), (13, .int (zI uu)), (14, .int (zI bf)), (15, .int (zI (q : Int))), (18, .int (zI f0)), (19, .int (zI bl)), (20, .int (zI tn)), (21, .int (zI (j : Int)))] C dL_pages_155 rfl (by decide) rfl ?_
                  refine zj_iload 159 2 C dL_pages_157 rfl rfl ?_
                  refine zj_if_eq 162 167 C (by omega) dL_pages_159 rfl (by decide) (fun h_68 => ?_) (fun h_68 => ?_)
                  · exact absurd h_68 (by omega)
                  · skip
                    refine zj_iload 164 22 C dL_pages_162 rfl rfl ?_
                    refine zj_goto 169 C dL_pages_164 (by decide) ?_
                    refine zj_istore 171 [(18, .int (zI (j : Int))), (17, .int (zI (bt + (Bl (j : Int))))), (16, .int (zI (mn + 1))), (22, .int (zI 1)), (0, .ref q0), (1, .ref yk), (2, .ref yw), (3, .ref yb), (4, .ref yp), (5, .ref yr), (6, .ref yu), (7, .ref yt), (8, .int (zI mo)), (9, .int (zI ul)), (10, .int (zI bk)), (11, .int (zI em)), (12, .int (zI fl)), (13, .int (zI uu)), (14, .int (zI bf)), (15, .int (zI (q : Int))), (19, .int (zI bl)), (20, .int (zI tn)), (21, .int (zI (j : Int)))] C dL_pages_169 rfl (by decide) rfl ?_
                    refine zj_iload 173 20 C dL_pages_171 rfl rfl ?_
                    refine zj_iload 175 3 C dL_pages_173 rfl rfl ?_
                    refine zj_if_eq 178 190 C (by omega) dL_pages_175 rfl (by decide) (fun h_69 => ?_) (fun h_69 => ?_)
                    · exact absurd h_69 (by omega)
                    · skip
                      refine zj_aload_n 179 5 C dL_pages_178 rfl rfl rfl ?_
                      refine zj_iload 181 22 C dL_pages_179 rfl rfl ?_
                      refine zj_iald 182 9 C (by omega) (by omega) rfl rfl dL_pages_181 rfl ?_
                      refine zj_iconst 183 C dL_pages_182 rfl ?_
                      refine zj_icmp_ne 186 190 C (by omega) (by omega) dL_pages_183 rfl (by decide) (fun h_70 => ?_) (fun h_70 => ?_)
                      · skip
                        refine zj_iconst 191 C dL_pages_190 rfl ?_
                        refine zj_iadd 192 C dL_pages_191 rfl ?_
                        refine zj_istore 194 [(19, .int (zI (bl + 0))), (18, .int (zI (j : Int))), (17, .int (zI (bt + (Bl (j : Int))))), (16, .int (zI (mn + 1))), (22, .int (zI 1)), (0, .ref q0), (1, .ref yk), (2, .ref yw), (3, .ref yb), (4, .ref yp), (5, .ref yr), (6, .ref yu), (7, .ref yt), (8, .int (zI mo)), (9, .int (zI ul)), (10, .int (zI bk)), (11, .int (zI em)), (12, .int (zI fl)), (13, .int (zI uu)), (14, .int (zI bf)), (15, .int (zI (q : Int))), (20, .int (zI tn)), (21, .int (zI (j : Int)))] C dL_pages_192 rfl (by decide) rfl ?_
                        refine zj_iload 196 21 C dL_pages_194 rfl rfl ?_
                        refine zj_iload 198 4 C dL_pages_196 rfl rfl ?_
                        refine zj_if_ne 201 205 C (by omega) dL_pages_198 rfl (by decide) (fun h_71 => ?_) (fun h_71 => ?_)
                        · skip
                          refine zj_aload_n 206 6 C dL_pages_205 rfl rfl rfl ?_
                          refine zj_iload 208 22 C dL_pages_206 rfl rfl ?_
                          refine zj_iald 209 9 C (by omega) (by omega) rfl rfl dL_pages_208 rfl ?_
                          refine zj_iconst 210 C dL_pages_209 rfl ?_
                          refine zj_icmp_le 213 218 C (by omega) (by omega) dL_pages_210 rfl (by decide) (fun h_72 => ?_) (fun h_72 => ?_)
                          · skip
                            refine zj_aload_n 219 7 C dL_pages_218 rfl rfl rfl ?_
                            refine zj_iload 221 22 C dL_pages_219 rfl rfl ?_
                            refine zj_iald 222 10 C (by omega) (by omega) rfl rfl dL_pages_221 rfl ?_
                            refine zj_iadd 223 C dL_pages_222 rfl ?_
                            refine zj_istore 225 [(20, .int (zI (tn + (Wl (j : Int))))), (19, .int (zI (bl + 0))), (18, .int (zI (j : Int))), (17, .int (zI (bt + (Bl (j : Int))))), (16, .int (zI (mn + 1))), (22, .int (zI 1)), (0, .ref q0), (1, .ref yk), (2, .ref yw), (3, .ref yb), (4, .ref yp), (5, .ref yr), (6, .ref yu), (7, .ref yt), (8, .int (zI mo)), (9, .int (zI ul)), (10, .int (zI bk)), (11, .int (zI em)), (12, .int (zI fl)), (13, .int (zI uu)), (14, .int (zI bf)), (15, .int (zI (q : Int))), (21, .int (zI (j : Int)))] C dL_pages_223 rfl (by decide) rfl ?_
                            refine zj_iinc 228 22 [(21, .int (zI ((j : Int) + (-1)))), (20, .int (zI (tn + (Wl (j : Int))))), (19, .int (zI (bl + 0))), (18, .int (zI (j : Int))), (17, .int (zI (bt + (Bl (j : Int))))), (16, .int (zI (mn + 1))), (22, .int (zI 1)), (0, .ref q0), (1, .ref yk), (2, .ref yw), (3, .ref yb), (4, .ref yp), (5, .ref yr), (6, .ref yu), (7, .ref yt), (8, .int (zI mo)), (9, .int (zI ul)), (10, .int (zI bk)), (11, .int (zI em)), (12, .int (zI fl)), (13, .int (zI uu)), (14, .int (zI bf)), (15, .int (zI (q : Int)))] C dL_pages_225 rfl rfl (by decide) rfl ?_
                            refine zj_goto 69 C dL_pages_228 (by decide) ?_
                            refine zj_lv [7, 8, 9, 10, 11, 12, 13, 14, 15, 16, 17, 18, 19, 20, 21, 22, 5, 4, 3, 2, 1, 0] [(0, .ref q0), (1, .ref yk), (2, .ref yw), (3, .ref yb), (4, .ref yp), (5, .ref yr), (6, .ref yu), (7, .ref yt), (8, .int (zI mo)), (9, .int (zI ul)), (10, .int (zI bk)), (11, .int (zI em)), (12, .int (zI fl)), (13, .int (zI uu)), (14, .int (zI bf)), (15, .int (zI (q : Int))), (16, .int (zI (mn + 1))), (17, .int (zI (bt + (Bl (j : Int))))), (18, .int (zI (j : Int))), (19, .int (zI (bl + 0))), (20, .int (zI (tn + (Wl (j : Int))))), (21, .int (zI ((j : Int) + (-1))))] rfl ?_
                            refine zj_eqlv (lv' := [(0, .ref q0), (1, .ref yk), (2, .ref yw), (3, .ref yb), (4, .ref yp), (5, .ref yr), (6, .ref yu), (7, .ref yt), (8, .int (zI mo)), (9, .int (zI ul)), (10, .int (zI bk)), (11, .int (zI em)), (12, .int (zI fl)), (13, .int (zI uu)), (14, .int (zI bf)), (15, .int (zI (q : Int))), (16, .int (zI (mn + 1))), (17, .int (zI (bt + (Bl (j : Int))))), (18, .int (zI (j : Int))), (19, .int (zI (bl + 0))), (20, .int (zI (tn + (Wl (j : Int))))), (21, .int (zI ((j : Int) - 1)))]) (by first | rfl | rw [Int.sub_eq_add_neg]) ?_
                            exact ih69 j (mn + 1) (bt + (Bl (j : Int))) (j : Int) (bl + 0) (tn + (Wl (j : Int))) (by omega) (by omega) (by rw [kMn] at hmn; rw [if_pos hon] at hmn; omega) (by rw [kBs] at hbt; split at hbt <;> omega) (by exact kFst_y (f0 := f0) (by omega) hon) (by rw [zBo] at hbl; split at hbl <;> (unfold kOn at hon; omega)) (by rw [kTn] at htn; rw [if_pos hon] at htn; split at htn <;> omega) (by omega) (by omega)
                          · skip
                            refine zj_bipush 215 C dL_pages_213 rfl rfl ?_
                            refine zj_goto 222 C dL_pages_215 (by decide) ?_
                            refine zj_iadd 223 C dL_pages_222 rfl ?_
                            refine zj_istore 225 [(20, .int (zI (tn + 24))), (19, .int (zI (bl + 0))), (18, .int (zI (j : Int))), (17, .int (zI (bt + (Bl (j : Int))))), (16, .int (zI (mn + 1))), (22, .int (zI 1)), (0, .ref q0), (1, .ref yk), (2, .ref yw), (3, .ref yb), (4, .ref yp), (5, .ref yr), (6, .ref yu), (7, .ref yt), (8, .int (zI mo)), (9, .int (zI ul)), (10, .int (zI bk)), (11, .int (zI em)), (12, .int (zI fl)), (13, .int (zI uu)), (14, .int (zI bf)), (15, .int (zI (q : Int))), (21, .int (zI (j : Int)))] C dL_pages_223 rfl (by decide) rfl ?_
                            refine zj_iinc 228 22 [(21, .int (zI ((j : Int) + (-1)))), (20, .int (zI (tn + 24))), (19, .int (zI (bl + 0))), (18, .int (zI (j : Int))), (17, .int (zI (bt + (Bl (j : Int))))), (16, .int (zI (mn + 1))), (22, .int (zI 1)), (0, .ref q0), (1, .ref yk), (2, .ref yw), (3, .ref yb), (4, .ref yp), (5, .ref yr), (6, .ref yu), (7, .ref yt), (8, .int (zI mo)), (9, .int (zI ul)), (10, .int (zI bk)), (11, .int (zI em)), (12, .int (zI fl)), (13, .int (zI uu)), (14, .int (zI bf)), (15, .int (zI (q : Int)))] C dL_pages_225 rfl rfl (by decide) rfl ?_
                            refine zj_goto 69 C dL_pages_228 (by decide) ?_
                            refine zj_lv [7, 8, 9, 10, 11, 12, 13, 14, 15, 16, 17, 18, 19, 20, 21, 22, 5, 4, 3, 2, 1, 0] [(0, .ref q0), (1, .ref yk), (2, .ref yw), (3, .ref yb), (4, .ref yp), (5, .ref yr), (6, .ref yu), (7, .ref yt), (8, .int (zI mo)), (9, .int (zI ul)), (10, .int (zI bk)), (11, .int (zI em)), (12, .int (zI fl)), (13, .int (zI uu)), (14, .int (zI bf)), (15, .int (zI (q : Int))), (16, .int (zI (mn + 1))), (17, .int (zI (bt + (Bl (j : Int))))), (18, .int (zI (j : Int))), (19, .int (zI (bl + 0))), (20, .int (zI (tn + 24))), (21, .int (zI ((j : Int) + (-1))))] rfl ?_
                            refine zj_eqlv (lv' := [(0, .ref q0), (1, .ref yk), (2, .ref yw), (3, .ref yb), (4, .ref yp), (5, .ref yr), (6, .ref yu), (7, .ref yt), (8, .int (zI mo)), (9, .int (zI ul)), (10, .int (zI bk)), (11, .int (zI em)), (12, .int (zI fl)), (13, .int (zI uu)), (14, .int (zI bf)), (15, .int (zI (q : Int))), (16, .int (zI (mn + 1))), (17, .int (zI (bt + (Bl (j : Int))))), (18, .int (zI (j : Int))), (19, .int (zI (bl + 0))), (20, .int (zI (tn + 24))), (21, .int (zI ((j : Int) - 1)))]) (by first | rfl | rw [Int.sub_eq_add_neg]) ?_
                            exact ih69 j (mn + 1) (bt + (Bl (j : Int))) (j : Int) (bl + 0) (tn + 24) (by omega) (by omega) (by rw [kMn] at hmn; rw [if_pos hon] at hmn; omega) (by rw [kBs] at hbt; split at hbt <;> omega) (by exact kFst_y (f0 := f0) (by omega) hon) (by rw [zBo] at hbl; split at hbl <;> (unfold kOn at hon; omega)) (by rw [kTn] at htn; rw [if_pos hon] at htn; split at htn <;> omega) (by omega) (by omega)
                        · exact absurd h_71 (by omega)
                      · skip
                        refine zj_iconst 187 C dL_pages_186 rfl ?_
                        refine zj_goto 191 C dL_pages_187 (by decide) ?_
                        refine zj_iadd 192 C dL_pages_191 rfl ?_
                        refine zj_istore 194 [(19, .int (zI (bl + 1))), (18, .int (zI (j : Int))), (17, .int (zI (bt + (Bl (j : Int))))), (16, .int (zI (mn + 1))), (22, .int (zI 1)), (0, .ref q0), (1, .ref yk), (2, .ref yw), (3, .ref yb), (4, .ref yp), (5, .ref yr), (6, .ref yu), (7, .ref yt), (8, .int (zI mo)), (9, .int (zI ul)), (10, .int (zI bk)), (11, .int (zI em)), (12, .int (zI fl)), (13, .int (zI uu)), (14, .int (zI bf)), (15, .int (zI (q : Int))), (20, .int (zI tn)), (21, .int (zI (j : Int)))] C dL_pages_192 rfl (by decide) rfl ?_
                        refine zj_iload 196 21 C dL_pages_194 rfl rfl ?_
                        refine zj_iload 198 4 C dL_pages_196 rfl rfl ?_
                        refine zj_if_ne 201 205 C (by omega) dL_pages_198 rfl (by decide) (fun h_73 => ?_) (fun h_73 => ?_)
                        · skip
                          refine zj_aload_n 206 6 C dL_pages_205 rfl rfl rfl ?_
                          refine zj_iload 208 22 C dL_pages_206 rfl rfl ?_
                          refine zj_iald 209 9 C (by omega) (by omega) rfl rfl dL_pages_208 rfl ?_
                          refine zj_iconst 210 C dL_pages_209 rfl ?_
                          refine zj_icmp_le 213 218 C (by omega) (by omega) dL_pages_210 rfl (by decide) (fun h_74 => ?_) (fun h_74 => ?_)
                          · skip
                            refine zj_aload_n 219 7 C dL_pages_218 rfl rfl rfl ?_
                            refine zj_iload 221 22 C dL_pages_219 rfl rfl ?_
                            refine zj_iald 222 10 C (by omega) (by omega) rfl rfl dL_pages_221 rfl ?_
                            refine zj_iadd 223 C dL_pages_222 rfl ?_
                            refine zj_istore 225 [(20, .int (zI (tn + (Wl (j : Int))))), (19, .int (zI (bl + 1))), (18, .int (zI (j : Int))), (17, .int (zI (bt + (Bl (j : Int))))), (16, .int (zI (mn + 1))), (22, .int (zI 1)), (0, .ref q0), (1, .ref yk), (2, .ref yw), (3, .ref yb), (4, .ref yp), (5, .ref yr), (6, .ref yu), (7, .ref yt), (8, .int (zI mo)), (9, .int (zI ul)), (10, .int (zI bk)), (11, .int (zI em)), (12, .int (zI fl)), (13, .int (zI uu)), (14, .int (zI bf)), (15, .int (zI (q : Int))), (21, .int (zI (j : Int)))] C dL_pages_223 rfl (by decide) rfl ?_
                            refine zj_iinc 228 22 [(21, .int (zI ((j : Int) + (-1)))), (20, .int (zI (tn + (Wl (j : Int))))), (19, .int (zI (bl + 1))), (18, .int (zI (j : Int))), (17, .int (zI (bt + (Bl (j : Int))))), (16, .int (zI (mn + 1))), (22, .int (zI 1)), (0, .ref q0), (1, .ref yk), (2, .ref yw), (3, .ref yb), (4, .ref yp), (5, .ref yr), (6, .ref yu), (7, .ref yt), (8, .int (zI mo)), (9, .int (zI ul)), (10, .int (zI bk)), (11, .int (zI em)), (12, .int (zI fl)), (13, .int (zI uu)), (14, .int (zI bf)), (15, .int (zI (q : Int)))] C dL_pages_225 rfl rfl (by decide) rfl ?_
                            refine zj_goto 69 C dL_pages_228 (by decide) ?_
                            refine zj_lv [7, 8, 9, 10, 11, 12, 13, 14, 15, 16, 17, 18, 19, 20, 21, 22, 5, 4, 3, 2, 1, 0] [(0, .ref q0), (1, .ref yk), (2, .ref yw), (3, .ref yb), (4, .ref yp), (5, .ref yr), (6, .ref yu), (7, .ref yt), (8, .int (zI mo)), (9, .int (zI ul)), (10, .int (zI bk)), (11, .int (zI em)), (12, .int (zI fl)), (13, .int (zI uu)), (14, .int (zI bf)), (15, .int (zI (q : Int))), (16, .int (zI (mn + 1))), (17, .int (zI (bt + (Bl (j : Int))))), (18, .int (zI (j : Int))), (19, .int (zI (bl + 1))), (20, .int (zI (tn + (Wl (j : Int))))), (21, .int (zI ((j : Int) + (-1))))] rfl ?_
                            refine zj_eqlv (lv' := [(0, .ref q0), (1, .ref yk), (2, .ref yw), (3, .ref yb), (4, .ref yp), (5, .ref yr), (6, .ref yu), (7, .ref yt), (8, .int (zI mo)), (9, .int (zI ul)), (10, .int (zI bk)), (11, .int (zI em)), (12, .int (zI fl)), (13, .int (zI uu)), (14, .int (zI bf)), (15, .int (zI (q : Int))), (16, .int (zI (mn + 1))), (17, .int (zI (bt + (Bl (j : Int))))), (18, .int (zI (j : Int))), (19, .int (zI (bl + 1))), (20, .int (zI (tn + (Wl (j : Int))))), (21, .int (zI ((j : Int) - 1)))]) (by first | rfl | rw [Int.sub_eq_add_neg]) ?_
                            exact ih69 j (mn + 1) (bt + (Bl (j : Int))) (j : Int) (bl + 1) (tn + (Wl (j : Int))) (by omega) (by omega) (by rw [kMn] at hmn; rw [if_pos hon] at hmn; omega) (by rw [kBs] at hbt; split at hbt <;> omega) (by exact kFst_y (f0 := f0) (by omega) hon) (by rw [zBo] at hbl; split at hbl <;> (unfold kOn at hon; omega)) (by rw [kTn] at htn; rw [if_pos hon] at htn; split at htn <;> omega) (by omega) (by omega)
                          · skip
                            refine zj_bipush 215 C dL_pages_213 rfl rfl ?_
                            refine zj_goto 222 C dL_pages_215 (by decide) ?_
                            refine zj_iadd 223 C dL_pages_222 rfl ?_
                            refine zj_istore 225 [(20, .int (zI (tn + 24))), (19, .int (zI (bl + 1))), (18, .int (zI (j : Int))), (17, .int (zI (bt + (Bl (j : Int))))), (16, .int (zI (mn + 1))), (22, .int (zI 1)), (0, .ref q0), (1, .ref yk), (2, .ref yw), (3, .ref yb), (4, .ref yp), (5, .ref yr), (6, .ref yu), (7, .ref yt), (8, .int (zI mo)), (9, .int (zI ul)), (10, .int (zI bk)), (11, .int (zI em)), (12, .int (zI fl)), (13, .int (zI uu)), (14, .int (zI bf)), (15, .int (zI (q : Int))), (21, .int (zI (j : Int)))] C dL_pages_223 rfl (by decide) rfl ?_
                            refine zj_iinc 228 22 [(21, .int (zI ((j : Int) + (-1)))), (20, .int (zI (tn + 24))), (19, .int (zI (bl + 1))), (18, .int (zI (j : Int))), (17, .int (zI (bt + (Bl (j : Int))))), (16, .int (zI (mn + 1))), (22, .int (zI 1)), (0, .ref q0), (1, .ref yk), (2, .ref yw), (3, .ref yb), (4, .ref yp), (5, .ref yr), (6, .ref yu), (7, .ref yt), (8, .int (zI mo)), (9, .int (zI ul)), (10, .int (zI bk)), (11, .int (zI em)), (12, .int (zI fl)), (13, .int (zI uu)), (14, .int (zI bf)), (15, .int (zI (q : Int)))] C dL_pages_225 rfl rfl (by decide) rfl ?_
                            refine zj_goto 69 C dL_pages_228 (by decide) ?_
                            refine zj_lv [7, 8, 9, 10, 11, 12, 13, 14, 15, 16, 17, 18, 19, 20, 21, 22, 5, 4, 3, 2, 1, 0] [(0, .ref q0), (1, .ref yk), (2, .ref yw), (3, .ref yb), (4, .ref yp), (5, .ref yr), (6, .ref yu), (7, .ref yt), (8, .int (zI mo)), (9, .int (zI ul)), (10, .int (zI bk)), (11, .int (zI em)), (12, .int (zI fl)), (13, .int (zI uu)), (14, .int (zI bf)), (15, .int (zI (q : Int))), (16, .int (zI (mn + 1))), (17, .int (zI (bt + (Bl (j : Int))))), (18, .int (zI (j : Int))), (19, .int (zI (bl + 1))), (20, .int (zI (tn + 24))), (21, .int (zI ((j : Int) + (-1))))] rfl ?_
                            refine zj_eqlv (lv' := [(0, .ref q0), (1, .ref yk), (2, .ref yw), (3, .ref yb), (4, .ref yp), (5, .ref yr), (6, .ref yu), (7, .ref yt), (8, .int (zI mo)), (9, .int (zI ul)), (10, .int (zI bk)), (11, .int (zI em)), (12, .int (zI fl)), (13, .int (zI uu)), (14, .int (zI bf)), (15, .int (zI (q : Int))), (16, .int (zI (mn + 1))), (17, .int (zI (bt + (Bl (j : Int))))), (18, .int (zI (j : Int))), (19, .int (zI (bl + 1))), (20, .int (zI (tn + 24))), (21, .int (zI ((j : Int) - 1)))]) (by first | rfl | rw [Int.sub_eq_add_neg]) ?_
                            exact ih69 j (mn + 1) (bt + (Bl (j : Int))) (j : Int) (bl + 1) (tn + 24) (by omega) (by omega) (by rw [kMn] at hmn; rw [if_pos hon] at hmn; omega) (by rw [kBs] at hbt; split at hbt <;> omega) (by exact kFst_y (f0 := f0) (by omega) hon) (by rw [zBo] at hbl; split at hbl <;> (unfold kOn at hon; omega)) (by rw [kTn] at htn; rw [if_pos hon] at htn; split at htn <;> omega) (by omega) (by omega)
                        · exact absurd h_73 (by omega)
            have hL116 : ∀ (j : Nat), (mj = j + 1) → ((j : Int) < n1) → (¬ kOn Kl Pl q j) → zJ p l e rm_L_pages s m args below meth c Q D A 23 [(q0, .inr (4, [.ref q2, .ref q1, .ref qt, .ref ql, .ref qh, .ref qx])), (q2, .inr (2, [.ref g1, .ref g2, .ref g3, .int (zI n1), .int (zI sg)])), (q1, .inr (1, [.ref a0, .ref a1, .ref a2, .ref a3, .ref a4, .ref a5, .ref a6, .ref a7, .int (zI pg), .int (zI rw), .int (zI un), .int (zI ((zFin sg K1 W1 T1 n1).2.2.2.2.2.2.2.2.1)), .int (zI ((zFin sg K1 W1 T1 n1).2.2.2.2.2.2.2.2.2.1)), .int (zI ((zFin sg K1 W1 T1 n1).2.2.2.2.2.2.2.2.2.2)), .int (zI (zOut n1 sg K1 W1 T1))])), (a3, .inl (cI, 16, .inl (zA ((zFin sg K1 W1 T1 n1).2.2.2.2.1)))), (a4, .inl (cI, 16, .inl (zA ((zFin sg K1 W1 T1 n1).2.2.2.2.2.1)))), (a5, .inl (cI, 16, .inl (zA ((zFin sg K1 W1 T1 n1).2.2.2.2.2.2.1)))), (a6, .inl (cI, 16, .inl (zA ((zFin sg K1 W1 T1 n1).2.2.2.2.2.2.2.1)))), (a7, .inl (cI, 16, .inl (zA ((zFin sg K1 W1 T1 n1).2.2.2.1)))), (qh, .inr (0, [.ref hq, .int (zI hs)])), (yk, .inl (cI, 24, .inl (zA Kl))), (yw, .inl (cI, 24, .inl (zA Wl))), (yb, .inl (cI, 24, .inl (zA Bl))), (yp, .inl (cI, 24, .inl (zA Pl))), (yr, .inl (cI, 24, .inl (zA Rl))), (yu, .inl (cI, 24, .inl (zA Ul))), (yt, .inl (cI, 2, .inl (zA ty)))] (0) (0) [(0, .ref q0), (1, .ref yk), (2, .ref yw), (3, .ref yb), (4, .ref yp), (5, .ref yr), (6, .ref yu), (7, .ref yt), (8, .int (zI mo)), (9, .int (zI ul)), (10, .int (zI bk)), (11, .int (zI em)), (12, .int (zI fl)), (13, .int (zI uu)), (14, .int (zI bf)), (15, .int (zI (q : Int))), (16, .int (zI mn)), (17, .int (zI bt)), (18, .int (zI f0)), (19, .int (zI bl)), (20, .int (zI tn)), (21, .int (zI (j : Int)))] 116 [] := by
              intro j hmj hjn hon
              subst hmj
              have hkj := hok2.2.2 j (by omega) (by omega)
              have hpj := hPb j (by omega)
              refine zj_iconst 117 C dL_pages_116 rfl ?_
              refine zj_istore 119 [(22, .int (zI 0)), (0, .ref q0), (1, .ref yk), (2, .ref yw), (3, .ref yb), (4, .ref yp), (5, .ref yr), (6, .ref yu), (7, .ref yt), (8, .int (zI mo)), (9, .int (zI ul)), (10, .int (zI bk)), (11, .int (zI em)), (12, .int (zI fl)), (13, .int (zI uu)), (14, .int (zI bf)), (15, .int (zI (q : Int))), (16, .int (zI mn)), (17, .int (zI bt)), (18, .int (zI f0)), (19, .int (zI bl)), (20, .int (zI tn)), (21, .int (zI (j : Int)))] C dL_pages_117 rfl (by decide) rfl ?_
              refine zj_iload 121 17 C dL_pages_119 rfl rfl ?_
              refine zj_iload 123 0 C dL_pages_121 rfl rfl ?_
              refine zj_if_eq 126 130 C (by omega) dL_pages_123 rfl (by decide) (fun h_75 => ?_) (fun h_75 => ?_)
              · skip
                refine zj_iconst 131 C dL_pages_130 rfl ?_
                refine zj_iadd 132 C dL_pages_131 rfl ?_
                refine zj_istore 134 [(16, .int (zI (mn + 0))), (22, .int (zI 0)), (0, .ref q0), (1, .ref yk), (2, .ref yw), (3, .ref yb), (4, .ref yp), (5, .ref yr), (6, .ref yu), (7, .ref yt), (8, .int (zI mo)), (9, .int (zI ul)), (10, .int (zI bk)), (11, .int (zI em)), (12, .int (zI fl)), (13, .int (zI uu)), (14, .int (zI bf)), (15, .int (zI (q : Int))), (17, .int (zI bt)), (18, .int (zI f0)), (19, .int (zI bl)), (20, .int (zI tn)), (21, .int (zI (j : Int)))] C dL_pages_132 rfl (by decide) rfl ?_
                refine zj_iload 136 18 C dL_pages_134 rfl rfl ?_
                refine zj_aload 138 6 C dL_pages_136 rfl rfl ?_
                refine zj_iload 140 22 C dL_pages_138 rfl rfl ?_
                refine zj_iald 141 12 C (by omega) (by omega) rfl rfl dL_pages_140 rfl ?_
                refine zj_iload 143 17 C dL_pages_141 rfl rfl ?_
                refine zj_icmp_ne 146 153 C (by omega) (by omega) dL_pages_143 rfl (by decide) (fun h_76 => ?_) (fun h_76 => ?_)
                · skip
                  refine zj_iconst 154 C dL_pages_153 rfl ?_
                  refine zj_iadd 155 C dL_pages_154 rfl ?_
                  refine zj_istore 157 [(17, .int (zI (bt + 0))), (16, .int (zI (mn + 0))), (22, .int (zI 0)), (0, .ref q0), (1, .ref yk), (2, .ref yw), (3, .ref yb), (4, .ref yp), (5, .ref yr), (6, .ref yu), (7, .ref yt), (8, .int (zI mo)), (9, .int (zI ul)), (10, .int (zI bk)), (11, .int (zI em)), (12, .int (zI fl)), (13, .int (zI uu)), (14, .int (zI bf)), (15, .int (zI (q : Int))), (18, .int (zI f0)), (19, .int (zI bl)), (20, .int (zI tn)), (21, .int (zI (j : Int)))] C dL_pages_155 rfl (by decide) rfl ?_
                  refine zj_iload 159 2 C dL_pages_157 rfl rfl ?_
                  refine zj_if_eq 162 167 C (by omega) dL_pages_159 rfl (by decide) (fun h_77 => ?_) (fun h_77 => ?_)
                  · skip
                    refine zj_iload 169 19 C dL_pages_167 rfl rfl ?_
                    refine zj_istore 171 [(18, .int (zI f0)), (17, .int (zI (bt + 0))), (16, .int (zI (mn + 0))), (22, .int (zI 0)), (0, .ref q0), (1, .ref yk), (2, .ref yw), (3, .ref yb), (4, .ref yp), (5, .ref yr), (6, .ref yu), (7, .ref yt), (8, .int (zI mo)), (9, .int (zI ul)), (10, .int (zI bk)), (11, .int (zI em)), (12, .int (zI fl)), (13, .int (zI uu)), (14, .int (zI bf)), (15, .int (zI (q : Int))), (19, .int (zI bl)), (20, .int (zI tn)), (21, .int (zI (j : Int)))] C dL_pages_169 rfl (by decide) rfl ?_
                    refine zj_iload 173 20 C dL_pages_171 rfl rfl ?_
                    refine zj_iload 175 3 C dL_pages_173 rfl rfl ?_
                    refine zj_if_eq 178 190 C (by omega) dL_pages_175 rfl (by decide) (fun h_78 => ?_) (fun h_78 => ?_)
                    · skip
                      refine zj_iconst 191 C dL_pages_190 rfl ?_
                      refine zj_iadd 192 C dL_pages_191 rfl ?_
                      refine zj_istore 194 [(19, .int (zI (bl + 0))), (18, .int (zI f0)), (17, .int (zI (bt + 0))), (16, .int (zI (mn + 0))), (22, .int (zI 0)), (0, .ref q0), (1, .ref yk), (2, .ref yw), (3, .ref yb), (4, .ref yp), (5, .ref yr), (6, .ref yu), (7, .ref yt), (8, .int (zI mo)), (9, .int (zI ul)), (10, .int (zI bk)), (11, .int (zI em)), (12, .int (zI fl)), (13, .int (zI uu)), (14, .int (zI bf)), (15, .int (zI (q : Int))), (20, .int (zI tn)), (21, .int (zI (j : Int)))] C dL_pages_192 rfl (by decide) rfl ?_
                      refine zj_iload 196 21 C dL_pages_194 rfl rfl ?_
                      refine zj_iload 198 4 C dL_pages_196 rfl rfl ?_
                      refine zj_if_ne 201 205 C (by omega) dL_pages_198 rfl (by decide) (fun h_79 => ?_) (fun h_79 => ?_)
                      · exact absurd h_79 (by omega)
                      · skip
                        refine zj_iconst 202 C dL_pages_201 rfl ?_
                        refine zj_goto 222 C dL_pages_202 (by decide) ?_
                        refine zj_iadd 223 C dL_pages_222 rfl ?_
                        refine zj_istore 225 [(20, .int (zI (tn + 0))), (19, .int (zI (bl + 0))), (18, .int (zI f0)), (17, .int (zI (bt + 0))), (16, .int (zI (mn + 0))), (22, .int (zI 0)), (0, .ref q0), (1, .ref yk), (2, .ref yw), (3, .ref yb), (4, .ref yp), (5, .ref yr), (6, .ref yu), (7, .ref yt), (8, .int (zI mo)), (9, .int (zI ul)), (10, .int (zI bk)), (11, .int (zI em)), (12, .int (zI fl)), (13, .int (zI uu)), (14, .int (zI bf)), (15, .int (zI (q : Int))), (21, .int (zI (j : Int)))] C dL_pages_223 rfl (by decide) rfl ?_
                        refine zj_iinc 228 22 [(21, .int (zI ((j : Int) + (-1)))), (20, .int (zI (tn + 0))), (19, .int (zI (bl + 0))), (18, .int (zI f0)), (17, .int (zI (bt + 0))), (16, .int (zI (mn + 0))), (22, .int (zI 0)), (0, .ref q0), (1, .ref yk), (2, .ref yw), (3, .ref yb), (4, .ref yp), (5, .ref yr), (6, .ref yu), (7, .ref yt), (8, .int (zI mo)), (9, .int (zI ul)), (10, .int (zI bk)), (11, .int (zI em)), (12, .int (zI fl)), (13, .int (zI uu)), (14, .int (zI bf)), (15, .int (zI (q : Int)))] C dL_pages_225 rfl rfl (by decide) rfl ?_
                        refine zj_goto 69 C dL_pages_228 (by decide) ?_
                        refine zj_lv [7, 8, 9, 10, 11, 12, 13, 14, 15, 16, 17, 18, 19, 20, 21, 22, 5, 4, 3, 2, 1, 0] [(0, .ref q0), (1, .ref yk), (2, .ref yw), (3, .ref yb), (4, .ref yp), (5, .ref yr), (6, .ref yu), (7, .ref yt), (8, .int (zI mo)), (9, .int (zI ul)), (10, .int (zI bk)), (11, .int (zI em)), (12, .int (zI fl)), (13, .int (zI uu)), (14, .int (zI bf)), (15, .int (zI (q : Int))), (16, .int (zI (mn + 0))), (17, .int (zI (bt + 0))), (18, .int (zI f0)), (19, .int (zI (bl + 0))), (20, .int (zI (tn + 0))), (21, .int (zI ((j : Int) + (-1))))] rfl ?_
                        refine zj_eqlv (lv' := [(0, .ref q0), (1, .ref yk), (2, .ref yw), (3, .ref yb), (4, .ref yp), (5, .ref yr), (6, .ref yu), (7, .ref yt), (8, .int (zI mo)), (9, .int (zI ul)), (10, .int (zI bk)), (11, .int (zI em)), (12, .int (zI fl)), (13, .int (zI uu)), (14, .int (zI bf)), (15, .int (zI (q : Int))), (16, .int (zI (mn + 0))), (17, .int (zI (bt + 0))), (18, .int (zI f0)), (19, .int (zI (bl + 0))), (20, .int (zI (tn + 0))), (21, .int (zI ((j : Int) - 1)))]) (by first | rfl | rw [Int.sub_eq_add_neg]) ?_
                        exact ih69 j (mn + 0) (bt + 0) f0 (bl + 0) (tn + 0) (by omega) (by omega) (by rw [kMn] at hmn; rw [if_neg hon] at hmn; omega) (by rw [kBs] at hbt; split at hbt <;> omega) (by exact kFst_n (by rw [show ((j : Int) + 1) = ((j + 1 : Nat) : Int) by omega]; exact hf0) hon) (by rw [zBo] at hbl; split at hbl <;> (unfold kOn at hon; omega)) (by rw [kTn] at htn; rw [if_neg hon] at htn; omega) (by omega) (by omega)
                    · exact absurd h_78 (by omega)
                  · exact absurd h_77 (by omega)
                · skip
                  refine zj_aload_n 147 5 C dL_pages_146 rfl rfl rfl ?_
                  refine zj_iload 149 22 C dL_pages_147 rfl rfl ?_
                  refine zj_iald 150 11 C (by omega) (by omega) rfl rfl dL_pages_149 rfl ?_
                  refine zj_goto 154 C dL_pages_150 (by decide) ?_
                  refine zj_iadd 155 C dL_pages_154 rfl ?_
                  refine zj_istore 157 [(17, .int (zI (bt + (Bl (j : Int))))), (16, .int (zI (mn + 0))), (22, .int (zI 0)), (0, .ref q0), (1, .ref yk), (2, .ref yw), (3, .ref yb), (4, .ref yp), (5, .ref yr), (6, .ref yu), (7, .ref yt), (8, .int (zI mo)), (9, .int (zI ul)), (10, .int (zI bk)), (11, .int (zI em)), (12, .int (zI fl)), (13, .int (zI uu)), (14, .int (zI bf)), (15, .int (zI (q : Int))), (18, .int (zI f0)), (19, .int (zI bl)), (20, .int (zI tn)), (21, .int (zI (j : Int)))] C dL_pages_155 rfl (by decide) rfl ?_
                  refine zj_iload 159 2 C dL_pages_157 rfl rfl ?_
                  refine zj_if_eq 162 167 C (by omega) dL_pages_159 rfl (by decide) (fun h_80 => ?_) (fun h_80 => ?_)
                  · skip
                    refine zj_iload 169 19 C dL_pages_167 rfl rfl ?_
                    refine zj_istore 171 [(18, .int (zI f0)), (17, .int (zI (bt + (Bl (j : Int))))), (16, .int (zI (mn + 0))), (22, .int (zI 0)), (0, .ref q0), (1, .ref yk), (2, .ref yw), (3, .ref yb), (4, .ref yp), (5, .ref yr), (6, .ref yu), (7, .ref yt), (8, .int (zI mo)), (9, .int (zI ul)), (10, .int (zI bk)), (11, .int (zI em)), (12, .int (zI fl)), (13, .int (zI uu)), (14, .int (zI bf)), (15, .int (zI (q : Int))), (19, .int (zI bl)), (20, .int (zI tn)), (21, .int (zI (j : Int)))] C dL_pages_169 rfl (by decide) rfl ?_
                    refine zj_iload 173 20 C dL_pages_171 rfl rfl ?_
                    refine zj_iload 175 3 C dL_pages_173 rfl rfl ?_
                    refine zj_if_eq 178 190 C (by omega) dL_pages_175 rfl (by decide) (fun h_81 => ?_) (fun h_81 => ?_)
                    · skip
                      refine zj_iconst 191 C dL_pages_190 rfl ?_
                      refine zj_iadd 192 C dL_pages_191 rfl ?_
                      refine zj_istore 194 [(19, .int (zI (bl + 0))), (18, .int (zI f0)), (17, .int (zI (bt + (Bl (j : Int))))), (16, .int (zI (mn + 0))), (22, .int (zI 0)), (0, .ref q0), (1, .ref yk), (2, .ref yw), (3, .ref yb), (4, .ref yp), (5, .ref yr), (6, .ref yu), (7, .ref yt), (8, .int (zI mo)), (9, .int (zI ul)), (10, .int (zI bk)), (11, .int (zI em)), (12, .int (zI fl)), (13, .int (zI uu)), (14, .int (zI bf)), (15, .int (zI (q : Int))), (20, .int (zI tn)), (21, .int (zI (j : Int)))] C dL_pages_192 rfl (by decide) rfl ?_
                      refine zj_iload 196 21 C dL_pages_194 rfl rfl ?_
                      refine zj_iload 198 4 C dL_pages_196 rfl rfl ?_
                      refine zj_if_ne 201 205 C (by omega) dL_pages_198 rfl (by decide) (fun h_82 => ?_) (fun h_82 => ?_)
                      · exact absurd h_82 (by omega)
                      · skip
                        refine zj_iconst 202 C dL_pages_201 rfl ?_
                        refine zj_goto 222 C dL_pages_202 (by decide) ?_
                        refine zj_iadd 223 C dL_pages_222 rfl ?_
                        refine zj_istore 225 [(20, .int (zI (tn + 0))), (19, .int (zI (bl + 0))), (18, .int (zI f0)), (17, .int (zI (bt + (Bl (j : Int))))), (16, .int (zI (mn + 0))), (22, .int (zI 0)), (0, .ref q0), (1, .ref yk), (2, .ref yw), (3, .ref yb), (4, .ref yp), (5, .ref yr), (6, .ref yu), (7, .ref yt), (8, .int (zI mo)), (9, .int (zI ul)), (10, .int (zI bk)), (11, .int (zI em)), (12, .int (zI fl)), (13, .int (zI uu)), (14, .int (zI bf)), (15, .int (zI (q : Int))), (21, .int (zI (j : Int)))] C dL_pages_223 rfl (by decide) rfl ?_
                        refine zj_iinc 228 22 [(21, .int (zI ((j : Int) + (-1)))), (20, .int (zI (tn + 0))), (19, .int (zI (bl + 0))), (18, .int (zI f0)), (17, .int (zI (bt + (Bl (j : Int))))), (16, .int (zI (mn + 0))), (22, .int (zI 0)), (0, .ref q0), (1, .ref yk), (2, .ref yw), (3, .ref yb), (4, .ref yp), (5, .ref yr), (6, .ref yu), (7, .ref yt), (8, .int (zI mo)), (9, .int (zI ul)), (10, .int (zI bk)), (11, .int (zI em)), (12, .int (zI fl)), (13, .int (zI uu)), (14, .int (zI bf)), (15, .int (zI (q : Int)))] C dL_pages_225 rfl rfl (by decide) rfl ?_
                        refine zj_goto 69 C dL_pages_228 (by decide) ?_
                        refine zj_lv [7, 8, 9, 10, 11, 12, 13, 14, 15, 16, 17, 18, 19, 20, 21, 22, 5, 4, 3, 2, 1, 0] [(0, .ref q0), (1, .ref yk), (2, .ref yw), (3, .ref yb), (4, .ref yp), (5, .ref yr), (6, .ref yu), (7, .ref yt), (8, .int (zI mo)), (9, .int (zI ul)), (10, .int (zI bk)), (11, .int (zI em)), (12, .int (zI fl)), (13, .int (zI uu)), (14, .int (zI bf)), (15, .int (zI (q : Int))), (16, .int (zI (mn + 0))), (17, .int (zI (bt + (Bl (j : Int))))), (18, .int (zI f0)), (19, .int (zI (bl + 0))), (20, .int (zI (tn + 0))), (21, .int (zI ((j : Int) + (-1))))] rfl ?_
                        refine zj_eqlv (lv' := [(0, .ref q0), (1, .ref yk), (2, .ref yw), (3, .ref yb), (4, .ref yp), (5, .ref yr), (6, .ref yu), (7, .ref yt), (8, .int (zI mo)), (9, .int (zI ul)), (10, .int (zI bk)), (11, .int (zI em)), (12, .int (zI fl)), (13, .int (zI uu)), (14, .int (zI bf)), (15, .int (zI (q : Int))), (16, .int (zI (mn + 0))), (17, .int (zI (bt + (Bl (j : Int))))), (18, .int (zI f0)), (19, .int (zI (bl + 0))), (20, .int (zI (tn + 0))), (21, .int (zI ((j : Int) - 1)))]) (by first | rfl | rw [Int.sub_eq_add_neg]) ?_
                        exact ih69 j (mn + 0) (bt + (Bl (j : Int))) f0 (bl + 0) (tn + 0) (by omega) (by omega) (by rw [kMn] at hmn; rw [if_neg hon] at hmn; omega) (by rw [kBs] at hbt; split at hbt <;> omega) (by exact kFst_n (by rw [show ((j : Int) + 1) = ((j + 1 : Nat) : Int) by omega]; exact hf0) hon) (by rw [zBo] at hbl; split at hbl <;> (unfold kOn at hon; omega)) (by rw [kTn] at htn; rw [if_neg hon] at htn; omega) (by omega) (by omega)
                    · exact absurd h_81 (by omega)
                  · exact absurd h_80 (by omega)
              · exact absurd h_75 (by omega)
            refine zj_iload 71 21 C dL_pages_69 rfl rfl ?_
            refine zj_if_lt 74 231 C (by omega) dL_pages_71 rfl (by decide) (fun h_83 => ?_) (fun h_83 => ?_)
            · skip
              have hm0 : mj = 0 := by omega
              subst hm0
              obtain ⟨g1, g2, g3, g4, g5⟩ := hkp q (by omega) (by omega)
              have hvo := hbo q (by omega) (by omega)
              have hfq := hfb q (by omega) (by omega)
              have hvf := kFst_f (c := cf) (s := sf) hf0 g4 g5
              rw [show kMn Kl Pl (q : Int) 0 = 0 from rfl] at hmn
              rw [show kBs Bl Pl (q : Int) 0 = 0 from rfl] at hbt
              rw [show kTn Kl Wl Pl (q : Int) 0 = 0 from rfl] at htn
              rw [show zBo Kl Pl (q : Int) 0 = 0 from rfl] at hbl
              refine zj_iload 233 16 C dL_pages_231 rfl rfl ?_
              refine zj_if_ne 236 247 C (by omega) dL_pages_233 rfl (by decide) (fun h_84 => ?_) (fun h_84 => ?_)
              · skip
                refine zj_iconst 248 C dL_pages_247 rfl ?_
                refine zj_istore 250 [(21, .int (zI 0)), (0, .ref q0), (1, .ref yk), (2, .ref yw), (3, .ref yb), (4, .ref yp), (5, .ref yr), (6, .ref yu), (7, .ref yt), (8, .int (zI mo)), (9, .int (zI ul)), (10, .int (zI bk)), (11, .int (zI em)), (12, .int (zI fl)), (13, .int (zI uu)), (14, .int (zI bf)), (15, .int (zI (q : Int))), (16, .int (zI mn)), (17, .int (zI bt)), (18, .int (zI f0)), (19, .int (zI bl)), (20, .int (zI tn))] C dL_pages_248 rfl (by decide) rfl ?_
                refine zj_lv [1, 2, 3, 4, 5, 6, 7, 8, 9, 10, 11, 12, 13, 14, 15, 16, 17, 18, 19, 20, 21, 0] [(0, .ref q0), (1, .ref yk), (2, .ref yw), (3, .ref yb), (4, .ref yp), (5, .ref yr), (6, .ref yu), (7, .ref yt), (8, .int (zI mo)), (9, .int (zI ul)), (10, .int (zI bk)), (11, .int (zI em)), (12, .int (zI fl)), (13, .int (zI uu)), (14, .int (zI bf)), (15, .int (zI (q : Int))), (16, .int (zI mn)), (17, .int (zI bt)), (18, .int (zI f0)), (19, .int (zI bl)), (20, .int (zI tn)), (21, .int (zI 0))] rfl ?_
                exact hL250 mn bt f0 bl tn 0 (by omega) (by omega) (by omega) (by omega) (hvf) (by omega) (by omega) (by omega) (by omega)
              · skip
                refine zj_iload 238 15 C dL_pages_236 rfl rfl ?_
                refine zj_iload 240 13 C dL_pages_238 rfl rfl ?_
                refine zj_icmp_ge 243 247 C (by omega) (by omega) dL_pages_240 rfl (by decide) (fun h_85 => ?_) (fun h_85 => ?_)
                · skip
                  refine zj_iconst 248 C dL_pages_247 rfl ?_
                  refine zj_istore 250 [(21, .int (zI 0)), (0, .ref q0), (1, .ref yk), (2, .ref yw), (3, .ref yb), (4, .ref yp), (5, .ref yr), (6, .ref yu), (7, .ref yt), (8, .int (zI mo)), (9, .int (zI ul)), (10, .int (zI bk)), (11, .int (zI em)), (12, .int (zI fl)), (13, .int (zI uu)), (14, .int (zI bf)), (15, .int (zI (q : Int))), (16, .int (zI mn)), (17, .int (zI bt)), (18, .int (zI f0)), (19, .int (zI bl)), (20, .int (zI tn))] C dL_pages_248 rfl (by decide) rfl ?_
                  refine zj_lv [1, 2, 3, 4, 5, 6, 7, 8, 9, 10, 11, 12, 13, 14, 15, 16, 17, 18, 19, 20, 21, 0] [(0, .ref q0), (1, .ref yk), (2, .ref yw), (3, .ref yb), (4, .ref yp), (5, .ref yr), (6, .ref yu), (7, .ref yt), (8, .int (zI mo)), (9, .int (zI ul)), (10, .int (zI bk)), (11, .int (zI em)), (12, .int (zI fl)), (13, .int (zI uu)), (14, .int (zI bf)), (15, .int (zI (q : Int))), (16, .int (zI mn)), (17, .int (zI bt)), (18, .int (zI f0)), (19, .int (zI bl)), (20, .int (zI tn)), (21, .int (zI 0))] rfl ?_
                  exact hL250 mn bt f0 bl tn 0 (by omega) (by omega) (by omega) (by omega) (hvf) (by omega) (by omega) (by omega) (by omega)
                · skip
                  refine zj_iconst 244 C dL_pages_243 rfl ?_
                  refine zj_goto 248 C dL_pages_244 (by decide) ?_
                  refine zj_istore 250 [(21, .int (zI 1)), (0, .ref q0), (1, .ref yk), (2, .ref yw), (3, .ref yb), (4, .ref yp), (5, .ref yr), (6, .ref yu), (7, .ref yt), (8, .int (zI mo)), (9, .int (zI ul)), (10, .int (zI bk)), (11, .int (zI em)), (12, .int (zI fl)), (13, .int (zI uu)), (14, .int (zI bf)), (15, .int (zI (q : Int))), (16, .int (zI mn)), (17, .int (zI bt)), (18, .int (zI f0)), (19, .int (zI bl)), (20, .int (zI tn))] C dL_pages_248 rfl (by decide) rfl ?_
                  refine zj_lv [1, 2, 3, 4, 5, 6, 7, 8, 9, 10, 11, 12, 13, 14, 15, 16, 17, 18, 19, 20, 21, 0] [(0, .ref q0), (1, .ref yk), (2, .ref yw), (3, .ref yb), (4, .ref yp), (5, .ref yr), (6, .ref yu), (7, .ref yt), (8, .int (zI mo)), (9, .int (zI ul)), (10, .int (zI bk)), (11, .int (zI em)), (12, .int (zI fl)), (13, .int (zI uu)), (14, .int (zI bf)), (15, .int (zI (q : Int))), (16, .int (zI mn)), (17, .int (zI bt)), (18, .int (zI f0)), (19, .int (zI bl)), (20, .int (zI tn)), (21, .int (zI 1))] rfl ?_
                  exact hL250 mn bt f0 bl tn 1 (by omega) (by omega) (by omega) (by omega) (hvf) (by omega) (by omega) (by omega) (by omega)
            · skip
              obtain ⟨j, rfl⟩ : ∃ j : Nat, mj = j + 1 := ⟨mj - 1, by omega⟩
              refine zj_eqlv (lv' := [(0, .ref q0), (1, .ref yk), (2, .ref yw), (3, .ref yb), (4, .ref yp), (5, .ref yr), (6, .ref yu), (7, .ref yt), (8, .int (zI mo)), (9, .int (zI ul)), (10, .int (zI bk)), (11, .int (zI em)), (12, .int (zI fl)), (13, .int (zI uu)), (14, .int (zI bf)), (15, .int (zI (q : Int))), (16, .int (zI mn)), (17, .int (zI bt)), (18, .int (zI f0)), (19, .int (zI bl)), (20, .int (zI tn)), (21, .int (zI (j : Int)))]) (by rw [show ((j + 1 : Nat) : Int) - 1 = (j : Int) by omega]) ?_
              have hkj := hok2.2.2 j (by omega) (by omega)
              have hpj := hPb j (by omega)
              refine zj_aload 76 4 C dL_pages_74 rfl rfl ?_
              refine zj_iload 78 21 C dL_pages_76 rfl rfl ?_
              refine zj_iald 79 12 C (by omega) (by omega) rfl rfl dL_pages_78 rfl ?_
              refine zj_iload 81 15 C dL_pages_79 rfl rfl ?_
              refine zj_icmp_eq 84 112 C (by omega) (by omega) dL_pages_81 rfl (by decide) (fun h_86 => ?_) (fun h_86 => ?_)
              · skip
                exact hL112 j (rfl) (by omega) (by unfold kOn; omega)
              · skip
                refine zj_aload_n 85 1 C dL_pages_84 rfl rfl rfl ?_
                refine zj_iload 87 21 C dL_pages_85 rfl rfl ?_
                refine zj_iald 88 9 C (by omega) (by omega) rfl rfl dL_pages_87 rfl ?_
                refine zj_iconst 89 C dL_pages_88 rfl ?_
                refine zj_icmp_ne 92 116 C (by omega) (by omega) dL_pages_89 rfl (by decide) (fun h_87 => ?_) (fun h_87 => ?_)
                · skip
                  exact hL116 j (rfl) (by omega) (by unfold kOn; omega)
                · skip
                  refine zj_aload 94 4 C dL_pages_92 rfl rfl ?_
                  refine zj_iload 96 21 C dL_pages_94 rfl rfl ?_
                  refine zj_iald 97 12 C (by omega) (by omega) rfl rfl dL_pages_96 rfl ?_
                  refine zj_if_lt 100 116 C (by omega) dL_pages_97 rfl (by decide) (fun h_88 => ?_) (fun h_88 => ?_)
                  · skip
                    exact hL116 j (rfl) (by omega) (by unfold kOn; omega)
                  · skip
                    refine zj_aload 102 4 C dL_pages_100 rfl rfl ?_
                    refine zj_iload 104 21 C dL_pages_102 rfl rfl ?_
                    refine zj_iald 105 12 C (by omega) (by omega) rfl rfl dL_pages_104 rfl ?_
                    refine zj_iconst 106 C dL_pages_105 rfl ?_
                    refine zj_iadd 107 C dL_pages_106 rfl ?_
                    refine zj_iload 109 15 C dL_pages_107 rfl rfl ?_
                    refine zj_icmp_ne 112 116 C (by omega) (by omega) dL_pages_109 rfl (by decide) (fun h_89 => ?_) (fun h_89 => ?_)
                    · skip
                      exact hL116 j (rfl) (by omega) (by unfold kOn; omega)
                    · skip
                      exact hL112 j (rfl) (by omega) (by unfold kOn; omega)
        refine zj_lv [6, 7, 8, 9, 10, 11, 12, 13, 14, 15, 16, 17, 18, 19, 20, 21, 5, 4, 3, 2, 1, 0] [(0, .ref q0), (1, .ref yk), (2, .ref yw), (3, .ref yb), (4, .ref yp), (5, .ref yr), (6, .ref yu), (7, .ref yt), (8, .int (zI mo)), (9, .int (zI ul)), (10, .int (zI bk)), (11, .int (zI em)), (12, .int (zI fl)), (13, .int (zI uu)), (14, .int (zI bf)), (15, .int (zI (q : Int))), (16, .int (zI 0)), (17, .int (zI 0)), (18, .int (zI (-1))), (19, .int (zI 0)), (20, .int (zI 0)), (21, .int (zI ((ty 1) - 1)))] rfl ?_
        refine zj_eqlv (lv' := [(0, .ref q0), (1, .ref yk), (2, .ref yw), (3, .ref yb), (4, .ref yp), (5, .ref yr), (6, .ref yu), (7, .ref yt), (8, .int (zI mo)), (9, .int (zI ul)), (10, .int (zI bk)), (11, .int (zI em)), (12, .int (zI fl)), (13, .int (zI uu)), (14, .int (zI bf)), (15, .int (zI (q : Int))), (16, .int (zI 0)), (17, .int (zI 0)), (18, .int (zI (-1))), (19, .int (zI 0)), (20, .int (zI 0)), (21, .int (zI ((n1.toNat : Int) - 1)))]) (by rw [show ty 1 - 1 = ((n1.toNat : Nat) : Int) - 1 by omega]) ?_
        exact hL69 (25) n1.toNat 0 0 (-1) 0 0 (by omega) (by omega) (by omega) (by omega) (Or.inl ⟨rfl, fun x h1 h2 => absurd h1 (by omega)⟩) (by omega) (by omega) (by omega) (by omega)
  refine zj_re [0, 1, 2, 3, 4, 5, 6, 7, 8, 12, 13, 9, 14, 10, 11, 15] [(q0, .inr (4, [.ref q2, .ref q1, .ref qt, .ref ql, .ref qh, .ref qx])), (q2, .inr (2, [.ref g1, .ref g2, .ref g3, .int (zI n1), .int (zI sg)])), (q1, .inr (1, [.ref a0, .ref a1, .ref a2, .ref a3, .ref a4, .ref a5, .ref a6, .ref a7, .int (zI pg), .int (zI rw), .int (zI un), .int (zI ((zFin sg K1 W1 T1 n1).2.2.2.2.2.2.2.2.1)), .int (zI ((zFin sg K1 W1 T1 n1).2.2.2.2.2.2.2.2.2.1)), .int (zI ((zFin sg K1 W1 T1 n1).2.2.2.2.2.2.2.2.2.2)), .int (zI (zOut n1 sg K1 W1 T1))])), (a3, .inl (cI, 16, .inl (zA ((zFin sg K1 W1 T1 n1).2.2.2.2.1)))), (a4, .inl (cI, 16, .inl (zA ((zFin sg K1 W1 T1 n1).2.2.2.2.2.1)))), (a5, .inl (cI, 16, .inl (zA ((zFin sg K1 W1 T1 n1).2.2.2.2.2.2.1)))), (a6, .inl (cI, 16, .inl (zA ((zFin sg K1 W1 T1 n1).2.2.2.2.2.2.2.1)))), (a7, .inl (cI, 16, .inl (zA ((zFin sg K1 W1 T1 n1).2.2.2.1)))), (qh, .inr (0, [.ref hq, .int (zI hs)])), (yk, .inl (cI, 24, .inl (zA Kl))), (yw, .inl (cI, 24, .inl (zA Wl))), (yb, .inl (cI, 24, .inl (zA Bl))), (yp, .inl (cI, 24, .inl (zA Pl))), (yr, .inl (cI, 24, .inl (zA Rl))), (yu, .inl (cI, 24, .inl (zA Ul))), (yt, .inl (cI, 2, .inl (zA ty)))] (by decide) rfl ?_
  refine zj_lv [8, 9, 10, 11, 12, 13, 14, 15, 7, 6, 5, 4, 3, 2, 1, 0] [(0, .ref q0), (1, .ref yk), (2, .ref yw), (3, .ref yb), (4, .ref yp), (5, .ref yr), (6, .ref yu), (7, .ref yt), (8, .int (zI 0)), (9, .int (zI 0)), (10, .int (zI 0)), (11, .int (zI 0)), (12, .int (zI 0)), (13, .int (zI uu)), (14, .int (zI 0)), (15, .int (zI 0))] rfl ?_
  refine zj_eqlv (lv' := [(0, .ref q0), (1, .ref yk), (2, .ref yw), (3, .ref yb), (4, .ref yp), (5, .ref yr), (6, .ref yu), (7, .ref yt), (8, .int (zI 0)), (9, .int (zI 0)), (10, .int (zI 0)), (11, .int (zI 0)), (12, .int (zI 0)), (13, .int (zI uu)), (14, .int (zI 0)), (15, .int (zI (0 : Int)))]) (by rfl) ?_
  exact hL39 (17) 0 0 0 0 0 0 0 (by omega) (rfl) (rfl) (rfl) (rfl) (rfl) (Or.inl ⟨rfl, rfl⟩) (by omega) (by omega)
