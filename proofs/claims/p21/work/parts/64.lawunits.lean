theorem zU_zU (f : Int → Int) (i a b : Int) : zU (zU f i a) i b = zU f i b := by
  funext x
  unfold zU
  split <;> rfl
theorem zU_self (f : Int → Int) (i : Int) : zU f i (f i) = f := by
  funext x
  unfold zU
  split
  · subst_vars; rfl
  · rfl
theorem zEx_zEx (f : Int → Int) (p : Int) : zEx (zEx f p) p = f := by
  funext x
  rw [zEx_at, zEx_at, zEx_at, zEx_at]
  (repeat' split) <;> first | rfl | (subst_vars; rfl) | omega | (congr 1; omega)
section ZCS
variable {n sg : Int} {K W T K' W' T' : Int → Int}
theorem zOut_c (h : ∀ x : Int, 0 ≤ x → x < n → K x = K' x ∧ W x = W' x ∧ T x = T' x) : zOut n sg K W T = zOut n sg K' W' T' := by
  unfold zOut; rw [zManyF_c h]
theorem zCost_c (h : ∀ x : Int, 0 ≤ x → x < n → K x = K' x ∧ W x = W' x ∧ T x = T' x) : zCost n sg K W T = zCost n sg K' W' T' := by
  unfold zCost; rw [zOut_c h, zFin_c h]
theorem zLeast_c (h : ∀ x : Int, 0 ≤ x → x < n → K x = K' x ∧ W x = W' x ∧ T x = T' x) : ∀ m : Nat, zLeast n sg K W T m = zLeast n sg K' W' T' m
  | 0 => rfl
  | m + 1 => by rw [zLeast, zLeast, zLeast_c h m, zOut_c h, zOut_c h, zFin_c h, zFin_c h]
end ZCS
theorem zBw_1 {cf : Int → Int} : ∀ m : Nat, 0 < m → 1 ≤ (zBw cf m).1
  | 0, h => absurd h (by omega)
  | m + 1, _ => by
    rw [zBw]
    by_cases q : (zBw cf m).1 = -1 ∨ cf (m + 1) < (zBw cf m).2
    · rw [if_pos q]; dsimp only; omega
    · rw [if_neg q]
      have hm : 0 < m := by
        cases m with
        | zero => exact absurd (Or.inl rfl) q
        | succ m => omega
      exact zBw_1 m hm
/-- the law's search for the best width -/
theorem zBw_law {cf : Int → Int} {m : Nat} {be le its be2 le2 : Int} (h : (m = 0 ∧ be = 0 ∧ le = 0) ∨ (0 < m ∧ be = (zBw cf m).1 ∧ le = (zBw cf m).2)) (hi : its = cf ((m : Int) + 1))
    (h2 : (((m : Int) + 1 = 1 ∨ its < le) ∧ be2 = (m : Int) + 1 ∧ le2 = its) ∨ (¬ ((m : Int) + 1 = 1 ∨ its < le) ∧ be2 = be ∧ le2 = le)) : (m + 1 = 0 ∧ be2 = 0 ∧ le2 = 0) ∨ (0 < m + 1 ∧ be2 = (zBw cf (m + 1)).1 ∧ le2 = (zBw cf (m + 1)).2) := by
  right
  refine ⟨by omega, ?_⟩
  rw [zBw, ← hi]
  rcases h with ⟨rfl, e1, e2⟩ | ⟨hm, e1, e2⟩
  · rw [if_pos (Or.inl (show (zBw cf 0).1 = -1 from rfl))]
    rcases h2 with ⟨-, a, b⟩ | ⟨a, -⟩
    · exact ⟨a, b⟩
    · exact absurd (Or.inl (by omega)) a
  · have h1 := zBw_1 (cf := cf) m hm
    rcases h2 with ⟨a, b, c⟩ | ⟨a, b, c⟩
    · have q : its < (zBw cf m).2 := by rcases a with a | a; omega; rw [← e2]; exact a
      rw [if_pos (Or.inr q)]; exact ⟨b, c⟩
    · rw [if_neg]
      · exact ⟨b.trans e1, c.trans e2⟩
      · rintro (q | q)
        · omega
        · exact a (Or.inr (by rw [e2]; exact q))
theorem zLeast_y {n sg v : Int} {K W T : Int → Int} (hv : v ≤ sg) (h : zUsed (zFin v K W T n) ≤ zUsed (zFin sg K W T n) ∧ zOut n v K W T ≤ zOut n sg K W T) : zLeast n sg K W T (sg - v).toNat = v := by
  by_cases q : v = sg
  · subst q; rw [show (v - v).toNat = 0 by omega]; rfl
  · rw [show (sg - v).toNat = (sg - (v + 1)).toNat + 1 by omega, zLeast, show sg - (((sg - (v + 1)).toNat : Int) + 1) = v by omega, if_pos h]
theorem zLeast_n {n sg v : Int} {K W T : Int → Int} (hv : v ≤ sg) (h : ¬ (zUsed (zFin v K W T n) ≤ zUsed (zFin sg K W T n) ∧ zOut n v K W T ≤ zOut n sg K W T)) : v < sg ∧ zLeast n sg K W T (sg - v).toNat = zLeast n sg K W T (sg - (v + 1)).toNat := by
  have q : v ≠ sg := fun e => by subst e; exact h ⟨Int.le_refl _, Int.le_refl _⟩
  refine ⟨by omega, ?_⟩
  rw [show (sg - v).toNat = (sg - (v + 1)).toNat + 1 by omega, zLeast, show sg - (((sg - (v + 1)).toNat : Int) + 1) = v by omega, if_neg h]

abbrev rm_L_units : Room := { frames := 3, cells := 0, slots := 0, locals := 72 }
set_option maxRecDepth 100000 in
set_option maxHeartbeats 4000000 in
theorem c_L_units (l : Launch) (D : va_G) (cI cS cJ : ClassId) (q0 : Nat) (q2 : Nat) (g1 : Nat) (g2 : Nat) (g3 : Nat) (q1 : Nat) (a0 : Nat) (a1 : Nat) (a2 : Nat) (a3 : Nat) (a4 : Nat) (a5 : Nat) (a6 : Nat) (a7 : Nat) (qt : Nat) (ql : Nat) (qh : Nat) (qx : Nat) (n1 : Int) (sg : Int) (pg : Int) (rw : Int) (un : Int) (K1 : Int → Int) (W1 : Int → Int) (T1 : Int → Int) (P1 : Int → Int) (R1 : Int → Int) (U1 : Int → Int) (yk : Nat) (yw : Nat) (yp : Nat) (yr : Nat) (yu : Nat) (yt : Nat) (Kl : Int → Int) (Wl : Int → Int) (Bl : Int → Int) (Pl : Int → Int) (Rl : Int → Int) (Ul : Int → Int) (ty : Int → Int) (p1 : Int) (hst : zOk n1 sg K1 W1 T1) (hP : ∀ i : Nat, (i : Int) < n1 → P1 i = (zPos sg K1 W1 T1 i).1 ∧ R1 i = (zPos sg K1 W1 T1 i).2.1 ∧ U1 i = (zPos sg K1 W1 T1 i).2.2) (hag : ∀ x, 0 ≤ x → x < n1 → Kl x = K1 x ∧ Wl x = W1 x ∧ Bl x = T1 x) (hPl : ∀ i : Nat, (i : Int) < n1 → Pl i = (zPos sg Kl Wl Bl i).1 ∧ Rl i = (zPos sg Kl Wl Bl i).2.1 ∧ Ul i = (zPos sg Kl Wl Bl i).2.2) (ht : ty 0 = sg ∧ ty 1 = n1) (hp : 0 ≤ p1 ∧ p1 < 16) : zMi l yL_units wsL_units rm_L_units D (zTy cI cS cJ) [.ref q0, .ref yk, .ref yw, .ref yp, .ref yr, .ref yu, .ref yt, .int (zI p1)] [(q0, .inr (4, [.ref q2, .ref q1, .ref qt, .ref ql, .ref qh, .ref qx])), (q2, .inr (2, [.ref g1, .ref g2, .ref g3, .int (zI n1), .int (zI sg)])), (g2, .inl (cI, 24, .inl (zA W1))), (q1, .inr (1, [.ref a0, .ref a1, .ref a2, .ref a3, .ref a4, .ref a5, .ref a6, .ref a7, .int (zI pg), .int (zI rw), .int (zI un), .int (zI ((zFin sg K1 W1 T1 n1).2.2.2.2.2.2.2.2.1)), .int (zI ((zFin sg K1 W1 T1 n1).2.2.2.2.2.2.2.2.2.1)), .int (zI ((zFin sg K1 W1 T1 n1).2.2.2.2.2.2.2.2.2.2)), .int (zI (zOut n1 sg K1 W1 T1))])), (a1, .inl (cI, 24, .inl (zA R1))), (a2, .inl (cI, 24, .inl (zA U1))), (a3, .inl (cI, 16, .inl (zA ((zFin sg K1 W1 T1 n1).2.2.2.2.1)))), (a6, .inl (cI, 16, .inl (zA ((zFin sg K1 W1 T1 n1).2.2.2.2.2.2.2.1)))), (yk, .inl (cI, 24, .inl (zA Kl))), (yw, .inl (cI, 24, .inl (zA Wl))), (yp, .inl (cI, 24, .inl (zA Pl))), (yr, .inl (cI, 24, .inl (zA Rl))), (yu, .inl (cI, 24, .inl (zA Ul))), (yt, .inl (cI, 2, .inl (zA ty)))] (fun r w => r = zI 1 ∧ w = [(q0, .inr (4, [.ref q2, .ref q1, .ref qt, .ref ql, .ref qh, .ref qx])), (q2, .inr (2, [.ref g1, .ref g2, .ref g3, .int (zI n1), .int (zI sg)])), (g2, .inl (cI, 24, .inl (zA W1))), (q1, .inr (1, [.ref a0, .ref a1, .ref a2, .ref a3, .ref a4, .ref a5, .ref a6, .ref a7, .int (zI pg), .int (zI rw), .int (zI un), .int (zI ((zFin sg K1 W1 T1 n1).2.2.2.2.2.2.2.2.1)), .int (zI ((zFin sg K1 W1 T1 n1).2.2.2.2.2.2.2.2.2.1)), .int (zI ((zFin sg K1 W1 T1 n1).2.2.2.2.2.2.2.2.2.2)), .int (zI (zOut n1 sg K1 W1 T1))])), (a1, .inl (cI, 24, .inl (zA R1))), (a2, .inl (cI, 24, .inl (zA U1))), (a3, .inl (cI, 16, .inl (zA ((zFin sg K1 W1 T1 n1).2.2.2.2.1)))), (a6, .inl (cI, 16, .inl (zA ((zFin sg K1 W1 T1 n1).2.2.2.2.2.2.2.1)))), (yk, .inl (cI, 24, .inl (zA Kl))), (yw, .inl (cI, 24, .inl (zA Wl))), (yp, .inl (cI, 24, .inl (zA Pl))), (yr, .inl (cI, 24, .inl (zA Rl))), (yu, .inl (cI, 24, .inl (zA Ul))), (yt, .inl (cI, 2, .inl (zA ty)))]) 0 0 := by
  intro sz
  refine zMet_of (Qc := fun A => va_Qi _ (zB D (zTy cI cS cJ) A) A) RL [(0, .ref q0), (1, .ref yk), (2, .ref yw), (3, .ref yp), (4, .ref yr), (5, .ref yu), (6, .ref yt), (7, .int (zI p1))] rfl (by decide +kernel) rfl (Nat.le_of_ble_eq_true rfl) rfl ?_ sz
  intro p e s m args below meth c A Q hQ C hr hini
  have hn := hst.1
  have hok2 : zOk n1 sg Kl Wl Bl := zOk_c (fun x h1 h2 => ⟨(hag x h1 h2).1.symm, (hag x h1 h2).2.1.symm, (hag x h1 h2).2.2.symm⟩) hst
  have hGe : zGrid sg Kl Wl Bl n1.toNat = zGrid sg K1 W1 T1 n1.toNat := zGrid_c _ (fun x h1 h2 => hag x h1 (by omega))
  refine zj_iconst 1 C dL_units_0 rfl ?_
  refine zj_istore 3 [(8, .int (zI 0)), (0, .ref q0), (1, .ref yk), (2, .ref yw), (3, .ref yp), (4, .ref yr), (5, .ref yu), (6, .ref yt), (7, .int (zI p1))] C dL_units_1 rfl (by decide) rfl ?_
  have hL3 : ∀ (N : Nat) (x : Nat), ((x : Int) ≤ 24) → (24 - (x : Int) < N) → zJ p l e rm_L_units s m args below meth c Q D A 11 [(q0, .inr (4, [.ref q2, .ref q1, .ref qt, .ref ql, .ref qh, .ref qx])), (q2, .inr (2, [.ref g1, .ref g2, .ref g3, .int (zI n1), .int (zI sg)])), (g2, .inl (cI, 24, .inl (zA W1))), (q1, .inr (1, [.ref a0, .ref a1, .ref a2, .ref a3, .ref a4, .ref a5, .ref a6, .ref a7, .int (zI pg), .int (zI rw), .int (zI un), .int (zI ((zFin sg K1 W1 T1 n1).2.2.2.2.2.2.2.2.1)), .int (zI ((zFin sg K1 W1 T1 n1).2.2.2.2.2.2.2.2.2.1)), .int (zI ((zFin sg K1 W1 T1 n1).2.2.2.2.2.2.2.2.2.2)), .int (zI (zOut n1 sg K1 W1 T1))])), (a1, .inl (cI, 24, .inl (zA R1))), (a2, .inl (cI, 24, .inl (zA U1))), (a3, .inl (cI, 16, .inl (zA ((zFin sg K1 W1 T1 n1).2.2.2.2.1)))), (a6, .inl (cI, 16, .inl (zA ((zFin sg K1 W1 T1 n1).2.2.2.2.2.2.2.1)))), (yk, .inl (cI, 24, .inl (zA Kl))), (yw, .inl (cI, 24, .inl (zA Wl))), (yp, .inl (cI, 24, .inl (zA Pl))), (yr, .inl (cI, 24, .inl (zA Rl))), (yu, .inl (cI, 24, .inl (zA Ul))), (yt, .inl (cI, 2, .inl (zA ty)))] (0) (0) [(0, .ref q0), (1, .ref yk), (2, .ref yw), (3, .ref yp), (4, .ref yr), (5, .ref yu), (6, .ref yt), (7, .int (zI p1)), (8, .int (zI (x : Int)))] 3 [] := by
    intro N
    induction N with
    | zero => intro x hx hN; exact absurd hN (by omega)
    | succ N ih =>
      intro x hx hN
      refine zj_iload 5 8 C dL_units_3 rfl rfl ?_
      refine zj_bipush 7 C dL_units_5 rfl rfl ?_
      refine zj_icmp_ge 10 88 C (by omega) (by omega) dL_units_7 rfl (by decide) (fun h_1 => ?_) (fun h_1 => ?_)
      · skip
        refine zj_iconst 89 C dL_units_88 rfl ?_
        subst hQ
        exact zj_zret C (zI_bool (by omega)) hr ⟨rfl, rfl⟩ (by decide) (by decide) dL_units_89
      · skip
        refine zj_iconst 11 C dL_units_10 rfl ?_
        refine zj_istore 13 [(9, .int (zI (-1))), (0, .ref q0), (1, .ref yk), (2, .ref yw), (3, .ref yp), (4, .ref yr), (5, .ref yu), (6, .ref yt), (7, .int (zI p1)), (8, .int (zI (x : Int)))] C dL_units_11 rfl (by decide) rfl ?_
        refine zj_iconst 14 C dL_units_13 rfl ?_
        refine zj_istore 16 [(10, .int (zI 0)), (9, .int (zI (-1))), (0, .ref q0), (1, .ref yk), (2, .ref yw), (3, .ref yp), (4, .ref yr), (5, .ref yu), (6, .ref yt), (7, .int (zI p1)), (8, .int (zI (x : Int)))] C dL_units_14 rfl (by decide) rfl ?_
        have hL16 : ∀ (N16 : Nat) (j : Nat) (fo : Int), ((x : Int) < 24) → ((j : Int) ≤ n1) → (fo = zGrid sg Kl Wl Bl j (24 * p1 + x)) → (-1 ≤ fo ∧ fo ≤ 24) → (n1 - (j : Int) < N16) → zJ p l e rm_L_units s m args below meth c Q D A 11 [(q0, .inr (4, [.ref q2, .ref q1, .ref qt, .ref ql, .ref qh, .ref qx])), (q2, .inr (2, [.ref g1, .ref g2, .ref g3, .int (zI n1), .int (zI sg)])), (g2, .inl (cI, 24, .inl (zA W1))), (q1, .inr (1, [.ref a0, .ref a1, .ref a2, .ref a3, .ref a4, .ref a5, .ref a6, .ref a7, .int (zI pg), .int (zI rw), .int (zI un), .int (zI ((zFin sg K1 W1 T1 n1).2.2.2.2.2.2.2.2.1)), .int (zI ((zFin sg K1 W1 T1 n1).2.2.2.2.2.2.2.2.2.1)), .int (zI ((zFin sg K1 W1 T1 n1).2.2.2.2.2.2.2.2.2.2)), .int (zI (zOut n1 sg K1 W1 T1))])), (a1, .inl (cI, 24, .inl (zA R1))), (a2, .inl (cI, 24, .inl (zA U1))), (a3, .inl (cI, 16, .inl (zA ((zFin sg K1 W1 T1 n1).2.2.2.2.1)))), (a6, .inl (cI, 16, .inl (zA ((zFin sg K1 W1 T1 n1).2.2.2.2.2.2.2.1)))), (yk, .inl (cI, 24, .inl (zA Kl))), (yw, .inl (cI, 24, .inl (zA Wl))), (yp, .inl (cI, 24, .inl (zA Pl))), (yr, .inl (cI, 24, .inl (zA Rl))), (yu, .inl (cI, 24, .inl (zA Ul))), (yt, .inl (cI, 2, .inl (zA ty)))] (0) (0) [(0, .ref q0), (1, .ref yk), (2, .ref yw), (3, .ref yp), (4, .ref yr), (5, .ref yu), (6, .ref yt), (7, .int (zI p1)), (8, .int (zI (x : Int))), (9, .int (zI fo)), (10, .int (zI (j : Int)))] 16 [] := by
          intro N16
          induction N16 with
          | zero => intro j fo hx2 hj hfo hfb hN16; exact absurd hN16 (by omega)
          | succ N16 ih16 =>
            intro j fo hx2 hj hfo hfb hN16
            refine zj_iload 18 10 C dL_units_16 rfl rfl ?_
            refine zj_aload 20 6 C dL_units_18 rfl rfl ?_
            refine zj_iconst 21 C dL_units_20 rfl ?_
            refine zj_iald 22 13 C (by omega) (by omega) rfl rfl dL_units_21 rfl ?_
            refine zj_icmp_ge 25 59 C (by omega) (by omega) dL_units_22 rfl (by decide) (fun h_2 => ?_) (fun h_2 => ?_)
            · skip
              refine zj_aload_n 60 0 C dL_units_59 rfl rfl rfl ?_
              refine zj_iload 62 7 C dL_units_60 rfl rfl ?_
              refine zj_iload 64 8 C dL_units_62 rfl rfl ?_
              refine zj_bipush 66 C dL_units_64 rfl rfl ?_
              refine zj_idiv 67 C (by omega) (by omega) dL_units_66 rfl ?_
              refine zj_iload 69 8 C dL_units_67 rfl rfl ?_
              refine zj_bipush 71 C dL_units_69 rfl rfl ?_
              refine zj_irem 72 C (by omega) (by omega) dL_units_71 rfl ?_
              refine zj_ci 75 [0, 1, 2, 3, 4, 5, 6, 7] [8, 9, 10, 11, 12, 13] C (wr := [(yk, .inl (cI, 24, .inl (zA Kl))), (yw, .inl (cI, 24, .inl (zA Wl))), (yp, .inl (cI, 24, .inl (zA Pl))), (yr, .inl (cI, 24, .inl (zA Rl))), (yu, .inl (cI, 24, .inl (zA Ul))), (yt, .inl (cI, 2, .inl (zA ty)))]) (zr_V [0, 1, 2, 3, 4, 5, 6, 7] C (As := [.int (zI p1), .int (zI ((x : Int) / 6)), .int (zI ((x : Int) % 6))]) (rest := []) (c_X4_at l D cI cS cJ q0 q2 g1 g2 g3 q1 a0 a1 a2 a3 a4 a5 a6 a7 qt ql qh qx n1 sg pg rw un K1 W1 T1 P1 R1 U1 p1 ((x : Int) / 6) ((x : Int) % 6) hst hP hp (by omega) (by omega)) (cwV 3 C.1.2.2.2.2 gL_units_X4_at rfl rfl rfl (by decide +kernel) ⟨Nat.le_of_ble_eq_true rfl, Nat.le_of_ble_eq_true rfl⟩) rfl (by decide) 0 rfl rfl rfl rfl (Nat.le_of_ble_eq_true rfl) dL_units_72 ⟨Nat.le_of_ble_eq_true rfl, Nat.le_of_ble_eq_true rfl⟩) rfl rfl (by decide) (by decide) rfl (fun r_3 w_ hp_4 => ?_)
              obtain ⟨rfl, rfl⟩ := hp_4
              refine zj_ws (ws' := [(yk, .inl (cI, 24, .inl (zA Kl))), (yw, .inl (cI, 24, .inl (zA Wl))), (yp, .inl (cI, 24, .inl (zA Pl))), (yr, .inl (cI, 24, .inl (zA Rl))), (yu, .inl (cI, 24, .inl (zA Ul))), (yt, .inl (cI, 2, .inl (zA ty))), (q0, .inr (4, [.ref q2, .ref q1, .ref qt, .ref ql, .ref qh, .ref qx])), (q2, .inr (2, [.ref g1, .ref g2, .ref g3, .int (zI n1), .int (zI sg)])), (g2, .inl (cI, 24, .inl (zA W1))), (q1, .inr (1, [.ref a0, .ref a1, .ref a2, .ref a3, .ref a4, .ref a5, .ref a6, .ref a7, .int (zI pg), .int (zI rw), .int (zI un), .int (zI ((zFin sg K1 W1 T1 n1).2.2.2.2.2.2.2.2.1)), .int (zI ((zFin sg K1 W1 T1 n1).2.2.2.2.2.2.2.2.2.1)), .int (zI ((zFin sg K1 W1 T1 n1).2.2.2.2.2.2.2.2.2.2)), .int (zI (zOut n1 sg K1 W1 T1))])), (a1, .inl (cI, 24, .inl (zA R1))), (a2, .inl (cI, 24, .inl (zA U1))), (a3, .inl (cI, 16, .inl (zA ((zFin sg K1 W1 T1 n1).2.2.2.2.1)))), (a6, .inl (cI, 16, .inl (zA ((zFin sg K1 W1 T1 n1).2.2.2.2.2.2.2.1))))]) rfl ?_
              refine zj_st (st' := [.int (zI fo)]) (by rw [hfo, show j = n1.toNat by omega, hGe, show 24 * p1 + 6 * ((x : Int) / 6) + (x : Int) % 6 = 24 * p1 + x by omega]) ?_
              refine zj_iload 77 9 C dL_units_75 rfl rfl ?_
              refine zj_icmp_rfl 82 C dL_units_77 (by decide) ?_
              refine zj_iinc 85 8 [(8, .int (zI ((x : Int) + 1))), (0, .ref q0), (1, .ref yk), (2, .ref yw), (3, .ref yp), (4, .ref yr), (5, .ref yu), (6, .ref yt), (7, .int (zI p1)), (9, .int (zI fo)), (10, .int (zI (j : Int)))] C dL_units_82 rfl rfl (by decide) rfl ?_
              refine zj_goto 3 C dL_units_85 (by decide) ?_
              refine zj_re [6, 7, 8, 9, 10, 11, 12, 13, 0, 1, 2, 3, 4, 5] [(q0, .inr (4, [.ref q2, .ref q1, .ref qt, .ref ql, .ref qh, .ref qx])), (q2, .inr (2, [.ref g1, .ref g2, .ref g3, .int (zI n1), .int (zI sg)])), (g2, .inl (cI, 24, .inl (zA W1))), (q1, .inr (1, [.ref a0, .ref a1, .ref a2, .ref a3, .ref a4, .ref a5, .ref a6, .ref a7, .int (zI pg), .int (zI rw), .int (zI un), .int (zI ((zFin sg K1 W1 T1 n1).2.2.2.2.2.2.2.2.1)), .int (zI ((zFin sg K1 W1 T1 n1).2.2.2.2.2.2.2.2.2.1)), .int (zI ((zFin sg K1 W1 T1 n1).2.2.2.2.2.2.2.2.2.2)), .int (zI (zOut n1 sg K1 W1 T1))])), (a1, .inl (cI, 24, .inl (zA R1))), (a2, .inl (cI, 24, .inl (zA U1))), (a3, .inl (cI, 16, .inl (zA ((zFin sg K1 W1 T1 n1).2.2.2.2.1)))), (a6, .inl (cI, 16, .inl (zA ((zFin sg K1 W1 T1 n1).2.2.2.2.2.2.2.1)))), (yk, .inl (cI, 24, .inl (zA Kl))), (yw, .inl (cI, 24, .inl (zA Wl))), (yp, .inl (cI, 24, .inl (zA Pl))), (yr, .inl (cI, 24, .inl (zA Rl))), (yu, .inl (cI, 24, .inl (zA Ul))), (yt, .inl (cI, 2, .inl (zA ty)))] (by decide) rfl ?_
              refine zj_lv [1, 2, 3, 4, 5, 6, 7, 8, 0] [(0, .ref q0), (1, .ref yk), (2, .ref yw), (3, .ref yp), (4, .ref yr), (5, .ref yu), (6, .ref yt), (7, .int (zI p1)), (8, .int (zI ((x : Int) + 1)))] rfl ?_
              refine zj_eqlv (lv' := [(0, .ref q0), (1, .ref yk), (2, .ref yw), (3, .ref yp), (4, .ref yr), (5, .ref yu), (6, .ref yt), (7, .int (zI p1)), (8, .int (zI ((x + 1) : Int)))]) (by rfl) ?_
              exact ih (x + 1) (by omega) (by omega)
            · skip
              have hk := hok2.2.2 j (by omega) (by omega)
              have hpb := zq_P hok2 hPl j (by omega) (by omega)
              refine zj_aload_n 26 1 C dL_units_25 rfl rfl rfl ?_
              refine zj_aload_n 27 2 C dL_units_26 rfl rfl rfl ?_
              refine zj_aload_n 28 3 C dL_units_27 rfl rfl rfl ?_
              refine zj_aload 30 4 C dL_units_28 rfl rfl ?_
              refine zj_aload 32 5 C dL_units_30 rfl rfl ?_
              refine zj_iload 34 10 C dL_units_32 rfl rfl ?_
              refine zj_iload 36 7 C dL_units_34 rfl rfl ?_
              refine zj_iload 38 8 C dL_units_36 rfl rfl ?_
              refine zj_ci 41 [8, 9, 10, 11, 12] [0, 1, 2, 3, 4, 5, 6, 7, 13] C (wr := [(q0, .inr (4, [.ref q2, .ref q1, .ref qt, .ref ql, .ref qh, .ref qx])), (q2, .inr (2, [.ref g1, .ref g2, .ref g3, .int (zI n1), .int (zI sg)])), (g2, .inl (cI, 24, .inl (zA W1))), (q1, .inr (1, [.ref a0, .ref a1, .ref a2, .ref a3, .ref a4, .ref a5, .ref a6, .ref a7, .int (zI pg), .int (zI rw), .int (zI un), .int (zI ((zFin sg K1 W1 T1 n1).2.2.2.2.2.2.2.2.1)), .int (zI ((zFin sg K1 W1 T1 n1).2.2.2.2.2.2.2.2.2.1)), .int (zI ((zFin sg K1 W1 T1 n1).2.2.2.2.2.2.2.2.2.2)), .int (zI (zOut n1 sg K1 W1 T1))])), (a1, .inl (cI, 24, .inl (zA R1))), (a2, .inl (cI, 24, .inl (zA U1))), (a3, .inl (cI, 16, .inl (zA ((zFin sg K1 W1 T1 n1).2.2.2.2.1)))), (a6, .inl (cI, 16, .inl (zA ((zFin sg K1 W1 T1 n1).2.2.2.2.2.2.2.1)))), (yt, .inl (cI, 2, .inl (zA ty)))]) (zr_S [8, 9, 10, 11, 12] C (As := [.ref yk, .ref yw, .ref yp, .ref yr, .ref yu, .int (zI (j : Int)), .int (zI p1), .int (zI (x : Int))]) (rest := []) (c_L_takes l D cI cS cJ yk yw yp yr yu Kl Wl Pl Rl Ul (j : Int) p1 (x : Int) (by omega) (by omega) (by omega) (by omega)) (va_cwS 8 C.1.2.2.2.2 gL_units_L_takes rfl rfl rfl (by decide +kernel) ⟨Nat.le_of_ble_eq_true rfl, Nat.le_of_ble_eq_true rfl⟩) rfl (by decide) rfl rfl (Nat.le_of_ble_eq_true rfl) dL_units_38 ⟨Nat.le_of_ble_eq_true rfl, Nat.le_of_ble_eq_true rfl⟩) rfl rfl (by decide) (by decide) rfl (fun r_5 w_ hp_6 => ?_)
              obtain ⟨r1_7, ftk, rfl, rfl⟩ := hp_6
              refine zj_ws (ws' := [(q0, .inr (4, [.ref q2, .ref q1, .ref qt, .ref ql, .ref qh, .ref qx])), (q2, .inr (2, [.ref g1, .ref g2, .ref g3, .int (zI n1), .int (zI sg)])), (g2, .inl (cI, 24, .inl (zA W1))), (q1, .inr (1, [.ref a0, .ref a1, .ref a2, .ref a3, .ref a4, .ref a5, .ref a6, .ref a7, .int (zI pg), .int (zI rw), .int (zI un), .int (zI ((zFin sg K1 W1 T1 n1).2.2.2.2.2.2.2.2.1)), .int (zI ((zFin sg K1 W1 T1 n1).2.2.2.2.2.2.2.2.2.1)), .int (zI ((zFin sg K1 W1 T1 n1).2.2.2.2.2.2.2.2.2.2)), .int (zI (zOut n1 sg K1 W1 T1))])), (a1, .inl (cI, 24, .inl (zA R1))), (a2, .inl (cI, 24, .inl (zA U1))), (a3, .inl (cI, 16, .inl (zA ((zFin sg K1 W1 T1 n1).2.2.2.2.1)))), (a6, .inl (cI, 16, .inl (zA ((zFin sg K1 W1 T1 n1).2.2.2.2.2.2.2.1)))), (yt, .inl (cI, 2, .inl (zA ty))), (yk, .inl (cI, 24, .inl (zA Kl))), (yw, .inl (cI, 24, .inl (zA Wl))), (yp, .inl (cI, 24, .inl (zA Pl))), (yr, .inl (cI, 24, .inl (zA Rl))), (yu, .inl (cI, 24, .inl (zA Ul)))]) rfl ?_
              refine zj_if_eq 44 49 C (by omega) dL_units_41 rfl (by decide) (fun h_8 => ?_) (fun h_8 => ?_)
              · skip
                refine zj_iload 51 9 C dL_units_49 rfl rfl ?_
                refine zj_istore 53 [(9, .int (zI fo)), (0, .ref q0), (1, .ref yk), (2, .ref yw), (3, .ref yp), (4, .ref yr), (5, .ref yu), (6, .ref yt), (7, .int (zI p1)), (8, .int (zI (x : Int))), (10, .int (zI (j : Int)))] C dL_units_51 rfl (by decide) rfl ?_
                refine zj_iinc 56 10 [(10, .int (zI ((j : Int) + 1))), (9, .int (zI fo)), (0, .ref q0), (1, .ref yk), (2, .ref yw), (3, .ref yp), (4, .ref yr), (5, .ref yu), (6, .ref yt), (7, .int (zI p1)), (8, .int (zI (x : Int)))] C dL_units_53 rfl rfl (by decide) rfl ?_
                refine zj_goto 16 C dL_units_56 (by decide) ?_
                refine zj_re [0, 1, 2, 3, 4, 5, 6, 7, 9, 10, 11, 12, 13, 8] [(q0, .inr (4, [.ref q2, .ref q1, .ref qt, .ref ql, .ref qh, .ref qx])), (q2, .inr (2, [.ref g1, .ref g2, .ref g3, .int (zI n1), .int (zI sg)])), (g2, .inl (cI, 24, .inl (zA W1))), (q1, .inr (1, [.ref a0, .ref a1, .ref a2, .ref a3, .ref a4, .ref a5, .ref a6, .ref a7, .int (zI pg), .int (zI rw), .int (zI un), .int (zI ((zFin sg K1 W1 T1 n1).2.2.2.2.2.2.2.2.1)), .int (zI ((zFin sg K1 W1 T1 n1).2.2.2.2.2.2.2.2.2.1)), .int (zI ((zFin sg K1 W1 T1 n1).2.2.2.2.2.2.2.2.2.2)), .int (zI (zOut n1 sg K1 W1 T1))])), (a1, .inl (cI, 24, .inl (zA R1))), (a2, .inl (cI, 24, .inl (zA U1))), (a3, .inl (cI, 16, .inl (zA ((zFin sg K1 W1 T1 n1).2.2.2.2.1)))), (a6, .inl (cI, 16, .inl (zA ((zFin sg K1 W1 T1 n1).2.2.2.2.2.2.2.1)))), (yk, .inl (cI, 24, .inl (zA Kl))), (yw, .inl (cI, 24, .inl (zA Wl))), (yp, .inl (cI, 24, .inl (zA Pl))), (yr, .inl (cI, 24, .inl (zA Rl))), (yu, .inl (cI, 24, .inl (zA Ul))), (yt, .inl (cI, 2, .inl (zA ty)))] (by decide) rfl ?_
                refine zj_lv [2, 3, 4, 5, 6, 7, 8, 9, 10, 1, 0] [(0, .ref q0), (1, .ref yk), (2, .ref yw), (3, .ref yp), (4, .ref yr), (5, .ref yu), (6, .ref yt), (7, .int (zI p1)), (8, .int (zI (x : Int))), (9, .int (zI fo)), (10, .int (zI ((j : Int) + 1)))] rfl ?_
                refine zj_eqlv (lv' := [(0, .ref q0), (1, .ref yk), (2, .ref yw), (3, .ref yp), (4, .ref yr), (5, .ref yu), (6, .ref yt), (7, .int (zI p1)), (8, .int (zI (x : Int))), (9, .int (zI fo)), (10, .int (zI ((j + 1) : Int)))]) (by rfl) ?_
                exact ih16 (j + 1) fo (by omega) (by omega) (by rw [kTs_g hok2 hPl (by omega) hp (by omega), if_neg (by rcases ftk with q | q; omega; exact q.2)]; exact hfo) (by omega) (by omega)
              · skip
                refine zj_iload 46 10 C dL_units_44 rfl rfl ?_
                refine zj_goto 51 C dL_units_46 (by decide) ?_
                refine zj_istore 53 [(9, .int (zI (j : Int))), (0, .ref q0), (1, .ref yk), (2, .ref yw), (3, .ref yp), (4, .ref yr), (5, .ref yu), (6, .ref yt), (7, .int (zI p1)), (8, .int (zI (x : Int))), (10, .int (zI (j : Int)))] C dL_units_51 rfl (by decide) rfl ?_
                refine zj_iinc 56 10 [(10, .int (zI ((j : Int) + 1))), (9, .int (zI (j : Int))), (0, .ref q0), (1, .ref yk), (2, .ref yw), (3, .ref yp), (4, .ref yr), (5, .ref yu), (6, .ref yt), (7, .int (zI p1)), (8, .int (zI (x : Int)))] C dL_units_53 rfl rfl (by decide) rfl ?_
                refine zj_goto 16 C dL_units_56 (by decide) ?_
                refine zj_re [0, 1, 2, 3, 4, 5, 6, 7, 9, 10, 11, 12, 13, 8] [(q0, .inr (4, [.ref q2, .ref q1, .ref qt, .ref ql, .ref qh, .ref qx])), (q2, .inr (2, [.ref g1, .ref g2, .ref g3, .int (zI n1), .int (zI sg)])), (g2, .inl (cI, 24, .inl (zA W1))), (q1, .inr (1, [.ref a0, .ref a1, .ref a2, .ref a3, .ref a4, .ref a5, .ref a6, .ref a7, .int (zI pg), .int (zI rw), .int (zI un), .int (zI ((zFin sg K1 W1 T1 n1).2.2.2.2.2.2.2.2.1)), .int (zI ((zFin sg K1 W1 T1 n1).2.2.2.2.2.2.2.2.2.1)), .int (zI ((zFin sg K1 W1 T1 n1).2.2.2.2.2.2.2.2.2.2)), .int (zI (zOut n1 sg K1 W1 T1))])), (a1, .inl (cI, 24, .inl (zA R1))), (a2, .inl (cI, 24, .inl (zA U1))), (a3, .inl (cI, 16, .inl (zA ((zFin sg K1 W1 T1 n1).2.2.2.2.1)))), (a6, .inl (cI, 16, .inl (zA ((zFin sg K1 W1 T1 n1).2.2.2.2.2.2.2.1)))), (yk, .inl (cI, 24, .inl (zA Kl))), (yw, .inl (cI, 24, .inl (zA Wl))), (yp, .inl (cI, 24, .inl (zA Pl))), (yr, .inl (cI, 24, .inl (zA Rl))), (yu, .inl (cI, 24, .inl (zA Ul))), (yt, .inl (cI, 2, .inl (zA ty)))] (by decide) rfl ?_
                refine zj_lv [2, 3, 4, 5, 6, 7, 8, 9, 10, 1, 0] [(0, .ref q0), (1, .ref yk), (2, .ref yw), (3, .ref yp), (4, .ref yr), (5, .ref yu), (6, .ref yt), (7, .int (zI p1)), (8, .int (zI (x : Int))), (9, .int (zI (j : Int))), (10, .int (zI ((j : Int) + 1)))] rfl ?_
                refine zj_eqlv (lv' := [(0, .ref q0), (1, .ref yk), (2, .ref yw), (3, .ref yp), (4, .ref yr), (5, .ref yu), (6, .ref yt), (7, .int (zI p1)), (8, .int (zI (x : Int))), (9, .int (zI (j : Int))), (10, .int (zI ((j + 1) : Int)))]) (by rfl) ?_
                exact ih16 (j + 1) (j : Int) (by omega) (by omega) (by rw [kTs_g hok2 hPl (by omega) hp (by omega), if_pos (by rcases ftk with q | q; exact q.2; omega)]) (by omega) (by omega)
        refine zj_lv [2, 3, 4, 5, 6, 7, 8, 9, 10, 1, 0] [(0, .ref q0), (1, .ref yk), (2, .ref yw), (3, .ref yp), (4, .ref yr), (5, .ref yu), (6, .ref yt), (7, .int (zI p1)), (8, .int (zI (x : Int))), (9, .int (zI (-1))), (10, .int (zI 0))] rfl ?_
        refine zj_eqlv (lv' := [(0, .ref q0), (1, .ref yk), (2, .ref yw), (3, .ref yp), (4, .ref yr), (5, .ref yu), (6, .ref yt), (7, .int (zI p1)), (8, .int (zI (x : Int))), (9, .int (zI (-1))), (10, .int (zI (0 : Int)))]) (by rfl) ?_
        exact hL16 (25) 0 (-1) (by omega) (by omega) (rfl) (by omega) (by omega)
  refine zj_lv [1, 2, 3, 4, 5, 6, 7, 8, 0] [(0, .ref q0), (1, .ref yk), (2, .ref yw), (3, .ref yp), (4, .ref yr), (5, .ref yu), (6, .ref yt), (7, .int (zI p1)), (8, .int (zI 0))] rfl ?_
  refine zj_eqlv (lv' := [(0, .ref q0), (1, .ref yk), (2, .ref yw), (3, .ref yp), (4, .ref yr), (5, .ref yu), (6, .ref yt), (7, .int (zI p1)), (8, .int (zI (0 : Int)))]) (by rfl) ?_
  exact hL3 (25) 0 (by omega) (by omega)
