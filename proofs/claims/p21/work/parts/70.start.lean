theorem wz_0 : Cond.instantiable RX0 2 ∈ wsL_law := List.mem_of_getElem? (i := 21) (by decide +kernel)
theorem wz_1 : Cond.instantiable RX1 15 ∈ wsL_law := List.mem_of_getElem? (i := 15) (by decide +kernel)
theorem wz_2 : Cond.instantiable RX2 5 ∈ wsL_law := List.mem_of_getElem? (i := 11) (by decide +kernel)
theorem wz_3 : Cond.instantiable RX3 2 ∈ wsL_law := List.mem_of_getElem? (i := 25) (by decide +kernel)
theorem wz_4 : Cond.instantiable RX4 6 ∈ wsL_law := List.mem_of_getElem? (i := 1) (by decide +kernel)
theorem zAO_t : Cond.arrayOver (.object RX2) ∈ tables_1 := by decide +kernel
theorem zArr_i : Cond.arrayClass .int ∈ tables_1 := by decide +kernel
theorem zF_start {args : Array Value} {s : State} (hts : ∀ w ∈ lw_tbl, w.before args s = true) : zF s := by
  have ht : ∀ w ∈ tables_1, w.before args s = true := fun w hw => hts w (List.mem_append_right _ hw)
  exact ⟨fun w hw => va_Nw.of (zNest_tab (List.mem_filter.mp hw).2) (hts w (List.mem_filter.mp hw).1), fun q hq => absurd hq List.not_mem_nil, va_AO.of (A := args) (ht _ zAO_t), fun q hq => absurd hq List.not_mem_nil⟩
theorem zArr_of {args : Array Value} {s : State} {ty : FieldType} (h : (Cond.arrayClass ty).before args s = true) : ∃ cA : ClassId, ArrOfT s cA ty ∧ s.vm.findClass ("[" ++ ty.toString) = some cA := by
  obtain ⟨cA, kA, comp, h1, h2, h3⟩ := Cond.arrayClass_spec h
  exact ⟨cA, fun n z => ⟨fun k h => (by cases h), kA, h2, comp, h3⟩, h1⟩
theorem zArr_ofO {args : Array Value} {s : State} {C : String} (h : (Cond.arrayOver (.object C)).before args s = true) : ∃ cA : ClassId, ArrOfT s cA (.object C) ∧ va_RA s cA (.object C) := by
  obtain ⟨comp, cA, kA, h1, -, h3, h4, h5⟩ := Cond.arrayOver_spec h
  exact ⟨cA, fun n z => ⟨fun k h => (by cases h), kA, h3, comp, h4⟩, kA, comp, h3, h4, h1, h5⟩
theorem zK_start {args : Array Value} {s : State} (hts : ∀ w ∈ lw_tbl, w.before args s = true) : ∃ (D : va_G) (cI cS cJ : ClassId), va_K D vwCl (zTy cI cS cJ) s := by
  have ht : ∀ w ∈ tables_1, w.before args s = true := fun w hw => hts w (List.mem_append_right _ hw)
  have hin : ∀ w ∈ wsL_law, w.before args s = true := fun w hw => hts w (wsL_law_in w hw)
  obtain ⟨c0, i0, k0⟩ := u_known (C := RX0) (T := TX0) (N := 2) (n := 2) hin inlX0 (hin _ wz_0)
  obtain ⟨c1, i1, k1⟩ := u_known (C := RX1) (T := TX1) (N := 15) (n := 15) hin inlX1 (hin _ wz_1)
  obtain ⟨c2, i2, k2⟩ := u_known (C := RX2) (T := TX2) (N := 5) (n := 5) hin inlX2 (hin _ wz_2)
  obtain ⟨c3, i3, k3⟩ := u_known (C := RX3) (T := TX3) (N := 2) (n := 2) hin inlX3 (hin _ wz_3)
  obtain ⟨c4, i4, k4⟩ := u_known (C := RX4) (T := TX4) (N := 6) (n := 6) hin inlX4 (hin _ wz_4)
  obtain ⟨cI, hI, hI2⟩ := zArr_of (ht _ zArr_i)
  obtain ⟨cS, hS, hS2⟩ := zArr_ofO (ht _ zAO_t)
  refine ⟨(fun k => if k = 0 then c0 else if k = 1 then c1 else if k = 2 then c2 else if k = 3 then c3 else c4, fun k => if k = 0 then i0 else if k = 1 then i1 else if k = 2 then i2 else if k = 3 then i3 else i4), cI, cS, cI, fun k q hq => ?_, fun k q hq => ?_⟩
  · match k, hq with
    | 0, hq => cases hq; exact k0
    | 1, hq => cases hq; exact k1
    | 2, hq => cases hq; exact k2
    | 3, hq => cases hq; exact k3
    | 4, hq => cases hq; exact k4
    | k + 5, hq => simp [vwCl] at hq
  · match k, hq with
    | 0, hq => cases hq; exact ⟨hI, hI2⟩
    | 1, hq => cases hq; exact ⟨hS, hS2⟩
    | k + 2, hq => simp [zTy] at hq
