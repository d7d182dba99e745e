theorem vt_1 {w : Cond} (h : w ∈ tables_1_1) : w ∈ lw_tbl := List.mem_append_right _ (List.mem_append_left _ h)
theorem vt_2 {w : Cond} (h : w ∈ tables_1_2) : w ∈ lw_tbl := List.mem_append_right _ (List.mem_append_right _ (List.mem_append_left _ h))
theorem vt_3 {w : Cond} (h : w ∈ tables_1_3) : w ∈ lw_tbl := List.mem_append_right _ (List.mem_append_right _ (List.mem_append_right _ (List.mem_append_left _ h)))
theorem vt_4 {w : Cond} (h : w ∈ tables_1_4) : w ∈ lw_tbl := List.mem_append_right _ (List.mem_append_right _ (List.mem_append_right _ (List.mem_append_right _ (List.mem_append_left _ h))))
theorem vt_5 {w : Cond} (h : w ∈ tables_1_5) : w ∈ lw_tbl := List.mem_append_right _ (List.mem_append_right _ (List.mem_append_right _ (List.mem_append_right _ (List.mem_append_right _ (h)))))
theorem nwF {args : Array Value} {s : State} (hts : ∀ w ∈ lw_tbl, w.before args s = true) : ∀ q ∈ jNF, va_Nw (.fieldLinkNest q.1 q.2.1 q.2.2.1 q.2.2.2.1 q.2.2.2.2.1 q.2.2.2.2.2) s := (List.forall_mem_cons.mpr ⟨va_Nw.of rfl (hts _ (vt_3 (List.mem_of_getElem? (i := 22) rfl))), (List.forall_mem_cons.mpr ⟨va_Nw.of rfl (hts _ (vt_3 (List.mem_of_getElem? (i := 132) rfl))), (List.forall_mem_cons.mpr ⟨va_Nw.of rfl (hts _ (vt_3 (List.mem_of_getElem? (i := 213) rfl))), (fun _ h => absurd h List.not_mem_nil)⟩)⟩)⟩)
theorem nwM {args : Array Value} {s : State} (hts : ∀ w ∈ lw_tbl, w.before args s = true) : ∀ q ∈ jNM, va_Nw (.methodLinkNest q.1 q.2.1 q.2.2.1 q.2.2.2) s := (List.forall_mem_cons.mpr ⟨va_Nw.of rfl (hts _ (vt_1 (List.mem_of_getElem? (i := 28) rfl))), (List.forall_mem_cons.mpr ⟨va_Nw.of rfl (hts _ (vt_1 (List.mem_of_getElem? (i := 44) rfl))), (List.forall_mem_cons.mpr ⟨va_Nw.of rfl (hts _ (vt_1 (List.mem_of_getElem? (i := 183) rfl))), (List.forall_mem_cons.mpr ⟨va_Nw.of rfl (hts _ (vt_1 (List.mem_of_getElem? (i := 95) rfl))), (List.forall_mem_cons.mpr ⟨va_Nw.of rfl (hts _ (vt_1 (List.mem_of_getElem? (i := 86) rfl))), (List.forall_mem_cons.mpr ⟨va_Nw.of rfl (hts _ (vt_3 (List.mem_of_getElem? (i := 21) rfl))), (List.forall_mem_cons.mpr ⟨va_Nw.of rfl (hts _ (vt_1 (List.mem_of_getElem? (i := 124) rfl))), (List.forall_mem_cons.mpr ⟨va_Nw.of rfl (hts _ (vt_2 (List.mem_of_getElem? (i := 61) rfl))), (List.forall_mem_cons.mpr ⟨va_Nw.of rfl (hts _ (vt_2 (List.mem_of_getElem? (i := 78) rfl))), (List.forall_mem_cons.mpr ⟨va_Nw.of rfl (hts _ (vt_1 (List.mem_of_getElem? (i := 114) rfl))), (List.forall_mem_cons.mpr ⟨va_Nw.of rfl (hts _ (vt_1 (List.mem_of_getElem? (i := 105) rfl))), (List.forall_mem_cons.mpr ⟨va_Nw.of rfl (hts _ (vt_1 (List.mem_of_getElem? (i := 134) rfl))), (List.forall_mem_cons.mpr ⟨va_Nw.of rfl (hts _ (vt_3 (List.mem_of_getElem? (i := 35) rfl))), (List.forall_mem_cons.mpr ⟨va_Nw.of rfl (hts _ (vt_1 (List.mem_of_getElem? (i := 131) rfl))), (List.forall_mem_cons.mpr ⟨va_Nw.of rfl (hts _ (vt_3 (List.mem_of_getElem? (i := 111) rfl))), (List.forall_mem_cons.mpr ⟨va_Nw.of rfl (hts _ (vt_3 (List.mem_of_getElem? (i := 112) rfl))), (List.forall_mem_cons.mpr ⟨va_Nw.of rfl (hts _ (vt_2 (List.mem_of_getElem? (i := 197) rfl))), (List.forall_mem_cons.mpr ⟨va_Nw.of rfl (hts _ (vt_2 (List.mem_of_getElem? (i := 218) rfl))), (List.forall_mem_cons.mpr ⟨va_Nw.of rfl (hts _ (vt_2 (List.mem_of_getElem? (i := 221) rfl))), (List.forall_mem_cons.mpr ⟨va_Nw.of rfl (hts _ (vt_3 (List.mem_of_getElem? (i := 177) rfl))), (List.forall_mem_cons.mpr ⟨va_Nw.of rfl (hts _ (vt_3 (List.mem_of_getElem? (i := 226) rfl))), (List.forall_mem_cons.mpr ⟨va_Nw.of rfl (hts _ (vt_1 (List.mem_of_getElem? (i := 74) rfl))), (List.forall_mem_cons.mpr ⟨va_Nw.of rfl (hts _ (vt_1 (List.mem_of_getElem? (i := 66) rfl))), (fun _ h => absurd h List.not_mem_nil)⟩)⟩)⟩)⟩)⟩)⟩)⟩)⟩)⟩)⟩)⟩)⟩)⟩)⟩)⟩)⟩)⟩)⟩)⟩)⟩)⟩)⟩)⟩)
theorem nwD {args : Array Value} {s : State} (hts : ∀ w ∈ lw_tbl, w.before args s = true) : ∀ q ∈ jND, va_Nw (.declares q) s := (List.forall_mem_cons.mpr ⟨va_Nw.of rfl (hts _ (vt_3 (List.mem_of_getElem? (i := 57) rfl))), (List.forall_mem_cons.mpr ⟨va_Nw.of rfl (hts _ (vt_3 (List.mem_of_getElem? (i := 79) rfl))), (List.forall_mem_cons.mpr ⟨va_Nw.of rfl (hts _ (vt_2 (List.mem_of_getElem? (i := 237) rfl))), (List.forall_mem_cons.mpr ⟨va_Nw.of rfl (hts _ (vt_3 (List.mem_of_getElem? (i := 15) rfl))), (fun _ h => absurd h List.not_mem_nil)⟩)⟩)⟩)⟩)
theorem nwX {args : Array Value} {s : State} (hts : ∀ w ∈ lw_tbl, w.before args s = true) : jX s := ⟨(List.forall_mem_cons.mpr ⟨hts _ (vt_1 (List.mem_of_getElem? (i := 41) rfl)), (List.forall_mem_cons.mpr ⟨hts _ (vt_1 (List.mem_of_getElem? (i := 60) rfl)), (List.forall_mem_cons.mpr ⟨hts _ (vt_1 (List.mem_of_getElem? (i := 153) rfl)), (fun _ h => absurd h List.not_mem_nil)⟩)⟩)⟩), (List.forall_mem_cons.mpr ⟨va_Nw.of rfl (hts _ (vt_5 (List.mem_of_getElem? (i := 112) rfl))), (List.forall_mem_cons.mpr ⟨va_Nw.of rfl (hts _ (vt_5 (List.mem_of_getElem? (i := 113) rfl))), (List.forall_mem_cons.mpr ⟨va_Nw.of rfl (hts _ (vt_5 (List.mem_of_getElem? (i := 114) rfl))), (List.forall_mem_cons.mpr ⟨va_Nw.of rfl (hts _ (vt_5 (List.mem_of_getElem? (i := 115) rfl))), (List.forall_mem_cons.mpr ⟨va_Nw.of rfl (hts _ (vt_5 (List.mem_of_getElem? (i := 116) rfl))), (fun _ h => absurd h List.not_mem_nil)⟩)⟩)⟩)⟩)⟩)⟩
theorem arrP {args : Array Value} {s : State} {ty : FieldType} (ho : (match ty with | .object _ => true | _ => false) = false) (h : (Cond.arrayClass ty).before args s = true) : ∃ cA : ClassId, ArrOfT s cA ty ∧ va_RA s cA ty := by
  obtain ⟨cA, kA, comp, hfind, hk, hkind⟩ := Cond.arrayClass_spec h
  refine ⟨cA, fun n z => ⟨fun k h => (by cases h), kA, hk, comp, hkind⟩, ?_⟩
  cases ty with
  | object C => cases ho
  | _ => exact hfind
theorem arrQ {args : Array Value} {s : State} {C : String} (h : (Cond.arrayOver (.object C)).before args s = true) : ∃ cA : ClassId, ArrOfT s cA (.object C) ∧ va_RA s cA (.object C) := by
  obtain ⟨comp, c, k, h1, h2, h3, h4, h5⟩ := Cond.arrayOver_spec h
  exact ⟨c, fun n z => ⟨fun k h => (by cases h), k, h3, comp, h4⟩, k, comp, h3, h4, h1, h5⟩
theorem nwK {args : Array Value} {s : State} (hts : ∀ w ∈ lw_tbl, w.before args s = true) : ∃ (D : va_G) (cy : Nat → ClassId), va_K D vwCl (jTY cy) s := by
  obtain ⟨c0, i0, k0⟩ := u_known (C := RX0) (T := TX0) (N := 1) (n := 1) hts (fun w h => UW_tbl w (inX0 w h)) (hts _ (UW_tbl _ u_1_82))
  obtain ⟨c1, i1, k1⟩ := u_known (C := RX1) (T := TX1) (N := 1) (n := 1) hts (fun w h => UW_tbl w (inX1 w h)) (hts _ (UW_tbl _ u_1_120))
  obtain ⟨c2, i2, k2⟩ := u_known (C := RX2) (T := TX2) (N := 7) (n := 7) hts (fun w h => UW_tbl w (inX2 w h)) (hts _ (UW_tbl _ u_1_154))
  obtain ⟨c3, i3, k3⟩ := u_known (C := RX3) (T := TX3) (N := 1) (n := 1) hts (fun w h => UW_tbl w (inX3 w h)) (hts _ (UW_tbl _ u_1_101))
  obtain ⟨c4, i4, k4⟩ := u_known (C := RX4) (T := TX4) (N := 2) (n := 2) hts (fun w h => UW_tbl w (inX4 w h)) (hts _ (UW_tbl _ u_1_130))
  obtain ⟨c5, i5, k5⟩ := u_known (C := RX6) (T := TX6) (N := 3) (n := 3) hts (fun w h => UW_tbl w (inX6 w h)) (hts _ (UW_tbl _ u_1_54))
  obtain ⟨c6, i6, k6⟩ := u_known (C := RX7) (T := TX7) (N := 1) (n := 1) hts (fun w h => UW_tbl w (inX7 w h)) (hts _ (UW_tbl _ u_1_43))
  obtain ⟨c7, i7, k7⟩ := u_known (C := RX8) (T := TX8) (N := 3) (n := 3) hts (fun w h => UW_tbl w (inX8 w h)) (hts _ (UW_tbl _ u_1_182))
  obtain ⟨c8, i8, k8⟩ := u_known (C := RX9) (T := TX9) (N := 1) (n := 1) hts (fun w h => UW_tbl w (inX9 w h)) (hts _ (UW_tbl _ u_1_62))
  obtain ⟨c9, i9, k9⟩ := u_known (C := RX10) (T := TX10) (N := 2) (n := 2) hts (fun w h => UW_tbl w (inX10 w h)) (hts _ (UW_tbl _ u_1_27))
  obtain ⟨c10, i10, k10⟩ := u_known (C := RX11) (T := TX11) (N := 5) (n := 5) hts (fun w h => UW_tbl w (inX11 w h)) (hts _ (UW_tbl _ u_1_19))
  obtain ⟨c11, i11, k11⟩ := u_known (C := RX12) (T := TX12) (N := 21) (n := 21) hts (fun w h => UW_tbl w (inX12 w h)) (hts _ (UW_tbl _ u_4_30))
  obtain ⟨y0, hy0⟩ := arrP (ty := .int) rfl (hts _ (UW_tbl _ u_1_52))
  obtain ⟨y1, hy1⟩ := arrP (ty := .long) rfl (hts _ (UW_tbl _ u_1_181))
  obtain ⟨y2, hy2⟩ := arrP (ty := .byte) rfl (hts _ (UW_tbl _ u_1_39))
  obtain ⟨y3, hy3⟩ := arrP (ty := .boolean) rfl (hts _ (UW_tbl _ u_4_99))
  obtain ⟨y4, hy4⟩ := arrQ (hts _ (vt_1 (List.mem_of_getElem? (i := 41) rfl)))
  obtain ⟨y5, hy5⟩ := arrQ (hts _ (vt_1 (List.mem_of_getElem? (i := 60) rfl)))
  obtain ⟨y6, hy6⟩ := arrQ (hts _ (vt_1 (List.mem_of_getElem? (i := 153) rfl)))
  refine ⟨(fun k => ([c0, c1, c2, c3, c4, c5, c6, c7, c8, c9, c10, c11] : List ClassId).getD k 0, fun k => ([i0, i1, i2, i3, i4, i5, i6, i7, i8, i9, i10, i11] : List (Nat → Nat)).getD k (fun _ => 0)), fun k => ([y0, y1, y2, y3, y4, y5, y6] : List ClassId).getD k 0, ?_, ?_⟩
  · intro k q hq
    match k, hq with
    | 0, hq => cases hq; exact k0
    | 1, hq => cases hq; exact k1
    | 2, hq => cases hq; exact k2
    | 3, hq => cases hq; exact k3
    | 4, hq => cases hq; exact k4
    | 5, hq => cases hq; exact k5
    | 6, hq => cases hq; exact k6
    | 7, hq => cases hq; exact k7
    | 8, hq => cases hq; exact k8
    | 9, hq => cases hq; exact k9
    | 10, hq => cases hq; exact k10
    | 11, hq => cases hq; exact k11
    | k + 12, hq => simp [vwCl] at hq
  · intro k q hq
    match k, hq with
    | 0, hq => cases hq; exact hy0
    | 1, hq => cases hq; exact hy1
    | 2, hq => cases hq; exact hy2
    | 3, hq => cases hq; exact hy3
    | 4, hq => cases hq; exact hy4
    | 5, hq => cases hq; exact hy5
    | 6, hq => cases hq; exact hy6
    | k + 7, hq => simp [jTY] at hq
theorem nwFac {args : Array Value} {s : State} (hts : ∀ w ∈ lw_tbl, w.before args s = true) (hg : (Jvm.Cond.and given_1 narrow_1).before args s = true) : ∃ tF : Nat, ∀ (D : va_G) (cy : Nat → ClassId), jF (fun q : Nat => s.heap.size ≤ q) (D, cy, tF) s s.heap := by
  have hs := flat_of_before _ hg
  obtain ⟨t, h1, h2⟩ := va_Tof (A := fun q : Nat => s.heap.size ≤ q) (N := 9) (f := fun j => .int (jfac j)) (tm := (Jvm.Term.static "CountTriangles" "FACTORIALS" "[I")) (ty := .int) (by decide) (hs _ (by decide +kernel)) (va_eqt (hs _ (by decide +kernel))) (fun j hj => by
    rcases (show j = 0 ∨ j = 1 ∨ j = 2 ∨ j = 3 ∨ j = 4 ∨ j = 5 ∨ j = 6 ∨ j = 7 ∨ j = 8 by omega) with rfl | rfl | rfl | rfl | rfl | rfl | rfl | rfl | rfl
    · exact va_eqt (hs _ (by decide +kernel))
    · exact va_eqt (hs _ (by decide +kernel))
    · exact va_eqt (hs _ (by decide +kernel))
    · exact va_eqt (hs _ (by decide +kernel))
    · exact va_eqt (hs _ (by decide +kernel))
    · exact va_eqt (hs _ (by decide +kernel))
    · exact va_eqt (hs _ (by decide +kernel))
    · exact va_eqt (hs _ (by decide +kernel))
    · exact va_eqt (hs _ (by decide +kernel))) (fun a h => Nat.not_le.mpr h)
  exact ⟨t, fun D cy => ⟨va_Zref (hts _ (vt_3 (List.mem_of_getElem? (i := 23) rfl))) (hts _ (UW_tbl _ u_1_1)) h1 (fun a h => Nat.not_le.mpr h), h2⟩⟩
