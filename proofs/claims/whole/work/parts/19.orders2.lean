theorem ok_X6_howMany : yX6_howMany.cls ≠ "java/lang/invoke/MethodHandle" ∧ yX6_howMany.cls ≠ "java/lang/invoke/VarHandle" ∧ (parseMethodDescriptor yX6_howMany.desc).map (fun d => d.parameters.length) = some 3 := ⟨by decide, by decide, by decide +kernel⟩
def f_X6_howMany (v1 : Int32) (v2 : Int32) (v3 : Int32) (s0 : OrdersS) : Option (Int32 × OrdersS) :=
   jgd v2 5 (
   if v2 = 0 then (
    jgd v2 5 (
     if v2 = 0 then (
      jbd (f_X9_start v1) (fun r13 =>
       jbd (f_X9_ways r13 v1 v3 (Orders_rings s0)) (fun r18 =>
        some (r18, s0)))) else if v2 = 1 then (
      jbd (f_X0_start v1) (fun r13 =>
       jbd (f_X9_ways r13 v1 v3 (Orders_rings s0)) (fun r18 =>
        some (r18, s0)))) else if v2 = 2 then (
      jbd (f_X3_start v1) (fun r13 =>
       jbd (f_X9_ways r13 v1 v3 (Orders_rings s0)) (fun r18 =>
        some (r18, s0)))) else if v2 = 3 then (
      jbd (f_X1_start v1) (fun r13 =>
       jbd (f_X9_ways r13 v1 v3 (Orders_rings s0)) (fun r18 =>
        some (r18, s0)))) else (
      jbd (f_X4_start v1) (fun r13 =>
       jbd (f_X9_ways r13 v1 v3 (Orders_rings s0)) (fun r18 =>
        some (r18, s0)))))) else if v2 = 1 then (
    jgd v2 5 (
     if v2 = 0 then (
      jbd (f_X9_start v1) (fun r13 =>
       jbd (f_X0_ways r13 v1 v3 (Orders_falls s0)) (fun r18 =>
        some (r18, s0)))) else if v2 = 1 then (
      jbd (f_X0_start v1) (fun r13 =>
       jbd (f_X0_ways r13 v1 v3 (Orders_falls s0)) (fun r18 =>
        some (r18, s0)))) else if v2 = 2 then (
      jbd (f_X3_start v1) (fun r13 =>
       jbd (f_X0_ways r13 v1 v3 (Orders_falls s0)) (fun r18 =>
        some (r18, s0)))) else if v2 = 3 then (
      jbd (f_X1_start v1) (fun r13 =>
       jbd (f_X0_ways r13 v1 v3 (Orders_falls s0)) (fun r18 =>
        some (r18, s0)))) else (
      jbd (f_X4_start v1) (fun r13 =>
       jbd (f_X0_ways r13 v1 v3 (Orders_falls s0)) (fun r18 =>
        some (r18, s0)))))) else if v2 = 2 then (
    jgd v2 5 (
     if v2 = 0 then (
      jbd (f_X9_start v1) (fun r13 =>
       jbd (f_X3_ways r13 v1 v3 (Orders_pairs s0)) (fun r18 =>
        some (r18, s0)))) else if v2 = 1 then (
      jbd (f_X0_start v1) (fun r13 =>
       jbd (f_X3_ways r13 v1 v3 (Orders_pairs s0)) (fun r18 =>
        some (r18, s0)))) else if v2 = 2 then (
      jbd (f_X3_start v1) (fun r13 =>
       jbd (f_X3_ways r13 v1 v3 (Orders_pairs s0)) (fun r18 =>
        some (r18, s0)))) else if v2 = 3 then (
      jbd (f_X1_start v1) (fun r13 =>
       jbd (f_X3_ways r13 v1 v3 (Orders_pairs s0)) (fun r18 =>
        some (r18, s0)))) else (
      jbd (f_X4_start v1) (fun r13 =>
       jbd (f_X3_ways r13 v1 v3 (Orders_pairs s0)) (fun r18 =>
        some (r18, s0)))))) else if v2 = 3 then (
    jgd v2 5 (
     if v2 = 0 then (
      jbd (f_X9_start v1) (fun r13 =>
       jbd (f_X1_ways r13 v1 v3 (Orders_rings s0)) (fun r18 =>
        some (r18, s0)))) else if v2 = 1 then (
      jbd (f_X0_start v1) (fun r13 =>
       jbd (f_X1_ways r13 v1 v3 (Orders_rings s0)) (fun r18 =>
        some (r18, s0)))) else if v2 = 2 then (
      jbd (f_X3_start v1) (fun r13 =>
       jbd (f_X1_ways r13 v1 v3 (Orders_rings s0)) (fun r18 =>
        some (r18, s0)))) else if v2 = 3 then (
      jbd (f_X1_start v1) (fun r13 =>
       jbd (f_X1_ways r13 v1 v3 (Orders_rings s0)) (fun r18 =>
        some (r18, s0)))) else (
      jbd (f_X4_start v1) (fun r13 =>
       jbd (f_X1_ways r13 v1 v3 (Orders_rings s0)) (fun r18 =>
        some (r18, s0)))))) else (
    jgd v2 5 (
     if v2 = 0 then (
      jbd (f_X9_start v1) (fun r13 =>
       jbd (f_X4_ways r13 v1 v3 (Orders_rise s0)) (fun r18 =>
        some ((r18.1), (Orders_rise_s s0 (r18.2)))))) else if v2 = 1 then (
      jbd (f_X0_start v1) (fun r13 =>
       jbd (f_X4_ways r13 v1 v3 (Orders_rise s0)) (fun r18 =>
        some ((r18.1), (Orders_rise_s s0 (r18.2)))))) else if v2 = 2 then (
      jbd (f_X3_start v1) (fun r13 =>
       jbd (f_X4_ways r13 v1 v3 (Orders_rise s0)) (fun r18 =>
        some ((r18.1), (Orders_rise_s s0 (r18.2)))))) else if v2 = 3 then (
      jbd (f_X1_start v1) (fun r13 =>
       jbd (f_X4_ways r13 v1 v3 (Orders_rise s0)) (fun r18 =>
        some ((r18.1), (Orders_rise_s s0 (r18.2)))))) else (
      jbd (f_X4_start v1) (fun r13 =>
       jbd (f_X4_ways r13 v1 v3 (Orders_rise s0)) (fun r18 =>
        some ((r18.1), (Orders_rise_s s0 (r18.2)))))))))
set_option maxRecDepth 100000 in
set_option maxHeartbeats 4000000 in
theorem b_X6_howMany {E : jE} (p0_0 p0_1 p0_2 p0_3 p0_4 p0_5 p0_6 p0_7 p0_8 p0_9 p0_10 p0_11 p0_12 : Nat) {res : Int32 × OrdersS} (K : jC E cX6_howMany 4 RX6 4) (hrw : jrw E) (HR : jRI E cX6_howMany 4 (wOrders (jg E) p0_0 p0_1 p0_2 p0_3 p0_4 p0_5 p0_6 p0_7 p0_8 p0_9 p0_10 p0_11 p0_12 (res.2)) (res.1)) : ∀ (v1 : Int32) (v2 : Int32) (v3 : Int32) (s0 : OrdersS), f_X6_howMany v1 v2 v3 s0 = some res → J E 4 (wOrders (jg E) p0_0 p0_1 p0_2 p0_3 p0_4 p0_5 p0_6 p0_7 p0_8 p0_9 p0_10 p0_11 p0_12 s0) 0 [(0, .ref p0_0), (1, .int v1), (2, .int v2), (3, .int v3)] [] := by
  intro v1 v2 v3 s0 h
  unfold f_X6_howMany at h
  refine j_aload_n (pc' := 1) K dX6_howMany_0 rfl 0 rfl rfl ?_
  refine j_get (pc' := 4) K dX6_howMany_1 inX6 0 rfl rfl 2 (by decide) u_1_144 rfl rfl rfl ?_
  refine j_iload_n (pc' := 5) K dX6_howMany_4 rfl 2 rfl rfl ?_
  obtain ⟨hg, h⟩ := jgd_some h
  by_cases hc : v2 = 0
  · have h := jit hc h
    refine j_aald (pc' := 6) K dX6_howMany_5 3 5 rfl rfl hg (by rw [hc]; rfl) rfl ?_
    refine j_aload_n (pc' := 7) K dX6_howMany_6 rfl 0 rfl rfl ?_
    refine j_get (pc' := 10) K dX6_howMany_7 inX6 0 rfl rfl 2 (by decide) u_1_144 rfl rfl rfl ?_
    refine j_iload_n (pc' := 11) K dX6_howMany_10 rfl 2 rfl rfl ?_
    obtain ⟨hg, h⟩ := jgd_some h
    by_cases hc : v2 = 0
    · have h := jit hc h
      refine j_aald (pc' := 12) K dX6_howMany_11 3 5 rfl rfl hg (by rw [hc]; rfl) rfl ?_
      refine j_iload_n (pc' := 13) K dX6_howMany_12 rfl 1 rfl rfl ?_
      obtain ⟨r13, hr13, h⟩ := jbd_some h
      refine j_ro (pc' := 16) K (fun H hP => jrun_A (x := ⟨"CountTriangles$Mark", "start", "(I)I"⟩) K dX6_howMany_13 (M_X9_start (jl E) (jg E) p0_4 v1 hr13) u_3_13 u_2_236 u_2_238 u_3_12 u_3_11 u_1_6 (by decide) ⟨okx_start, by decide, by decide⟩ rfl (Nat.le_of_ble_eq_true rfl) 4 rfl rfl H hP) [] rfl rfl ?_
      refine j_iload_n (pc' := 17) K dX6_howMany_16 rfl 1 rfl rfl ?_
      refine j_iload_n (pc' := 18) K dX6_howMany_17 rfl 3 rfl rfl ?_
      obtain ⟨r18, hr18, h⟩ := jbd_some h
      refine j_ro (pc' := 21) K (fun H hP => jrun_A (x := ⟨"CountTriangles$Mark", "ways", "(III)I"⟩) K dX6_howMany_18 (M_X9_ways (jl E) (jg E) p0_4 p0_5 r13 v1 v3 (Orders_rings s0) hr18) u_1_73 u_3_14 u_3_16 u_1_71 u_3_47 u_1_6 (by decide) ⟨okx_ways, by decide, by decide⟩ rfl (Nat.le_of_ble_eq_true rfl) 4 rfl rfl H hP) [4, 5] (cl_4_f ..) rfl ?_
      obtain rfl := Option.some.inj h
      exact HR _ _ dX6_howMany_21
    have hc0 := hc
    have h := jif hc h
    by_cases hc : v2 = 1
    · have h := jit hc h
      refine j_aald (pc' := 12) K dX6_howMany_11 3 5 rfl rfl hg (by rw [hc]; rfl) rfl ?_
      refine j_iload_n (pc' := 13) K dX6_howMany_12 rfl 1 rfl rfl ?_
      obtain ⟨r13, hr13, h⟩ := jbd_some h
      refine j_ro (pc' := 16) K (fun H hP => jrun_A (x := ⟨"CountTriangles$Mark", "start", "(I)I"⟩) K dX6_howMany_13 (M_X0_start (jl E) (jg E) p0_6 v1 hr13) u_3_1 u_2_236 u_2_238 u_3_0 u_2_239 u_1_7 (by decide) ⟨okx_start, by decide, by decide⟩ rfl (Nat.le_of_ble_eq_true rfl) 6 rfl rfl H hP) [] rfl rfl ?_
      refine j_iload_n (pc' := 17) K dX6_howMany_16 rfl 1 rfl rfl ?_
      refine j_iload_n (pc' := 18) K dX6_howMany_17 rfl 3 rfl rfl ?_
      obtain ⟨r18, hr18, h⟩ := jbd_some h
      refine j_ro (pc' := 21) K (fun H hP => jrun_A (x := ⟨"CountTriangles$Mark", "ways", "(III)I"⟩) K dX6_howMany_18 (M_X9_ways (jl E) (jg E) p0_4 p0_5 r13 v1 v3 (Orders_rings s0) hr18) u_1_73 u_3_14 u_3_16 u_1_71 u_3_47 u_1_6 (by decide) ⟨okx_ways, by decide, by decide⟩ rfl (Nat.le_of_ble_eq_true rfl) 4 rfl rfl H hP) [4, 5] (cl_4_f ..) rfl ?_
      obtain rfl := Option.some.inj h
      exact HR _ _ dX6_howMany_21
    have hc1 := hc
    have h := jif hc h
    by_cases hc : v2 = 2
    · have h := jit hc h
      refine j_aald (pc' := 12) K dX6_howMany_11 3 5 rfl rfl hg (by rw [hc]; rfl) rfl ?_
      refine j_iload_n (pc' := 13) K dX6_howMany_12 rfl 1 rfl rfl ?_
      obtain ⟨r13, hr13, h⟩ := jbd_some h
      refine j_ro (pc' := 16) K (fun H hP => jrun_A (x := ⟨"CountTriangles$Mark", "start", "(I)I"⟩) K dX6_howMany_13 (M_X3_start (jl E) (jg E) p0_8 v1 hr13) u_3_7 u_2_236 u_2_238 u_3_6 u_3_5 u_1_8 (by decide) ⟨okx_start, by decide, by decide⟩ rfl (Nat.le_of_ble_eq_true rfl) 8 rfl rfl H hP) [] rfl rfl ?_
      refine j_iload_n (pc' := 17) K dX6_howMany_16 rfl 1 rfl rfl ?_
      refine j_iload_n (pc' := 18) K dX6_howMany_17 rfl 3 rfl rfl ?_
      obtain ⟨r18, hr18, h⟩ := jbd_some h
      refine j_ro (pc' := 21) K (fun H hP => jrun_A (x := ⟨"CountTriangles$Mark", "ways", "(III)I"⟩) K dX6_howMany_18 (M_X9_ways (jl E) (jg E) p0_4 p0_5 r13 v1 v3 (Orders_rings s0) hr18) u_1_73 u_3_14 u_3_16 u_1_71 u_3_47 u_1_6 (by decide) ⟨okx_ways, by decide, by decide⟩ rfl (Nat.le_of_ble_eq_true rfl) 4 rfl rfl H hP) [4, 5] (cl_4_f ..) rfl ?_
      obtain rfl := Option.some.inj h
      exact HR _ _ dX6_howMany_21
    have hc2 := hc
    have h := jif hc h
    by_cases hc : v2 = 3
    · have h := jit hc h
      refine j_aald (pc' := 12) K dX6_howMany_11 3 5 rfl rfl hg (by rw [hc]; rfl) rfl ?_
      refine j_iload_n (pc' := 13) K dX6_howMany_12 rfl 1 rfl rfl ?_
      obtain ⟨r13, hr13, h⟩ := jbd_some h
      refine j_ro (pc' := 16) K (fun H hP => jrun_A (x := ⟨"CountTriangles$Mark", "start", "(I)I"⟩) K dX6_howMany_13 (M_X1_start (jl E) (jg E) p0_10 v1 hr13) u_3_4 u_2_236 u_2_238 u_3_3 u_3_2 u_1_9 (by decide) ⟨okx_start, by decide, by decide⟩ rfl (Nat.le_of_ble_eq_true rfl) 10 rfl rfl H hP) [] rfl rfl ?_
      refine j_iload_n (pc' := 17) K dX6_howMany_16 rfl 1 rfl rfl ?_
      refine j_iload_n (pc' := 18) K dX6_howMany_17 rfl 3 rfl rfl ?_
      obtain ⟨r18, hr18, h⟩ := jbd_some h
      refine j_ro (pc' := 21) K (fun H hP => jrun_A (x := ⟨"CountTriangles$Mark", "ways", "(III)I"⟩) K dX6_howMany_18 (M_X9_ways (jl E) (jg E) p0_4 p0_5 r13 v1 v3 (Orders_rings s0) hr18) u_1_73 u_3_14 u_3_16 u_1_71 u_3_47 u_1_6 (by decide) ⟨okx_ways, by decide, by decide⟩ rfl (Nat.le_of_ble_eq_true rfl) 4 rfl rfl H hP) [4, 5] (cl_4_f ..) rfl ?_
      obtain rfl := Option.some.inj h
      exact HR _ _ dX6_howMany_21
    have hc3 := hc
    have h := jif hc h
    have hc : v2 = 4 := jin5 hg hc0 hc1 hc2 hc3
    refine j_aald (pc' := 12) K dX6_howMany_11 3 5 rfl rfl hg (by rw [hc]; rfl) rfl ?_
    refine j_iload_n (pc' := 13) K dX6_howMany_12 rfl 1 rfl rfl ?_
    obtain ⟨r13, hr13, h⟩ := jbd_some h
    refine j_ro (pc' := 16) K (fun H hP => jrun_A (x := ⟨"CountTriangles$Mark", "start", "(I)I"⟩) K dX6_howMany_13 (M_X4_start (jl E) (jg E) p0_11 v1 hr13) u_3_10 u_2_236 u_2_238 u_3_9 u_3_8 u_1_10 (by decide) ⟨okx_start, by decide, by decide⟩ rfl (Nat.le_of_ble_eq_true rfl) 11 rfl rfl H hP) [] rfl rfl ?_
    refine j_iload_n (pc' := 17) K dX6_howMany_16 rfl 1 rfl rfl ?_
    refine j_iload_n (pc' := 18) K dX6_howMany_17 rfl 3 rfl rfl ?_
    obtain ⟨r18, hr18, h⟩ := jbd_some h
    refine j_ro (pc' := 21) K (fun H hP => jrun_A (x := ⟨"CountTriangles$Mark", "ways", "(III)I"⟩) K dX6_howMany_18 (M_X9_ways (jl E) (jg E) p0_4 p0_5 r13 v1 v3 (Orders_rings s0) hr18) u_1_73 u_3_14 u_3_16 u_1_71 u_3_47 u_1_6 (by decide) ⟨okx_ways, by decide, by decide⟩ rfl (Nat.le_of_ble_eq_true rfl) 4 rfl rfl H hP) [4, 5] (cl_4_f ..) rfl ?_
    obtain rfl := Option.some.inj h
    exact HR _ _ dX6_howMany_21
  have hc0 := hc
  have h := jif hc h
  by_cases hc : v2 = 1
  · have h := jit hc h
    refine j_aald (pc' := 6) K dX6_howMany_5 3 5 rfl rfl hg (by rw [hc]; rfl) rfl ?_
    refine j_aload_n (pc' := 7) K dX6_howMany_6 rfl 0 rfl rfl ?_
    refine j_get (pc' := 10) K dX6_howMany_7 inX6 0 rfl rfl 2 (by decide) u_1_144 rfl rfl rfl ?_
    refine j_iload_n (pc' := 11) K dX6_howMany_10 rfl 2 rfl rfl ?_
    obtain ⟨hg, h⟩ := jgd_some h
    by_cases hc : v2 = 0
    · have h := jit hc h
      refine j_aald (pc' := 12) K dX6_howMany_11 3 5 rfl rfl hg (by rw [hc]; rfl) rfl ?_
      refine j_iload_n (pc' := 13) K dX6_howMany_12 rfl 1 rfl rfl ?_
      obtain ⟨r13, hr13, h⟩ := jbd_some h
      refine j_ro (pc' := 16) K (fun H hP => jrun_A (x := ⟨"CountTriangles$Mark", "start", "(I)I"⟩) K dX6_howMany_13 (M_X9_start (jl E) (jg E) p0_4 v1 hr13) u_3_13 u_2_236 u_2_238 u_3_12 u_3_11 u_1_6 (by decide) ⟨okx_start, by decide, by decide⟩ rfl (Nat.le_of_ble_eq_true rfl) 4 rfl rfl H hP) [] rfl rfl ?_
      refine j_iload_n (pc' := 17) K dX6_howMany_16 rfl 1 rfl rfl ?_
      refine j_iload_n (pc' := 18) K dX6_howMany_17 rfl 3 rfl rfl ?_
      obtain ⟨r18, hr18, h⟩ := jbd_some h
      refine j_ro (pc' := 21) K (fun H hP => jrun_A (x := ⟨"CountTriangles$Mark", "ways", "(III)I"⟩) K dX6_howMany_18 (M_X0_ways (jl E) (jg E) p0_6 p0_7 r13 v1 v3 (Orders_falls s0) hr18) u_1_94 u_3_14 u_3_16 u_1_92 u_3_17 u_1_7 (by decide) ⟨okx_ways, by decide, by decide⟩ rfl (Nat.le_of_ble_eq_true rfl) 6 rfl rfl H hP) [6, 7] (cl_5_f ..) rfl ?_
      obtain rfl := Option.some.inj h
      exact HR _ _ dX6_howMany_21
    have hc0 := hc
    have h := jif hc h
    by_cases hc : v2 = 1
    · have h := jit hc h
      refine j_aald (pc' := 12) K dX6_howMany_11 3 5 rfl rfl hg (by rw [hc]; rfl) rfl ?_
      refine j_iload_n (pc' := 13) K dX6_howMany_12 rfl 1 rfl rfl ?_
      obtain ⟨r13, hr13, h⟩ := jbd_some h
      refine j_ro (pc' := 16) K (fun H hP => jrun_A (x := ⟨"CountTriangles$Mark", "start", "(I)I"⟩) K dX6_howMany_13 (M_X0_start (jl E) (jg E) p0_6 v1 hr13) u_3_1 u_2_236 u_2_238 u_3_0 u_2_239 u_1_7 (by decide) ⟨okx_start, by decide, by decide⟩ rfl (Nat.le_of_ble_eq_true rfl) 6 rfl rfl H hP) [] rfl rfl ?_
      refine j_iload_n (pc' := 17) K dX6_howMany_16 rfl 1 rfl rfl ?_
      refine j_iload_n (pc' := 18) K dX6_howMany_17 rfl 3 rfl rfl ?_
      obtain ⟨r18, hr18, h⟩ := jbd_some h
      refine j_ro (pc' := 21) K (fun H hP => jrun_A (x := ⟨"CountTriangles$Mark", "ways", "(III)I"⟩) K dX6_howMany_18 (M_X0_ways (jl E) (jg E) p0_6 p0_7 r13 v1 v3 (Orders_falls s0) hr18) u_1_94 u_3_14 u_3_16 u_1_92 u_3_17 u_1_7 (by decide) ⟨okx_ways, by decide, by decide⟩ rfl (Nat.le_of_ble_eq_true rfl) 6 rfl rfl H hP) [6, 7] (cl_5_f ..) rfl ?_
      obtain rfl := Option.some.inj h
      exact HR _ _ dX6_howMany_21
    have hc1 := hc
    have h := jif hc h
    by_cases hc : v2 = 2
    · have h := jit hc h
      refine j_aald (pc' := 12) K dX6_howMany_11 3 5 rfl rfl hg (by rw [hc]; rfl) rfl ?_
      refine j_iload_n (pc' := 13) K dX6_howMany_12 rfl 1 rfl rfl ?_
      obtain ⟨r13, hr13, h⟩ := jbd_some h
      refine j_ro (pc' := 16) K (fun H hP => jrun_A (x := ⟨"CountTriangles$Mark", "start", "(I)I"⟩) K dX6_howMany_13 (M_X3_start (jl E) (jg E) p0_8 v1 hr13) u_3_7 u_2_236 u_2_238 u_3_6 u_3_5 u_1_8 (by decide) ⟨okx_start, by decide, by decide⟩ rfl (Nat.le_of_ble_eq_true rfl) 8 rfl rfl H hP) [] rfl rfl ?_
      refine j_iload_n (pc' := 17) K dX6_howMany_16 rfl 1 rfl rfl ?_
      refine j_iload_n (pc' := 18) K dX6_howMany_17 rfl 3 rfl rfl ?_
      obtain ⟨r18, hr18, h⟩ := jbd_some h
      refine j_ro (pc' := 21) K (fun H hP => jrun_A (x := ⟨"CountTriangles$Mark", "ways", "(III)I"⟩) K dX6_howMany_18 (M_X0_ways (jl E) (jg E) p0_6 p0_7 r13 v1 v3 (Orders_falls s0) hr18) u_1_94 u_3_14 u_3_16 u_1_92 u_3_17 u_1_7 (by decide) ⟨okx_ways, by decide, by decide⟩ rfl (Nat.le_of_ble_eq_true rfl) 6 rfl rfl H hP) [6, 7] (cl_5_f ..) rfl ?_
      obtain rfl := Option.some.inj h
      exact HR _ _ dX6_howMany_21
    have hc2 := hc
    have h := jif hc h
    by_cases hc : v2 = 3
    · have h := jit hc h
      refine j_aald (pc' := 12) K dX6_howMany_11 3 5 rfl rfl hg (by rw [hc]; rfl) rfl ?_
      refine j_iload_n (pc' := 13) K dX6_howMany_12 rfl 1 rfl rfl ?_
      obtain ⟨r13, hr13, h⟩ := jbd_some h
      refine j_ro (pc' := 16) K (fun H hP => jrun_A (x := ⟨"CountTriangles$Mark", "start", "(I)I"⟩) K dX6_howMany_13 (M_X1_start (jl E) (jg E) p0_10 v1 hr13) u_3_4 u_2_236 u_2_238 u_3_3 u_3_2 u_1_9 (by decide) ⟨okx_start, by decide, by decide⟩ rfl (Nat.le_of_ble_eq_true rfl) 10 rfl rfl H hP) [] rfl rfl ?_
      refine j_iload_n (pc' := 17) K dX6_howMany_16 rfl 1 rfl rfl ?_
      refine j_iload_n (pc' := 18) K dX6_howMany_17 rfl 3 rfl rfl ?_
      obtain ⟨r18, hr18, h⟩ := jbd_some h
      refine j_ro (pc' := 21) K (fun H hP => jrun_A (x := ⟨"CountTriangles$Mark", "ways", "(III)I"⟩) K dX6_howMany_18 (M_X0_ways (jl E) (jg E) p0_6 p0_7 r13 v1 v3 (Orders_falls s0) hr18) u_1_94 u_3_14 u_3_16 u_1_92 u_3_17 u_1_7 (by decide) ⟨okx_ways, by decide, by decide⟩ rfl (Nat.le_of_ble_eq_true rfl) 6 rfl rfl H hP) [6, 7] (cl_5_f ..) rfl ?_
      obtain rfl := Option.some.inj h
      exact HR _ _ dX6_howMany_21
    have hc3 := hc
    have h := jif hc h
    have hc : v2 = 4 := jin5 hg hc0 hc1 hc2 hc3
    refine j_aald (pc' := 12) K dX6_howMany_11 3 5 rfl rfl hg (by rw [hc]; rfl) rfl ?_
    refine j_iload_n (pc' := 13) K dX6_howMany_12 rfl 1 rfl rfl ?_
    obtain ⟨r13, hr13, h⟩ := jbd_some h
    refine j_ro (pc' := 16) K (fun H hP => jrun_A (x := ⟨"CountTriangles$Mark", "start", "(I)I"⟩) K dX6_howMany_13 (M_X4_start (jl E) (jg E) p0_11 v1 hr13) u_3_10 u_2_236 u_2_238 u_3_9 u_3_8 u_1_10 (by decide) ⟨okx_start, by decide, by decide⟩ rfl (Nat.le_of_ble_eq_true rfl) 11 rfl rfl H hP) [] rfl rfl ?_
    refine j_iload_n (pc' := 17) K dX6_howMany_16 rfl 1 rfl rfl ?_
    refine j_iload_n (pc' := 18) K dX6_howMany_17 rfl 3 rfl rfl ?_
    obtain ⟨r18, hr18, h⟩ := jbd_some h
    refine j_ro (pc' := 21) K (fun H hP => jrun_A (x := ⟨"CountTriangles$Mark", "ways", "(III)I"⟩) K dX6_howMany_18 (M_X0_ways (jl E) (jg E) p0_6 p0_7 r13 v1 v3 (Orders_falls s0) hr18) u_1_94 u_3_14 u_3_16 u_1_92 u_3_17 u_1_7 (by decide) ⟨okx_ways, by decide, by decide⟩ rfl (Nat.le_of_ble_eq_true rfl) 6 rfl rfl H hP) [6, 7] (cl_5_f ..) rfl ?_
    obtain rfl := Option.some.inj h
    exact HR _ _ dX6_howMany_21
  have hc1 := hc
  have h := jif hc h
  by_cases hc : v2 = 2
  · have h := jit hc h
    refine j_aald (pc' := 6) K dX6_howMany_5 3 5 rfl rfl hg (by rw [hc]; rfl) rfl ?_
    refine j_aload_n (pc' := 7) K dX6_howMany_6 rfl 0 rfl rfl ?_
    refine j_get (pc' := 10) K dX6_howMany_7 inX6 0 rfl rfl 2 (by decide) u_1_144 rfl rfl rfl ?_
    refine j_iload_n (pc' := 11) K dX6_howMany_10 rfl 2 rfl rfl ?_
    obtain ⟨hg, h⟩ := jgd_some h
    by_cases hc : v2 = 0
    · have h := jit hc h
      refine j_aald (pc' := 12) K dX6_howMany_11 3 5 rfl rfl hg (by rw [hc]; rfl) rfl ?_
      refine j_iload_n (pc' := 13) K dX6_howMany_12 rfl 1 rfl rfl ?_
      obtain ⟨r13, hr13, h⟩ := jbd_some h
      refine j_ro (pc' := 16) K (fun H hP => jrun_A (x := ⟨"CountTriangles$Mark", "start", "(I)I"⟩) K dX6_howMany_13 (M_X9_start (jl E) (jg E) p0_4 v1 hr13) u_3_13 u_2_236 u_2_238 u_3_12 u_3_11 u_1_6 (by decide) ⟨okx_start, by decide, by decide⟩ rfl (Nat.le_of_ble_eq_true rfl) 4 rfl rfl H hP) [] rfl rfl ?_
      refine j_iload_n (pc' := 17) K dX6_howMany_16 rfl 1 rfl rfl ?_
      refine j_iload_n (pc' := 18) K dX6_howMany_17 rfl 3 rfl rfl ?_
      obtain ⟨r18, hr18, h⟩ := jbd_some h
      refine j_ro (pc' := 21) K (fun H hP => jrun_A (x := ⟨"CountTriangles$Mark", "ways", "(III)I"⟩) K dX6_howMany_18 (M_X3_ways (jl E) (jg E) p0_8 p0_9 r13 v1 v3 (Orders_pairs s0) hr18) u_1_113 u_3_14 u_3_16 u_1_111 u_3_25 u_1_8 (by decide) ⟨okx_ways, by decide, by decide⟩ rfl (Nat.le_of_ble_eq_true rfl) 8 rfl rfl H hP) [8, 9] (cl_6_f ..) rfl ?_
      obtain rfl := Option.some.inj h
      exact HR _ _ dX6_howMany_21
    have hc0 := hc
    have h := jif hc h
    by_cases hc : v2 = 1
    · have h := jit hc h
      refine j_aald (pc' := 12) K dX6_howMany_11 3 5 rfl rfl hg (by rw [hc]; rfl) rfl ?_
      refine j_iload_n (pc' := 13) K dX6_howMany_12 rfl 1 rfl rfl ?_
      obtain ⟨r13, hr13, h⟩ := jbd_some h
      refine j_ro (pc' := 16) K (fun H hP => jrun_A (x := ⟨"CountTriangles$Mark", "start", "(I)I"⟩) K dX6_howMany_13 (M_X0_start (jl E) (jg E) p0_6 v1 hr13) u_3_1 u_2_236 u_2_238 u_3_0 u_2_239 u_1_7 (by decide) ⟨okx_start, by decide, by decide⟩ rfl (Nat.le_of_ble_eq_true rfl) 6 rfl rfl H hP) [] rfl rfl ?_
      refine j_iload_n (pc' := 17) K dX6_howMany_16 rfl 1 rfl rfl ?_
      refine j_iload_n (pc' := 18) K dX6_howMany_17 rfl 3 rfl rfl ?_
      obtain ⟨r18, hr18, h⟩ := jbd_some h
      refine j_ro (pc' := 21) K (fun H hP => jrun_A (x := ⟨"CountTriangles$Mark", "ways", "(III)I"⟩) K dX6_howMany_18 (M_X3_ways (jl E) (jg E) p0_8 p0_9 r13 v1 v3 (Orders_pairs s0) hr18) u_1_113 u_3_14 u_3_16 u_1_111 u_3_25 u_1_8 (by decide) ⟨okx_ways, by decide, by decide⟩ rfl (Nat.le_of_ble_eq_true rfl) 8 rfl rfl H hP) [8, 9] (cl_6_f ..) rfl ?_
      obtain rfl := Option.some.inj h
      exact HR _ _ dX6_howMany_21
    have hc1 := hc
    have h := jif hc h
    by_cases hc : v2 = 2
    · have h := jit hc h
      refine j_aald (pc' := 12) K dX6_howMany_11 3 5 rfl rfl hg (by rw [hc]; rfl) rfl ?_
      refine j_iload_n (pc' := 13) K dX6_howMany_12 rfl 1 rfl rfl ?_
      obtain ⟨r13, hr13, h⟩ := jbd_some h
      refine j_ro (pc' := 16) K (fun H hP => jrun_A (x := ⟨"CountTriangles$Mark", "start", "(I)I"⟩) K dX6_howMany_13 (M_X3_start (jl E) (jg E) p0_8 v1 hr13) u_3_7 u_2_236 u_2_238 u_3_6 u_3_5 u_1_8 (by decide) ⟨okx_start, by decide, by decide⟩ rfl (Nat.le_of_ble_eq_true rfl) 8 rfl rfl H hP) [] rfl rfl ?_
      refine j_iload_n (pc' := 17) K dX6_howMany_16 rfl 1 rfl rfl ?_
      refine j_iload_n (pc' := 18) K dX6_howMany_17 rfl 3 rfl rfl ?_
      obtain ⟨r18, hr18, h⟩ := jbd_some h
      refine j_ro (pc' := 21) K (fun H hP => jrun_A (x := ⟨"CountTriangles$Mark", "ways", "(III)I"⟩) K dX6_howMany_18 (M_X3_ways (jl E) (jg E) p0_8 p0_9 r13 v1 v3 (Orders_pairs s0) hr18) u_1_113 u_3_14 u_3_16 u_1_111 u_3_25 u_1_8 (by decide) ⟨okx_ways, by decide, by decide⟩ rfl (Nat.le_of_ble_eq_true rfl) 8 rfl rfl H hP) [8, 9] (cl_6_f ..) rfl ?_
      obtain rfl := Option.some.inj h
      exact HR _ _ dX6_howMany_21
    have hc2 := hc
    have h := jif hc h
    by_cases hc : v2 = 3
    · have h := jit hc h
      refine j_aald (pc' := 12) K dX6_howMany_11 3 5 rfl rfl hg (by rw [hc]; rfl) rfl ?_
      refine j_iload_n (pc' := 13) K dX6_howMany_12 rfl 1 rfl rfl ?_
      obtain ⟨r13, hr13, h⟩ := jbd_some h
      refine j_ro (pc' := 16) K (fun H hP => jrun_A (x := ⟨"CountTriangles$Mark", "start", "(I)I"⟩) K dX6_howMany_13 (M_X1_start (jl E) (jg E) p0_10 v1 hr13) u_3_4 u_2_236 u_2_238 u_3_3 u_3_2 u_1_9 (by decide) ⟨okx_start, by decide, by decide⟩ rfl (Nat.le_of_ble_eq_true rfl) 10 rfl rfl H hP) [] rfl rfl ?_
      refine j_iload_n (pc' := 17) K dX6_howMany_16 rfl 1 rfl rfl ?_
      refine j_iload_n (pc' := 18) K dX6_howMany_17 rfl 3 rfl rfl ?_
      obtain ⟨r18, hr18, h⟩ := jbd_some h
      refine j_ro (pc' := 21) K (fun H hP => jrun_A (x := ⟨"CountTriangles$Mark", "ways", "(III)I"⟩) K dX6_howMany_18 (M_X3_ways (jl E) (jg E) p0_8 p0_9 r13 v1 v3 (Orders_pairs s0) hr18) u_1_113 u_3_14 u_3_16 u_1_111 u_3_25 u_1_8 (by decide) ⟨okx_ways, by decide, by decide⟩ rfl (Nat.le_of_ble_eq_true rfl) 8 rfl rfl H hP) [8, 9] (cl_6_f ..) rfl ?_
      obtain rfl := Option.some.inj h
      exact HR _ _ dX6_howMany_21
    have hc3 := hc
    have h := jif hc h
    have hc : v2 = 4 := jin5 hg hc0 hc1 hc2 hc3
    refine j_aald (pc' := 12) K dX6_howMany_11 3 5 rfl rfl hg (by rw [hc]; rfl) rfl ?_
    refine j_iload_n (pc' := 13) K dX6_howMany_12 rfl 1 rfl rfl ?_
    obtain ⟨r13, hr13, h⟩ := jbd_some h
    refine j_ro (pc' := 16) K (fun H hP => jrun_A (x := ⟨"CountTriangles$Mark", "start", "(I)I"⟩) K dX6_howMany_13 (M_X4_start (jl E) (jg E) p0_11 v1 hr13) u_3_10 u_2_236 u_2_238 u_3_9 u_3_8 u_1_10 (by decide) ⟨okx_start, by decide, by decide⟩ rfl (Nat.le_of_ble_eq_true rfl) 11 rfl rfl H hP) [] rfl rfl ?_
    refine j_iload_n (pc' := 17) K dX6_howMany_16 rfl 1 rfl rfl ?_
    refine j_iload_n (pc' := 18) K dX6_howMany_17 rfl 3 rfl rfl ?_
    obtain ⟨r18, hr18, h⟩ := jbd_some h
    refine j_ro (pc' := 21) K (fun H hP => jrun_A (x := ⟨"CountTriangles$Mark", "ways", "(III)I"⟩) K dX6_howMany_18 (M_X3_ways (jl E) (jg E) p0_8 p0_9 r13 v1 v3 (Orders_pairs s0) hr18) u_1_113 u_3_14 u_3_16 u_1_111 u_3_25 u_1_8 (by decide) ⟨okx_ways, by decide, by decide⟩ rfl (Nat.le_of_ble_eq_true rfl) 8 rfl rfl H hP) [8, 9] (cl_6_f ..) rfl ?_
    obtain rfl := Option.some.inj h
    exact HR _ _ dX6_howMany_21
  have hc2 := hc
  have h := jif hc h
  by_cases hc : v2 = 3
  · have h := jit hc h
    refine j_aald (pc' := 6) K dX6_howMany_5 3 5 rfl rfl hg (by rw [hc]; rfl) rfl ?_
    refine j_aload_n (pc' := 7) K dX6_howMany_6 rfl 0 rfl rfl ?_
    refine j_get (pc' := 10) K dX6_howMany_7 inX6 0 rfl rfl 2 (by decide) u_1_144 rfl rfl rfl ?_
    refine j_iload_n (pc' := 11) K dX6_howMany_10 rfl 2 rfl rfl ?_
    obtain ⟨hg, h⟩ := jgd_some h
    by_cases hc : v2 = 0
    · have h := jit hc h
      refine j_aald (pc' := 12) K dX6_howMany_11 3 5 rfl rfl hg (by rw [hc]; rfl) rfl ?_
      refine j_iload_n (pc' := 13) K dX6_howMany_12 rfl 1 rfl rfl ?_
      obtain ⟨r13, hr13, h⟩ := jbd_some h
      refine j_ro (pc' := 16) K (fun H hP => jrun_A (x := ⟨"CountTriangles$Mark", "start", "(I)I"⟩) K dX6_howMany_13 (M_X9_start (jl E) (jg E) p0_4 v1 hr13) u_3_13 u_2_236 u_2_238 u_3_12 u_3_11 u_1_6 (by decide) ⟨okx_start, by decide, by decide⟩ rfl (Nat.le_of_ble_eq_true rfl) 4 rfl rfl H hP) [] rfl rfl ?_
      refine j_iload_n (pc' := 17) K dX6_howMany_16 rfl 1 rfl rfl ?_
      refine j_iload_n (pc' := 18) K dX6_howMany_17 rfl 3 rfl rfl ?_
      obtain ⟨r18, hr18, h⟩ := jbd_some h
      refine j_ro (pc' := 21) K (fun H hP => jrun_A (x := ⟨"CountTriangles$Mark", "ways", "(III)I"⟩) K dX6_howMany_18 (M_X1_ways (jl E) (jg E) p0_10 p0_4 p0_5 r13 v1 v3 (Orders_rings s0) hr18) u_3_20 u_3_14 u_3_16 u_3_19 u_3_18 u_1_9 (by decide) ⟨okx_ways, by decide, by decide⟩ rfl (Nat.le_of_ble_eq_true rfl) 10 rfl rfl H hP) [10, 4, 5] (cl_7_f ..) rfl ?_
      obtain rfl := Option.some.inj h
      exact HR _ _ dX6_howMany_21
    have hc0 := hc
    have h := jif hc h
    by_cases hc : v2 = 1
    · have h := jit hc h
      refine j_aald (pc' := 12) K dX6_howMany_11 3 5 rfl rfl hg (by rw [hc]; rfl) rfl ?_
      refine j_iload_n (pc' := 13) K dX6_howMany_12 rfl 1 rfl rfl ?_
      obtain ⟨r13, hr13, h⟩ := jbd_some h
      refine j_ro (pc' := 16) K (fun H hP => jrun_A (x := ⟨"CountTriangles$Mark", "start", "(I)I"⟩) K dX6_howMany_13 (M_X0_start (jl E) (jg E) p0_6 v1 hr13) u_3_1 u_2_236 u_2_238 u_3_0 u_2_239 u_1_7 (by decide) ⟨okx_start, by decide, by decide⟩ rfl (Nat.le_of_ble_eq_true rfl) 6 rfl rfl H hP) [] rfl rfl ?_
      refine j_iload_n (pc' := 17) K dX6_howMany_16 rfl 1 rfl rfl ?_
      refine j_iload_n (pc' := 18) K dX6_howMany_17 rfl 3 rfl rfl ?_
      obtain ⟨r18, hr18, h⟩ := jbd_some h
      refine j_ro (pc' := 21) K (fun H hP => jrun_A (x := ⟨"CountTriangles$Mark", "ways", "(III)I"⟩) K dX6_howMany_18 (M_X1_ways (jl E) (jg E) p0_10 p0_4 p0_5 r13 v1 v3 (Orders_rings s0) hr18) u_3_20 u_3_14 u_3_16 u_3_19 u_3_18 u_1_9 (by decide) ⟨okx_ways, by decide, by decide⟩ rfl (Nat.le_of_ble_eq_true rfl) 10 rfl rfl H hP) [10, 4, 5] (cl_7_f ..) rfl ?_
      obtain rfl := Option.some.inj h
      exact HR _ _ dX6_howMany_21
    have hc1 := hc
    have h := jif hc h
    by_cases hc : v2 = 2
    · have h := jit hc h
      refine j_aald (pc' := 12) K dX6_howMany_11 3 5 rfl rfl hg (by rw [hc]; rfl) rfl ?_
      refine j_iload_n (pc' := 13) K dX6_howMany_12 rfl 1 rfl rfl ?_
      obtain ⟨r13, hr13, h⟩ := jbd_some h
      refine j_ro (pc' := 16) K (fun H hP => jrun_A (x := ⟨"CountTriangles$Mark", "start", "(I)I"⟩) K dX6_howMany_13 (M_X3_start (jl E) (jg E) p0_8 v1 hr13) u_3_7 u_2_236 u_2_238 u_3_6 u_3_5 u_1_8 (by decide) ⟨okx_start, by decide, by decide⟩ rfl (Nat.le_of_ble_eq_true rfl) 8 rfl rfl H hP) [] rfl rfl ?_
      refine j_iload_n (pc' := 17) K dX6_howMany_16 rfl 1 rfl rfl ?_
      refine j_iload_n (pc' := 18) K dX6_howMany_17 rfl 3 rfl rfl ?_
      obtain ⟨r18, hr18, h⟩ := jbd_some h
      refine j_ro (pc' := 21) K (fun H hP => jrun_A (x := ⟨"CountTriangles$Mark", "ways", "(III)I"⟩) K dX6_howMany_18 (M_X1_ways (jl E) (jg E) p0_10 p0_4 p0_5 r13 v1 v3 (Orders_rings s0) hr18) u_3_20 u_3_14 u_3_16 u_3_19 u_3_18 u_1_9 (by decide) ⟨okx_ways, by decide, by decide⟩ rfl (Nat.le_of_ble_eq_true rfl) 10 rfl rfl H hP) [10, 4, 5] (cl_7_f ..) rfl ?_
      obtain rfl := Option.some.inj h
      exact HR _ _ dX6_howMany_21
    have hc2 := hc
    have h := jif hc h
    by_cases hc : v2 = 3
    · have h := jit hc h
      refine j_aald (pc' := 12) K dX6_howMany_11 3 5 rfl rfl hg (by rw [hc]; rfl) rfl ?_
      refine j_iload_n (pc' := 13) K dX6_howMany_12 rfl 1 rfl rfl ?_
      obtain ⟨r13, hr13, h⟩ := jbd_some h
      refine j_ro (pc' := 16) K (fun H hP => jrun_A (x := ⟨"CountTriangles$Mark", "start", "(I)I"⟩) K dX6_howMany_13 (M_X1_start (jl E) (jg E) p0_10 v1 hr13) u_3_4 u_2_236 u_2_238 u_3_3 u_3_2 u_1_9 (by decide) ⟨okx_start, by decide, by decide⟩ rfl (Nat.le_of_ble_eq_true rfl) 10 rfl rfl H hP) [] rfl rfl ?_
      refine j_iload_n (pc' := 17) K dX6_howMany_16 rfl 1 rfl rfl ?_
      refine j_iload_n (pc' := 18) K dX6_howMany_17 rfl 3 rfl rfl ?_
      obtain ⟨r18, hr18, h⟩ := jbd_some h
      refine j_ro (pc' := 21) K (fun H hP => jrun_A (x := ⟨"CountTriangles$Mark", "ways", "(III)I"⟩) K dX6_howMany_18 (M_X1_ways (jl E) (jg E) p0_10 p0_4 p0_5 r13 v1 v3 (Orders_rings s0) hr18) u_3_20 u_3_14 u_3_16 u_3_19 u_3_18 u_1_9 (by decide) ⟨okx_ways, by decide, by decide⟩ rfl (Nat.le_of_ble_eq_true rfl) 10 rfl rfl H hP) [10, 4, 5] (cl_7_f ..) rfl ?_
      obtain rfl := Option.some.inj h
      exact HR _ _ dX6_howMany_21
    have hc3 := hc
    have h := jif hc h
    have hc : v2 = 4 := jin5 hg hc0 hc1 hc2 hc3
    refine j_aald (pc' := 12) K dX6_howMany_11 3 5 rfl rfl hg (by rw [hc]; rfl) rfl ?_
    refine j_iload_n (pc' := 13) K dX6_howMany_12 rfl 1 rfl rfl ?_
    obtain ⟨r13, hr13, h⟩ := jbd_some h
    refine j_ro (pc' := 16) K (fun H hP => jrun_A (x := ⟨"CountTriangles$Mark", "start", "(I)I"⟩) K dX6_howMany_13 (M_X4_start (jl E) (jg E) p0_11 v1 hr13) u_3_10 u_2_236 u_2_238 u_3_9 u_3_8 u_1_10 (by decide) ⟨okx_start, by decide, by decide⟩ rfl (Nat.le_of_ble_eq_true rfl) 11 rfl rfl H hP) [] rfl rfl ?_
    refine j_iload_n (pc' := 17) K dX6_howMany_16 rfl 1 rfl rfl ?_
    refine j_iload_n (pc' := 18) K dX6_howMany_17 rfl 3 rfl rfl ?_
    obtain ⟨r18, hr18, h⟩ := jbd_some h
    refine j_ro (pc' := 21) K (fun H hP => jrun_A (x := ⟨"CountTriangles$Mark", "ways", "(III)I"⟩) K dX6_howMany_18 (M_X1_ways (jl E) (jg E) p0_10 p0_4 p0_5 r13 v1 v3 (Orders_rings s0) hr18) u_3_20 u_3_14 u_3_16 u_3_19 u_3_18 u_1_9 (by decide) ⟨okx_ways, by decide, by decide⟩ rfl (Nat.le_of_ble_eq_true rfl) 10 rfl rfl H hP) [10, 4, 5] (cl_7_f ..) rfl ?_
    obtain rfl := Option.some.inj h
    exact HR _ _ dX6_howMany_21
  have hc3 := hc
  have h := jif hc h
  have hc : v2 = 4 := jin5 hg hc0 hc1 hc2 hc3
  refine j_aald (pc' := 6) K dX6_howMany_5 3 5 rfl rfl hg (by rw [hc]; rfl) rfl ?_
  refine j_aload_n (pc' := 7) K dX6_howMany_6 rfl 0 rfl rfl ?_
  refine j_get (pc' := 10) K dX6_howMany_7 inX6 0 rfl rfl 2 (by decide) u_1_144 rfl rfl rfl ?_
  refine j_iload_n (pc' := 11) K dX6_howMany_10 rfl 2 rfl rfl ?_
  obtain ⟨hg, h⟩ := jgd_some h
  by_cases hc : v2 = 0
  · have h := jit hc h
    refine j_aald (pc' := 12) K dX6_howMany_11 3 5 rfl rfl hg (by rw [hc]; rfl) rfl ?_
    refine j_iload_n (pc' := 13) K dX6_howMany_12 rfl 1 rfl rfl ?_
    obtain ⟨r13, hr13, h⟩ := jbd_some h
    refine j_ro (pc' := 16) K (fun H hP => jrun_A (x := ⟨"CountTriangles$Mark", "start", "(I)I"⟩) K dX6_howMany_13 (M_X9_start (jl E) (jg E) p0_4 v1 hr13) u_3_13 u_2_236 u_2_238 u_3_12 u_3_11 u_1_6 (by decide) ⟨okx_start, by decide, by decide⟩ rfl (Nat.le_of_ble_eq_true rfl) 4 rfl rfl H hP) [] rfl rfl ?_
    refine j_iload_n (pc' := 17) K dX6_howMany_16 rfl 1 rfl rfl ?_
    refine j_iload_n (pc' := 18) K dX6_howMany_17 rfl 3 rfl rfl ?_
    obtain ⟨r18, hr18, h⟩ := jbd_some h
    refine j_rw (pc' := 21) (ws' := (wOrders (jg E) p0_0 p0_1 p0_2 p0_3 p0_4 p0_5 p0_6 p0_7 p0_8 p0_9 p0_10 p0_11 p0_12 (Orders_rise_s s0 (r18.2)))) K (fun H hP => jrun_A (x := ⟨"CountTriangles$Mark", "ways", "(III)I"⟩) K dX6_howMany_18 (M_X4_ways (jl E) (jg E) p0_11 p0_12 r13 v1 v3 (Orders_rise s0) hr18) u_3_28 u_3_14 u_3_16 u_3_27 u_3_26 u_1_10 (by decide) ⟨okx_ways, by decide, by decide⟩ rfl (Nat.le_of_ble_eq_true rfl) 11 rfl rfl H hP) hrw [11, 12] rfl (cl_8_s ..) rfl (cl_8_m ..) (ad_Orders ..) rfl ?_
    obtain rfl := Option.some.inj h
    exact HR _ _ dX6_howMany_21
  have hc0 := hc
  have h := jif hc h
  by_cases hc : v2 = 1
  · have h := jit hc h
    refine j_aald (pc' := 12) K dX6_howMany_11 3 5 rfl rfl hg (by rw [hc]; rfl) rfl ?_
    refine j_iload_n (pc' := 13) K dX6_howMany_12 rfl 1 rfl rfl ?_
    obtain ⟨r13, hr13, h⟩ := jbd_some h
    refine j_ro (pc' := 16) K (fun H hP => jrun_A (x := ⟨"CountTriangles$Mark", "start", "(I)I"⟩) K dX6_howMany_13 (M_X0_start (jl E) (jg E) p0_6 v1 hr13) u_3_1 u_2_236 u_2_238 u_3_0 u_2_239 u_1_7 (by decide) ⟨okx_start, by decide, by decide⟩ rfl (Nat.le_of_ble_eq_true rfl) 6 rfl rfl H hP) [] rfl rfl ?_
    refine j_iload_n (pc' := 17) K dX6_howMany_16 rfl 1 rfl rfl ?_
    refine j_iload_n (pc' := 18) K dX6_howMany_17 rfl 3 rfl rfl ?_
    obtain ⟨r18, hr18, h⟩ := jbd_some h
    refine j_rw (pc' := 21) (ws' := (wOrders (jg E) p0_0 p0_1 p0_2 p0_3 p0_4 p0_5 p0_6 p0_7 p0_8 p0_9 p0_10 p0_11 p0_12 (Orders_rise_s s0 (r18.2)))) K (fun H hP => jrun_A (x := ⟨"CountTriangles$Mark", "ways", "(III)I"⟩) K dX6_howMany_18 (M_X4_ways (jl E) (jg E) p0_11 p0_12 r13 v1 v3 (Orders_rise s0) hr18) u_3_28 u_3_14 u_3_16 u_3_27 u_3_26 u_1_10 (by decide) ⟨okx_ways, by decide, by decide⟩ rfl (Nat.le_of_ble_eq_true rfl) 11 rfl rfl H hP) hrw [11, 12] rfl (cl_8_s ..) rfl (cl_8_m ..) (ad_Orders ..) rfl ?_
    obtain rfl := Option.some.inj h
    exact HR _ _ dX6_howMany_21
  have hc1 := hc
  have h := jif hc h
  by_cases hc : v2 = 2
  · have h := jit hc h
    refine j_aald (pc' := 12) K dX6_howMany_11 3 5 rfl rfl hg (by rw [hc]; rfl) rfl ?_
    refine j_iload_n (pc' := 13) K dX6_howMany_12 rfl 1 rfl rfl ?_
    obtain ⟨r13, hr13, h⟩ := jbd_some h
    refine j_ro (pc' := 16) K (fun H hP => jrun_A (x := ⟨"CountTriangles$Mark", "start", "(I)I"⟩) K dX6_howMany_13 (M_X3_start (jl E) (jg E) p0_8 v1 hr13) u_3_7 u_2_236 u_2_238 u_3_6 u_3_5 u_1_8 (by decide) ⟨okx_start, by decide, by decide⟩ rfl (Nat.le_of_ble_eq_true rfl) 8 rfl rfl H hP) [] rfl rfl ?_
    refine j_iload_n (pc' := 17) K dX6_howMany_16 rfl 1 rfl rfl ?_
    refine j_iload_n (pc' := 18) K dX6_howMany_17 rfl 3 rfl rfl ?_
    obtain ⟨r18, hr18, h⟩ := jbd_some h
    refine j_rw (pc' := 21) (ws' := (wOrders (jg E) p0_0 p0_1 p0_2 p0_3 p0_4 p0_5 p0_6 p0_7 p0_8 p0_9 p0_10 p0_11 p0_12 (Orders_rise_s s0 (r18.2)))) K (fun H hP => jrun_A (x := ⟨"CountTriangles$Mark", "ways", "(III)I"⟩) K dX6_howMany_18 (M_X4_ways (jl E) (jg E) p0_11 p0_12 r13 v1 v3 (Orders_rise s0) hr18) u_3_28 u_3_14 u_3_16 u_3_27 u_3_26 u_1_10 (by decide) ⟨okx_ways, by decide, by decide⟩ rfl (Nat.le_of_ble_eq_true rfl) 11 rfl rfl H hP) hrw [11, 12] rfl (cl_8_s ..) rfl (cl_8_m ..) (ad_Orders ..) rfl ?_
    obtain rfl := Option.some.inj h
    exact HR _ _ dX6_howMany_21
  have hc2 := hc
  have h := jif hc h
  by_cases hc : v2 = 3
  · have h := jit hc h
    refine j_aald (pc' := 12) K dX6_howMany_11 3 5 rfl rfl hg (by rw [hc]; rfl) rfl ?_
    refine j_iload_n (pc' := 13) K dX6_howMany_12 rfl 1 rfl rfl ?_
    obtain ⟨r13, hr13, h⟩ := jbd_some h
    refine j_ro (pc' := 16) K (fun H hP => jrun_A (x := ⟨"CountTriangles$Mark", "start", "(I)I"⟩) K dX6_howMany_13 (M_X1_start (jl E) (jg E) p0_10 v1 hr13) u_3_4 u_2_236 u_2_238 u_3_3 u_3_2 u_1_9 (by decide) ⟨okx_start, by decide, by decide⟩ rfl (Nat.le_of_ble_eq_true rfl) 10 rfl rfl H hP) [] rfl rfl ?_
    refine j_iload_n (pc' := 17) K dX6_howMany_16 rfl 1 rfl rfl ?_
    refine j_iload_n (pc' := 18) K dX6_howMany_17 rfl 3 rfl rfl ?_
    obtain ⟨r18, hr18, h⟩ := jbd_some h
    refine j_rw (pc' := 21) (ws' := (wOrders (jg E) p0_0 p0_1 p0_2 p0_3 p0_4 p0_5 p0_6 p0_7 p0_8 p0_9 p0_10 p0_11 p0_12 (Orders_rise_s s0 (r18.2)))) K (fun H hP => jrun_A (x := ⟨"CountTriangles$Mark", "ways", "(III)I"⟩) K dX6_howMany_18 (M_X4_ways (jl E) (jg E) p0_11 p0_12 r13 v1 v3 (Orders_rise s0) hr18) u_3_28 u_3_14 u_3_16 u_3_27 u_3_26 u_1_10 (by decide) ⟨okx_ways, by decide, by decide⟩ rfl (Nat.le_of_ble_eq_true rfl) 11 rfl rfl H hP) hrw [11, 12] rfl (cl_8_s ..) rfl (cl_8_m ..) (ad_Orders ..) rfl ?_
    obtain rfl := Option.some.inj h
    exact HR _ _ dX6_howMany_21
  have hc3 := hc
  have h := jif hc h
  have hc : v2 = 4 := jin5 hg hc0 hc1 hc2 hc3
  refine j_aald (pc' := 12) K dX6_howMany_11 3 5 rfl rfl hg (by rw [hc]; rfl) rfl ?_
  refine j_iload_n (pc' := 13) K dX6_howMany_12 rfl 1 rfl rfl ?_
  obtain ⟨r13, hr13, h⟩ := jbd_some h
  refine j_ro (pc' := 16) K (fun H hP => jrun_A (x := ⟨"CountTriangles$Mark", "start", "(I)I"⟩) K dX6_howMany_13 (M_X4_start (jl E) (jg E) p0_11 v1 hr13) u_3_10 u_2_236 u_2_238 u_3_9 u_3_8 u_1_10 (by decide) ⟨okx_start, by decide, by decide⟩ rfl (Nat.le_of_ble_eq_true rfl) 11 rfl rfl H hP) [] rfl rfl ?_
  refine j_iload_n (pc' := 17) K dX6_howMany_16 rfl 1 rfl rfl ?_
  refine j_iload_n (pc' := 18) K dX6_howMany_17 rfl 3 rfl rfl ?_
  obtain ⟨r18, hr18, h⟩ := jbd_some h
  refine j_rw (pc' := 21) (ws' := (wOrders (jg E) p0_0 p0_1 p0_2 p0_3 p0_4 p0_5 p0_6 p0_7 p0_8 p0_9 p0_10 p0_11 p0_12 (Orders_rise_s s0 (r18.2)))) K (fun H hP => jrun_A (x := ⟨"CountTriangles$Mark", "ways", "(III)I"⟩) K dX6_howMany_18 (M_X4_ways (jl E) (jg E) p0_11 p0_12 r13 v1 v3 (Orders_rise s0) hr18) u_3_28 u_3_14 u_3_16 u_3_27 u_3_26 u_1_10 (by decide) ⟨okx_ways, by decide, by decide⟩ rfl (Nat.le_of_ble_eq_true rfl) 11 rfl rfl H hP) hrw [11, 12] rfl (cl_8_s ..) rfl (cl_8_m ..) (ad_Orders ..) rfl ?_
  obtain rfl := Option.some.inj h
  exact HR _ _ dX6_howMany_21
set_option maxRecDepth 100000 in
set_option maxHeartbeats 4000000 in
theorem M_X6_howMany (l : Launch) (G : jG) (p0_0 p0_1 p0_2 p0_3 p0_4 p0_5 p0_6 p0_7 p0_8 p0_9 p0_10 p0_11 p0_12 : Nat) (v1 : Int32) (v2 : Int32) (v3 : Int32) (s0 : OrdersS) {r : Int32 × OrdersS} (h : f_X6_howMany v1 v2 v3 s0 = some r) : MC l yX6_howMany cX6_howMany 4 (some .int) 4 G (jad (wOrders G p0_0 p0_1 p0_2 p0_3 p0_4 p0_5 p0_6 p0_7 p0_8 p0_9 p0_10 p0_11 p0_12 s0)) True (wOrders G p0_0 p0_1 p0_2 p0_3 p0_4 p0_5 p0_6 p0_7 p0_8 p0_9 p0_10 p0_11 p0_12 s0) (wOrders G p0_0 p0_1 p0_2 p0_3 p0_4 p0_5 p0_6 p0_7 p0_8 p0_9 p0_10 p0_11 p0_12 (r.2)) [.ref p0_0, .int v1, .int v2, .int v3] (some (.int (r.1))) := by
  refine mc_int (by decide +kernel) (Nat.le_of_ble_eq_true rfl) fun E hl hg hA hrw K HR => ?_
  subst hl
  subst hg
  have hrw : jrw E := by rw [hrw]; trivial
  exact b_X6_howMany p0_0 p0_1 p0_2 p0_3 p0_4 p0_5 p0_6 p0_7 p0_8 p0_9 p0_10 p0_11 p0_12 K hrw HR v1 v2 v3 s0 h
theorem ok_X6_markOf : yX6_markOf.cls ≠ "java/lang/invoke/MethodHandle" ∧ yX6_markOf.cls ≠ "java/lang/invoke/VarHandle" ∧ (parseMethodDescriptor yX6_markOf.desc).map (fun d => d.parameters.length) = some 3 := ⟨by decide, by decide, by decide +kernel⟩
def f_X6_markOf_31 : Nat → Int32 → Int32 → Int32 → Int32 → OrdersS → Option (Int32 × OrdersS)
  | 0, _, _, _, _, _ => none
  | n + 1, v1, v5, v6, v7, s0 =>
   if v1 ≤ v7 then
   some (v6, s0)
  else
   jbd (f_X6_lesserLater v1 v7 s0) (fun r41 =>
    jbd (f_X9_growth v5 (v1 - v7) r41 v7 (Orders_row s0)) (fun r64 =>
     jbd (f_X9_next v5 (v1 - v7) r41) (fun r80 =>
      (f_X6_markOf_31 n) v1 r80 (v6 + r64) (v7 + (1 : Int32)) s0)))
def f_X6_markOf_31a : Nat → Int32 → Int32 → Int32 → Int32 → OrdersS → Option (Int32 × OrdersS)
  | 0, _, _, _, _, _ => none
  | n + 1, v1, v5, v6, v7, s0 =>
   if v1 ≤ v7 then
   some (v6, s0)
  else
   jbd (f_X6_lesserLater v1 v7 s0) (fun r41 =>
    jbd (f_X0_growth v5 (v1 - v7) r41 v7) (fun r64 =>
     jbd (f_X0_next v5 (v1 - v7) r41) (fun r80 =>
      (f_X6_markOf_31a n) v1 r80 (v6 + r64) (v7 + (1 : Int32)) s0)))
def f_X6_markOf_31b : Nat → Int32 → Int32 → Int32 → Int32 → OrdersS → Option (Int32 × OrdersS)
  | 0, _, _, _, _, _ => none
  | n + 1, v1, v5, v6, v7, s0 =>
   if v1 ≤ v7 then
   some (v6, s0)
  else
   jbd (f_X6_lesserLater v1 v7 s0) (fun r41 =>
    jbd (f_X3_growth v5 (v1 - v7) r41 v7) (fun r64 =>
     jbd (f_X3_next v5 (v1 - v7) r41) (fun r80 =>
      (f_X6_markOf_31b n) v1 r80 (v6 + r64) (v7 + (1 : Int32)) s0)))
def f_X6_markOf_31c : Nat → Int32 → Int32 → Int32 → Int32 → OrdersS → Option (Int32 × OrdersS)
  | 0, _, _, _, _, _ => none
  | n + 1, v1, v5, v6, v7, s0 =>
   if v1 ≤ v7 then
   some (v6, s0)
  else
   jbd (f_X6_lesserLater v1 v7 s0) (fun r41 =>
    jbd (f_X1_growth v5 (v1 - v7) r41 v7) (fun r64 =>
     jbd (f_X1_next v5 (v1 - v7) r41) (fun r80 =>
      (f_X6_markOf_31c n) v1 r80 (v6 + r64) (v7 + (1 : Int32)) s0)))
def f_X6_markOf_31d : Nat → Int32 → Int32 → Int32 → Int32 → OrdersS → Option (Int32 × OrdersS)
  | 0, _, _, _, _, _ => none
  | n + 1, v1, v5, v6, v7, s0 =>
   if v1 ≤ v7 then
   some (v6, s0)
  else
   jbd (f_X6_lesserLater v1 v7 s0) (fun r41 =>
    jbd (f_X4_growth v5 (v1 - v7) r41 v7 (Orders_rise s0)) (fun r64 =>
     jbd (f_X4_next v5 (v1 - v7) r41) (fun r80 =>
      (f_X6_markOf_31d n) v1 r80 (v6 + r64) (v7 + (1 : Int32)) s0)))
def f_X6_markOf (v1 : Int32) (v2 : Int32) (v3 : Int32) (s0 : OrdersS) : Option (Int32 × OrdersS) :=
   jbd (f_X6_unpack v1 v2 (Orders_row s0)) (fun r6 =>
   jgd v3 5 (
    if v3 = 0 then (
     jbd (f_X9_start v1) (fun r20 =>
      f_X6_markOf_31 jFU v1 r20 (0 : Int32) (0 : Int32) (Orders_row_s s0 r6))) else if v3 = 1 then (
     jbd (f_X0_start v1) (fun r20 =>
      f_X6_markOf_31a jFU v1 r20 (0 : Int32) (0 : Int32) (Orders_row_s s0 r6))) else if v3 = 2 then (
     jbd (f_X3_start v1) (fun r20 =>
      f_X6_markOf_31b jFU v1 r20 (0 : Int32) (0 : Int32) (Orders_row_s s0 r6))) else if v3 = 3 then (
     jbd (f_X1_start v1) (fun r20 =>
      f_X6_markOf_31c jFU v1 r20 (0 : Int32) (0 : Int32) (Orders_row_s s0 r6))) else (
     jbd (f_X4_start v1) (fun r20 =>
      f_X6_markOf_31d jFU v1 r20 (0 : Int32) (0 : Int32) (Orders_row_s s0 r6)))))
set_option maxRecDepth 100000 in
set_option maxHeartbeats 4000000 in
theorem b_X6_markOf_31 {E : jE} (p0_0 p0_1 p0_2 p0_3 p0_4 p0_5 p0_6 p0_7 p0_8 p0_9 p0_10 p0_11 p0_12 : Nat) {res : Int32 × OrdersS} (K : jC E cX6_markOf 9 RX6 3) (hrw : jrw E) (HR : jRI E cX6_markOf 9 (wOrders (jg E) p0_0 p0_1 p0_2 p0_3 p0_4 p0_5 p0_6 p0_7 p0_8 p0_9 p0_10 p0_11 p0_12 (res.2)) (res.1)) : ∀ (n : Nat) (v1 : Int32) (v5 : Int32) (v6 : Int32) (v7 : Int32) (s0 : OrdersS), f_X6_markOf_31 n v1 v5 v6 v7 s0 = some res → J E 9 (wOrders (jg E) p0_0 p0_1 p0_2 p0_3 p0_4 p0_5 p0_6 p0_7 p0_8 p0_9 p0_10 p0_11 p0_12 s0) 31 [(0, .ref p0_0), (1, .int v1), (4, .ref p0_4), (5, .int v5), (6, .int v6), (7, .int v7)] [] := by
  intro n
  induction n with
  | zero => intro _ _ _ _ _ h; cases h
  | succ n ih =>
    intro v1 v5 v6 v7 s0 h
    rw [f_X6_markOf_31] at h
    refine j_iload (pc' := 33) K dX6_markOf_31 5 rfl rfl ?_
    refine j_iload_n (pc' := 34) K dX6_markOf_33 rfl 1 rfl rfl ?_
    refine j_icmp_ge (pc' := 37) (tgt := 91) K dX6_markOf_34 (by decide) rfl (fun hc => ?_) (fun hc => ?_)
    · have h := jit hc h
      refine j_iload (pc' := 93) K dX6_markOf_91 4 rfl rfl ?_
      obtain rfl := Option.some.inj h
      exact HR _ _ dX6_markOf_93
    · have h := jif hc h
      refine j_aload_n (pc' := 38) K dX6_markOf_37 rfl 0 rfl rfl ?_
      refine j_iload_n (pc' := 39) K dX6_markOf_38 rfl 1 rfl rfl ?_
      refine j_iload (pc' := 41) K dX6_markOf_39 5 rfl rfl ?_
      obtain ⟨r41, hr41, h⟩ := jbd_some h
      refine j_ro (pc' := 44) K (fun H hP => jrun_V K dX6_markOf_41 (M_X6_lesserLater (jl E) (jg E) p0_0 p0_1 p0_2 p0_3 p0_4 p0_5 p0_6 p0_7 p0_8 p0_9 p0_10 p0_11 p0_12 v1 v7 s0 hr41) u_3_123 u_3_120 u_3_122 u_p_13 u_1_4 ⟨ok_X6_lesserLater, by decide, by decide⟩ rfl (Nat.le_of_ble_eq_true rfl) 0 rfl rfl H hP) [0, 1, 2, 3, 4, 5, 6, 7, 8, 9, 10, 11, 12] (cl_1_f ..) rfl ?_
      refine j_istore (pc' := 46) (lv' := [(8, .int r41), (0, .ref p0_0), (1, .int v1), (4, .ref p0_4), (5, .int v5), (6, .int v6), (7, .int v7)]) K dX6_markOf_44 (by decide) rfl rfl ?_
      refine j_iload (pc' := 48) K dX6_markOf_46 5 rfl rfl ?_
      refine j_aload (pc' := 50) K dX6_markOf_48 3 rfl rfl ?_
      refine j_iload (pc' := 52) K dX6_markOf_50 4 rfl rfl ?_
      refine j_iload_n (pc' := 53) K dX6_markOf_52 rfl 2 rfl rfl ?_
      refine j_iload (pc' := 55) K dX6_markOf_53 6 rfl rfl ?_
      refine j_isub (pc' := 56) K dX6_markOf_55 rfl ?_
      refine j_iload (pc' := 58) K dX6_markOf_56 0 rfl rfl ?_
      refine j_aload_n (pc' := 59) K dX6_markOf_58 rfl 1 rfl rfl ?_
      refine j_get (pc' := 62) K dX6_markOf_59 inX6 0 rfl rfl 0 (by decide) u_1_142 rfl rfl rfl ?_
      refine j_iload (pc' := 64) K dX6_markOf_62 6 rfl rfl ?_
      obtain ⟨r64, hr64, h⟩ := jbd_some h
      refine j_ro (pc' := 67) K (fun H hP => jrun_A (x := ⟨"CountTriangles$Mark", "growth", "(III[II)I"⟩) K dX6_markOf_64 (M_X9_growth (jl E) (jg E) p0_1 p0_4 v5 (v1 - v7) r41 v7 (Orders_row s0) hr64) u_3_77 u_3_56 u_3_58 u_3_76 u_3_75 u_1_6 (by decide) ⟨okx_growth, by decide, by decide⟩ rfl (Nat.le_of_ble_eq_true rfl) 4 rfl rfl H hP) [1] (cl_9_f ..) rfl ?_
      refine j_iadd (pc' := 68) K dX6_markOf_67 rfl ?_
      refine j_istore (pc' := 70) (lv' := [(6, .int (v6 + r64)), (8, .int r41), (0, .ref p0_0), (1, .int v1), (4, .ref p0_4), (5, .int v5), (7, .int v7)]) K dX6_markOf_68 (by decide) rfl rfl ?_
      refine j_aload (pc' := 72) K dX6_markOf_70 4 rfl rfl ?_
      refine j_iload (pc' := 74) K dX6_markOf_72 5 rfl rfl ?_
      refine j_iload_n (pc' := 75) K dX6_markOf_74 rfl 3 rfl rfl ?_
      refine j_iload (pc' := 77) K dX6_markOf_75 6 rfl rfl ?_
      refine j_isub (pc' := 78) K dX6_markOf_77 rfl ?_
      refine j_iload (pc' := 80) K dX6_markOf_78 1 rfl rfl ?_
      obtain ⟨r80, hr80, h⟩ := jbd_some h
      refine j_ro (pc' := 83) K (fun H hP => jrun_A (x := ⟨"CountTriangles$Mark", "next", "(III)I"⟩) K dX6_markOf_80 (M_X9_next (jl E) (jg E) p0_4 v5 (v1 - v7) r41 hr80) u_3_94 u_3_78 u_3_80 u_3_93 u_3_92 u_1_6 (by decide) ⟨okx_next, by decide, by decide⟩ rfl (Nat.le_of_ble_eq_true rfl) 4 rfl rfl H hP) [] rfl rfl ?_
      refine j_istore (pc' := 85) (lv' := [(5, .int r80), (6, .int (v6 + r64)), (8, .int r41), (0, .ref p0_0), (1, .int v1), (4, .ref p0_4), (7, .int v7)]) K dX6_markOf_83 (by decide) rfl rfl ?_
      refine j_iinc (pc' := 88) (j := 6) (v := (v7 + (1 : Int32))) (lv' := [(7, .int (v7 + (1 : Int32))), (5, .int r80), (6, .int (v6 + r64)), (8, .int r41), (0, .ref p0_0), (1, .int v1), (4, .ref p0_4)]) K dX6_markOf_85 rfl rfl (by decide) rfl rfl ?_
      refine j_goto (tgt := 31) K dX6_markOf_88 (by decide) ?_
      refine j_sub [4, 5, 6, 1, 2, 0] rfl ?_
      exact ih v1 r80 (v6 + r64) (v7 + (1 : Int32)) s0 h
set_option maxRecDepth 100000 in
set_option maxHeartbeats 4000000 in
theorem b_X6_markOf_31a {E : jE} (p0_0 p0_1 p0_2 p0_3 p0_4 p0_5 p0_6 p0_7 p0_8 p0_9 p0_10 p0_11 p0_12 : Nat) {res : Int32 × OrdersS} (K : jC E cX6_markOf 9 RX6 3) (hrw : jrw E) (HR : jRI E cX6_markOf 9 (wOrders (jg E) p0_0 p0_1 p0_2 p0_3 p0_4 p0_5 p0_6 p0_7 p0_8 p0_9 p0_10 p0_11 p0_12 (res.2)) (res.1)) : ∀ (n : Nat) (v1 : Int32) (v5 : Int32) (v6 : Int32) (v7 : Int32) (s0 : OrdersS), f_X6_markOf_31a n v1 v5 v6 v7 s0 = some res → J E 9 (wOrders (jg E) p0_0 p0_1 p0_2 p0_3 p0_4 p0_5 p0_6 p0_7 p0_8 p0_9 p0_10 p0_11 p0_12 s0) 31 [(0, .ref p0_0), (1, .int v1), (4, .ref p0_6), (5, .int v5), (6, .int v6), (7, .int v7)] [] := by
  intro n
  induction n with
  | zero => intro _ _ _ _ _ h; cases h
  | succ n ih =>
    intro v1 v5 v6 v7 s0 h
    rw [f_X6_markOf_31a] at h
    refine j_iload (pc' := 33) K dX6_markOf_31 5 rfl rfl ?_
    refine j_iload_n (pc' := 34) K dX6_markOf_33 rfl 1 rfl rfl ?_
    refine j_icmp_ge (pc' := 37) (tgt := 91) K dX6_markOf_34 (by decide) rfl (fun hc => ?_) (fun hc => ?_)
    · have h := jit hc h
      refine j_iload (pc' := 93) K dX6_markOf_91 4 rfl rfl ?_
      obtain rfl := Option.some.inj h
      exact HR _ _ dX6_markOf_93
    · have h := jif hc h
      refine j_aload_n (pc' := 38) K dX6_markOf_37 rfl 0 rfl rfl ?_
      refine j_iload_n (pc' := 39) K dX6_markOf_38 rfl 1 rfl rfl ?_
      refine j_iload (pc' := 41) K dX6_markOf_39 5 rfl rfl ?_
      obtain ⟨r41, hr41, h⟩ := jbd_some h
      refine j_ro (pc' := 44) K (fun H hP => jrun_V K dX6_markOf_41 (M_X6_lesserLater (jl E) (jg E) p0_0 p0_1 p0_2 p0_3 p0_4 p0_5 p0_6 p0_7 p0_8 p0_9 p0_10 p0_11 p0_12 v1 v7 s0 hr41) u_3_123 u_3_120 u_3_122 u_p_13 u_1_4 ⟨ok_X6_lesserLater, by decide, by decide⟩ rfl (Nat.le_of_ble_eq_true rfl) 0 rfl rfl H hP) [0, 1, 2, 3, 4, 5, 6, 7, 8, 9, 10, 11, 12] (cl_1_f ..) rfl ?_
      refine j_istore (pc' := 46) (lv' := [(8, .int r41), (0, .ref p0_0), (1, .int v1), (4, .ref p0_6), (5, .int v5), (6, .int v6), (7, .int v7)]) K dX6_markOf_44 (by decide) rfl rfl ?_
      refine j_iload (pc' := 48) K dX6_markOf_46 5 rfl rfl ?_
      refine j_aload (pc' := 50) K dX6_markOf_48 3 rfl rfl ?_
      refine j_iload (pc' := 52) K dX6_markOf_50 4 rfl rfl ?_
      refine j_iload_n (pc' := 53) K dX6_markOf_52 rfl 2 rfl rfl ?_
      refine j_iload (pc' := 55) K dX6_markOf_53 6 rfl rfl ?_
      refine j_isub (pc' := 56) K dX6_markOf_55 rfl ?_
      refine j_iload (pc' := 58) K dX6_markOf_56 0 rfl rfl ?_
      refine j_aload_n (pc' := 59) K dX6_markOf_58 rfl 1 rfl rfl ?_
      refine j_get (pc' := 62) K dX6_markOf_59 inX6 0 rfl rfl 0 (by decide) u_1_142 rfl rfl rfl ?_
      refine j_iload (pc' := 64) K dX6_markOf_62 6 rfl rfl ?_
      obtain ⟨r64, hr64, h⟩ := jbd_some h
      refine j_ro (pc' := 67) K (fun H hP => jrun_A (x := ⟨"CountTriangles$Mark", "growth", "(III[II)I"⟩) K dX6_markOf_64 (M_X0_growth (jl E) (jg E) p0_6 p0_1 v5 (v1 - v7) r41 v7 hr64) u_3_61 u_3_56 u_3_58 u_3_60 u_3_59 u_1_7 (by decide) ⟨okx_growth, by decide, by decide⟩ rfl (Nat.le_of_ble_eq_true rfl) 6 rfl rfl H hP) [] rfl rfl ?_
      refine j_iadd (pc' := 68) K dX6_markOf_67 rfl ?_
      refine j_istore (pc' := 70) (lv' := [(6, .int (v6 + r64)), (8, .int r41), (0, .ref p0_0), (1, .int v1), (4, .ref p0_6), (5, .int v5), (7, .int v7)]) K dX6_markOf_68 (by decide) rfl rfl ?_
      refine j_aload (pc' := 72) K dX6_markOf_70 4 rfl rfl ?_
      refine j_iload (pc' := 74) K dX6_markOf_72 5 rfl rfl ?_
      refine j_iload_n (pc' := 75) K dX6_markOf_74 rfl 3 rfl rfl ?_
      refine j_iload (pc' := 77) K dX6_markOf_75 6 rfl rfl ?_
      refine j_isub (pc' := 78) K dX6_markOf_77 rfl ?_
      refine j_iload (pc' := 80) K dX6_markOf_78 1 rfl rfl ?_
      obtain ⟨r80, hr80, h⟩ := jbd_some h
      refine j_ro (pc' := 83) K (fun H hP => jrun_A (x := ⟨"CountTriangles$Mark", "next", "(III)I"⟩) K dX6_markOf_80 (M_X0_next (jl E) (jg E) p0_6 v5 (v1 - v7) r41 hr80) u_3_83 u_3_78 u_3_80 u_3_82 u_3_81 u_1_7 (by decide) ⟨okx_next, by decide, by decide⟩ rfl (Nat.le_of_ble_eq_true rfl) 6 rfl rfl H hP) [] rfl rfl ?_
      refine j_istore (pc' := 85) (lv' := [(5, .int r80), (6, .int (v6 + r64)), (8, .int r41), (0, .ref p0_0), (1, .int v1), (4, .ref p0_6), (7, .int v7)]) K dX6_markOf_83 (by decide) rfl rfl ?_
      refine j_iinc (pc' := 88) (j := 6) (v := (v7 + (1 : Int32))) (lv' := [(7, .int (v7 + (1 : Int32))), (5, .int r80), (6, .int (v6 + r64)), (8, .int r41), (0, .ref p0_0), (1, .int v1), (4, .ref p0_6)]) K dX6_markOf_85 rfl rfl (by decide) rfl rfl ?_
      refine j_goto (tgt := 31) K dX6_markOf_88 (by decide) ?_
      refine j_sub [4, 5, 6, 1, 2, 0] rfl ?_
      exact ih v1 r80 (v6 + r64) (v7 + (1 : Int32)) s0 h
set_option maxRecDepth 100000 in
set_option maxHeartbeats 4000000 in
theorem b_X6_markOf_31b {E : jE} (p0_0 p0_1 p0_2 p0_3 p0_4 p0_5 p0_6 p0_7 p0_8 p0_9 p0_10 p0_11 p0_12 : Nat) {res : Int32 × OrdersS} (K : jC E cX6_markOf 9 RX6 3) (hrw : jrw E) (HR : jRI E cX6_markOf 9 (wOrders (jg E) p0_0 p0_1 p0_2 p0_3 p0_4 p0_5 p0_6 p0_7 p0_8 p0_9 p0_10 p0_11 p0_12 (res.2)) (res.1)) : ∀ (n : Nat) (v1 : Int32) (v5 : Int32) (v6 : Int32) (v7 : Int32) (s0 : OrdersS), f_X6_markOf_31b n v1 v5 v6 v7 s0 = some res → J E 9 (wOrders (jg E) p0_0 p0_1 p0_2 p0_3 p0_4 p0_5 p0_6 p0_7 p0_8 p0_9 p0_10 p0_11 p0_12 s0) 31 [(0, .ref p0_0), (1, .int v1), (4, .ref p0_8), (5, .int v5), (6, .int v6), (7, .int v7)] [] := by
  intro n
  induction n with
  | zero => intro _ _ _ _ _ h; cases h
  | succ n ih =>
    intro v1 v5 v6 v7 s0 h
    rw [f_X6_markOf_31b] at h
    refine j_iload (pc' := 33) K dX6_markOf_31 5 rfl rfl ?_
    refine j_iload_n (pc' := 34) K dX6_markOf_33 rfl 1 rfl rfl ?_
    refine j_icmp_ge (pc' := 37) (tgt := 91) K dX6_markOf_34 (by decide) rfl (fun hc => ?_) (fun hc => ?_)
    · have h := jit hc h
      refine j_iload (pc' := 93) K dX6_markOf_91 4 rfl rfl ?_
      obtain rfl := Option.some.inj h
      exact HR _ _ dX6_markOf_93
    · have h := jif hc h
      refine j_aload_n (pc' := 38) K dX6_markOf_37 rfl 0 rfl rfl ?_
      refine j_iload_n (pc' := 39) K dX6_markOf_38 rfl 1 rfl rfl ?_
      refine j_iload (pc' := 41) K dX6_markOf_39 5 rfl rfl ?_
      obtain ⟨r41, hr41, h⟩ := jbd_some h
      refine j_ro (pc' := 44) K (fun H hP => jrun_V K dX6_markOf_41 (M_X6_lesserLater (jl E) (jg E) p0_0 p0_1 p0_2 p0_3 p0_4 p0_5 p0_6 p0_7 p0_8 p0_9 p0_10 p0_11 p0_12 v1 v7 s0 hr41) u_3_123 u_3_120 u_3_122 u_p_13 u_1_4 ⟨ok_X6_lesserLater, by decide, by decide⟩ rfl (Nat.le_of_ble_eq_true rfl) 0 rfl rfl H hP) [0, 1, 2, 3, 4, 5, 6, 7, 8, 9, 10, 11, 12] (cl_1_f ..) rfl ?_
      refine j_istore (pc' := 46) (lv' := [(8, .int r41), (0, .ref p0_0), (1, .int v1), (4, .ref p0_8), (5, .int v5), (6, .int v6), (7, .int v7)]) K dX6_markOf_44 (by decide) rfl rfl ?_
      refine j_iload (pc' := 48) K dX6_markOf_46 5 rfl rfl ?_
      refine j_aload (pc' := 50) K dX6_markOf_48 3 rfl rfl ?_
      refine j_iload (pc' := 52) K dX6_markOf_50 4 rfl rfl ?_
      refine j_iload_n (pc' := 53) K dX6_markOf_52 rfl 2 rfl rfl ?_
      refine j_iload (pc' := 55) K dX6_markOf_53 6 rfl rfl ?_
      refine j_isub (pc' := 56) K dX6_markOf_55 rfl ?_
      refine j_iload (pc' := 58) K dX6_markOf_56 0 rfl rfl ?_
      refine j_aload_n (pc' := 59) K dX6_markOf_58 rfl 1 rfl rfl ?_
      refine j_get (pc' := 62) K dX6_markOf_59 inX6 0 rfl rfl 0 (by decide) u_1_142 rfl rfl rfl ?_
      refine j_iload (pc' := 64) K dX6_markOf_62 6 rfl rfl ?_
      obtain ⟨r64, hr64, h⟩ := jbd_some h
      refine j_ro (pc' := 67) K (fun H hP => jrun_A (x := ⟨"CountTriangles$Mark", "growth", "(III[II)I"⟩) K dX6_markOf_64 (M_X3_growth (jl E) (jg E) p0_8 p0_1 v5 (v1 - v7) r41 v7 hr64) u_3_67 u_3_56 u_3_58 u_3_66 u_3_65 u_1_8 (by decide) ⟨okx_growth, by decide, by decide⟩ rfl (Nat.le_of_ble_eq_true rfl) 8 rfl rfl H hP) [] rfl rfl ?_
      refine j_iadd (pc' := 68) K dX6_markOf_67 rfl ?_
      refine j_istore (pc' := 70) (lv' := [(6, .int (v6 + r64)), (8, .int r41), (0, .ref p0_0), (1, .int v1), (4, .ref p0_8), (5, .int v5), (7, .int v7)]) K dX6_markOf_68 (by decide) rfl rfl ?_
      refine j_aload (pc' := 72) K dX6_markOf_70 4 rfl rfl ?_
      refine j_iload (pc' := 74) K dX6_markOf_72 5 rfl rfl ?_
      refine j_iload_n (pc' := 75) K dX6_markOf_74 rfl 3 rfl rfl ?_
      refine j_iload (pc' := 77) K dX6_markOf_75 6 rfl rfl ?_
      refine j_isub (pc' := 78) K dX6_markOf_77 rfl ?_
      refine j_iload (pc' := 80) K dX6_markOf_78 1 rfl rfl ?_
      obtain ⟨r80, hr80, h⟩ := jbd_some h
      refine j_ro (pc' := 83) K (fun H hP => jrun_A (x := ⟨"CountTriangles$Mark", "next", "(III)I"⟩) K dX6_markOf_80 (M_X3_next (jl E) (jg E) p0_8 v5 (v1 - v7) r41 hr80) u_3_90 u_3_78 u_3_80 u_3_89 u_3_88 u_1_8 (by decide) ⟨okx_next, by decide, by decide⟩ rfl (Nat.le_of_ble_eq_true rfl) 8 rfl rfl H hP) [] rfl rfl ?_
      refine j_istore (pc' := 85) (lv' := [(5, .int r80), (6, .int (v6 + r64)), (8, .int r41), (0, .ref p0_0), (1, .int v1), (4, .ref p0_8), (7, .int v7)]) K dX6_markOf_83 (by decide) rfl rfl ?_
      refine j_iinc (pc' := 88) (j := 6) (v := (v7 + (1 : Int32))) (lv' := [(7, .int (v7 + (1 : Int32))), (5, .int r80), (6, .int (v6 + r64)), (8, .int r41), (0, .ref p0_0), (1, .int v1), (4, .ref p0_8)]) K dX6_markOf_85 rfl rfl (by decide) rfl rfl ?_
      refine j_goto (tgt := 31) K dX6_markOf_88 (by decide) ?_
      refine j_sub [4, 5, 6, 1, 2, 0] rfl ?_
      exact ih v1 r80 (v6 + r64) (v7 + (1 : Int32)) s0 h
set_option maxRecDepth 100000 in
set_option maxHeartbeats 4000000 in
theorem b_X6_markOf_31c {E : jE} (p0_0 p0_1 p0_2 p0_3 p0_4 p0_5 p0_6 p0_7 p0_8 p0_9 p0_10 p0_11 p0_12 : Nat) {res : Int32 × OrdersS} (K : jC E cX6_markOf 9 RX6 3) (hrw : jrw E) (HR : jRI E cX6_markOf 9 (wOrders (jg E) p0_0 p0_1 p0_2 p0_3 p0_4 p0_5 p0_6 p0_7 p0_8 p0_9 p0_10 p0_11 p0_12 (res.2)) (res.1)) : ∀ (n : Nat) (v1 : Int32) (v5 : Int32) (v6 : Int32) (v7 : Int32) (s0 : OrdersS), f_X6_markOf_31c n v1 v5 v6 v7 s0 = some res → J E 9 (wOrders (jg E) p0_0 p0_1 p0_2 p0_3 p0_4 p0_5 p0_6 p0_7 p0_8 p0_9 p0_10 p0_11 p0_12 s0) 31 [(0, .ref p0_0), (1, .int v1), (4, .ref p0_10), (5, .int v5), (6, .int v6), (7, .int v7)] [] := by
  intro n
  induction n with
  | zero => intro _ _ _ _ _ h; cases h
  | succ n ih =>
    intro v1 v5 v6 v7 s0 h
    rw [f_X6_markOf_31c] at h
    refine j_iload (pc' := 33) K dX6_markOf_31 5 rfl rfl ?_
    refine j_iload_n (pc' := 34) K dX6_markOf_33 rfl 1 rfl rfl ?_
    refine j_icmp_ge (pc' := 37) (tgt := 91) K dX6_markOf_34 (by decide) rfl (fun hc => ?_) (fun hc => ?_)
    · have h := jit hc h
      refine j_iload (pc' := 93) K dX6_markOf_91 4 rfl rfl ?_
      obtain rfl := Option.some.inj h
      exact HR _ _ dX6_markOf_93
    · have h := jif hc h
      refine j_aload_n (pc' := 38) K dX6_markOf_37 rfl 0 rfl rfl ?_
      refine j_iload_n (pc' := 39) K dX6_markOf_38 rfl 1 rfl rfl ?_
      refine j_iload (pc' := 41) K dX6_markOf_39 5 rfl rfl ?_
      obtain ⟨r41, hr41, h⟩ := jbd_some h
      refine j_ro (pc' := 44) K (fun H hP => jrun_V K dX6_markOf_41 (M_X6_lesserLater (jl E) (jg E) p0_0 p0_1 p0_2 p0_3 p0_4 p0_5 p0_6 p0_7 p0_8 p0_9 p0_10 p0_11 p0_12 v1 v7 s0 hr41) u_3_123 u_3_120 u_3_122 u_p_13 u_1_4 ⟨ok_X6_lesserLater, by decide, by decide⟩ rfl (Nat.le_of_ble_eq_true rfl) 0 rfl rfl H hP) [0, 1, 2, 3, 4, 5, 6, 7, 8, 9, 10, 11, 12] (cl_1_f ..) rfl ?_
      refine j_istore (pc' := 46) (lv' := [(8, .int r41), (0, .ref p0_0), (1, .int v1), (4, .ref p0_10), (5, .int v5), (6, .int v6), (7, .int v7)]) K dX6_markOf_44 (by decide) rfl rfl ?_
      refine j_iload (pc' := 48) K dX6_markOf_46 5 rfl rfl ?_
      refine j_aload (pc' := 50) K dX6_markOf_48 3 rfl rfl ?_
      refine j_iload (pc' := 52) K dX6_markOf_50 4 rfl rfl ?_
      refine j_iload_n (pc' := 53) K dX6_markOf_52 rfl 2 rfl rfl ?_
      refine j_iload (pc' := 55) K dX6_markOf_53 6 rfl rfl ?_
      refine j_isub (pc' := 56) K dX6_markOf_55 rfl ?_
      refine j_iload (pc' := 58) K dX6_markOf_56 0 rfl rfl ?_
      refine j_aload_n (pc' := 59) K dX6_markOf_58 rfl 1 rfl rfl ?_
      refine j_get (pc' := 62) K dX6_markOf_59 inX6 0 rfl rfl 0 (by decide) u_1_142 rfl rfl rfl ?_
      refine j_iload (pc' := 64) K dX6_markOf_62 6 rfl rfl ?_
      obtain ⟨r64, hr64, h⟩ := jbd_some h
      refine j_ro (pc' := 67) K (fun H hP => jrun_A (x := ⟨"CountTriangles$Mark", "growth", "(III[II)I"⟩) K dX6_markOf_64 (M_X1_growth (jl E) (jg E) p0_10 p0_1 v5 (v1 - v7) r41 v7 hr64) u_3_64 u_3_56 u_3_58 u_3_63 u_3_62 u_1_9 (by decide) ⟨okx_growth, by decide, by decide⟩ rfl (Nat.le_of_ble_eq_true rfl) 10 rfl rfl H hP) [] rfl rfl ?_
      refine j_iadd (pc' := 68) K dX6_markOf_67 rfl ?_
      refine j_istore (pc' := 70) (lv' := [(6, .int (v6 + r64)), (8, .int r41), (0, .ref p0_0), (1, .int v1), (4, .ref p0_10), (5, .int v5), (7, .int v7)]) K dX6_markOf_68 (by decide) rfl rfl ?_
      refine j_aload (pc' := 72) K dX6_markOf_70 4 rfl rfl ?_
      refine j_iload (pc' := 74) K dX6_markOf_72 5 rfl rfl ?_
      refine j_iload_n (pc' := 75) K dX6_markOf_74 rfl 3 rfl rfl ?_
      refine j_iload (pc' := 77) K dX6_markOf_75 6 rfl rfl ?_
      refine j_isub (pc' := 78) K dX6_markOf_77 rfl ?_
      refine j_iload (pc' := 80) K dX6_markOf_78 1 rfl rfl ?_
      obtain ⟨r80, hr80, h⟩ := jbd_some h
      refine j_ro (pc' := 83) K (fun H hP => jrun_A (x := ⟨"CountTriangles$Mark", "next", "(III)I"⟩) K dX6_markOf_80 (M_X1_next (jl E) (jg E) p0_10 v5 (v1 - v7) r41 hr80) u_3_86 u_3_78 u_3_80 u_3_85 u_3_84 u_1_9 (by decide) ⟨okx_next, by decide, by decide⟩ rfl (Nat.le_of_ble_eq_true rfl) 10 rfl rfl H hP) [] rfl rfl ?_
      refine j_istore (pc' := 85) (lv' := [(5, .int r80), (6, .int (v6 + r64)), (8, .int r41), (0, .ref p0_0), (1, .int v1), (4, .ref p0_10), (7, .int v7)]) K dX6_markOf_83 (by decide) rfl rfl ?_
      refine j_iinc (pc' := 88) (j := 6) (v := (v7 + (1 : Int32))) (lv' := [(7, .int (v7 + (1 : Int32))), (5, .int r80), (6, .int (v6 + r64)), (8, .int r41), (0, .ref p0_0), (1, .int v1), (4, .ref p0_10)]) K dX6_markOf_85 rfl rfl (by decide) rfl rfl ?_
      refine j_goto (tgt := 31) K dX6_markOf_88 (by decide) ?_
      refine j_sub [4, 5, 6, 1, 2, 0] rfl ?_
      exact ih v1 r80 (v6 + r64) (v7 + (1 : Int32)) s0 h
set_option maxRecDepth 100000 in
set_option maxHeartbeats 4000000 in
theorem b_X6_markOf_31d {E : jE} (p0_0 p0_1 p0_2 p0_3 p0_4 p0_5 p0_6 p0_7 p0_8 p0_9 p0_10 p0_11 p0_12 : Nat) {res : Int32 × OrdersS} (K : jC E cX6_markOf 9 RX6 3) (hrw : jrw E) (HR : jRI E cX6_markOf 9 (wOrders (jg E) p0_0 p0_1 p0_2 p0_3 p0_4 p0_5 p0_6 p0_7 p0_8 p0_9 p0_10 p0_11 p0_12 (res.2)) (res.1)) : ∀ (n : Nat) (v1 : Int32) (v5 : Int32) (v6 : Int32) (v7 : Int32) (s0 : OrdersS), f_X6_markOf_31d n v1 v5 v6 v7 s0 = some res → J E 9 (wOrders (jg E) p0_0 p0_1 p0_2 p0_3 p0_4 p0_5 p0_6 p0_7 p0_8 p0_9 p0_10 p0_11 p0_12 s0) 31 [(0, .ref p0_0), (1, .int v1), (4, .ref p0_11), (5, .int v5), (6, .int v6), (7, .int v7)] [] := by
  intro n
  induction n with
  | zero => intro _ _ _ _ _ h; cases h
  | succ n ih =>
    intro v1 v5 v6 v7 s0 h
    rw [f_X6_markOf_31d] at h
    refine j_iload (pc' := 33) K dX6_markOf_31 5 rfl rfl ?_
    refine j_iload_n (pc' := 34) K dX6_markOf_33 rfl 1 rfl rfl ?_
    refine j_icmp_ge (pc' := 37) (tgt := 91) K dX6_markOf_34 (by decide) rfl (fun hc => ?_) (fun hc => ?_)
    · have h := jit hc h
      refine j_iload (pc' := 93) K dX6_markOf_91 4 rfl rfl ?_
      obtain rfl := Option.some.inj h
      exact HR _ _ dX6_markOf_93
    · have h := jif hc h
      refine j_aload_n (pc' := 38) K dX6_markOf_37 rfl 0 rfl rfl ?_
      refine j_iload_n (pc' := 39) K dX6_markOf_38 rfl 1 rfl rfl ?_
      refine j_iload (pc' := 41) K dX6_markOf_39 5 rfl rfl ?_
      obtain ⟨r41, hr41, h⟩ := jbd_some h
      refine j_ro (pc' := 44) K (fun H hP => jrun_V K dX6_markOf_41 (M_X6_lesserLater (jl E) (jg E) p0_0 p0_1 p0_2 p0_3 p0_4 p0_5 p0_6 p0_7 p0_8 p0_9 p0_10 p0_11 p0_12 v1 v7 s0 hr41) u_3_123 u_3_120 u_3_122 u_p_13 u_1_4 ⟨ok_X6_lesserLater, by decide, by decide⟩ rfl (Nat.le_of_ble_eq_true rfl) 0 rfl rfl H hP) [0, 1, 2, 3, 4, 5, 6, 7, 8, 9, 10, 11, 12] (cl_1_f ..) rfl ?_
      refine j_istore (pc' := 46) (lv' := [(8, .int r41), (0, .ref p0_0), (1, .int v1), (4, .ref p0_11), (5, .int v5), (6, .int v6), (7, .int v7)]) K dX6_markOf_44 (by decide) rfl rfl ?_
      refine j_iload (pc' := 48) K dX6_markOf_46 5 rfl rfl ?_
      refine j_aload (pc' := 50) K dX6_markOf_48 3 rfl rfl ?_
      refine j_iload (pc' := 52) K dX6_markOf_50 4 rfl rfl ?_
      refine j_iload_n (pc' := 53) K dX6_markOf_52 rfl 2 rfl rfl ?_
      refine j_iload (pc' := 55) K dX6_markOf_53 6 rfl rfl ?_
      refine j_isub (pc' := 56) K dX6_markOf_55 rfl ?_
      refine j_iload (pc' := 58) K dX6_markOf_56 0 rfl rfl ?_
      refine j_aload_n (pc' := 59) K dX6_markOf_58 rfl 1 rfl rfl ?_
      refine j_get (pc' := 62) K dX6_markOf_59 inX6 0 rfl rfl 0 (by decide) u_1_142 rfl rfl rfl ?_
      refine j_iload (pc' := 64) K dX6_markOf_62 6 rfl rfl ?_
      obtain ⟨r64, hr64, h⟩ := jbd_some h
      refine j_ro (pc' := 67) K (fun H hP => jrun_A (x := ⟨"CountTriangles$Mark", "growth", "(III[II)I"⟩) K dX6_markOf_64 (M_X4_growth (jl E) (jg E) p0_11 p0_12 p0_1 v5 (v1 - v7) r41 v7 (Orders_rise s0) hr64) u_3_70 u_3_56 u_3_58 u_3_69 u_3_68 u_1_10 (by decide) ⟨okx_growth, by decide, by decide⟩ rfl (Nat.le_of_ble_eq_true rfl) 11 rfl rfl H hP) [11, 12] (cl_10_f ..) rfl ?_
      refine j_iadd (pc' := 68) K dX6_markOf_67 rfl ?_
      refine j_istore (pc' := 70) (lv' := [(6, .int (v6 + r64)), (8, .int r41), (0, .ref p0_0), (1, .int v1), (4, .ref p0_11), (5, .int v5), (7, .int v7)]) K dX6_markOf_68 (by decide) rfl rfl ?_
      refine j_aload (pc' := 72) K dX6_markOf_70 4 rfl rfl ?_
      refine j_iload (pc' := 74) K dX6_markOf_72 5 rfl rfl ?_
      refine j_iload_n (pc' := 75) K dX6_markOf_74 rfl 3 rfl rfl ?_
      refine j_iload (pc' := 77) K dX6_markOf_75 6 rfl rfl ?_
      refine j_isub (pc' := 78) K dX6_markOf_77 rfl ?_
      refine j_iload (pc' := 80) K dX6_markOf_78 1 rfl rfl ?_
      obtain ⟨r80, hr80, h⟩ := jbd_some h
      refine j_ro (pc' := 83) K (fun H hP => jrun_A (x := ⟨"CountTriangles$Mark", "next", "(III)I"⟩) K dX6_markOf_80 (M_X4_next (jl E) (jg E) p0_11 v5 (v1 - v7) r41 hr80) u_3_74 u_3_78 u_3_80 u_3_72 u_3_91 u_1_10 (by decide) ⟨okx_next, by decide, by decide⟩ rfl (Nat.le_of_ble_eq_true rfl) 11 rfl rfl H hP) [] rfl rfl ?_
      refine j_istore (pc' := 85) (lv' := [(5, .int r80), (6, .int (v6 + r64)), (8, .int r41), (0, .ref p0_0), (1, .int v1), (4, .ref p0_11), (7, .int v7)]) K dX6_markOf_83 (by decide) rfl rfl ?_
      refine j_iinc (pc' := 88) (j := 6) (v := (v7 + (1 : Int32))) (lv' := [(7, .int (v7 + (1 : Int32))), (5, .int r80), (6, .int (v6 + r64)), (8, .int r41), (0, .ref p0_0), (1, .int v1), (4, .ref p0_11)]) K dX6_markOf_85 rfl rfl (by decide) rfl rfl ?_
      refine j_goto (tgt := 31) K dX6_markOf_88 (by decide) ?_
      refine j_sub [4, 5, 6, 1, 2, 0] rfl ?_
      exact ih v1 r80 (v6 + r64) (v7 + (1 : Int32)) s0 h
set_option maxRecDepth 100000 in
set_option maxHeartbeats 4000000 in
theorem b_X6_markOf {E : jE} (p0_0 p0_1 p0_2 p0_3 p0_4 p0_5 p0_6 p0_7 p0_8 p0_9 p0_10 p0_11 p0_12 : Nat) {res : Int32 × OrdersS} (K : jC E cX6_markOf 9 RX6 3) (hrw : jrw E) (HR : jRI E cX6_markOf 9 (wOrders (jg E) p0_0 p0_1 p0_2 p0_3 p0_4 p0_5 p0_6 p0_7 p0_8 p0_9 p0_10 p0_11 p0_12 (res.2)) (res.1)) : ∀ (v1 : Int32) (v2 : Int32) (v3 : Int32) (s0 : OrdersS), f_X6_markOf v1 v2 v3 s0 = some res → J E 9 (wOrders (jg E) p0_0 p0_1 p0_2 p0_3 p0_4 p0_5 p0_6 p0_7 p0_8 p0_9 p0_10 p0_11 p0_12 s0) 0 [(0, .ref p0_0), (1, .int v1), (2, .int v2), (3, .int v3)] [] := by
  intro v1 v2 v3 s0 h
  unfold f_X6_markOf at h
  refine j_iload_n (pc' := 1) K dX6_markOf_0 rfl 1 rfl rfl ?_
  refine j_iload_n (pc' := 2) K dX6_markOf_1 rfl 2 rfl rfl ?_
  refine j_aload_n (pc' := 3) K dX6_markOf_2 rfl 0 rfl rfl ?_
  refine j_get (pc' := 6) K dX6_markOf_3 inX6 0 rfl rfl 0 (by decide) u_1_142 rfl rfl rfl ?_
  obtain ⟨r6, hr6, h⟩ := jbd_some h
  refine j_rw (pc' := 9) (ws' := (wOrders (jg E) p0_0 p0_1 p0_2 p0_3 p0_4 p0_5 p0_6 p0_7 p0_8 p0_9 p0_10 p0_11 p0_12 (Orders_row_s s0 r6))) K (fun H hP => jrun_S K dX6_markOf_6 (M_X6_unpack (jl E) (jg E) p0_1 v1 v2 (Orders_row s0) hr6) u_3_119 u_3_117 u_3_118 u_1_4 ⟨ok_X6_unpack, by decide, by decide⟩ rfl (Nat.le_of_ble_eq_true rfl) H) hrw [1] rfl (cl_0_s ..) rfl (cl_0_m ..) (ad_Orders ..) rfl ?_
  refine j_aload_n (pc' := 10) K dX6_markOf_9 rfl 0 rfl rfl ?_
  refine j_get (pc' := 13) K dX6_markOf_10 inX6 0 rfl rfl 2 (by decide) u_1_144 rfl rfl rfl ?_
  refine j_iload_n (pc' := 14) K dX6_markOf_13 rfl 3 rfl rfl ?_
  obtain ⟨hg, h⟩ := jgd_some h
  by_cases hc : v3 = 0
  · have h := jit hc h
    refine j_aald (pc' := 15) K dX6_markOf_14 3 5 rfl rfl hg (by rw [hc]; rfl) rfl ?_
    refine j_astore (pc' := 17) (lv' := [(4, .ref p0_4), (0, .ref p0_0), (1, .int v1), (2, .int v2), (3, .int v3)]) K dX6_markOf_15 (by decide) rfl rfl ?_
    refine j_aload (pc' := 19) K dX6_markOf_17 0 rfl rfl ?_
    refine j_iload_n (pc' := 20) K dX6_markOf_19 rfl 2 rfl rfl ?_
    obtain ⟨r20, hr20, h⟩ := jbd_some h
    refine j_ro (pc' := 23) K (fun H hP => jrun_A (x := ⟨"CountTriangles$Mark", "start", "(I)I"⟩) K dX6_markOf_20 (M_X9_start (jl E) (jg E) p0_4 v1 hr20) u_3_13 u_2_236 u_2_238 u_3_12 u_3_11 u_1_6 (by decide) ⟨okx_start, by decide, by decide⟩ rfl (Nat.le_of_ble_eq_true rfl) 4 rfl rfl H hP) [] rfl rfl ?_
    refine j_istore (pc' := 25) (lv' := [(5, .int r20), (4, .ref p0_4), (0, .ref p0_0), (1, .int v1), (2, .int v2), (3, .int v3)]) K dX6_markOf_23 (by decide) rfl rfl ?_
    refine j_iconst (pc' := 26) (v := (0 : Int32)) K dX6_markOf_25 (by decide) rfl ?_
    refine j_istore (pc' := 28) (lv' := [(6, .int (0 : Int32)), (5, .int r20), (4, .ref p0_4), (0, .ref p0_0), (1, .int v1), (2, .int v2), (3, .int v3)]) K dX6_markOf_26 (by decide) rfl rfl ?_
    refine j_iconst (pc' := 29) (v := (0 : Int32)) K dX6_markOf_28 (by decide) rfl ?_
    refine j_istore (pc' := 31) (lv' := [(7, .int (0 : Int32)), (6, .int (0 : Int32)), (5, .int r20), (4, .ref p0_4), (0, .ref p0_0), (1, .int v1), (2, .int v2), (3, .int v3)]) K dX6_markOf_29 (by decide) rfl rfl ?_
    refine j_sub [4, 5, 3, 2, 1, 0] rfl ?_
    exact b_X6_markOf_31 p0_0 p0_1 p0_2 p0_3 p0_4 p0_5 p0_6 p0_7 p0_8 p0_9 p0_10 p0_11 p0_12 K hrw HR jFU v1 r20 (0 : Int32) (0 : Int32) (Orders_row_s s0 r6) h
  have hc0 := hc
  have h := jif hc h
  by_cases hc : v3 = 1
  · have h := jit hc h
    refine j_aald (pc' := 15) K dX6_markOf_14 3 5 rfl rfl hg (by rw [hc]; rfl) rfl ?_
    refine j_astore (pc' := 17) (lv' := [(4, .ref p0_6), (0, .ref p0_0), (1, .int v1), (2, .int v2), (3, .int v3)]) K dX6_markOf_15 (by decide) rfl rfl ?_
    refine j_aload (pc' := 19) K dX6_markOf_17 0 rfl rfl ?_
    refine j_iload_n (pc' := 20) K dX6_markOf_19 rfl 2 rfl rfl ?_
    obtain ⟨r20, hr20, h⟩ := jbd_some h
    refine j_ro (pc' := 23) K (fun H hP => jrun_A (x := ⟨"CountTriangles$Mark", "start", "(I)I"⟩) K dX6_markOf_20 (M_X0_start (jl E) (jg E) p0_6 v1 hr20) u_3_1 u_2_236 u_2_238 u_3_0 u_2_239 u_1_7 (by decide) ⟨okx_start, by decide, by decide⟩ rfl (Nat.le_of_ble_eq_true rfl) 6 rfl rfl H hP) [] rfl rfl ?_
    refine j_istore (pc' := 25) (lv' := [(5, .int r20), (4, .ref p0_6), (0, .ref p0_0), (1, .int v1), (2, .int v2), (3, .int v3)]) K dX6_markOf_23 (by decide) rfl rfl ?_
    refine j_iconst (pc' := 26) (v := (0 : Int32)) K dX6_markOf_25 (by decide) rfl ?_
    refine j_istore (pc' := 28) (lv' := [(6, .int (0 : Int32)), (5, .int r20), (4, .ref p0_6), (0, .ref p0_0), (1, .int v1), (2, .int v2), (3, .int v3)]) K dX6_markOf_26 (by decide) rfl rfl ?_
    refine j_iconst (pc' := 29) (v := (0 : Int32)) K dX6_markOf_28 (by decide) rfl ?_
    refine j_istore (pc' := 31) (lv' := [(7, .int (0 : Int32)), (6, .int (0 : Int32)), (5, .int r20), (4, .ref p0_6), (0, .ref p0_0), (1, .int v1), (2, .int v2), (3, .int v3)]) K dX6_markOf_29 (by decide) rfl rfl ?_
    refine j_sub [4, 5, 3, 2, 1, 0] rfl ?_
    exact b_X6_markOf_31a p0_0 p0_1 p0_2 p0_3 p0_4 p0_5 p0_6 p0_7 p0_8 p0_9 p0_10 p0_11 p0_12 K hrw HR jFU v1 r20 (0 : Int32) (0 : Int32) (Orders_row_s s0 r6) h
  have hc1 := hc
  have h := jif hc h
  by_cases hc : v3 = 2
  · have h := jit hc h
    refine j_aald (pc' := 15) K dX6_markOf_14 3 5 rfl rfl hg (by rw [hc]; rfl) rfl ?_
    refine j_astore (pc' := 17) (lv' := [(4, .ref p0_8), (0, .ref p0_0), (1, .int v1), (2, .int v2), (3, .int v3)]) K dX6_markOf_15 (by decide) rfl rfl ?_
    refine j_aload (pc' := 19) K dX6_markOf_17 0 rfl rfl ?_
    refine j_iload_n (pc' := 20) K dX6_markOf_19 rfl 2 rfl rfl ?_
    obtain ⟨r20, hr20, h⟩ := jbd_some h
    refine j_ro (pc' := 23) K (fun H hP => jrun_A (x := ⟨"CountTriangles$Mark", "start", "(I)I"⟩) K dX6_markOf_20 (M_X3_start (jl E) (jg E) p0_8 v1 hr20) u_3_7 u_2_236 u_2_238 u_3_6 u_3_5 u_1_8 (by decide) ⟨okx_start, by decide, by decide⟩ rfl (Nat.le_of_ble_eq_true rfl) 8 rfl rfl H hP) [] rfl rfl ?_
    refine j_istore (pc' := 25) (lv' := [(5, .int r20), (4, .ref p0_8), (0, .ref p0_0), (1, .int v1), (2, .int v2), (3, .int v3)]) K dX6_markOf_23 (by decide) rfl rfl ?_
    refine j_iconst (pc' := 26) (v := (0 : Int32)) K dX6_markOf_25 (by decide) rfl ?_
    refine j_istore (pc' := 28) (lv' := [(6, .int (0 : Int32)), (5, .int r20), (4, .ref p0_8), (0, .ref p0_0), (1, .int v1), (2, .int v2), (3, .int v3)]) K dX6_markOf_26 (by decide) rfl rfl ?_
    refine j_iconst (pc' := 29) (v := (0 : Int32)) K dX6_markOf_28 (by decide) rfl ?_
    refine j_istore (pc' := 31) (lv' := [(7, .int (0 : Int32)), (6, .int (0 : Int32)), (5, .int r20), (4, .ref p0_8), (0, .ref p0_0), (1, .int v1), (2, .int v2), (3, .int v3)]) K dX6_markOf_29 (by decide) rfl rfl ?_
    refine j_sub [4, 5, 3, 2, 1, 0] rfl ?_
    exact b_X6_markOf_31b p0_0 p0_1 p0_2 p0_3 p0_4 p0_5 p0_6 p0_7 p0_8 p0_9 p0_10 p0_11 p0_12 K hrw HR jFU v1 r20 (0 : Int32) (0 : Int32) (Orders_row_s s0 r6) h
  have hc2 := hc
  have h := jif hc h
  by_cases hc : v3 = 3
  · have h := jit hc h
    refine j_aald (pc' := 15) K dX6_markOf_14 3 5 rfl rfl hg (by rw [hc]; rfl) rfl ?_
    refine j_astore (pc' := 17) (lv' := [(4, .ref p0_10), (0, .ref p0_0), (1, .int v1), (2, .int v2), (3, .int v3)]) K dX6_markOf_15 (by decide) rfl rfl ?_
    refine j_aload (pc' := 19) K dX6_markOf_17 0 rfl rfl ?_
    refine j_iload_n (pc' := 20) K dX6_markOf_19 rfl 2 rfl rfl ?_
    obtain ⟨r20, hr20, h⟩ := jbd_some h
    refine j_ro (pc' := 23) K (fun H hP => jrun_A (x := ⟨"CountTriangles$Mark", "start", "(I)I"⟩) K dX6_markOf_20 (M_X1_start (jl E) (jg E) p0_10 v1 hr20) u_3_4 u_2_236 u_2_238 u_3_3 u_3_2 u_1_9 (by decide) ⟨okx_start, by decide, by decide⟩ rfl (Nat.le_of_ble_eq_true rfl) 10 rfl rfl H hP) [] rfl rfl ?_
    refine j_istore (pc' := 25) (lv' := [(5, .int r20), (4, .ref p0_10), (0, .ref p0_0), (1, .int v1), (2, .int v2), (3, .int v3)]) K dX6_markOf_23 (by decide) rfl rfl ?_
    refine j_iconst (pc' := 26) (v := (0 : Int32)) K dX6_markOf_25 (by decide) rfl ?_
    refine j_istore (pc' := 28) (lv' := [(6, .int (0 : Int32)), (5, .int r20), (4, .ref p0_10), (0, .ref p0_0), (1, .int v1), (2, .int v2), (3, .int v3)]) K dX6_markOf_26 (by decide) rfl rfl ?_
    refine j_iconst (pc' := 29) (v := (0 : Int32)) K dX6_markOf_28 (by decide) rfl ?_
    refine j_istore (pc' := 31) (lv' := [(7, .int (0 : Int32)), (6, .int (0 : Int32)), (5, .int r20), (4, .ref p0_10), (0, .ref p0_0), (1, .int v1), (2, .int v2), (3, .int v3)]) K dX6_markOf_29 (by decide) rfl rfl ?_
    refine j_sub [4, 5, 3, 2, 1, 0] rfl ?_
    exact b_X6_markOf_31c p0_0 p0_1 p0_2 p0_3 p0_4 p0_5 p0_6 p0_7 p0_8 p0_9 p0_10 p0_11 p0_12 K hrw HR jFU v1 r20 (0 : Int32) (0 : Int32) (Orders_row_s s0 r6) h
  have hc3 := hc
  have h := jif hc h
  have hc : v3 = 4 := jin5 hg hc0 hc1 hc2 hc3
  refine j_aald (pc' := 15) K dX6_markOf_14 3 5 rfl rfl hg (by rw [hc]; rfl) rfl ?_
  refine j_astore (pc' := 17) (lv' := [(4, .ref p0_11), (0, .ref p0_0), (1, .int v1), (2, .int v2), (3, .int v3)]) K dX6_markOf_15 (by decide) rfl rfl ?_
  refine j_aload (pc' := 19) K dX6_markOf_17 0 rfl rfl ?_
  refine j_iload_n (pc' := 20) K dX6_markOf_19 rfl 2 rfl rfl ?_
  obtain ⟨r20, hr20, h⟩ := jbd_some h
  refine j_ro (pc' := 23) K (fun H hP => jrun_A (x := ⟨"CountTriangles$Mark", "start", "(I)I"⟩) K dX6_markOf_20 (M_X4_start (jl E) (jg E) p0_11 v1 hr20) u_3_10 u_2_236 u_2_238 u_3_9 u_3_8 u_1_10 (by decide) ⟨okx_start, by decide, by decide⟩ rfl (Nat.le_of_ble_eq_true rfl) 11 rfl rfl H hP) [] rfl rfl ?_
  refine j_istore (pc' := 25) (lv' := [(5, .int r20), (4, .ref p0_11), (0, .ref p0_0), (1, .int v1), (2, .int v2), (3, .int v3)]) K dX6_markOf_23 (by decide) rfl rfl ?_
  refine j_iconst (pc' := 26) (v := (0 : Int32)) K dX6_markOf_25 (by decide) rfl ?_
  refine j_istore (pc' := 28) (lv' := [(6, .int (0 : Int32)), (5, .int r20), (4, .ref p0_11), (0, .ref p0_0), (1, .int v1), (2, .int v2), (3, .int v3)]) K dX6_markOf_26 (by decide) rfl rfl ?_
  refine j_iconst (pc' := 29) (v := (0 : Int32)) K dX6_markOf_28 (by decide) rfl ?_
  refine j_istore (pc' := 31) (lv' := [(7, .int (0 : Int32)), (6, .int (0 : Int32)), (5, .int r20), (4, .ref p0_11), (0, .ref p0_0), (1, .int v1), (2, .int v2), (3, .int v3)]) K dX6_markOf_29 (by decide) rfl rfl ?_
  refine j_sub [4, 5, 3, 2, 1, 0] rfl ?_
  exact b_X6_markOf_31d p0_0 p0_1 p0_2 p0_3 p0_4 p0_5 p0_6 p0_7 p0_8 p0_9 p0_10 p0_11 p0_12 K hrw HR jFU v1 r20 (0 : Int32) (0 : Int32) (Orders_row_s s0 r6) h
set_option maxRecDepth 100000 in
set_option maxHeartbeats 4000000 in
theorem M_X6_markOf (l : Launch) (G : jG) (p0_0 p0_1 p0_2 p0_3 p0_4 p0_5 p0_6 p0_7 p0_8 p0_9 p0_10 p0_11 p0_12 : Nat) (v1 : Int32) (v2 : Int32) (v3 : Int32) (s0 : OrdersS) {r : Int32 × OrdersS} (h : f_X6_markOf v1 v2 v3 s0 = some r) : MC l yX6_markOf cX6_markOf 9 (some .int) 3 G (jad (wOrders G p0_0 p0_1 p0_2 p0_3 p0_4 p0_5 p0_6 p0_7 p0_8 p0_9 p0_10 p0_11 p0_12 s0)) True (wOrders G p0_0 p0_1 p0_2 p0_3 p0_4 p0_5 p0_6 p0_7 p0_8 p0_9 p0_10 p0_11 p0_12 s0) (wOrders G p0_0 p0_1 p0_2 p0_3 p0_4 p0_5 p0_6 p0_7 p0_8 p0_9 p0_10 p0_11 p0_12 (r.2)) [.ref p0_0, .int v1, .int v2, .int v3] (some (.int (r.1))) := by
  refine mc_int (by decide +kernel) (Nat.le_of_ble_eq_true rfl) fun E hl hg hA hrw K HR => ?_
  subst hl
  subst hg
  have hrw : jrw E := by rw [hrw]; trivial
  exact b_X6_markOf p0_0 p0_1 p0_2 p0_3 p0_4 p0_5 p0_6 p0_7 p0_8 p0_9 p0_10 p0_11 p0_12 K hrw HR v1 v2 v3 s0 h
theorem ok_X6_ith : yX6_ith.cls ≠ "java/lang/invoke/MethodHandle" ∧ yX6_ith.cls ≠ "java/lang/invoke/VarHandle" ∧ (parseMethodDescriptor yX6_ith.desc).map (fun d => d.parameters.length) = some 4 := ⟨by decide, by decide, by decide +kernel⟩
def f_X6_ith_182 (v1 : Int32) (s0 : OrdersS) : Option (Int32 × OrdersS) :=
   jbd (f_X6_packed v1 s0) (fun r184 =>
   some (r184, s0))
def f_X6_ith_160 (k33 : Int32 → Int32 → Int32 → Int32 → Int32 → Int32 → OrdersS → Option (Int32 × OrdersS)) (v1 : Int32) (v6 : Int32) (v7 : Int32) (v8 : Int32) (v9 : Int32) (v10 : Int32) (s0 : OrdersS) : Option (Int32 × OrdersS) :=
   jgd v10 8 (
   k33 v1 v6 v7 v8 (v9 &&& (((1 : Int32) <<< (((Orders_row s0) (Int32.toNatClampNeg v10)) &&& 31)) ^^^ (-1 : Int32))) (v10 + (1 : Int32)) s0)
def f_X6_ith_133 (k33 : Int32 → Int32 → Int32 → Int32 → Int32 → Int32 → OrdersS → Option (Int32 × OrdersS)) (v1 : Int32) (v7 : Int32) (v8 : Int32) (v9 : Int32) (v10 : Int32) (v13 : Int32) (v14 : Int32) (s0 : OrdersS) : Option (Int32 × OrdersS) :=
   f_X6_ith_160 k33 v1 v14 (v7 - v13) v8 v9 v10 s0
def f_X6_ith_55 (k33 : Int32 → Int32 → Int32 → Int32 → Int32 → Int32 → OrdersS → Option (Int32 × OrdersS)) : Nat → Int32 → Int32 → Int32 → Int32 → Int32 → Int32 → Int32 → Int32 → OrdersS → Option (Int32 × OrdersS)
  | 0, _, _, _, _, _, _, _, _, _ => none
  | n + 1, v1, v6, v7, v8, v9, v10, v11, v12, s0 =>
   if v11 ≤ v12 then
   f_X6_ith_160 k33 v1 v6 v7 v8 v9 v10 s0
  else
   jbd (f_X6_unusedDigit v9 v12) (fun r72 =>
    jgd v10 8 (
     jbd (f_X9_growth v6 v11 v12 v10 (Orders_row (Orders_row_s s0 (upd (Orders_row s0) (Int32.toNatClampNeg v10) r72)))) (fun r90 =>
      jbd (f_X9_next v6 v11 v12) (fun r103 =>
       jbd (f_X9_ways r103 (v11 - (1 : Int32)) (v7 - r90) (Orders_rings (Orders_row_s s0 (upd (Orders_row s0) (Int32.toNatClampNeg v10) r72)))) (fun r121 =>
        if r121 ≤ v8 then
         (f_X6_ith_55 k33 n) v1 v6 v7 (v8 - r121) v9 v10 v11 (v12 + (1 : Int32)) (Orders_row_s s0 (upd (Orders_row s0) (Int32.toNatClampNeg v10) r72))
        else
         f_X6_ith_133 k33 v1 v7 v8 v9 v10 r90 r103 (Orders_row_s s0 (upd (Orders_row s0) (Int32.toNatClampNeg v10) r72)))))))
def f_X6_ith_33 : Nat → Int32 → Int32 → Int32 → Int32 → Int32 → Int32 → OrdersS → Option (Int32 × OrdersS)
  | 0, _, _, _, _, _, _, _ => none
  | n + 1, v1, v6, v7, v8, v9, v10, s0 =>
   if v1 ≤ v10 then
   f_X6_ith_182 v1 s0
  else
   if (8 : Int32) ≤ v10 then
    f_X6_ith_182 v1 s0
   else
    f_X6_ith_55 (f_X6_ith_33 n) jFU v1 v6 v7 v8 v9 v10 (v1 - v10) (0 : Int32) s0
def f_X6_ith_160a (k33 : Int32 → Int32 → Int32 → Int32 → Int32 → Int32 → OrdersS → Option (Int32 × OrdersS)) (v1 : Int32) (v6 : Int32) (v7 : Int32) (v8 : Int32) (v9 : Int32) (v10 : Int32) (s0 : OrdersS) : Option (Int32 × OrdersS) :=
   jgd v10 8 (
   k33 v1 v6 v7 v8 (v9 &&& (((1 : Int32) <<< (((Orders_row s0) (Int32.toNatClampNeg v10)) &&& 31)) ^^^ (-1 : Int32))) (v10 + (1 : Int32)) s0)
def f_X6_ith_133a (k33 : Int32 → Int32 → Int32 → Int32 → Int32 → Int32 → OrdersS → Option (Int32 × OrdersS)) (v1 : Int32) (v7 : Int32) (v8 : Int32) (v9 : Int32) (v10 : Int32) (v13 : Int32) (v14 : Int32) (s0 : OrdersS) : Option (Int32 × OrdersS) :=
   f_X6_ith_160a k33 v1 v14 (v7 - v13) v8 v9 v10 s0
def f_X6_ith_55a (k33 : Int32 → Int32 → Int32 → Int32 → Int32 → Int32 → OrdersS → Option (Int32 × OrdersS)) : Nat → Int32 → Int32 → Int32 → Int32 → Int32 → Int32 → Int32 → Int32 → OrdersS → Option (Int32 × OrdersS)
  | 0, _, _, _, _, _, _, _, _, _ => none
  | n + 1, v1, v6, v7, v8, v9, v10, v11, v12, s0 =>
   if v11 ≤ v12 then
   f_X6_ith_160a k33 v1 v6 v7 v8 v9 v10 s0
  else
   jbd (f_X6_unusedDigit v9 v12) (fun r72 =>
    jgd v10 8 (
     jbd (f_X0_growth v6 v11 v12 v10) (fun r90 =>
      jbd (f_X0_next v6 v11 v12) (fun r103 =>
       jbd (f_X0_ways r103 (v11 - (1 : Int32)) (v7 - r90) (Orders_falls (Orders_row_s s0 (upd (Orders_row s0) (Int32.toNatClampNeg v10) r72)))) (fun r121 =>
        if r121 ≤ v8 then
         (f_X6_ith_55a k33 n) v1 v6 v7 (v8 - r121) v9 v10 v11 (v12 + (1 : Int32)) (Orders_row_s s0 (upd (Orders_row s0) (Int32.toNatClampNeg v10) r72))
        else
         f_X6_ith_133a k33 v1 v7 v8 v9 v10 r90 r103 (Orders_row_s s0 (upd (Orders_row s0) (Int32.toNatClampNeg v10) r72)))))))
def f_X6_ith_33a : Nat → Int32 → Int32 → Int32 → Int32 → Int32 → Int32 → OrdersS → Option (Int32 × OrdersS)
  | 0, _, _, _, _, _, _, _ => none
  | n + 1, v1, v6, v7, v8, v9, v10, s0 =>
   if v1 ≤ v10 then
   f_X6_ith_182 v1 s0
  else
   if (8 : Int32) ≤ v10 then
    f_X6_ith_182 v1 s0
   else
    f_X6_ith_55a (f_X6_ith_33a n) jFU v1 v6 v7 v8 v9 v10 (v1 - v10) (0 : Int32) s0
def f_X6_ith_160b (k33 : Int32 → Int32 → Int32 → Int32 → Int32 → Int32 → OrdersS → Option (Int32 × OrdersS)) (v1 : Int32) (v6 : Int32) (v7 : Int32) (v8 : Int32) (v9 : Int32) (v10 : Int32) (s0 : OrdersS) : Option (Int32 × OrdersS) :=
   jgd v10 8 (
   k33 v1 v6 v7 v8 (v9 &&& (((1 : Int32) <<< (((Orders_row s0) (Int32.toNatClampNeg v10)) &&& 31)) ^^^ (-1 : Int32))) (v10 + (1 : Int32)) s0)
def f_X6_ith_133b (k33 : Int32 → Int32 → Int32 → Int32 → Int32 → Int32 → OrdersS → Option (Int32 × OrdersS)) (v1 : Int32) (v7 : Int32) (v8 : Int32) (v9 : Int32) (v10 : Int32) (v13 : Int32) (v14 : Int32) (s0 : OrdersS) : Option (Int32 × OrdersS) :=
   f_X6_ith_160b k33 v1 v14 (v7 - v13) v8 v9 v10 s0
def f_X6_ith_55b (k33 : Int32 → Int32 → Int32 → Int32 → Int32 → Int32 → OrdersS → Option (Int32 × OrdersS)) : Nat → Int32 → Int32 → Int32 → Int32 → Int32 → Int32 → Int32 → Int32 → OrdersS → Option (Int32 × OrdersS)
  | 0, _, _, _, _, _, _, _, _, _ => none
  | n + 1, v1, v6, v7, v8, v9, v10, v11, v12, s0 =>
   if v11 ≤ v12 then
   f_X6_ith_160b k33 v1 v6 v7 v8 v9 v10 s0
  else
   jbd (f_X6_unusedDigit v9 v12) (fun r72 =>
    jgd v10 8 (
     jbd (f_X3_growth v6 v11 v12 v10) (fun r90 =>
      jbd (f_X3_next v6 v11 v12) (fun r103 =>
       jbd (f_X3_ways r103 (v11 - (1 : Int32)) (v7 - r90) (Orders_pairs (Orders_row_s s0 (upd (Orders_row s0) (Int32.toNatClampNeg v10) r72)))) (fun r121 =>
        if r121 ≤ v8 then
         (f_X6_ith_55b k33 n) v1 v6 v7 (v8 - r121) v9 v10 v11 (v12 + (1 : Int32)) (Orders_row_s s0 (upd (Orders_row s0) (Int32.toNatClampNeg v10) r72))
        else
         f_X6_ith_133b k33 v1 v7 v8 v9 v10 r90 r103 (Orders_row_s s0 (upd (Orders_row s0) (Int32.toNatClampNeg v10) r72)))))))
def f_X6_ith_33b : Nat → Int32 → Int32 → Int32 → Int32 → Int32 → Int32 → OrdersS → Option (Int32 × OrdersS)
  | 0, _, _, _, _, _, _, _ => none
  | n + 1, v1, v6, v7, v8, v9, v10, s0 =>
   if v1 ≤ v10 then
   f_X6_ith_182 v1 s0
  else
   if (8 : Int32) ≤ v10 then
    f_X6_ith_182 v1 s0
   else
    f_X6_ith_55b (f_X6_ith_33b n) jFU v1 v6 v7 v8 v9 v10 (v1 - v10) (0 : Int32) s0
def f_X6_ith_160c (k33 : Int32 → Int32 → Int32 → Int32 → Int32 → Int32 → OrdersS → Option (Int32 × OrdersS)) (v1 : Int32) (v6 : Int32) (v7 : Int32) (v8 : Int32) (v9 : Int32) (v10 : Int32) (s0 : OrdersS) : Option (Int32 × OrdersS) :=
   jgd v10 8 (
   k33 v1 v6 v7 v8 (v9 &&& (((1 : Int32) <<< (((Orders_row s0) (Int32.toNatClampNeg v10)) &&& 31)) ^^^ (-1 : Int32))) (v10 + (1 : Int32)) s0)
def f_X6_ith_133c (k33 : Int32 → Int32 → Int32 → Int32 → Int32 → Int32 → OrdersS → Option (Int32 × OrdersS)) (v1 : Int32) (v7 : Int32) (v8 : Int32) (v9 : Int32) (v10 : Int32) (v13 : Int32) (v14 : Int32) (s0 : OrdersS) : Option (Int32 × OrdersS) :=
   f_X6_ith_160c k33 v1 v14 (v7 - v13) v8 v9 v10 s0
def f_X6_ith_55c (k33 : Int32 → Int32 → Int32 → Int32 → Int32 → Int32 → OrdersS → Option (Int32 × OrdersS)) : Nat → Int32 → Int32 → Int32 → Int32 → Int32 → Int32 → Int32 → Int32 → OrdersS → Option (Int32 × OrdersS)
  | 0, _, _, _, _, _, _, _, _, _ => none
  | n + 1, v1, v6, v7, v8, v9, v10, v11, v12, s0 =>
   if v11 ≤ v12 then
   f_X6_ith_160c k33 v1 v6 v7 v8 v9 v10 s0
  else
   jbd (f_X6_unusedDigit v9 v12) (fun r72 =>
    jgd v10 8 (
     jbd (f_X1_growth v6 v11 v12 v10) (fun r90 =>
      jbd (f_X1_next v6 v11 v12) (fun r103 =>
       jbd (f_X1_ways r103 (v11 - (1 : Int32)) (v7 - r90) (Orders_rings (Orders_row_s s0 (upd (Orders_row s0) (Int32.toNatClampNeg v10) r72)))) (fun r121 =>
        if r121 ≤ v8 then
         (f_X6_ith_55c k33 n) v1 v6 v7 (v8 - r121) v9 v10 v11 (v12 + (1 : Int32)) (Orders_row_s s0 (upd (Orders_row s0) (Int32.toNatClampNeg v10) r72))
        else
         f_X6_ith_133c k33 v1 v7 v8 v9 v10 r90 r103 (Orders_row_s s0 (upd (Orders_row s0) (Int32.toNatClampNeg v10) r72)))))))
def f_X6_ith_33c : Nat → Int32 → Int32 → Int32 → Int32 → Int32 → Int32 → OrdersS → Option (Int32 × OrdersS)
  | 0, _, _, _, _, _, _, _ => none
  | n + 1, v1, v6, v7, v8, v9, v10, s0 =>
   if v1 ≤ v10 then
   f_X6_ith_182 v1 s0
  else
   if (8 : Int32) ≤ v10 then
    f_X6_ith_182 v1 s0
   else
    f_X6_ith_55c (f_X6_ith_33c n) jFU v1 v6 v7 v8 v9 v10 (v1 - v10) (0 : Int32) s0
def f_X6_ith_160d (k33 : Int32 → Int32 → Int32 → Int32 → Int32 → Int32 → OrdersS → Option (Int32 × OrdersS)) (v1 : Int32) (v6 : Int32) (v7 : Int32) (v8 : Int32) (v9 : Int32) (v10 : Int32) (s0 : OrdersS) : Option (Int32 × OrdersS) :=
   jgd v10 8 (
   k33 v1 v6 v7 v8 (v9 &&& (((1 : Int32) <<< (((Orders_row s0) (Int32.toNatClampNeg v10)) &&& 31)) ^^^ (-1 : Int32))) (v10 + (1 : Int32)) s0)
def f_X6_ith_133d (k33 : Int32 → Int32 → Int32 → Int32 → Int32 → Int32 → OrdersS → Option (Int32 × OrdersS)) (v1 : Int32) (v7 : Int32) (v8 : Int32) (v9 : Int32) (v10 : Int32) (v13 : Int32) (v14 : Int32) (s0 : OrdersS) : Option (Int32 × OrdersS) :=
   f_X6_ith_160d k33 v1 v14 (v7 - v13) v8 v9 v10 s0
def f_X6_ith_55d (k33 : Int32 → Int32 → Int32 → Int32 → Int32 → Int32 → OrdersS → Option (Int32 × OrdersS)) : Nat → Int32 → Int32 → Int32 → Int32 → Int32 → Int32 → Int32 → Int32 → OrdersS → Option (Int32 × OrdersS)
  | 0, _, _, _, _, _, _, _, _, _ => none
  | n + 1, v1, v6, v7, v8, v9, v10, v11, v12, s0 =>
   if v11 ≤ v12 then
   f_X6_ith_160d k33 v1 v6 v7 v8 v9 v10 s0
  else
   jbd (f_X6_unusedDigit v9 v12) (fun r72 =>
    jgd v10 8 (
     jbd (f_X4_growth v6 v11 v12 v10 (Orders_rise (Orders_row_s s0 (upd (Orders_row s0) (Int32.toNatClampNeg v10) r72)))) (fun r90 =>
      jbd (f_X4_next v6 v11 v12) (fun r103 =>
       jbd (f_X4_ways r103 (v11 - (1 : Int32)) (v7 - r90) (Orders_rise (Orders_row_s s0 (upd (Orders_row s0) (Int32.toNatClampNeg v10) r72)))) (fun r121 =>
        if (r121.1) ≤ v8 then
         (f_X6_ith_55d k33 n) v1 v6 v7 (v8 - (r121.1)) v9 v10 v11 (v12 + (1 : Int32)) (Orders_rise_s (Orders_row_s s0 (upd (Orders_row s0) (Int32.toNatClampNeg v10) r72)) (r121.2))
        else
         f_X6_ith_133d k33 v1 v7 v8 v9 v10 r90 r103 (Orders_rise_s (Orders_row_s s0 (upd (Orders_row s0) (Int32.toNatClampNeg v10) r72)) (r121.2)))))))
def f_X6_ith_33d : Nat → Int32 → Int32 → Int32 → Int32 → Int32 → Int32 → OrdersS → Option (Int32 × OrdersS)
  | 0, _, _, _, _, _, _, _ => none
  | n + 1, v1, v6, v7, v8, v9, v10, s0 =>
   if v1 ≤ v10 then
   f_X6_ith_182 v1 s0
  else
   if (8 : Int32) ≤ v10 then
    f_X6_ith_182 v1 s0
   else
    f_X6_ith_55d (f_X6_ith_33d n) jFU v1 v6 v7 v8 v9 v10 (v1 - v10) (0 : Int32) s0
def f_X6_ith (v1 : Int32) (v2 : Int32) (v3 : Int32) (v4 : Int32) (s0 : OrdersS) : Option (Int32 × OrdersS) :=
   jgd v2 5 (
   if v2 = 0 then (
    jbd (f_X9_start v1) (fun r11 =>
     f_X6_ith_33 jFU v1 r11 v3 v4 (((1 : Int32) <<< (v1 &&& 31)) - (1 : Int32)) (0 : Int32) s0)) else if v2 = 1 then (
    jbd (f_X0_start v1) (fun r11 =>
     f_X6_ith_33a jFU v1 r11 v3 v4 (((1 : Int32) <<< (v1 &&& 31)) - (1 : Int32)) (0 : Int32) s0)) else if v2 = 2 then (
    jbd (f_X3_start v1) (fun r11 =>
     f_X6_ith_33b jFU v1 r11 v3 v4 (((1 : Int32) <<< (v1 &&& 31)) - (1 : Int32)) (0 : Int32) s0)) else if v2 = 3 then (
    jbd (f_X1_start v1) (fun r11 =>
     f_X6_ith_33c jFU v1 r11 v3 v4 (((1 : Int32) <<< (v1 &&& 31)) - (1 : Int32)) (0 : Int32) s0)) else (
    jbd (f_X4_start v1) (fun r11 =>
     f_X6_ith_33d jFU v1 r11 v3 v4 (((1 : Int32) <<< (v1 &&& 31)) - (1 : Int32)) (0 : Int32) s0)))
set_option maxRecDepth 100000 in
set_option maxHeartbeats 4000000 in
theorem b_X6_ith_182 {E : jE} (p0_0 p0_1 p0_2 p0_3 p0_4 p0_5 p0_6 p0_7 p0_8 p0_9 p0_10 p0_11 p0_12 : Nat) {res : Int32 × OrdersS} (K : jC E cX6_ith 16 RX6 4) (hrw : jrw E) (HR : jRI E cX6_ith 16 (wOrders (jg E) p0_0 p0_1 p0_2 p0_3 p0_4 p0_5 p0_6 p0_7 p0_8 p0_9 p0_10 p0_11 p0_12 (res.2)) (res.1)) : ∀ (v1 : Int32) (s0 : OrdersS), f_X6_ith_182 v1 s0 = some res → J E 16 (wOrders (jg E) p0_0 p0_1 p0_2 p0_3 p0_4 p0_5 p0_6 p0_7 p0_8 p0_9 p0_10 p0_11 p0_12 s0) 182 [(0, .ref p0_0), (1, .int v1)] [] := by
  intro v1 s0 h
  unfold f_X6_ith_182 at h
  refine j_aload_n (pc' := 183) K dX6_ith_182 rfl 0 rfl rfl ?_
  refine j_iload_n (pc' := 184) K dX6_ith_183 rfl 1 rfl rfl ?_
  obtain ⟨r184, hr184, h⟩ := jbd_some h
  refine j_ro (pc' := 187) K (fun H hP => jrun_V K dX6_ith_184 (M_X6_packed (jl E) (jg E) p0_0 p0_1 p0_2 p0_3 p0_4 p0_5 p0_6 p0_7 p0_8 p0_9 p0_10 p0_11 p0_12 v1 s0 hr184) u_3_98 u_3_95 u_3_97 u_p_11 u_1_4 ⟨ok_X6_packed, by decide, by decide⟩ rfl (Nat.le_of_ble_eq_true rfl) 0 rfl rfl H hP) [0, 1, 2, 3, 4, 5, 6, 7, 8, 9, 10, 11, 12] (cl_1_f ..) rfl ?_
  obtain rfl := Option.some.inj h
  exact HR _ _ dX6_ith_187
set_option maxRecDepth 100000 in
set_option maxHeartbeats 4000000 in
theorem b_X6_ith_160 {E : jE} (p0_0 p0_1 p0_2 p0_3 p0_4 p0_5 p0_6 p0_7 p0_8 p0_9 p0_10 p0_11 p0_12 : Nat) {res : Int32 × OrdersS} (K : jC E cX6_ith 16 RX6 4) (hrw : jrw E) (HR : jRI E cX6_ith 16 (wOrders (jg E) p0_0 p0_1 p0_2 p0_3 p0_4 p0_5 p0_6 p0_7 p0_8 p0_9 p0_10 p0_11 p0_12 (res.2)) (res.1)) (k33 : Int32 → Int32 → Int32 → Int32 → Int32 → Int32 → OrdersS → Option (Int32 × OrdersS)) (hk33 : ∀ (v1 : Int32) (v6 : Int32) (v7 : Int32) (v8 : Int32) (v9 : Int32) (v10 : Int32) (s0 : OrdersS), k33 v1 v6 v7 v8 v9 v10 s0 = some res → J E 16 (wOrders (jg E) p0_0 p0_1 p0_2 p0_3 p0_4 p0_5 p0_6 p0_7 p0_8 p0_9 p0_10 p0_11 p0_12 s0) 33 [(0, .ref p0_0), (1, .int v1), (5, .ref p0_4), (6, .int v6), (7, .int v7), (8, .int v8), (9, .int v9), (10, .int v10)] []) : ∀ (v1 : Int32) (v6 : Int32) (v7 : Int32) (v8 : Int32) (v9 : Int32) (v10 : Int32) (s0 : OrdersS), f_X6_ith_160 k33 v1 v6 v7 v8 v9 v10 s0 = some res → J E 16 (wOrders (jg E) p0_0 p0_1 p0_2 p0_3 p0_4 p0_5 p0_6 p0_7 p0_8 p0_9 p0_10 p0_11 p0_12 s0) 160 [(0, .ref p0_0), (1, .int v1), (5, .ref p0_4), (6, .int v6), (7, .int v7), (8, .int v8), (9, .int v9), (10, .int v10)] [] := by
  intro v1 v6 v7 v8 v9 v10 s0 h
  unfold f_X6_ith_160 at h
  refine j_iload (pc' := 162) K dX6_ith_160 6 rfl rfl ?_
  refine j_iconst (pc' := 163) (v := (1 : Int32)) K dX6_ith_162 (by decide) rfl ?_
  refine j_aload_n (pc' := 164) K dX6_ith_163 rfl 0 rfl rfl ?_
  refine j_get (pc' := 167) K dX6_ith_164 inX6 0 rfl rfl 0 (by decide) u_1_142 rfl rfl rfl ?_
  refine j_iload (pc' := 169) K dX6_ith_167 7 rfl rfl ?_
  obtain ⟨hg, h⟩ := jgd_some h
  refine j_iald (pc' := 170) K dX6_ith_169 1 rfl hg rfl ?_
  refine j_ishl (pc' := 171) K dX6_ith_170 rfl ?_
  refine j_iconst (pc' := 172) (v := (-1 : Int32)) K dX6_ith_171 (by decide) rfl ?_
  refine j_ixor (pc' := 173) K dX6_ith_172 rfl ?_
  refine j_iand (pc' := 174) K dX6_ith_173 rfl ?_
  refine j_istore (pc' := 176) (lv' := [(9, .int (v9 &&& (((1 : Int32) <<< (((Orders_row s0) (Int32.toNatClampNeg v10)) &&& 31)) ^^^ (-1 : Int32)))), (0, .ref p0_0), (1, .int v1), (5, .ref p0_4), (6, .int v6), (7, .int v7), (8, .int v8), (10, .int v10)]) K dX6_ith_174 (by decide) rfl rfl ?_
  refine j_iinc (pc' := 179) (j := 7) (v := (v10 + (1 : Int32))) (lv' := [(10, .int (v10 + (1 : Int32))), (9, .int (v9 &&& (((1 : Int32) <<< (((Orders_row s0) (Int32.toNatClampNeg v10)) &&& 31)) ^^^ (-1 : Int32)))), (0, .ref p0_0), (1, .int v1), (5, .ref p0_4), (6, .int v6), (7, .int v7), (8, .int v8)]) K dX6_ith_176 rfl rfl (by decide) rfl rfl ?_
  refine j_goto (tgt := 33) K dX6_ith_179 (by decide) ?_
  refine j_sub [2, 3, 4, 5, 6, 7, 1, 0] rfl ?_
  exact hk33 v1 v6 v7 v8 (v9 &&& (((1 : Int32) <<< (((Orders_row s0) (Int32.toNatClampNeg v10)) &&& 31)) ^^^ (-1 : Int32))) (v10 + (1 : Int32)) s0 h
set_option maxRecDepth 100000 in
set_option maxHeartbeats 4000000 in
theorem b_X6_ith_133 {E : jE} (p0_0 p0_1 p0_2 p0_3 p0_4 p0_5 p0_6 p0_7 p0_8 p0_9 p0_10 p0_11 p0_12 : Nat) {res : Int32 × OrdersS} (K : jC E cX6_ith 16 RX6 4) (hrw : jrw E) (HR : jRI E cX6_ith 16 (wOrders (jg E) p0_0 p0_1 p0_2 p0_3 p0_4 p0_5 p0_6 p0_7 p0_8 p0_9 p0_10 p0_11 p0_12 (res.2)) (res.1)) (k33 : Int32 → Int32 → Int32 → Int32 → Int32 → Int32 → OrdersS → Option (Int32 × OrdersS)) (hk33 : ∀ (v1 : Int32) (v6 : Int32) (v7 : Int32) (v8 : Int32) (v9 : Int32) (v10 : Int32) (s0 : OrdersS), k33 v1 v6 v7 v8 v9 v10 s0 = some res → J E 16 (wOrders (jg E) p0_0 p0_1 p0_2 p0_3 p0_4 p0_5 p0_6 p0_7 p0_8 p0_9 p0_10 p0_11 p0_12 s0) 33 [(0, .ref p0_0), (1, .int v1), (5, .ref p0_4), (6, .int v6), (7, .int v7), (8, .int v8), (9, .int v9), (10, .int v10)] []) : ∀ (v1 : Int32) (v7 : Int32) (v8 : Int32) (v9 : Int32) (v10 : Int32) (v13 : Int32) (v14 : Int32) (s0 : OrdersS), f_X6_ith_133 k33 v1 v7 v8 v9 v10 v13 v14 s0 = some res → J E 16 (wOrders (jg E) p0_0 p0_1 p0_2 p0_3 p0_4 p0_5 p0_6 p0_7 p0_8 p0_9 p0_10 p0_11 p0_12 s0) 133 [(0, .ref p0_0), (1, .int v1), (5, .ref p0_4), (7, .int v7), (8, .int v8), (9, .int v9), (10, .int v10), (13, .int v13), (14, .int v14)] [] := by
  intro v1 v7 v8 v9 v10 v13 v14 s0 h
  unfold f_X6_ith_133 at h
  refine j_iload (pc' := 135) K dX6_ith_133 8 rfl rfl ?_
  refine j_istore (pc' := 137) (lv' := [(6, .int v14), (0, .ref p0_0), (1, .int v1), (5, .ref p0_4), (7, .int v7), (8, .int v8), (9, .int v9), (10, .int v10), (13, .int v13), (14, .int v14)]) K dX6_ith_135 (by decide) rfl rfl ?_
  refine j_iload (pc' := 139) K dX6_ith_137 4 rfl rfl ?_
  refine j_iload (pc' := 141) K dX6_ith_139 8 rfl rfl ?_
  refine j_isub (pc' := 142) K dX6_ith_141 rfl ?_
  refine j_istore (pc' := 144) (lv' := [(7, .int (v7 - v13)), (6, .int v14), (0, .ref p0_0), (1, .int v1), (5, .ref p0_4), (8, .int v8), (9, .int v9), (10, .int v10), (13, .int v13), (14, .int v14)]) K dX6_ith_142 (by decide) rfl rfl ?_
  refine j_goto (tgt := 160) K dX6_ith_144 (by decide) ?_
  refine j_sub [2, 3, 4, 1, 0, 5, 6, 7] rfl ?_
  exact b_X6_ith_160 p0_0 p0_1 p0_2 p0_3 p0_4 p0_5 p0_6 p0_7 p0_8 p0_9 p0_10 p0_11 p0_12 K hrw HR k33 hk33 v1 v14 (v7 - v13) v8 v9 v10 s0 h
set_option maxRecDepth 100000 in
set_option maxHeartbeats 4000000 in
theorem b_X6_ith_55 {E : jE} (p0_0 p0_1 p0_2 p0_3 p0_4 p0_5 p0_6 p0_7 p0_8 p0_9 p0_10 p0_11 p0_12 : Nat) {res : Int32 × OrdersS} (K : jC E cX6_ith 16 RX6 4) (hrw : jrw E) (HR : jRI E cX6_ith 16 (wOrders (jg E) p0_0 p0_1 p0_2 p0_3 p0_4 p0_5 p0_6 p0_7 p0_8 p0_9 p0_10 p0_11 p0_12 (res.2)) (res.1)) (k33 : Int32 → Int32 → Int32 → Int32 → Int32 → Int32 → OrdersS → Option (Int32 × OrdersS)) (hk33 : ∀ (v1 : Int32) (v6 : Int32) (v7 : Int32) (v8 : Int32) (v9 : Int32) (v10 : Int32) (s0 : OrdersS), k33 v1 v6 v7 v8 v9 v10 s0 = some res → J E 16 (wOrders (jg E) p0_0 p0_1 p0_2 p0_3 p0_4 p0_5 p0_6 p0_7 p0_8 p0_9 p0_10 p0_11 p0_12 s0) 33 [(0, .ref p0_0), (1, .int v1), (5, .ref p0_4), (6, .int v6), (7, .int v7), (8, .int v8), (9, .int v9), (10, .int v10)] []) : ∀ (n : Nat) (v1 : Int32) (v6 : Int32) (v7 : Int32) (v8 : Int32) (v9 : Int32) (v10 : Int32) (v11 : Int32) (v12 : Int32) (s0 : OrdersS), f_X6_ith_55 k33 n v1 v6 v7 v8 v9 v10 v11 v12 s0 = some res → J E 16 (wOrders (jg E) p0_0 p0_1 p0_2 p0_3 p0_4 p0_5 p0_6 p0_7 p0_8 p0_9 p0_10 p0_11 p0_12 s0) 55 [(0, .ref p0_0), (1, .int v1), (5, .ref p0_4), (6, .int v6), (7, .int v7), (8, .int v8), (9, .int v9), (10, .int v10), (11, .int v11), (12, .int v12)] [] := by
  intro n
  induction n with
  | zero => intro _ _ _ _ _ _ _ _ _ h; cases h
  | succ n ih =>
    intro v1 v6 v7 v8 v9 v10 v11 v12 s0 h
    rw [f_X6_ith_55] at h
    refine j_iload (pc' := 57) K dX6_ith_55 9 rfl rfl ?_
    refine j_iload (pc' := 59) K dX6_ith_57 8 rfl rfl ?_
    refine j_icmp_ge (pc' := 62) (tgt := 160) K dX6_ith_59 (by decide) rfl (fun hc => ?_) (fun hc => ?_)
    · have h := jit hc h
      refine j_sub [0, 1, 2, 3, 4, 5, 6, 7] rfl ?_
      exact b_X6_ith_160 p0_0 p0_1 p0_2 p0_3 p0_4 p0_5 p0_6 p0_7 p0_8 p0_9 p0_10 p0_11 p0_12 K hrw HR k33 hk33 v1 v6 v7 v8 v9 v10 s0 h
    · have h := jif hc h
      refine j_aload_n (pc' := 63) K dX6_ith_62 rfl 0 rfl rfl ?_
      refine j_get (pc' := 66) K dX6_ith_63 inX6 0 rfl rfl 0 (by decide) u_1_142 rfl rfl rfl ?_
      refine j_iload (pc' := 68) K dX6_ith_66 7 rfl rfl ?_
      refine j_iload (pc' := 70) K dX6_ith_68 6 rfl rfl ?_
      refine j_iload (pc' := 72) K dX6_ith_70 9 rfl rfl ?_
      obtain ⟨r72, hr72, h⟩ := jbd_some h
      refine j_ro (pc' := 75) K (fun H hP => jrun_S K dX6_ith_72 (M_X6_unusedDigit (jl E) (jg E) v9 v12 hr72) u_3_54 u_3_52 u_3_53 u_1_4 ⟨ok_X6_unusedDigit, by decide, by decide⟩ rfl (Nat.le_of_ble_eq_true rfl) H) [] rfl rfl ?_
      obtain ⟨hg, h⟩ := jgd_some h
      refine j_iast (pc' := 76) (ws' := (wOrders (jg E) p0_0 p0_1 p0_2 p0_3 p0_4 p0_5 p0_6 p0_7 p0_8 p0_9 p0_10 p0_11 p0_12 (Orders_row_s s0 (upd (Orders_row s0) (Int32.toNatClampNeg v10) r72)))) K dX6_ith_75 hrw 1 rfl hg (st_Orders_1 ..) rfl ?_
      refine j_aload (pc' := 78) K dX6_ith_76 2 rfl rfl ?_
      refine j_iload (pc' := 80) K dX6_ith_78 3 rfl rfl ?_
      refine j_iload (pc' := 82) K dX6_ith_80 8 rfl rfl ?_
      refine j_iload (pc' := 84) K dX6_ith_82 9 rfl rfl ?_
      refine j_aload_n (pc' := 85) K dX6_ith_84 rfl 0 rfl rfl ?_
      refine j_get (pc' := 88) K dX6_ith_85 inX6 0 rfl rfl 0 (by decide) u_1_142 rfl rfl rfl ?_
      refine j_iload (pc' := 90) K dX6_ith_88 7 rfl rfl ?_
      obtain ⟨r90, hr90, h⟩ := jbd_some h
      refine j_ro (pc' := 93) K (fun H hP => jrun_A (x := ⟨"CountTriangles$Mark", "growth", "(III[II)I"⟩) K dX6_ith_90 (M_X9_growth (jl E) (jg E) p0_1 p0_4 v6 v11 v12 v10 (Orders_row (Orders_row_s s0 (upd (Orders_row s0) (Int32.toNatClampNeg v10) r72))) hr90) u_3_77 u_3_56 u_3_58 u_3_76 u_3_75 u_1_6 (by decide) ⟨okx_growth, by decide, by decide⟩ rfl (Nat.le_of_ble_eq_true rfl) 4 rfl rfl H hP) [1] (cl_9_f ..) rfl ?_
      refine j_istore (pc' := 95) (lv' := [(13, .int r90), (0, .ref p0_0), (1, .int v1), (5, .ref p0_4), (6, .int v6), (7, .int v7), (8, .int v8), (9, .int v9), (10, .int v10), (11, .int v11), (12, .int v12)]) K dX6_ith_93 (by decide) rfl rfl ?_
      refine j_aload (pc' := 97) K dX6_ith_95 3 rfl rfl ?_
      refine j_iload (pc' := 99) K dX6_ith_97 4 rfl rfl ?_
      refine j_iload (pc' := 101) K dX6_ith_99 9 rfl rfl ?_
      refine j_iload (pc' := 103) K dX6_ith_101 10 rfl rfl ?_
      obtain ⟨r103, hr103, h⟩ := jbd_some h
      refine j_ro (pc' := 106) K (fun H hP => jrun_A (x := ⟨"CountTriangles$Mark", "next", "(III)I"⟩) K dX6_ith_103 (M_X9_next (jl E) (jg E) p0_4 v6 v11 v12 hr103) u_3_94 u_3_78 u_3_80 u_3_93 u_3_92 u_1_6 (by decide) ⟨okx_next, by decide, by decide⟩ rfl (Nat.le_of_ble_eq_true rfl) 4 rfl rfl H hP) [] rfl rfl ?_
      refine j_istore (pc' := 108) (lv' := [(14, .int r103), (13, .int r90), (0, .ref p0_0), (1, .int v1), (5, .ref p0_4), (6, .int v6), (7, .int v7), (8, .int v8), (9, .int v9), (10, .int v10), (11, .int v11), (12, .int v12)]) K dX6_ith_106 (by decide) rfl rfl ?_
      refine j_aload (pc' := 110) K dX6_ith_108 4 rfl rfl ?_
      refine j_iload (pc' := 112) K dX6_ith_110 0 rfl rfl ?_
      refine j_iload (pc' := 114) K dX6_ith_112 10 rfl rfl ?_
      refine j_iconst (pc' := 115) (v := (1 : Int32)) K dX6_ith_114 (by decide) rfl ?_
      refine j_isub (pc' := 116) K dX6_ith_115 rfl ?_
      refine j_iload (pc' := 118) K dX6_ith_116 6 rfl rfl ?_
      refine j_iload (pc' := 120) K dX6_ith_118 1 rfl rfl ?_
      refine j_isub (pc' := 121) K dX6_ith_120 rfl ?_
      obtain ⟨r121, hr121, h⟩ := jbd_some h
      refine j_ro (pc' := 124) K (fun H hP => jrun_A (x := ⟨"CountTriangles$Mark", "ways", "(III)I"⟩) K dX6_ith_121 (M_X9_ways (jl E) (jg E) p0_4 p0_5 r103 (v11 - (1 : Int32)) (v7 - r90) (Orders_rings (Orders_row_s s0 (upd (Orders_row s0) (Int32.toNatClampNeg v10) r72))) hr121) u_1_73 u_3_14 u_3_16 u_1_71 u_3_47 u_1_6 (by decide) ⟨okx_ways, by decide, by decide⟩ rfl (Nat.le_of_ble_eq_true rfl) 4 rfl rfl H hP) [4, 5] (cl_4_f ..) rfl ?_
      refine j_istore (pc' := 126) (lv' := [(15, .int r121), (14, .int r103), (13, .int r90), (0, .ref p0_0), (1, .int v1), (5, .ref p0_4), (6, .int v6), (7, .int v7), (8, .int v8), (9, .int v9), (10, .int v10), (11, .int v11), (12, .int v12)]) K dX6_ith_124 (by decide) rfl rfl ?_
      refine j_iload (pc' := 128) K dX6_ith_126 8 rfl rfl ?_
      refine j_iload (pc' := 130) K dX6_ith_128 0 rfl rfl ?_
      refine j_icmp_ge (pc' := 133) (tgt := 147) K dX6_ith_130 (by decide) rfl (fun hc => ?_) (fun hc => ?_)
      · have h := jit hc h
        refine j_iload (pc' := 149) K dX6_ith_147 8 rfl rfl ?_
        refine j_iload (pc' := 151) K dX6_ith_149 0 rfl rfl ?_
        refine j_isub (pc' := 152) K dX6_ith_151 rfl ?_
        refine j_istore (pc' := 154) (lv' := [(8, .int (v8 - r121)), (15, .int r121), (14, .int r103), (13, .int r90), (0, .ref p0_0), (1, .int v1), (5, .ref p0_4), (6, .int v6), (7, .int v7), (9, .int v9), (10, .int v10), (11, .int v11), (12, .int v12)]) K dX6_ith_152 (by decide) rfl rfl ?_
        refine j_iinc (pc' := 157) (j := 12) (v := (v12 + (1 : Int32))) (lv' := [(12, .int (v12 + (1 : Int32))), (8, .int (v8 - r121)), (15, .int r121), (14, .int r103), (13, .int r90), (0, .ref p0_0), (1, .int v1), (5, .ref p0_4), (6, .int v6), (7, .int v7), (9, .int v9), (10, .int v10), (11, .int v11)]) K dX6_ith_154 rfl rfl (by decide) rfl rfl ?_
        refine j_goto (tgt := 55) K dX6_ith_157 (by decide) ?_
        refine j_sub [5, 6, 7, 8, 9, 1, 10, 11, 12, 0] rfl ?_
        exact ih v1 v6 v7 (v8 - r121) v9 v10 v11 (v12 + (1 : Int32)) (Orders_row_s s0 (upd (Orders_row s0) (Int32.toNatClampNeg v10) r72)) h
      · have h := jif hc h
        refine j_sub [3, 4, 5, 7, 8, 9, 10, 2, 1] rfl ?_
        exact b_X6_ith_133 p0_0 p0_1 p0_2 p0_3 p0_4 p0_5 p0_6 p0_7 p0_8 p0_9 p0_10 p0_11 p0_12 K hrw HR k33 hk33 v1 v7 v8 v9 v10 r90 r103 (Orders_row_s s0 (upd (Orders_row s0) (Int32.toNatClampNeg v10) r72)) h
set_option maxRecDepth 100000 in
set_option maxHeartbeats 4000000 in
theorem b_X6_ith_33 {E : jE} (p0_0 p0_1 p0_2 p0_3 p0_4 p0_5 p0_6 p0_7 p0_8 p0_9 p0_10 p0_11 p0_12 : Nat) {res : Int32 × OrdersS} (K : jC E cX6_ith 16 RX6 4) (hrw : jrw E) (HR : jRI E cX6_ith 16 (wOrders (jg E) p0_0 p0_1 p0_2 p0_3 p0_4 p0_5 p0_6 p0_7 p0_8 p0_9 p0_10 p0_11 p0_12 (res.2)) (res.1)) : ∀ (n : Nat) (v1 : Int32) (v6 : Int32) (v7 : Int32) (v8 : Int32) (v9 : Int32) (v10 : Int32) (s0 : OrdersS), f_X6_ith_33 n v1 v6 v7 v8 v9 v10 s0 = some res → J E 16 (wOrders (jg E) p0_0 p0_1 p0_2 p0_3 p0_4 p0_5 p0_6 p0_7 p0_8 p0_9 p0_10 p0_11 p0_12 s0) 33 [(0, .ref p0_0), (1, .int v1), (5, .ref p0_4), (6, .int v6), (7, .int v7), (8, .int v8), (9, .int v9), (10, .int v10)] [] := by
  intro n
  induction n with
  | zero => intro _ _ _ _ _ _ _ h; cases h
  | succ n ih =>
    intro v1 v6 v7 v8 v9 v10 s0 h
    rw [f_X6_ith_33] at h
    refine j_iload (pc' := 35) K dX6_ith_33 7 rfl rfl ?_
    refine j_iload_n (pc' := 36) K dX6_ith_35 rfl 1 rfl rfl ?_
    refine j_icmp_ge (pc' := 39) (tgt := 182) K dX6_ith_36 (by decide) rfl (fun hc => ?_) (fun hc => ?_)
    · have h := jit hc h
      refine j_sub [0, 1] rfl ?_
      exact b_X6_ith_182 p0_0 p0_1 p0_2 p0_3 p0_4 p0_5 p0_6 p0_7 p0_8 p0_9 p0_10 p0_11 p0_12 K hrw HR v1 s0 h
    · have h := jif hc h
      refine j_iload (pc' := 41) K dX6_ith_39 7 rfl rfl ?_
      refine j_bipush (pc' := 43) (v := (8 : Int32)) K dX6_ith_41 (by decide) rfl ?_
      refine j_icmp_ge (pc' := 46) (tgt := 182) K dX6_ith_43 (by decide) rfl (fun hc => ?_) (fun hc => ?_)
      · have h := jit hc h
        refine j_sub [0, 1] rfl ?_
        exact b_X6_ith_182 p0_0 p0_1 p0_2 p0_3 p0_4 p0_5 p0_6 p0_7 p0_8 p0_9 p0_10 p0_11 p0_12 K hrw HR v1 s0 h
      · have h := jif hc h
        refine j_iload_n (pc' := 47) K dX6_ith_46 rfl 1 rfl rfl ?_
        refine j_iload (pc' := 49) K dX6_ith_47 7 rfl rfl ?_
        refine j_isub (pc' := 50) K dX6_ith_49 rfl ?_
        refine j_istore (pc' := 52) (lv' := [(11, .int (v1 - v10)), (0, .ref p0_0), (1, .int v1), (5, .ref p0_4), (6, .int v6), (7, .int v7), (8, .int v8), (9, .int v9), (10, .int v10)]) K dX6_ith_50 (by decide) rfl rfl ?_
        refine j_iconst (pc' := 53) (v := (0 : Int32)) K dX6_ith_52 (by decide) rfl ?_
        refine j_istore (pc' := 55) (lv' := [(12, .int (0 : Int32)), (11, .int (v1 - v10)), (0, .ref p0_0), (1, .int v1), (5, .ref p0_4), (6, .int v6), (7, .int v7), (8, .int v8), (9, .int v9), (10, .int v10)]) K dX6_ith_53 (by decide) rfl rfl ?_
        refine j_sub [2, 3, 4, 5, 6, 7, 8, 9, 1, 0] rfl ?_
        exact b_X6_ith_55 p0_0 p0_1 p0_2 p0_3 p0_4 p0_5 p0_6 p0_7 p0_8 p0_9 p0_10 p0_11 p0_12 K hrw HR (f_X6_ith_33 n) (ih) jFU v1 v6 v7 v8 v9 v10 (v1 - v10) (0 : Int32) s0 h
set_option maxRecDepth 100000 in
set_option maxHeartbeats 4000000 in
theorem b_X6_ith_160a {E : jE} (p0_0 p0_1 p0_2 p0_3 p0_4 p0_5 p0_6 p0_7 p0_8 p0_9 p0_10 p0_11 p0_12 : Nat) {res : Int32 × OrdersS} (K : jC E cX6_ith 16 RX6 4) (hrw : jrw E) (HR : jRI E cX6_ith 16 (wOrders (jg E) p0_0 p0_1 p0_2 p0_3 p0_4 p0_5 p0_6 p0_7 p0_8 p0_9 p0_10 p0_11 p0_12 (res.2)) (res.1)) (k33 : Int32 → Int32 → Int32 → Int32 → Int32 → Int32 → OrdersS → Option (Int32 × OrdersS)) (hk33 : ∀ (v1 : Int32) (v6 : Int32) (v7 : Int32) (v8 : Int32) (v9 : Int32) (v10 : Int32) (s0 : OrdersS), k33 v1 v6 v7 v8 v9 v10 s0 = some res → J E 16 (wOrders (jg E) p0_0 p0_1 p0_2 p0_3 p0_4 p0_5 p0_6 p0_7 p0_8 p0_9 p0_10 p0_11 p0_12 s0) 33 [(0, .ref p0_0), (1, .int v1), (5, .ref p0_6), (6, .int v6), (7, .int v7), (8, .int v8), (9, .int v9), (10, .int v10)] []) : ∀ (v1 : Int32) (v6 : Int32) (v7 : Int32) (v8 : Int32) (v9 : Int32) (v10 : Int32) (s0 : OrdersS), f_X6_ith_160a k33 v1 v6 v7 v8 v9 v10 s0 = some res → J E 16 (wOrders (jg E) p0_0 p0_1 p0_2 p0_3 p0_4 p0_5 p0_6 p0_7 p0_8 p0_9 p0_10 p0_11 p0_12 s0) 160 [(0, .ref p0_0), (1, .int v1), (5, .ref p0_6), (6, .int v6), (7, .int v7), (8, .int v8), (9, .int v9), (10, .int v10)] [] := by
  intro v1 v6 v7 v8 v9 v10 s0 h
  unfold f_X6_ith_160a at h
  refine j_iload (pc' := 162) K dX6_ith_160 6 rfl rfl ?_
  refine j_iconst (pc' := 163) (v := (1 : Int32)) K dX6_ith_162 (by decide) rfl ?_
  refine j_aload_n (pc' := 164) K dX6_ith_163 rfl 0 rfl rfl ?_
  refine j_get (pc' := 167) K dX6_ith_164 inX6 0 rfl rfl 0 (by decide) u_1_142 rfl rfl rfl ?_
  refine j_iload (pc' := 169) K dX6_ith_167 7 rfl rfl ?_
  obtain ⟨hg, h⟩ := jgd_some h
  refine j_iald (pc' := 170) K dX6_ith_169 1 rfl hg rfl ?_
  refine j_ishl (pc' := 171) K dX6_ith_170 rfl ?_
  refine j_iconst (pc' := 172) (v := (-1 : Int32)) K dX6_ith_171 (by decide) rfl ?_
  refine j_ixor (pc' := 173) K dX6_ith_172 rfl ?_
  refine j_iand (pc' := 174) K dX6_ith_173 rfl ?_
  refine j_istore (pc' := 176) (lv' := [(9, .int (v9 &&& (((1 : Int32) <<< (((Orders_row s0) (Int32.toNatClampNeg v10)) &&& 31)) ^^^ (-1 : Int32)))), (0, .ref p0_0), (1, .int v1), (5, .ref p0_6), (6, .int v6), (7, .int v7), (8, .int v8), (10, .int v10)]) K dX6_ith_174 (by decide) rfl rfl ?_
  refine j_iinc (pc' := 179) (j := 7) (v := (v10 + (1 : Int32))) (lv' := [(10, .int (v10 + (1 : Int32))), (9, .int (v9 &&& (((1 : Int32) <<< (((Orders_row s0) (Int32.toNatClampNeg v10)) &&& 31)) ^^^ (-1 : Int32)))), (0, .ref p0_0), (1, .int v1), (5, .ref p0_6), (6, .int v6), (7, .int v7), (8, .int v8)]) K dX6_ith_176 rfl rfl (by decide) rfl rfl ?_
  refine j_goto (tgt := 33) K dX6_ith_179 (by decide) ?_
  refine j_sub [2, 3, 4, 5, 6, 7, 1, 0] rfl ?_
  exact hk33 v1 v6 v7 v8 (v9 &&& (((1 : Int32) <<< (((Orders_row s0) (Int32.toNatClampNeg v10)) &&& 31)) ^^^ (-1 : Int32))) (v10 + (1 : Int32)) s0 h
set_option maxRecDepth 100000 in
set_option maxHeartbeats 4000000 in
theorem b_X6_ith_133a {E : jE} (p0_0 p0_1 p0_2 p0_3 p0_4 p0_5 p0_6 p0_7 p0_8 p0_9 p0_10 p0_11 p0_12 : Nat) {res : Int32 × OrdersS} (K : jC E cX6_ith 16 RX6 4) (hrw : jrw E) (HR : jRI E cX6_ith 16 (wOrders (jg E) p0_0 p0_1 p0_2 p0_3 p0_4 p0_5 p0_6 p0_7 p0_8 p0_9 p0_10 p0_11 p0_12 (res.2)) (res.1)) (k33 : Int32 → Int32 → Int32 → Int32 → Int32 → Int32 → OrdersS → Option (Int32 × OrdersS)) (hk33 : ∀ (v1 : Int32) (v6 : Int32) (v7 : Int32) (v8 : Int32) (v9 : Int32) (v10 : Int32) (s0 : OrdersS), k33 v1 v6 v7 v8 v9 v10 s0 = some res → J E 16 (wOrders (jg E) p0_0 p0_1 p0_2 p0_3 p0_4 p0_5 p0_6 p0_7 p0_8 p0_9 p0_10 p0_11 p0_12 s0) 33 [(0, .ref p0_0), (1, .int v1), (5, .ref p0_6), (6, .int v6), (7, .int v7), (8, .int v8), (9, .int v9), (10, .int v10)] []) : ∀ (v1 : Int32) (v7 : Int32) (v8 : Int32) (v9 : Int32) (v10 : Int32) (v13 : Int32) (v14 : Int32) (s0 : OrdersS), f_X6_ith_133a k33 v1 v7 v8 v9 v10 v13 v14 s0 = some res → J E 16 (wOrders (jg E) p0_0 p0_1 p0_2 p0_3 p0_4 p0_5 p0_6 p0_7 p0_8 p0_9 p0_10 p0_11 p0_12 s0) 133 [(0, .ref p0_0), (1, .int v1), (5, .ref p0_6), (7, .int v7), (8, .int v8), (9, .int v9), (10, .int v10), (13, .int v13), (14, .int v14)] [] := by
  intro v1 v7 v8 v9 v10 v13 v14 s0 h
  unfold f_X6_ith_133a at h
  refine j_iload (pc' := 135) K dX6_ith_133 8 rfl rfl ?_
  refine j_istore (pc' := 137) (lv' := [(6, .int v14), (0, .ref p0_0), (1, .int v1), (5, .ref p0_6), (7, .int v7), (8, .int v8), (9, .int v9), (10, .int v10), (13, .int v13), (14, .int v14)]) K dX6_ith_135 (by decide) rfl rfl ?_
  refine j_iload (pc' := 139) K dX6_ith_137 4 rfl rfl ?_
  refine j_iload (pc' := 141) K dX6_ith_139 8 rfl rfl ?_
  refine j_isub (pc' := 142) K dX6_ith_141 rfl ?_
  refine j_istore (pc' := 144) (lv' := [(7, .int (v7 - v13)), (6, .int v14), (0, .ref p0_0), (1, .int v1), (5, .ref p0_6), (8, .int v8), (9, .int v9), (10, .int v10), (13, .int v13), (14, .int v14)]) K dX6_ith_142 (by decide) rfl rfl ?_
  refine j_goto (tgt := 160) K dX6_ith_144 (by decide) ?_
  refine j_sub [2, 3, 4, 1, 0, 5, 6, 7] rfl ?_
  exact b_X6_ith_160a p0_0 p0_1 p0_2 p0_3 p0_4 p0_5 p0_6 p0_7 p0_8 p0_9 p0_10 p0_11 p0_12 K hrw HR k33 hk33 v1 v14 (v7 - v13) v8 v9 v10 s0 h
set_option maxRecDepth 100000 in
set_option maxHeartbeats 4000000 in
theorem b_X6_ith_55a {E : jE} (p0_0 p0_1 p0_2 p0_3 p0_4 p0_5 p0_6 p0_7 p0_8 p0_9 p0_10 p0_11 p0_12 : Nat) {res : Int32 × OrdersS} (K : jC E cX6_ith 16 RX6 4) (hrw : jrw E) (HR : jRI E cX6_ith 16 (wOrders (jg E) p0_0 p0_1 p0_2 p0_3 p0_4 p0_5 p0_6 p0_7 p0_8 p0_9 p0_10 p0_11 p0_12 (res.2)) (res.1)) (k33 : Int32 → Int32 → Int32 → Int32 → Int32 → Int32 → OrdersS → Option (Int32 × OrdersS)) (hk33 : ∀ (v1 : Int32) (v6 : Int32) (v7 : Int32) (v8 : Int32) (v9 : Int32) (v10 : Int32) (s0 : OrdersS), k33 v1 v6 v7 v8 v9 v10 s0 = some res → J E 16 (wOrders (jg E) p0_0 p0_1 p0_2 p0_3 p0_4 p0_5 p0_6 p0_7 p0_8 p0_9 p0_10 p0_11 p0_12 s0) 33 [(0, .ref p0_0), (1, .int v1), (5, .ref p0_6), (6, .int v6), (7, .int v7), (8, .int v8), (9, .int v9), (10, .int v10)] []) : ∀ (n : Nat) (v1 : Int32) (v6 : Int32) (v7 : Int32) (v8 : Int32) (v9 : Int32) (v10 : Int32) (v11 : Int32) (v12 : Int32) (s0 : OrdersS), f_X6_ith_55a k33 n v1 v6 v7 v8 v9 v10 v11 v12 s0 = some res → J E 16 (wOrders (jg E) p0_0 p0_1 p0_2 p0_3 p0_4 p0_5 p0_6 p0_7 p0_8 p0_9 p0_10 p0_11 p0_12 s0) 55 [(0, .ref p0_0), (1, .int v1), (5, .ref p0_6), (6, .int v6), (7, .int v7), (8, .int v8), (9, .int v9), (10, .int v10), (11, .int v11), (12, .int v12)] [] := by
  intro n
  induction n with
  | zero => intro _ _ _ _ _ _ _ _ _ h; cases h
  | succ n ih =>
    intro v1 v6 v7 v8 v9 v10 v11 v12 s0 h
    rw [f_X6_ith_55a] at h
    refine j_iload (pc' := 57) K dX6_ith_55 9 rfl rfl ?_
    refine j_iload (pc' := 59) K dX6_ith_57 8 rfl rfl ?_
    refine j_icmp_ge (pc' := 62) (tgt := 160) K dX6_ith_59 (by decide) rfl (fun hc => ?_) (fun hc => ?_)
    · have h := jit hc h
      refine j_sub [0, 1, 2, 3, 4, 5, 6, 7] rfl ?_
      exact b_X6_ith_160a p0_0 p0_1 p0_2 p0_3 p0_4 p0_5 p0_6 p0_7 p0_8 p0_9 p0_10 p0_11 p0_12 K hrw HR k33 hk33 v1 v6 v7 v8 v9 v10 s0 h
    · have h := jif hc h
      refine j_aload_n (pc' := 63) K dX6_ith_62 rfl 0 rfl rfl ?_
      refine j_get (pc' := 66) K dX6_ith_63 inX6 0 rfl rfl 0 (by decide) u_1_142 rfl rfl rfl ?_
      refine j_iload (pc' := 68) K dX6_ith_66 7 rfl rfl ?_
      refine j_iload (pc' := 70) K dX6_ith_68 6 rfl rfl ?_
      refine j_iload (pc' := 72) K dX6_ith_70 9 rfl rfl ?_
      obtain ⟨r72, hr72, h⟩ := jbd_some h
      refine j_ro (pc' := 75) K (fun H hP => jrun_S K dX6_ith_72 (M_X6_unusedDigit (jl E) (jg E) v9 v12 hr72) u_3_54 u_3_52 u_3_53 u_1_4 ⟨ok_X6_unusedDigit, by decide, by decide⟩ rfl (Nat.le_of_ble_eq_true rfl) H) [] rfl rfl ?_
      obtain ⟨hg, h⟩ := jgd_some h
      refine j_iast (pc' := 76) (ws' := (wOrders (jg E) p0_0 p0_1 p0_2 p0_3 p0_4 p0_5 p0_6 p0_7 p0_8 p0_9 p0_10 p0_11 p0_12 (Orders_row_s s0 (upd (Orders_row s0) (Int32.toNatClampNeg v10) r72)))) K dX6_ith_75 hrw 1 rfl hg (st_Orders_1 ..) rfl ?_
      refine j_aload (pc' := 78) K dX6_ith_76 2 rfl rfl ?_
      refine j_iload (pc' := 80) K dX6_ith_78 3 rfl rfl ?_
      refine j_iload (pc' := 82) K dX6_ith_80 8 rfl rfl ?_
      refine j_iload (pc' := 84) K dX6_ith_82 9 rfl rfl ?_
      refine j_aload_n (pc' := 85) K dX6_ith_84 rfl 0 rfl rfl ?_
      refine j_get (pc' := 88) K dX6_ith_85 inX6 0 rfl rfl 0 (by decide) u_1_142 rfl rfl rfl ?_
      refine j_iload (pc' := 90) K dX6_ith_88 7 rfl rfl ?_
      obtain ⟨r90, hr90, h⟩ := jbd_some h
      refine j_ro (pc' := 93) K (fun H hP => jrun_A (x := ⟨"CountTriangles$Mark", "growth", "(III[II)I"⟩) K dX6_ith_90 (M_X0_growth (jl E) (jg E) p0_6 p0_1 v6 v11 v12 v10 hr90) u_3_61 u_3_56 u_3_58 u_3_60 u_3_59 u_1_7 (by decide) ⟨okx_growth, by decide, by decide⟩ rfl (Nat.le_of_ble_eq_true rfl) 6 rfl rfl H hP) [] rfl rfl ?_
      refine j_istore (pc' := 95) (lv' := [(13, .int r90), (0, .ref p0_0), (1, .int v1), (5, .ref p0_6), (6, .int v6), (7, .int v7), (8, .int v8), (9, .int v9), (10, .int v10), (11, .int v11), (12, .int v12)]) K dX6_ith_93 (by decide) rfl rfl ?_
      refine j_aload (pc' := 97) K dX6_ith_95 3 rfl rfl ?_
      refine j_iload (pc' := 99) K dX6_ith_97 4 rfl rfl ?_
      refine j_iload (pc' := 101) K dX6_ith_99 9 rfl rfl ?_
      refine j_iload (pc' := 103) K dX6_ith_101 10 rfl rfl ?_
      obtain ⟨r103, hr103, h⟩ := jbd_some h
      refine j_ro (pc' := 106) K (fun H hP => jrun_A (x := ⟨"CountTriangles$Mark", "next", "(III)I"⟩) K dX6_ith_103 (M_X0_next (jl E) (jg E) p0_6 v6 v11 v12 hr103) u_3_83 u_3_78 u_3_80 u_3_82 u_3_81 u_1_7 (by decide) ⟨okx_next, by decide, by decide⟩ rfl (Nat.le_of_ble_eq_true rfl) 6 rfl rfl H hP) [] rfl rfl ?_
      refine j_istore (pc' := 108) (lv' := [(14, .int r103), (13, .int r90), (0, .ref p0_0), (1, .int v1), (5, .ref p0_6), (6, .int v6), (7, .int v7), (8, .int v8), (9, .int v9), (10, .int v10), (11, .int v11), (12, .int v12)]) K dX6_ith_106 (by decide) rfl rfl ?_
      refine j_aload (pc' := 110) K dX6_ith_108 4 rfl rfl ?_
      refine j_iload (pc' := 112) K dX6_ith_110 0 rfl rfl ?_
      refine j_iload (pc' := 114) K dX6_ith_112 10 rfl rfl ?_
      refine j_iconst (pc' := 115) (v := (1 : Int32)) K dX6_ith_114 (by decide) rfl ?_
      refine j_isub (pc' := 116) K dX6_ith_115 rfl ?_
      refine j_iload (pc' := 118) K dX6_ith_116 6 rfl rfl ?_
      refine j_iload (pc' := 120) K dX6_ith_118 1 rfl rfl ?_
      refine j_isub (pc' := 121) K dX6_ith_120 rfl ?_
      obtain ⟨r121, hr121, h⟩ := jbd_some h
      refine j_ro (pc' := 124) K (fun H hP => jrun_A (x := ⟨"CountTriangles$Mark", "ways", "(III)I"⟩) K dX6_ith_121 (M_X0_ways (jl E) (jg E) p0_6 p0_7 r103 (v11 - (1 : Int32)) (v7 - r90) (Orders_falls (Orders_row_s s0 (upd (Orders_row s0) (Int32.toNatClampNeg v10) r72))) hr121) u_1_94 u_3_14 u_3_16 u_1_92 u_3_17 u_1_7 (by decide) ⟨okx_ways, by decide, by decide⟩ rfl (Nat.le_of_ble_eq_true rfl) 6 rfl rfl H hP) [6, 7] (cl_5_f ..) rfl ?_
      refine j_istore (pc' := 126) (lv' := [(15, .int r121), (14, .int r103), (13, .int r90), (0, .ref p0_0), (1, .int v1), (5, .ref p0_6), (6, .int v6), (7, .int v7), (8, .int v8), (9, .int v9), (10, .int v10), (11, .int v11), (12, .int v12)]) K dX6_ith_124 (by decide) rfl rfl ?_
      refine j_iload (pc' := 128) K dX6_ith_126 8 rfl rfl ?_
      refine j_iload (pc' := 130) K dX6_ith_128 0 rfl rfl ?_
      refine j_icmp_ge (pc' := 133) (tgt := 147) K dX6_ith_130 (by decide) rfl (fun hc => ?_) (fun hc => ?_)
      · have h := jit hc h
        refine j_iload (pc' := 149) K dX6_ith_147 8 rfl rfl ?_
        refine j_iload (pc' := 151) K dX6_ith_149 0 rfl rfl ?_
        refine j_isub (pc' := 152) K dX6_ith_151 rfl ?_
        refine j_istore (pc' := 154) (lv' := [(8, .int (v8 - r121)), (15, .int r121), (14, .int r103), (13, .int r90), (0, .ref p0_0), (1, .int v1), (5, .ref p0_6), (6, .int v6), (7, .int v7), (9, .int v9), (10, .int v10), (11, .int v11), (12, .int v12)]) K dX6_ith_152 (by decide) rfl rfl ?_
        refine j_iinc (pc' := 157) (j := 12) (v := (v12 + (1 : Int32))) (lv' := [(12, .int (v12 + (1 : Int32))), (8, .int (v8 - r121)), (15, .int r121), (14, .int r103), (13, .int r90), (0, .ref p0_0), (1, .int v1), (5, .ref p0_6), (6, .int v6), (7, .int v7), (9, .int v9), (10, .int v10), (11, .int v11)]) K dX6_ith_154 rfl rfl (by decide) rfl rfl ?_
        refine j_goto (tgt := 55) K dX6_ith_157 (by decide) ?_
        refine j_sub [5, 6, 7, 8, 9, 1, 10, 11, 12, 0] rfl ?_
        exact ih v1 v6 v7 (v8 - r121) v9 v10 v11 (v12 + (1 : Int32)) (Orders_row_s s0 (upd (Orders_row s0) (Int32.toNatClampNeg v10) r72)) h
      · have h := jif hc h
        refine j_sub [3, 4, 5, 7, 8, 9, 10, 2, 1] rfl ?_
        exact b_X6_ith_133a p0_0 p0_1 p0_2 p0_3 p0_4 p0_5 p0_6 p0_7 p0_8 p0_9 p0_10 p0_11 p0_12 K hrw HR k33 hk33 v1 v7 v8 v9 v10 r90 r103 (Orders_row_s s0 (upd (Orders_row s0) (Int32.toNatClampNeg v10) r72)) h
set_option maxRecDepth 100000 in
set_option maxHeartbeats 4000000 in
theorem b_X6_ith_33a {E : jE} (p0_0 p0_1 p0_2 p0_3 p0_4 p0_5 p0_6 p0_7 p0_8 p0_9 p0_10 p0_11 p0_12 : Nat) {res : Int32 × OrdersS} (K : jC E cX6_ith 16 RX6 4) (hrw : jrw E) (HR : jRI E cX6_ith 16 (wOrders (jg E) p0_0 p0_1 p0_2 p0_3 p0_4 p0_5 p0_6 p0_7 p0_8 p0_9 p0_10 p0_11 p0_12 (res.2)) (res.1)) : ∀ (n : Nat) (v1 : Int32) (v6 : Int32) (v7 : Int32) (v8 : Int32) (v9 : Int32) (v10 : Int32) (s0 : OrdersS), f_X6_ith_33a n v1 v6 v7 v8 v9 v10 s0 = some res → J E 16 (wOrders (jg E) p0_0 p0_1 p0_2 p0_3 p0_4 p0_5 p0_6 p0_7 p0_8 p0_9 p0_10 p0_11 p0_12 s0) 33 [(0, .ref p0_0), (1, .int v1), (5, .ref p0_6), (6, .int v6), (7, .int v7), (8, .int v8), (9, .int v9), (10, .int v10)] [] := by
  intro n
  induction n with
  | zero => intro _ _ _ _ _ _ _ h; cases h
  | succ n ih =>
    intro v1 v6 v7 v8 v9 v10 s0 h
    rw [f_X6_ith_33a] at h
    refine j_iload (pc' := 35) K dX6_ith_33 7 rfl rfl ?_
    refine j_iload_n (pc' := 36) K dX6_ith_35 rfl 1 rfl rfl ?_
    refine j_icmp_ge (pc' := 39) (tgt := 182) K dX6_ith_36 (by decide) rfl (fun hc => ?_) (fun hc => ?_)
    · have h := jit hc h
      refine j_sub [0, 1] rfl ?_
      exact b_X6_ith_182 p0_0 p0_1 p0_2 p0_3 p0_4 p0_5 p0_6 p0_7 p0_8 p0_9 p0_10 p0_11 p0_12 K hrw HR v1 s0 h
    · have h := jif hc h
      refine j_iload (pc' := 41) K dX6_ith_39 7 rfl rfl ?_
      refine j_bipush (pc' := 43) (v := (8 : Int32)) K dX6_ith_41 (by decide) rfl ?_
      refine j_icmp_ge (pc' := 46) (tgt := 182) K dX6_ith_43 (by decide) rfl (fun hc => ?_) (fun hc => ?_)
      · have h := jit hc h
        refine j_sub [0, 1] rfl ?_
        exact b_X6_ith_182 p0_0 p0_1 p0_2 p0_3 p0_4 p0_5 p0_6 p0_7 p0_8 p0_9 p0_10 p0_11 p0_12 K hrw HR v1 s0 h
      · have h := jif hc h
        refine j_iload_n (pc' := 47) K dX6_ith_46 rfl 1 rfl rfl ?_
        refine j_iload (pc' := 49) K dX6_ith_47 7 rfl rfl ?_
        refine j_isub (pc' := 50) K dX6_ith_49 rfl ?_
        refine j_istore (pc' := 52) (lv' := [(11, .int (v1 - v10)), (0, .ref p0_0), (1, .int v1), (5, .ref p0_6), (6, .int v6), (7, .int v7), (8, .int v8), (9, .int v9), (10, .int v10)]) K dX6_ith_50 (by decide) rfl rfl ?_
        refine j_iconst (pc' := 53) (v := (0 : Int32)) K dX6_ith_52 (by decide) rfl ?_
        refine j_istore (pc' := 55) (lv' := [(12, .int (0 : Int32)), (11, .int (v1 - v10)), (0, .ref p0_0), (1, .int v1), (5, .ref p0_6), (6, .int v6), (7, .int v7), (8, .int v8), (9, .int v9), (10, .int v10)]) K dX6_ith_53 (by decide) rfl rfl ?_
        refine j_sub [2, 3, 4, 5, 6, 7, 8, 9, 1, 0] rfl ?_
        exact b_X6_ith_55a p0_0 p0_1 p0_2 p0_3 p0_4 p0_5 p0_6 p0_7 p0_8 p0_9 p0_10 p0_11 p0_12 K hrw HR (f_X6_ith_33a n) (ih) jFU v1 v6 v7 v8 v9 v10 (v1 - v10) (0 : Int32) s0 h
set_option maxRecDepth 100000 in
set_option maxHeartbeats 4000000 in
theorem b_X6_ith_160b {E : jE} (p0_0 p0_1 p0_2 p0_3 p0_4 p0_5 p0_6 p0_7 p0_8 p0_9 p0_10 p0_11 p0_12 : Nat) {res : Int32 × OrdersS} (K : jC E cX6_ith 16 RX6 4) (hrw : jrw E) (HR : jRI E cX6_ith 16 (wOrders (jg E) p0_0 p0_1 p0_2 p0_3 p0_4 p0_5 p0_6 p0_7 p0_8 p0_9 p0_10 p0_11 p0_12 (res.2)) (res.1)) (k33 : Int32 → Int32 → Int32 → Int32 → Int32 → Int32 → OrdersS → Option (Int32 × OrdersS)) (hk33 : ∀ (v1 : Int32) (v6 : Int32) (v7 : Int32) (v8 : Int32) (v9 : Int32) (v10 : Int32) (s0 : OrdersS), k33 v1 v6 v7 v8 v9 v10 s0 = some res → J E 16 (wOrders (jg E) p0_0 p0_1 p0_2 p0_3 p0_4 p0_5 p0_6 p0_7 p0_8 p0_9 p0_10 p0_11 p0_12 s0) 33 [(0, .ref p0_0), (1, .int v1), (5, .ref p0_8), (6, .int v6), (7, .int v7), (8, .int v8), (9, .int v9), (10, .int v10)] []) : ∀ (v1 : Int32) (v6 : Int32) (v7 : Int32) (v8 : Int32) (v9 : Int32) (v10 : Int32) (s0 : OrdersS), f_X6_ith_160b k33 v1 v6 v7 v8 v9 v10 s0 = some res → J E 16 (wOrders (jg E) p0_0 p0_1 p0_2 p0_3 p0_4 p0_5 p0_6 p0_7 p0_8 p0_9 p0_10 p0_11 p0_12 s0) 160 [(0, .ref p0_0), (1, .int v1), (5, .ref p0_8), (6, .int v6), (7, .int v7), (8, .int v8), (9, .int v9), (10, .int v10)] [] := by
  intro v1 v6 v7 v8 v9 v10 s0 h
  unfold f_X6_ith_160b at h
  refine j_iload (pc' := 162) K dX6_ith_160 6 rfl rfl ?_
  refine j_iconst (pc' := 163) (v := (1 : Int32)) K dX6_ith_162 (by decide) rfl ?_
  refine j_aload_n (pc' := 164) K dX6_ith_163 rfl 0 rfl rfl ?_
  refine j_get (pc' := 167) K dX6_ith_164 inX6 0 rfl rfl 0 (by decide) u_1_142 rfl rfl rfl ?_
  refine j_iload (pc' := 169) K dX6_ith_167 7 rfl rfl ?_
  obtain ⟨hg, h⟩ := jgd_some h
  refine j_iald (pc' := 170) K dX6_ith_169 1 rfl hg rfl ?_
  refine j_ishl (pc' := 171) K dX6_ith_170 rfl ?_
  refine j_iconst (pc' := 172) (v := (-1 : Int32)) K dX6_ith_171 (by decide) rfl ?_
  refine j_ixor (pc' := 173) K dX6_ith_172 rfl ?_
  refine j_iand (pc' := 174) K dX6_ith_173 rfl ?_
  refine j_istore (pc' := 176) (lv' := [(9, .int (v9 &&& (((1 : Int32) <<< (((Orders_row s0) (Int32.toNatClampNeg v10)) &&& 31)) ^^^ (-1 : Int32)))), (0, .ref p0_0), (1, .int v1), (5, .ref p0_8), (6, .int v6), (7, .int v7), (8, .int v8), (10, .int v10)]) K dX6_ith_174 (by decide) rfl rfl ?_
  refine j_iinc (pc' := 179) (j := 7) (v := (v10 + (1 : Int32))) (lv' := [(10, .int (v10 + (1 : Int32))), (9, .int (v9 &&& (((1 : Int32) <<< (((Orders_row s0) (Int32.toNatClampNeg v10)) &&& 31)) ^^^ (-1 : Int32)))), (0, .ref p0_0), (1, .int v1), (5, .ref p0_8), (6, .int v6), (7, .int v7), (8, .int v8)]) K dX6_ith_176 rfl rfl (by decide) rfl rfl ?_
  refine j_goto (tgt := 33) K dX6_ith_179 (by decide) ?_
  refine j_sub [2, 3, 4, 5, 6, 7, 1, 0] rfl ?_
  exact hk33 v1 v6 v7 v8 (v9 &&& (((1 : Int32) <<< (((Orders_row s0) (Int32.toNatClampNeg v10)) &&& 31)) ^^^ (-1 : Int32))) (v10 + (1 : Int32)) s0 h
set_option maxRecDepth 100000 in
set_option maxHeartbeats 4000000 in
theorem b_X6_ith_133b {E : jE} (p0_0 p0_1 p0_2 p0_3 p0_4 p0_5 p0_6 p0_7 p0_8 p0_9 p0_10 p0_11 p0_12 : Nat) {res : Int32 × OrdersS} (K : jC E cX6_ith 16 RX6 4) (hrw : jrw E) (HR : jRI E cX6_ith 16 (wOrders (jg E) p0_0 p0_1 p0_2 p0_3 p0_4 p0_5 p0_6 p0_7 p0_8 p0_9 p0_10 p0_11 p0_12 (res.2)) (res.1)) (k33 : Int32 → Int32 → Int32 → Int32 → Int32 → Int32 → OrdersS → Option (Int32 × OrdersS)) (hk33 : ∀ (v1 : Int32) (v6 : Int32) (v7 : Int32) (v8 : Int32) (v9 : Int32) (v10 : Int32) (s0 : OrdersS), k33 v1 v6 v7 v8 v9 v10 s0 = some res → J E 16 (wOrders (jg E) p0_0 p0_1 p0_2 p0_3 p0_4 p0_5 p0_6 p0_7 p0_8 p0_9 p0_10 p0_11 p0_12 s0) 33 [(0, .ref p0_0), (1, .int v1), (5, .ref p0_8), (6, .int v6), (7, .int v7), (8, .int v8), (9, .int v9), (10, .int v10)] []) : ∀ (v1 : Int32) (v7 : Int32) (v8 : Int32) (v9 : Int32) (v10 : Int32) (v13 : Int32) (v14 : Int32) (s0 : OrdersS), f_X6_ith_133b k33 v1 v7 v8 v9 v10 v13 v14 s0 = some res → J E 16 (wOrders (jg E) p0_0 p0_1 p0_2 p0_3 p0_4 p0_5 p0_6 p0_7 p0_8 p0_9 p0_10 p0_11 p0_12 s0) 133 [(0, .ref p0_0), (1, .int v1), (5, .ref p0_8), (7, .int v7), (8, .int v8), (9, .int v9), (10, .int v10), (13, .int v13), (14, .int v14)] [] := by
  intro v1 v7 v8 v9 v10 v13 v14 s0 h
  unfold f_X6_ith_133b at h
  refine j_iload (pc' := 135) K dX6_ith_133 8 rfl rfl ?_
  refine j_istore (pc' := 137) (lv' := [(6, .int v14), (0, .ref p0_0), (1, .int v1), (5, .ref p0_8), (7, .int v7), (8, .int v8), (9, .int v9), (10, .int v10), (13, .int v13), (14, .int v14)]) K dX6_ith_135 (by decide) rfl rfl ?_
  refine j_iload (pc' := 139) K dX6_ith_137 4 rfl rfl ?_
  refine j_iload (pc' := 141) K dX6_ith_139 8 rfl rfl ?_
  refine j_isub (pc' := 142) K dX6_ith_141 rfl ?_
  refine j_istore (pc' := 144) (lv' := [(7, .int (v7 - v13)), (6, .int v14), (0, .ref p0_0), (1, .int v1), (5, .ref p0_8), (8, .int v8), (9, .int v9), (10, .int v10), (13, .int v13), (14, .int v14)]) K dX6_ith_142 (by decide) rfl rfl ?_
  refine j_goto (tgt := 160) K dX6_ith_144 (by decide) ?_
  refine j_sub [2, 3, 4, 1, 0, 5, 6, 7] rfl ?_
  exact b_X6_ith_160b p0_0 p0_1 p0_2 p0_3 p0_4 p0_5 p0_6 p0_7 p0_8 p0_9 p0_10 p0_11 p0_12 K hrw HR k33 hk33 v1 v14 (v7 - v13) v8 v9 v10 s0 h
set_option maxRecDepth 100000 in
set_option maxHeartbeats 4000000 in
theorem b_X6_ith_55b {E : jE} (p0_0 p0_1 p0_2 p0_3 p0_4 p0_5 p0_6 p0_7 p0_8 p0_9 p0_10 p0_11 p0_12 : Nat) {res : Int32 × OrdersS} (K : jC E cX6_ith 16 RX6 4) (hrw : jrw E) (HR : jRI E cX6_ith 16 (wOrders (jg E) p0_0 p0_1 p0_2 p0_3 p0_4 p0_5 p0_6 p0_7 p0_8 p0_9 p0_10 p0_11 p0_12 (res.2)) (res.1)) (k33 : Int32 → Int32 → Int32 → Int32 → Int32 → Int32 → OrdersS → Option (Int32 × OrdersS)) (hk33 : ∀ (v1 : Int32) (v6 : Int32) (v7 : Int32) (v8 : Int32) (v9 : Int32) (v10 : Int32) (s0 : OrdersS), k33 v1 v6 v7 v8 v9 v10 s0 = some res → J E 16 (wOrders (jg E) p0_0 p0_1 p0_2 p0_3 p0_4 p0_5 p0_6 p0_7 p0_8 p0_9 p0_10 p0_11 p0_12 s0) 33 [(0, .ref p0_0), (1, .int v1), (5, .ref p0_8), (6, .int v6), (7, .int v7), (8, .int v8), (9, .int v9), (10, .int v10)] []) : ∀ (n : Nat) (v1 : Int32) (v6 : Int32) (v7 : Int32) (v8 : Int32) (v9 : Int32) (v10 : Int32) (v11 : Int32) (v12 : Int32) (s0 : OrdersS), f_X6_ith_55b k33 n v1 v6 v7 v8 v9 v10 v11 v12 s0 = some res → J E 16 (wOrders (jg E) p0_0 p0_1 p0_2 p0_3 p0_4 p0_5 p0_6 p0_7 p0_8 p0_9 p0_10 p0_11 p0_12 s0) 55 [(0, .ref p0_0), (1, .int v1), (5, .ref p0_8), (6, .int v6), (7, .int v7), (8, .int v8), (9, .int v9), (10, .int v10), (11, .int v11), (12, .int v12)] [] := by
  intro n
  induction n with
  | zero => intro _ _ _ _ _ _ _ _ _ h; cases h
  | succ n ih =>
    intro v1 v6 v7 v8 v9 v10 v11 v12 s0 h
    rw [f_X6_ith_55b] at h
    refine j_iload (pc' := 57) K dX6_ith_55 9 rfl rfl ?_
    refine j_iload (pc' := 59) K dX6_ith_57 8 rfl rfl ?_
    refine j_icmp_ge (pc' := 62) (tgt := 160) K dX6_ith_59 (by decide) rfl (fun hc => ?_) (fun hc => ?_)
    · have h := jit hc h
      refine j_sub [0, 1, 2, 3, 4, 5, 6, 7] rfl ?_
      exact b_X6_ith_160b p0_0 p0_1 p0_2 p0_3 p0_4 p0_5 p0_6 p0_7 p0_8 p0_9 p0_10 p0_11 p0_12 K hrw HR k33 hk33 v1 v6 v7 v8 v9 v10 s0 h
    · have h := jif hc h
      refine j_aload_n (pc' := 63) K dX6_ith_62 rfl 0 rfl rfl ?_
      refine j_get (pc' := 66) K dX6_ith_63 inX6 0 rfl rfl 0 (by decide) u_1_142 rfl rfl rfl ?_
      refine j_iload (pc' := 68) K dX6_ith_66 7 rfl rfl ?_
      refine j_iload (pc' := 70) K dX6_ith_68 6 rfl rfl ?_
      refine j_iload (pc' := 72) K dX6_ith_70 9 rfl rfl ?_
      obtain ⟨r72, hr72, h⟩ := jbd_some h
      refine j_ro (pc' := 75) K (fun H hP => jrun_S K dX6_ith_72 (M_X6_unusedDigit (jl E) (jg E) v9 v12 hr72) u_3_54 u_3_52 u_3_53 u_1_4 ⟨ok_X6_unusedDigit, by decide, by decide⟩ rfl (Nat.le_of_ble_eq_true rfl) H) [] rfl rfl ?_
      obtain ⟨hg, h⟩ := jgd_some h
      refine j_iast (pc' := 76) (ws' := (wOrders (jg E) p0_0 p0_1 p0_2 p0_3 p0_4 p0_5 p0_6 p0_7 p0_8 p0_9 p0_10 p0_11 p0_12 (Orders_row_s s0 (upd (Orders_row s0) (Int32.toNatClampNeg v10) r72)))) K dX6_ith_75 hrw 1 rfl hg (st_Orders_1 ..) rfl ?_
      refine j_aload (pc' := 78) K dX6_ith_76 2 rfl rfl ?_
      refine j_iload (pc' := 80) K dX6_ith_78 3 rfl rfl ?_
      refine j_iload (pc' := 82) K dX6_ith_80 8 rfl rfl ?_
      refine j_iload (pc' := 84) K dX6_ith_82 9 rfl rfl ?_
      refine j_aload_n (pc' := 85) K dX6_ith_84 rfl 0 rfl rfl ?_
      refine j_get (pc' := 88) K dX6_ith_85 inX6 0 rfl rfl 0 (by decide) u_1_142 rfl rfl rfl ?_
      refine j_iload (pc' := 90) K dX6_ith_88 7 rfl rfl ?_
      obtain ⟨r90, hr90, h⟩ := jbd_some h
      refine j_ro (pc' := 93) K (fun H hP => jrun_A (x := ⟨"CountTriangles$Mark", "growth", "(III[II)I"⟩) K dX6_ith_90 (M_X3_growth (jl E) (jg E) p0_8 p0_1 v6 v11 v12 v10 hr90) u_3_67 u_3_56 u_3_58 u_3_66 u_3_65 u_1_8 (by decide) ⟨okx_growth, by decide, by decide⟩ rfl (Nat.le_of_ble_eq_true rfl) 8 rfl rfl H hP) [] rfl rfl ?_
      refine j_istore (pc' := 95) (lv' := [(13, .int r90), (0, .ref p0_0), (1, .int v1), (5, .ref p0_8), (6, .int v6), (7, .int v7), (8, .int v8), (9, .int v9), (10, .int v10), (11, .int v11), (12, .int v12)]) K dX6_ith_93 (by decide) rfl rfl ?_
      refine j_aload (pc' := 97) K dX6_ith_95 3 rfl rfl ?_
      refine j_iload (pc' := 99) K dX6_ith_97 4 rfl rfl ?_
      refine j_iload (pc' := 101) K dX6_ith_99 9 rfl rfl ?_
      refine j_iload (pc' := 103) K dX6_ith_101 10 rfl rfl ?_
      obtain ⟨r103, hr103, h⟩ := jbd_some h
      refine j_ro (pc' := 106) K (fun H hP => jrun_A (x := ⟨"CountTriangles$Mark", "next", "(III)I"⟩) K dX6_ith_103 (M_X3_next (jl E) (jg E) p0_8 v6 v11 v12 hr103) u_3_90 u_3_78 u_3_80 u_3_89 u_3_88 u_1_8 (by decide) ⟨okx_next, by decide, by decide⟩ rfl (Nat.le_of_ble_eq_true rfl) 8 rfl rfl H hP) [] rfl rfl ?_
      refine j_istore (pc' := 108) (lv' := [(14, .int r103), (13, .int r90), (0, .ref p0_0), (1, .int v1), (5, .ref p0_8), (6, .int v6), (7, .int v7), (8, .int v8), (9, .int v9), (10, .int v10), (11, .int v11), (12, .int v12)]) K dX6_ith_106 (by decide) rfl rfl ?_
      refine j_aload (pc' := 110) K dX6_ith_108 4 rfl rfl ?_
      refine j_iload (pc' := 112) K dX6_ith_110 0 rfl rfl ?_
      refine j_iload (pc' := 114) K dX6_ith_112 10 rfl rfl ?_
      refine j_iconst (pc' := 115) (v := (1 : Int32)) K dX6_ith_114 (by decide) rfl ?_
      refine j_isub (pc' := 116) K dX6_ith_115 rfl ?_
      refine j_iload (pc' := 118) K dX6_ith_116 6 rfl rfl ?_
      refine j_iload (pc' := 120) K dX6_ith_118 1 rfl rfl ?_
      refine j_isub (pc' := 121) K dX6_ith_120 rfl ?_
      obtain ⟨r121, hr121, h⟩ := jbd_some h
      refine j_ro (pc' := 124) K (fun H hP => jrun_A (x := ⟨"CountTriangles$Mark", "ways", "(III)I"⟩) K dX6_ith_121 (M_X3_ways (jl E) (jg E) p0_8 p0_9 r103 (v11 - (1 : Int32)) (v7 - r90) (Orders_pairs (Orders_row_s s0 (upd (Orders_row s0) (Int32.toNatClampNeg v10) r72))) hr121) u_1_113 u_3_14 u_3_16 u_1_111 u_3_25 u_1_8 (by decide) ⟨okx_ways, by decide, by decide⟩ rfl (Nat.le_of_ble_eq_true rfl) 8 rfl rfl H hP) [8, 9] (cl_6_f ..) rfl ?_
      refine j_istore (pc' := 126) (lv' := [(15, .int r121), (14, .int r103), (13, .int r90), (0, .ref p0_0), (1, .int v1), (5, .ref p0_8), (6, .int v6), (7, .int v7), (8, .int v8), (9, .int v9), (10, .int v10), (11, .int v11), (12, .int v12)]) K dX6_ith_124 (by decide) rfl rfl ?_
      refine j_iload (pc' := 128) K dX6_ith_126 8 rfl rfl ?_
      refine j_iload (pc' := 130) K dX6_ith_128 0 rfl rfl ?_
      refine j_icmp_ge (pc' := 133) (tgt := 147) K dX6_ith_130 (by decide) rfl (fun hc => ?_) (fun hc => ?_)
      · have h := jit hc h
        refine j_iload (pc' := 149) K dX6_ith_147 8 rfl rfl ?_
        refine j_iload (pc' := 151) K dX6_ith_149 0 rfl rfl ?_
        refine j_isub (pc' := 152) K dX6_ith_151 rfl ?_
        refine j_istore (pc' := 154) (lv' := [(8, .int (v8 - r121)), (15, .int r121), (14, .int r103), (13, .int r90), (0, .ref p0_0), (1, .int v1), (5, .ref p0_8), (6, .int v6), (7, .int v7), (9, .int v9), (10, .int v10), (11, .int v11), (12, .int v12)]) K dX6_ith_152 (by decide) rfl rfl ?_
        refine j_iinc (pc' := 157) (j := 12) (v := (v12 + (1 : Int32))) (lv' := [(12, .int (v12 + (1 : Int32))), (8, .int (v8 - r121)), (15, .int r121), (14, .int r103), (13, .int r90), (0, .ref p0_0), (1, .int v1), (5, .ref p0_8), (6, .int v6), (7, .int v7), (9, .int v9), (10, .int v10), (11, .int v11)]) K dX6_ith_154 rfl rfl (by decide) rfl rfl ?_
        refine j_goto (tgt := 55) K dX6_ith_157 (by decide) ?_
        refine j_sub [5, 6, 7, 8, 9, 1, 10, 11, 12, 0] rfl ?_
        exact ih v1 v6 v7 (v8 - r121) v9 v10 v11 (v12 + (1 : Int32)) (Orders_row_s s0 (upd (Orders_row s0) (Int32.toNatClampNeg v10) r72)) h
      · have h := jif hc h
        refine j_sub [3, 4, 5, 7, 8, 9, 10, 2, 1] rfl ?_
        exact b_X6_ith_133b p0_0 p0_1 p0_2 p0_3 p0_4 p0_5 p0_6 p0_7 p0_8 p0_9 p0_10 p0_11 p0_12 K hrw HR k33 hk33 v1 v7 v8 v9 v10 r90 r103 (Orders_row_s s0 (upd (Orders_row s0) (Int32.toNatClampNeg v10) r72)) h
set_option maxRecDepth 100000 in
set_option maxHeartbeats 4000000 in
theorem b_X6_ith_33b {E : jE} (p0_0 p0_1 p0_2 p0_3 p0_4 p0_5 p0_6 p0_7 p0_8 p0_9 p0_10 p0_11 p0_12 : Nat) {res : Int32 × OrdersS} (K : jC E cX6_ith 16 RX6 4) (hrw : jrw E) (HR : jRI E cX6_ith 16 (wOrders (jg E) p0_0 p0_1 p0_2 p0_3 p0_4 p0_5 p0_6 p0_7 p0_8 p0_9 p0_10 p0_11 p0_12 (res.2)) (res.1)) : ∀ (n : Nat) (v1 : Int32) (v6 : Int32) (v7 : Int32) (v8 : Int32) (v9 : Int32) (v10 : Int32) (s0 : OrdersS), f_X6_ith_33b n v1 v6 v7 v8 v9 v10 s0 = some res → J E 16 (wOrders (jg E) p0_0 p0_1 p0_2 p0_3 p0_4 p0_5 p0_6 p0_7 p0_8 p0_9 p0_10 p0_11 p0_12 s0) 33 [(0, .ref p0_0), (1, .int v1), (5, .ref p0_8), (6, .int v6), (7, .int v7), (8, .int v8), (9, .int v9), (10, .int v10)] [] := by
  intro n
  induction n with
  | zero => intro _ _ _ _ _ _ _ h; cases h
  | succ n ih =>
    intro v1 v6 v7 v8 v9 v10 s0 h
    rw [f_X6_ith_33b] at h
    refine j_iload (pc' := 35) K dX6_ith_33 7 rfl rfl ?_
    refine j_iload_n (pc' := 36) K dX6_ith_35 rfl 1 rfl rfl ?_
    refine j_icmp_ge (pc' := 39) (tgt := 182) K dX6_ith_36 (by decide) rfl (fun hc => ?_) (fun hc => ?_)
    · have h := jit hc h
      refine j_sub [0, 1] rfl ?_
      exact b_X6_ith_182 p0_0 p0_1 p0_2 p0_3 p0_4 p0_5 p0_6 p0_7 p0_8 p0_9 p0_10 p0_11 p0_12 K hrw HR v1 s0 h
    · have h := jif hc h
      refine j_iload (pc' := 41) K dX6_ith_39 7 rfl rfl ?_
      refine j_bipush (pc' := 43) (v := (8 : Int32)) K dX6_ith_41 (by decide) rfl ?_
      refine j_icmp_ge (pc' := 46) (tgt := 182) K dX6_ith_43 (by decide) rfl (fun hc => ?_) (fun hc => ?_)
      · have h := jit hc h
        refine j_sub [0, 1] rfl ?_
        exact b_X6_ith_182 p0_0 p0_1 p0_2 p0_3 p0_4 p0_5 p0_6 p0_7 p0_8 p0_9 p0_10 p0_11 p0_12 K hrw HR v1 s0 h
      · have h := jif hc h
        refine j_iload_n (pc' := 47) K dX6_ith_46 rfl 1 rfl rfl ?_
        refine j_iload (pc' := 49) K dX6_ith_47 7 rfl rfl ?_
        refine j_isub (pc' := 50) K dX6_ith_49 rfl ?_
        refine j_istore (pc' := 52) (lv' := [(11, .int (v1 - v10)), (0, .ref p0_0), (1, .int v1), (5, .ref p0_8), (6, .int v6), (7, .int v7), (8, .int v8), (9, .int v9), (10, .int v10)]) K dX6_ith_50 (by decide) rfl rfl ?_
        refine j_iconst (pc' := 53) (v := (0 : Int32)) K dX6_ith_52 (by decide) rfl ?_
        refine j_istore (pc' := 55) (lv' := [(12, .int (0 : Int32)), (11, .int (v1 - v10)), (0, .ref p0_0), (1, .int v1), (5, .ref p0_8), (6, .int v6), (7, .int v7), (8, .int v8), (9, .int v9), (10, .int v10)]) K dX6_ith_53 (by decide) rfl rfl ?_
        refine j_sub [2, 3, 4, 5, 6, 7, 8, 9, 1, 0] rfl ?_
        exact b_X6_ith_55b p0_0 p0_1 p0_2 p0_3 p0_4 p0_5 p0_6 p0_7 p0_8 p0_9 p0_10 p0_11 p0_12 K hrw HR (f_X6_ith_33b n) (ih) jFU v1 v6 v7 v8 v9 v10 (v1 - v10) (0 : Int32) s0 h
set_option maxRecDepth 100000 in
set_option maxHeartbeats 4000000 in
theorem b_X6_ith_160c {E : jE} (p0_0 p0_1 p0_2 p0_3 p0_4 p0_5 p0_6 p0_7 p0_8 p0_9 p0_10 p0_11 p0_12 : Nat) {res : Int32 × OrdersS} (K : jC E cX6_ith 16 RX6 4) (hrw : jrw E) (HR : jRI E cX6_ith 16 (wOrders (jg E) p0_0 p0_1 p0_2 p0_3 p0_4 p0_5 p0_6 p0_7 p0_8 p0_9 p0_10 p0_11 p0_12 (res.2)) (res.1)) (k33 : Int32 → Int32 → Int32 → Int32 → Int32 → Int32 → OrdersS → Option (Int32 × OrdersS)) (hk33 : ∀ (v1 : Int32) (v6 : Int32) (v7 : Int32) (v8 : Int32) (v9 : Int32) (v10 : Int32) (s0 : OrdersS), k33 v1 v6 v7 v8 v9 v10 s0 = some res → J E 16 (wOrders (jg E) p0_0 p0_1 p0_2 p0_3 p0_4 p0_5 p0_6 p0_7 p0_8 p0_9 p0_10 p0_11 p0_12 s0) 33 [(0, .ref p0_0), (1, .int v1), (5, .ref p0_10), (6, .int v6), (7, .int v7), (8, .int v8), (9, .int v9), (10, .int v10)] []) : ∀ (v1 : Int32) (v6 : Int32) (v7 : Int32) (v8 : Int32) (v9 : Int32) (v10 : Int32) (s0 : OrdersS), f_X6_ith_160c k33 v1 v6 v7 v8 v9 v10 s0 = some res → J E 16 (wOrders (jg E) p0_0 p0_1 p0_2 p0_3 p0_4 p0_5 p0_6 p0_7 p0_8 p0_9 p0_10 p0_11 p0_12 s0) 160 [(0, .ref p0_0), (1, .int v1), (5, .ref p0_10), (6, .int v6), (7, .int v7), (8, .int v8), (9, .int v9), (10, .int v10)] [] := by
  intro v1 v6 v7 v8 v9 v10 s0 h
  unfold f_X6_ith_160c at h
  refine j_iload (pc' := 162) K dX6_ith_160 6 rfl rfl ?_
  refine j_iconst (pc' := 163) (v := (1 : Int32)) K dX6_ith_162 (by decide) rfl ?_
  refine j_aload_n (pc' := 164) K dX6_ith_163 rfl 0 rfl rfl ?_
  refine j_get (pc' := 167) K dX6_ith_164 inX6 0 rfl rfl 0 (by decide) u_1_142 rfl rfl rfl ?_
  refine j_iload (pc' := 169) K dX6_ith_167 7 rfl rfl ?_
  obtain ⟨hg, h⟩ := jgd_some h
  refine j_iald (pc' := 170) K dX6_ith_169 1 rfl hg rfl ?_
  refine j_ishl (pc' := 171) K dX6_ith_170 rfl ?_
  refine j_iconst (pc' := 172) (v := (-1 : Int32)) K dX6_ith_171 (by decide) rfl ?_
  refine j_ixor (pc' := 173) K dX6_ith_172 rfl ?_
  refine j_iand (pc' := 174) K dX6_ith_173 rfl ?_
  refine j_istore (pc' := 176) (lv' := [(9, .int (v9 &&& (((1 : Int32) <<< (((Orders_row s0) (Int32.toNatClampNeg v10)) &&& 31)) ^^^ (-1 : Int32)))), (0, .ref p0_0), (1, .int v1), (5, .ref p0_10), (6, .int v6), (7, .int v7), (8, .int v8), (10, .int v10)]) K dX6_ith_174 (by decide) rfl rfl ?_
  refine j_iinc (pc' := 179) (j := 7) (v := (v10 + (1 : Int32))) (lv' := [(10, .int (v10 + (1 : Int32))), (9, .int (v9 &&& (((1 : Int32) <<< (((Orders_row s0) (Int32.toNatClampNeg v10)) &&& 31)) ^^^ (-1 : Int32)))), (0, .ref p0_0), (1, .int v1), (5, .ref p0_10), (6, .int v6), (7, .int v7), (8, .int v8)]) K dX6_ith_176 rfl rfl (by decide) rfl rfl ?_
  refine j_goto (tgt := 33) K dX6_ith_179 (by decide) ?_
  refine j_sub [2, 3, 4, 5, 6, 7, 1, 0] rfl ?_
  exact hk33 v1 v6 v7 v8 (v9 &&& (((1 : Int32) <<< (((Orders_row s0) (Int32.toNatClampNeg v10)) &&& 31)) ^^^ (-1 : Int32))) (v10 + (1 : Int32)) s0 h
set_option maxRecDepth 100000 in
set_option maxHeartbeats 4000000 in
theorem b_X6_ith_133c {E : jE} (p0_0 p0_1 p0_2 p0_3 p0_4 p0_5 p0_6 p0_7 p0_8 p0_9 p0_10 p0_11 p0_12 : Nat) {res : Int32 × OrdersS} (K : jC E cX6_ith 16 RX6 4) (hrw : jrw E) (HR : jRI E cX6_ith 16 (wOrders (jg E) p0_0 p0_1 p0_2 p0_3 p0_4 p0_5 p0_6 p0_7 p0_8 p0_9 p0_10 p0_11 p0_12 (res.2)) (res.1)) (k33 : Int32 → Int32 → Int32 → Int32 → Int32 → Int32 → OrdersS → Option (Int32 × OrdersS)) (hk33 : ∀ (v1 : Int32) (v6 : Int32) (v7 : Int32) (v8 : Int32) (v9 : Int32) (v10 : Int32) (s0 : OrdersS), k33 v1 v6 v7 v8 v9 v10 s0 = some res → J E 16 (wOrders (jg E) p0_0 p0_1 p0_2 p0_3 p0_4 p0_5 p0_6 p0_7 p0_8 p0_9 p0_10 p0_11 p0_12 s0) 33 [(0, .ref p0_0), (1, .int v1), (5, .ref p0_10), (6, .int v6), (7, .int v7), (8, .int v8), (9, .int v9), (10, .int v10)] []) : ∀ (v1 : Int32) (v7 : Int32) (v8 : Int32) (v9 : Int32) (v10 : Int32) (v13 : Int32) (v14 : Int32) (s0 : OrdersS), f_X6_ith_133c k33 v1 v7 v8 v9 v10 v13 v14 s0 = some res → J E 16 (wOrders (jg E) p0_0 p0_1 p0_2 p0_3 p0_4 p0_5 p0_6 p0_7 p0_8 p0_9 p0_10 p0_11 p0_12 s0) 133 [(0, .ref p0_0), (1, .int v1), (5, .ref p0_10), (7, .int v7), (8, .int v8), (9, .int v9), (10, .int v10), (13, .int v13), (14, .int v14)] [] := by
  intro v1 v7 v8 v9 v10 v13 v14 s0 h
  unfold f_X6_ith_133c at h
  refine j_iload (pc' := 135) K dX6_ith_133 8 rfl rfl ?_
  refine j_istore (pc' := 137) (lv' := [(6, .int v14), (0, .ref p0_0), (1, .int v1), (5, .ref p0_10), (7, .int v7), (8, .int v8), (9, .int v9), (10, .int v10), (13, .int v13), (14, .int v14)]) K dX6_ith_135 (by decide) rfl rfl ?_
  refine j_iload (pc' := 139) K dX6_ith_137 4 rfl rfl ?_
  refine j_iload (pc' := 141) K dX6_ith_139 8 rfl rfl ?_
  refine j_isub (pc' := 142) K dX6_ith_141 rfl ?_
  refine j_istore (pc' := 144) (lv' := [(7, .int (v7 - v13)), (6, .int v14), (0, .ref p0_0), (1, .int v1), (5, .ref p0_10), (8, .int v8), (9, .int v9), (10, .int v10), (13, .int v13), (14, .int v14)]) K dX6_ith_142 (by decide) rfl rfl ?_
  refine j_goto (tgt := 160) K dX6_ith_144 (by decide) ?_
  refine j_sub [2, 3, 4, 1, 0, 5, 6, 7] rfl ?_
  exact b_X6_ith_160c p0_0 p0_1 p0_2 p0_3 p0_4 p0_5 p0_6 p0_7 p0_8 p0_9 p0_10 p0_11 p0_12 K hrw HR k33 hk33 v1 v14 (v7 - v13) v8 v9 v10 s0 h
set_option maxRecDepth 100000 in
set_option maxHeartbeats 4000000 in
theorem b_X6_ith_55c {E : jE} (p0_0 p0_1 p0_2 p0_3 p0_4 p0_5 p0_6 p0_7 p0_8 p0_9 p0_10 p0_11 p0_12 : Nat) {res : Int32 × OrdersS} (K : jC E cX6_ith 16 RX6 4) (hrw : jrw E) (HR : jRI E cX6_ith 16 (wOrders (jg E) p0_0 p0_1 p0_2 p0_3 p0_4 p0_5 p0_6 p0_7 p0_8 p0_9 p0_10 p0_11 p0_12 (res.2)) (res.1)) (k33 : Int32 → Int32 → Int32 → Int32 → Int32 → Int32 → OrdersS → Option (Int32 × OrdersS)) (hk33 : ∀ (v1 : Int32) (v6 : Int32) (v7 : Int32) (v8 : Int32) (v9 : Int32) (v10 : Int32) (s0 : OrdersS), k33 v1 v6 v7 v8 v9 v10 s0 = some res → J E 16 (wOrders (jg E) p0_0 p0_1 p0_2 p0_3 p0_4 p0_5 p0_6 p0_7 p0_8 p0_9 p0_10 p0_11 p0_12 s0) 33 [(0, .ref p0_0), (1, .int v1), (5, .ref p0_10), (6, .int v6), (7, .int v7), (8, .int v8), (9, .int v9), (10, .int v10)] []) : ∀ (n : Nat) (v1 : Int32) (v6 : Int32) (v7 : Int32) (v8 : Int32) (v9 : Int32) (v10 : Int32) (v11 : Int32) (v12 : Int32) (s0 : OrdersS), f_X6_ith_55c k33 n v1 v6 v7 v8 v9 v10 v11 v12 s0 = some res → J E 16 (wOrders (jg E) p0_0 p0_1 p0_2 p0_3 p0_4 p0_5 p0_6 p0_7 p0_8 p0_9 p0_10 p0_11 p0_12 s0) 55 [(0, .ref p0_0), (1, .int v1), (5, .ref p0_10), (6, .int v6), (7, .int v7), (8, .int v8), (9, .int v9), (10, .int v10), (11, .int v11), (12, .int v12)] [] := by
  intro n
  induction n with
  | zero => intro _ _ _ _ _ _ _ _ _ h; cases h
  | succ n ih =>
    intro v1 v6 v7 v8 v9 v10 v11 v12 s0 h
    rw [f_X6_ith_55c] at h
    refine j_iload (pc' := 57) K dX6_ith_55 9 rfl rfl ?_
    refine j_iload (pc' := 59) K dX6_ith_57 8 rfl rfl ?_
    refine j_icmp_ge (pc' := 62) (tgt := 160) K dX6_ith_59 (by decide) rfl (fun hc => ?_) (fun hc => ?_)
    · have h := jit hc h
      refine j_sub [0, 1, 2, 3, 4, 5, 6, 7] rfl ?_
      exact b_X6_ith_160c p0_0 p0_1 p0_2 p0_3 p0_4 p0_5 p0_6 p0_7 p0_8 p0_9 p0_10 p0_11 p0_12 K hrw HR k33 hk33 v1 v6 v7 v8 v9 v10 s0 h
    · have h := jif hc h
      refine j_aload_n (pc' := 63) K dX6_ith_62 rfl 0 rfl rfl ?_
      refine j_get (pc' := 66) K dX6_ith_63 inX6 0 rfl rfl 0 (by decide) u_1_142 rfl rfl rfl ?_
      refine j_iload (pc' := 68) K dX6_ith_66 7 rfl rfl ?_
      refine j_iload (pc' := 70) K dX6_ith_68 6 rfl rfl ?_
      refine j_iload (pc' := 72) K dX6_ith_70 9 rfl rfl ?_
      obtain ⟨r72, hr72, h⟩ := jbd_some h
      refine j_ro (pc' := 75) K (fun H hP => jrun_S K dX6_ith_72 (M_X6_unusedDigit (jl E) (jg E) v9 v12 hr72) u_3_54 u_3_52 u_3_53 u_1_4 ⟨ok_X6_unusedDigit, by decide, by decide⟩ rfl (Nat.le_of_ble_eq_true rfl) H) [] rfl rfl ?_
      obtain ⟨hg, h⟩ := jgd_some h
      refine j_iast (pc' := 76) (ws' := (wOrders (jg E) p0_0 p0_1 p0_2 p0_3 p0_4 p0_5 p0_6 p0_7 p0_8 p0_9 p0_10 p0_11 p0_12 (Orders_row_s s0 (upd (Orders_row s0) (Int32.toNatClampNeg v10) r72)))) K dX6_ith_75 hrw 1 rfl hg (st_Orders_1 ..) rfl ?_
      refine j_aload (pc' := 78) K dX6_ith_76 2 rfl rfl ?_
      refine j_iload (pc' := 80) K dX6_ith_78 3 rfl rfl ?_
      refine j_iload (pc' := 82) K dX6_ith_80 8 rfl rfl ?_
      refine j_iload (pc' := 84) K dX6_ith_82 9 rfl rfl ?_
      refine j_aload_n (pc' := 85) K dX6_ith_84 rfl 0 rfl rfl ?_
      refine j_get (pc' := 88) K dX6_ith_85 inX6 0 rfl rfl 0 (by decide) u_1_142 rfl rfl rfl ?_
      refine j_iload (pc' := 90) K dX6_ith_88 7 rfl rfl ?_
      obtain ⟨r90, hr90, h⟩ := jbd_some h
      refine j_ro (pc' := 93) K (fun H hP => jrun_A (x := ⟨"CountTriangles$Mark", "growth", "(III[II)I"⟩) K dX6_ith_90 (M_X1_growth (jl E) (jg E) p0_10 p0_1 v6 v11 v12 v10 hr90) u_3_64 u_3_56 u_3_58 u_3_63 u_3_62 u_1_9 (by decide) ⟨okx_growth, by decide, by decide⟩ rfl (Nat.le_of_ble_eq_true rfl) 10 rfl rfl H hP) [] rfl rfl ?_
      refine j_istore (pc' := 95) (lv' := [(13, .int r90), (0, .ref p0_0), (1, .int v1), (5, .ref p0_10), (6, .int v6), (7, .int v7), (8, .int v8), (9, .int v9), (10, .int v10), (11, .int v11), (12, .int v12)]) K dX6_ith_93 (by decide) rfl rfl ?_
      refine j_aload (pc' := 97) K dX6_ith_95 3 rfl rfl ?_
      refine j_iload (pc' := 99) K dX6_ith_97 4 rfl rfl ?_
      refine j_iload (pc' := 101) K dX6_ith_99 9 rfl rfl ?_
      refine j_iload (pc' := 103) K dX6_ith_101 10 rfl rfl ?_
      obtain ⟨r103, hr103, h⟩ := jbd_some h
      refine j_ro (pc' := 106) K (fun H hP => jrun_A (x := ⟨"CountTriangles$Mark", "next", "(III)I"⟩) K dX6_ith_103 (M_X1_next (jl E) (jg E) p0_10 v6 v11 v12 hr103) u_3_86 u_3_78 u_3_80 u_3_85 u_3_84 u_1_9 (by decide) ⟨okx_next, by decide, by decide⟩ rfl (Nat.le_of_ble_eq_true rfl) 10 rfl rfl H hP) [] rfl rfl ?_
      refine j_istore (pc' := 108) (lv' := [(14, .int r103), (13, .int r90), (0, .ref p0_0), (1, .int v1), (5, .ref p0_10), (6, .int v6), (7, .int v7), (8, .int v8), (9, .int v9), (10, .int v10), (11, .int v11), (12, .int v12)]) K dX6_ith_106 (by decide) rfl rfl ?_
      refine j_aload (pc' := 110) K dX6_ith_108 4 rfl rfl ?_
      refine j_iload (pc' := 112) K dX6_ith_110 0 rfl rfl ?_
      refine j_iload (pc' := 114) K dX6_ith_112 10 rfl rfl ?_
      refine j_iconst (pc' := 115) (v := (1 : Int32)) K dX6_ith_114 (by decide) rfl ?_
      refine j_isub (pc' := 116) K dX6_ith_115 rfl ?_
      refine j_iload (pc' := 118) K dX6_ith_116 6 rfl rfl ?_
      refine j_iload (pc' := 120) K dX6_ith_118 1 rfl rfl ?_
      refine j_isub (pc' := 121) K dX6_ith_120 rfl ?_
      obtain ⟨r121, hr121, h⟩ := jbd_some h
      refine j_ro (pc' := 124) K (fun H hP => jrun_A (x := ⟨"CountTriangles$Mark", "ways", "(III)I"⟩) K dX6_ith_121 (M_X1_ways (jl E) (jg E) p0_10 p0_4 p0_5 r103 (v11 - (1 : Int32)) (v7 - r90) (Orders_rings (Orders_row_s s0 (upd (Orders_row s0) (Int32.toNatClampNeg v10) r72))) hr121) u_3_20 u_3_14 u_3_16 u_3_19 u_3_18 u_1_9 (by decide) ⟨okx_ways, by decide, by decide⟩ rfl (Nat.le_of_ble_eq_true rfl) 10 rfl rfl H hP) [10, 4, 5] (cl_7_f ..) rfl ?_
      refine j_istore (pc' := 126) (lv' := [(15, .int r121), (14, .int r103), (13, .int r90), (0, .ref p0_0), (1, .int v1), (5, .ref p0_10), (6, .int v6), (7, .int v7), (8, .int v8), (9, .int v9), (10, .int v10), (11, .int v11), (12, .int v12)]) K dX6_ith_124 (by decide) rfl rfl ?_
      refine j_iload (pc' := 128) K dX6_ith_126 8 rfl rfl ?_
      refine j_iload (pc' := 130) K dX6_ith_128 0 rfl rfl ?_
      refine j_icmp_ge (pc' := 133) (tgt := 147) K dX6_ith_130 (by decide) rfl (fun hc => ?_) (fun hc => ?_)
      · have h := jit hc h
        refine j_iload (pc' := 149) K dX6_ith_147 8 rfl rfl ?_
        refine j_iload (pc' := 151) K dX6_ith_149 0 rfl rfl ?_
        refine j_isub (pc' := 152) K dX6_ith_151 rfl ?_
        refine j_istore (pc' := 154) (lv' := [(8, .int (v8 - r121)), (15, .int r121), (14, .int r103), (13, .int r90), (0, .ref p0_0), (1, .int v1), (5, .ref p0_10), (6, .int v6), (7, .int v7), (9, .int v9), (10, .int v10), (11, .int v11), (12, .int v12)]) K dX6_ith_152 (by decide) rfl rfl ?_
        refine j_iinc (pc' := 157) (j := 12) (v := (v12 + (1 : Int32))) (lv' := [(12, .int (v12 + (1 : Int32))), (8, .int (v8 - r121)), (15, .int r121), (14, .int r103), (13, .int r90), (0, .ref p0_0), (1, .int v1), (5, .ref p0_10), (6, .int v6), (7, .int v7), (9, .int v9), (10, .int v10), (11, .int v11)]) K dX6_ith_154 rfl rfl (by decide) rfl rfl ?_
        refine j_goto (tgt := 55) K dX6_ith_157 (by decide) ?_
        refine j_sub [5, 6, 7, 8, 9, 1, 10, 11, 12, 0] rfl ?_
        exact ih v1 v6 v7 (v8 - r121) v9 v10 v11 (v12 + (1 : Int32)) (Orders_row_s s0 (upd (Orders_row s0) (Int32.toNatClampNeg v10) r72)) h
      · have h := jif hc h
        refine j_sub [3, 4, 5, 7, 8, 9, 10, 2, 1] rfl ?_
        exact b_X6_ith_133c p0_0 p0_1 p0_2 p0_3 p0_4 p0_5 p0_6 p0_7 p0_8 p0_9 p0_10 p0_11 p0_12 K hrw HR k33 hk33 v1 v7 v8 v9 v10 r90 r103 (Orders_row_s s0 (upd (Orders_row s0) (Int32.toNatClampNeg v10) r72)) h
set_option maxRecDepth 100000 in
set_option maxHeartbeats 4000000 in
theorem b_X6_ith_33c {E : jE} (p0_0 p0_1 p0_2 p0_3 p0_4 p0_5 p0_6 p0_7 p0_8 p0_9 p0_10 p0_11 p0_12 : Nat) {res : Int32 × OrdersS} (K : jC E cX6_ith 16 RX6 4) (hrw : jrw E) (HR : jRI E cX6_ith 16 (wOrders (jg E) p0_0 p0_1 p0_2 p0_3 p0_4 p0_5 p0_6 p0_7 p0_8 p0_9 p0_10 p0_11 p0_12 (res.2)) (res.1)) : ∀ (n : Nat) (v1 : Int32) (v6 : Int32) (v7 : Int32) (v8 : Int32) (v9 : Int32) (v10 : Int32) (s0 : OrdersS), f_X6_ith_33c n v1 v6 v7 v8 v9 v10 s0 = some res → J E 16 (wOrders (jg E) p0_0 p0_1 p0_2 p0_3 p0_4 p0_5 p0_6 p0_7 p0_8 p0_9 p0_10 p0_11 p0_12 s0) 33 [(0, .ref p0_0), (1, .int v1), (5, .ref p0_10), (6, .int v6), (7, .int v7), (8, .int v8), (9, .int v9), (10, .int v10)] [] := by
  intro n
  induction n with
  | zero => intro _ _ _ _ _ _ _ h; cases h
  | succ n ih =>
    intro v1 v6 v7 v8 v9 v10 s0 h
    rw [f_X6_ith_33c] at h
    refine j_iload (pc' := 35) K dX6_ith_33 7 rfl rfl ?_
    refine j_iload_n (pc' := 36) K dX6_ith_35 rfl 1 rfl rfl ?_
    refine j_icmp_ge (pc' := 39) (tgt := 182) K dX6_ith_36 (by decide) rfl (fun hc => ?_) (fun hc => ?_)
    · have h := jit hc h
      refine j_sub [0, 1] rfl ?_
      exact b_X6_ith_182 p0_0 p0_1 p0_2 p0_3 p0_4 p0_5 p0_6 p0_7 p0_8 p0_9 p0_10 p0_11 p0_12 K hrw HR v1 s0 h
    · have h := jif hc h
      refine j_iload (pc' := 41) K dX6_ith_39 7 rfl rfl ?_
      refine j_bipush (pc' := 43) (v := (8 : Int32)) K dX6_ith_41 (by decide) rfl ?_
      refine j_icmp_ge (pc' := 46) (tgt := 182) K dX6_ith_43 (by decide) rfl (fun hc => ?_) (fun hc => ?_)
      · have h := jit hc h
        refine j_sub [0, 1] rfl ?_
        exact b_X6_ith_182 p0_0 p0_1 p0_2 p0_3 p0_4 p0_5 p0_6 p0_7 p0_8 p0_9 p0_10 p0_11 p0_12 K hrw HR v1 s0 h
      · have h := jif hc h
        refine j_iload_n (pc' := 47) K dX6_ith_46 rfl 1 rfl rfl ?_
        refine j_iload (pc' := 49) K dX6_ith_47 7 rfl rfl ?_
        refine j_isub (pc' := 50) K dX6_ith_49 rfl ?_
        refine j_istore (pc' := 52) (lv' := [(11, .int (v1 - v10)), (0, .ref p0_0), (1, .int v1), (5, .ref p0_10), (6, .int v6), (7, .int v7), (8, .int v8), (9, .int v9), (10, .int v10)]) K dX6_ith_50 (by decide) rfl rfl ?_
        refine j_iconst (pc' := 53) (v := (0 : Int32)) K dX6_ith_52 (by decide) rfl ?_
        refine j_istore (pc' := 55) (lv' := [(12, .int (0 : Int32)), (11, .int (v1 - v10)), (0, .ref p0_0), (1, .int v1), (5, .ref p0_10), (6, .int v6), (7, .int v7), (8, .int v8), (9, .int v9), (10, .int v10)]) K dX6_ith_53 (by decide) rfl rfl ?_
        refine j_sub [2, 3, 4, 5, 6, 7, 8, 9, 1, 0] rfl ?_
        exact b_X6_ith_55c p0_0 p0_1 p0_2 p0_3 p0_4 p0_5 p0_6 p0_7 p0_8 p0_9 p0_10 p0_11 p0_12 K hrw HR (f_X6_ith_33c n) (ih) jFU v1 v6 v7 v8 v9 v10 (v1 - v10) (0 : Int32) s0 h
set_option maxRecDepth 100000 in
set_option maxHeartbeats 4000000 in
theorem b_X6_ith_160d {E : jE} (p0_0 p0_1 p0_2 p0_3 p0_4 p0_5 p0_6 p0_7 p0_8 p0_9 p0_10 p0_11 p0_12 : Nat) {res : Int32 × OrdersS} (K : jC E cX6_ith 16 RX6 4) (hrw : jrw E) (HR : jRI E cX6_ith 16 (wOrders (jg E) p0_0 p0_1 p0_2 p0_3 p0_4 p0_5 p0_6 p0_7 p0_8 p0_9 p0_10 p0_11 p0_12 (res.2)) (res.1)) (k33 : Int32 → Int32 → Int32 → Int32 → Int32 → Int32 → OrdersS → Option (Int32 × OrdersS)) (hk33 : ∀ (v1 : Int32) (v6 : Int32) (v7 : Int32) (v8 : Int32) (v9 : Int32) (v10 : Int32) (s0 : OrdersS), k33 v1 v6 v7 v8 v9 v10 s0 = some res → J E 16 (wOrders (jg E) p0_0 p0_1 p0_2 p0_3 p0_4 p0_5 p0_6 p0_7 p0_8 p0_9 p0_10 p0_11 p0_12 s0) 33 [(0, .ref p0_0), (1, .int v1), (5, .ref p0_11), (6, .int v6), (7, .int v7), (8, .int v8), (9, .int v9), (10, .int v10)] []) : ∀ (v1 : Int32) (v6 : Int32) (v7 : Int32) (v8 : Int32) (v9 : Int32) (v10 : Int32) (s0 : OrdersS), f_X6_ith_160d k33 v1 v6 v7 v8 v9 v10 s0 = some res → J E 16 (wOrders (jg E) p0_0 p0_1 p0_2 p0_3 p0_4 p0_5 p0_6 p0_7 p0_8 p0_9 p0_10 p0_11 p0_12 s0) 160 [(0, .ref p0_0), (1, .int v1), (5, .ref p0_11), (6, .int v6), (7, .int v7), (8, .int v8), (9, .int v9), (10, .int v10)] [] := by
  intro v1 v6 v7 v8 v9 v10 s0 h
  unfold f_X6_ith_160d at h
  refine j_iload (pc' := 162) K dX6_ith_160 6 rfl rfl ?_
  refine j_iconst (pc' := 163) (v := (1 : Int32)) K dX6_ith_162 (by decide) rfl ?_
  refine j_aload_n (pc' := 164) K dX6_ith_163 rfl 0 rfl rfl ?_
  refine j_get (pc' := 167) K dX6_ith_164 inX6 0 rfl rfl 0 (by decide) u_1_142 rfl rfl rfl ?_
  refine j_iload (pc' := 169) K dX6_ith_167 7 rfl rfl ?_
  obtain ⟨hg, h⟩ := jgd_some h
  refine j_iald (pc' := 170) K dX6_ith_169 1 rfl hg rfl ?_
  refine j_ishl (pc' := 171) K dX6_ith_170 rfl ?_
  refine j_iconst (pc' := 172) (v := (-1 : Int32)) K dX6_ith_171 (by decide) rfl ?_
  refine j_ixor (pc' := 173) K dX6_ith_172 rfl ?_
  refine j_iand (pc' := 174) K dX6_ith_173 rfl ?_
  refine j_istore (pc' := 176) (lv' := [(9, .int (v9 &&& (((1 : Int32) <<< (((Orders_row s0) (Int32.toNatClampNeg v10)) &&& 31)) ^^^ (-1 : Int32)))), (0, .ref p0_0), (1, .int v1), (5, .ref p0_11), (6, .int v6), (7, .int v7), (8, .int v8), (10, .int v10)]) K dX6_ith_174 (by decide) rfl rfl ?_
  refine j_iinc (pc' := 179) (j := 7) (v := (v10 + (1 : Int32))) (lv' := [(10, .int (v10 + (1 : Int32))), (9, .int (v9 &&& (((1 : Int32) <<< (((Orders_row s0) (Int32.toNatClampNeg v10)) &&& 31)) ^^^ (-1 : Int32)))), (0, .ref p0_0), (1, .int v1), (5, .ref p0_11), (6, .int v6), (7, .int v7), (8, .int v8)]) K dX6_ith_176 rfl rfl (by decide) rfl rfl ?_
  refine j_goto (tgt := 33) K dX6_ith_179 (by decide) ?_
  refine j_sub [2, 3, 4, 5, 6, 7, 1, 0] rfl ?_
  exact hk33 v1 v6 v7 v8 (v9 &&& (((1 : Int32) <<< (((Orders_row s0) (Int32.toNatClampNeg v10)) &&& 31)) ^^^ (-1 : Int32))) (v10 + (1 : Int32)) s0 h
set_option maxRecDepth 100000 in
set_option maxHeartbeats 4000000 in
theorem b_X6_ith_133d {E : jE} (p0_0 p0_1 p0_2 p0_3 p0_4 p0_5 p0_6 p0_7 p0_8 p0_9 p0_10 p0_11 p0_12 : Nat) {res : Int32 × OrdersS} (K : jC E cX6_ith 16 RX6 4) (hrw : jrw E) (HR : jRI E cX6_ith 16 (wOrders (jg E) p0_0 p0_1 p0_2 p0_3 p0_4 p0_5 p0_6 p0_7 p0_8 p0_9 p0_10 p0_11 p0_12 (res.2)) (res.1)) (k33 : Int32 → Int32 → Int32 → Int32 → Int32 → Int32 → OrdersS → Option (Int32 × OrdersS)) (hk33 : ∀ (v1 : Int32) (v6 : Int32) (v7 : Int32) (v8 : Int32) (v9 : Int32) (v10 : Int32) (s0 : OrdersS), k33 v1 v6 v7 v8 v9 v10 s0 = some res → J E 16 (wOrders (jg E) p0_0 p0_1 p0_2 p0_3 p0_4 p0_5 p0_6 p0_7 p0_8 p0_9 p0_10 p0_11 p0_12 s0) 33 [(0, .ref p0_0), (1, .int v1), (5, .ref p0_11), (6, .int v6), (7, .int v7), (8, .int v8), (9, .int v9), (10, .int v10)] []) : ∀ (v1 : Int32) (v7 : Int32) (v8 : Int32) (v9 : Int32) (v10 : Int32) (v13 : Int32) (v14 : Int32) (s0 : OrdersS), f_X6_ith_133d k33 v1 v7 v8 v9 v10 v13 v14 s0 = some res → J E 16 (wOrders (jg E) p0_0 p0_1 p0_2 p0_3 p0_4 p0_5 p0_6 p0_7 p0_8 p0_9 p0_10 p0_11 p0_12 s0) 133 [(0, .ref p0_0), (1, .int v1), (5, .ref p0_11), (7, .int v7), (8, .int v8), (9, .int v9), (10, .int v10), (13, .int v13), (14, .int v14)] [] := by
  intro v1 v7 v8 v9 v10 v13 v14 s0 h
  unfold f_X6_ith_133d at h
  refine j_iload (pc' := 135) K dX6_ith_133 8 rfl rfl ?_
  refine j_istore (pc' := 137) (lv' := [(6, .int v14), (0, .ref p0_0), (1, .int v1), (5, .ref p0_11), (7, .int v7), (8, .int v8), (9, .int v9), (10, .int v10), (13, .int v13), (14, .int v14)]) K dX6_ith_135 (by decide) rfl rfl ?_
  refine j_iload (pc' := 139) K dX6_ith_137 4 rfl rfl ?_
  refine j_iload (pc' := 141) K dX6_ith_139 8 rfl rfl ?_
  refine j_isub (pc' := 142) K dX6_ith_141 rfl ?_
  refine j_istore (pc' := 144) (lv' := [(7, .int (v7 - v13)), (6, .int v14), (0, .ref p0_0), (1, .int v1), (5, .ref p0_11), (8, .int v8), (9, .int v9), (10, .int v10), (13, .int v13), (14, .int v14)]) K dX6_ith_142 (by decide) rfl rfl ?_
  refine j_goto (tgt := 160) K dX6_ith_144 (by decide) ?_
  refine j_sub [2, 3, 4, 1, 0, 5, 6, 7] rfl ?_
  exact b_X6_ith_160d p0_0 p0_1 p0_2 p0_3 p0_4 p0_5 p0_6 p0_7 p0_8 p0_9 p0_10 p0_11 p0_12 K hrw HR k33 hk33 v1 v14 (v7 - v13) v8 v9 v10 s0 h
set_option maxRecDepth 100000 in
set_option maxHeartbeats 4000000 in
theorem b_X6_ith_55d {E : jE} (p0_0 p0_1 p0_2 p0_3 p0_4 p0_5 p0_6 p0_7 p0_8 p0_9 p0_10 p0_11 p0_12 : Nat) {res : Int32 × OrdersS} (K : jC E cX6_ith 16 RX6 4) (hrw : jrw E) (HR : jRI E cX6_ith 16 (wOrders (jg E) p0_0 p0_1 p0_2 p0_3 p0_4 p0_5 p0_6 p0_7 p0_8 p0_9 p0_10 p0_11 p0_12 (res.2)) (res.1)) (k33 : Int32 → Int32 → Int32 → Int32 → Int32 → Int32 → OrdersS → Option (Int32 × OrdersS)) (hk33 : ∀ (v1 : Int32) (v6 : Int32) (v7 : Int32) (v8 : Int32) (v9 : Int32) (v10 : Int32) (s0 : OrdersS), k33 v1 v6 v7 v8 v9 v10 s0 = some res → J E 16 (wOrders (jg E) p0_0 p0_1 p0_2 p0_3 p0_4 p0_5 p0_6 p0_7 p0_8 p0_9 p0_10 p0_11 p0_12 s0) 33 [(0, .ref p0_0), (1, .int v1), (5, .ref p0_11), (6, .int v6), (7, .int v7), (8, .int v8), (9, .int v9), (10, .int v10)] []) : ∀ (n : Nat) (v1 : Int32) (v6 : Int32) (v7 : Int32) (v8 : Int32) (v9 : Int32) (v10 : Int32) (v11 : Int32) (v12 : Int32) (s0 : OrdersS), f_X6_ith_55d k33 n v1 v6 v7 v8 v9 v10 v11 v12 s0 = some res → J E 16 (wOrders (jg E) p0_0 p0_1 p0_2 p0_3 p0_4 p0_5 p0_6 p0_7 p0_8 p0_9 p0_10 p0_11 p0_12 s0) 55 [(0, .ref p0_0), (1, .int v1), (5, .ref p0_11), (6, .int v6), (7, .int v7), (8, .int v8), (9, .int v9), (10, .int v10), (11, .int v11), (12, .int v12)] [] := by
  intro n
  induction n with
  | zero => intro _ _ _ _ _ _ _ _ _ h; cases h
  | succ n ih =>
    intro v1 v6 v7 v8 v9 v10 v11 v12 s0 h
    rw [f_X6_ith_55d] at h
    refine j_iload (pc' := 57) K dX6_ith_55 9 rfl rfl ?_
    refine j_iload (pc' := 59) K dX6_ith_57 8 rfl rfl ?_
    refine j_icmp_ge (pc' := 62) (tgt := 160) K dX6_ith_59 (by decide) rfl (fun hc => ?_) (fun hc => ?_)
    · have h := jit hc h
      refine j_sub [0, 1, 2, 3, 4, 5, 6, 7] rfl ?_
      exact b_X6_ith_160d p0_0 p0_1 p0_2 p0_3 p0_4 p0_5 p0_6 p0_7 p0_8 p0_9 p0_10 p0_11 p0_12 K hrw HR k33 hk33 v1 v6 v7 v8 v9 v10 s0 h
    · have h := jif hc h
      refine j_aload_n (pc' := 63) K dX6_ith_62 rfl 0 rfl rfl ?_
      refine j_get (pc' := 66) K dX6_ith_63 inX6 0 rfl rfl 0 (by decide) u_1_142 rfl rfl rfl ?_
      refine j_iload (pc' := 68) K dX6_ith_66 7 rfl rfl ?_
      refine j_iload (pc' := 70) K dX6_ith_68 6 rfl rfl ?_
      refine j_iload (pc' := 72) K dX6_ith_70 9 rfl rfl ?_
      obtain ⟨r72, hr72, h⟩ := jbd_some h
      refine j_ro (pc' := 75) K (fun H hP => jrun_S K dX6_ith_72 (M_X6_unusedDigit (jl E) (jg E) v9 v12 hr72) u_3_54 u_3_52 u_3_53 u_1_4 ⟨ok_X6_unusedDigit, by decide, by decide⟩ rfl (Nat.le_of_ble_eq_true rfl) H) [] rfl rfl ?_
      obtain ⟨hg, h⟩ := jgd_some h
      refine j_iast (pc' := 76) (ws' := (wOrders (jg E) p0_0 p0_1 p0_2 p0_3 p0_4 p0_5 p0_6 p0_7 p0_8 p0_9 p0_10 p0_11 p0_12 (Orders_row_s s0 (upd (Orders_row s0) (Int32.toNatClampNeg v10) r72)))) K dX6_ith_75 hrw 1 rfl hg (st_Orders_1 ..) rfl ?_
      refine j_aload (pc' := 78) K dX6_ith_76 2 rfl rfl ?_
      refine j_iload (pc' := 80) K dX6_ith_78 3 rfl rfl ?_
      refine j_iload (pc' := 82) K dX6_ith_80 8 rfl rfl ?_
      refine j_iload (pc' := 84) K dX6_ith_82 9 rfl rfl ?_
      refine j_aload_n (pc' := 85) K dX6_ith_84 rfl 0 rfl rfl ?_
      refine j_get (pc' := 88) K dX6_ith_85 inX6 0 rfl rfl 0 (by decide) u_1_142 rfl rfl rfl ?_
      refine j_iload (pc' := 90) K dX6_ith_88 7 rfl rfl ?_
      obtain ⟨r90, hr90, h⟩ := jbd_some h
      refine j_ro (pc' := 93) K (fun H hP => jrun_A (x := ⟨"CountTriangles$Mark", "growth", "(III[II)I"⟩) K dX6_ith_90 (M_X4_growth (jl E) (jg E) p0_11 p0_12 p0_1 v6 v11 v12 v10 (Orders_rise (Orders_row_s s0 (upd (Orders_row s0) (Int32.toNatClampNeg v10) r72))) hr90) u_3_70 u_3_56 u_3_58 u_3_69 u_3_68 u_1_10 (by decide) ⟨okx_growth, by decide, by decide⟩ rfl (Nat.le_of_ble_eq_true rfl) 11 rfl rfl H hP) [11, 12] (cl_10_f ..) rfl ?_
      refine j_istore (pc' := 95) (lv' := [(13, .int r90), (0, .ref p0_0), (1, .int v1), (5, .ref p0_11), (6, .int v6), (7, .int v7), (8, .int v8), (9, .int v9), (10, .int v10), (11, .int v11), (12, .int v12)]) K dX6_ith_93 (by decide) rfl rfl ?_
      refine j_aload (pc' := 97) K dX6_ith_95 3 rfl rfl ?_
      refine j_iload (pc' := 99) K dX6_ith_97 4 rfl rfl ?_
      refine j_iload (pc' := 101) K dX6_ith_99 9 rfl rfl ?_
      refine j_iload (pc' := 103) K dX6_ith_101 10 rfl rfl ?_
      obtain ⟨r103, hr103, h⟩ := jbd_some h
      refine j_ro (pc' := 106) K (fun H hP => jrun_A (x := ⟨"CountTriangles$Mark", "next", "(III)I"⟩) K dX6_ith_103 (M_X4_next (jl E) (jg E) p0_11 v6 v11 v12 hr103) u_3_74 u_3_78 u_3_80 u_3_72 u_3_91 u_1_10 (by decide) ⟨okx_next, by decide, by decide⟩ rfl (Nat.le_of_ble_eq_true rfl) 11 rfl rfl H hP) [] rfl rfl ?_
      refine j_istore (pc' := 108) (lv' := [(14, .int r103), (13, .int r90), (0, .ref p0_0), (1, .int v1), (5, .ref p0_11), (6, .int v6), (7, .int v7), (8, .int v8), (9, .int v9), (10, .int v10), (11, .int v11), (12, .int v12)]) K dX6_ith_106 (by decide) rfl rfl ?_
      refine j_aload (pc' := 110) K dX6_ith_108 4 rfl rfl ?_
      refine j_iload (pc' := 112) K dX6_ith_110 0 rfl rfl ?_
      refine j_iload (pc' := 114) K dX6_ith_112 10 rfl rfl ?_
      refine j_iconst (pc' := 115) (v := (1 : Int32)) K dX6_ith_114 (by decide) rfl ?_
      refine j_isub (pc' := 116) K dX6_ith_115 rfl ?_
      refine j_iload (pc' := 118) K dX6_ith_116 6 rfl rfl ?_
      refine j_iload (pc' := 120) K dX6_ith_118 1 rfl rfl ?_
      refine j_isub (pc' := 121) K dX6_ith_120 rfl ?_
      obtain ⟨r121, hr121, h⟩ := jbd_some h
      refine j_rw (pc' := 124) (ws' := (wOrders (jg E) p0_0 p0_1 p0_2 p0_3 p0_4 p0_5 p0_6 p0_7 p0_8 p0_9 p0_10 p0_11 p0_12 (Orders_rise_s (Orders_row_s s0 (upd (Orders_row s0) (Int32.toNatClampNeg v10) r72)) (r121.2)))) K (fun H hP => jrun_A (x := ⟨"CountTriangles$Mark", "ways", "(III)I"⟩) K dX6_ith_121 (M_X4_ways (jl E) (jg E) p0_11 p0_12 r103 (v11 - (1 : Int32)) (v7 - r90) (Orders_rise (Orders_row_s s0 (upd (Orders_row s0) (Int32.toNatClampNeg v10) r72))) hr121) u_3_28 u_3_14 u_3_16 u_3_27 u_3_26 u_1_10 (by decide) ⟨okx_ways, by decide, by decide⟩ rfl (Nat.le_of_ble_eq_true rfl) 11 rfl rfl H hP) hrw [11, 12] rfl (cl_8_s ..) rfl (cl_8_m ..) (ad_Orders ..) rfl ?_
      refine j_istore (pc' := 126) (lv' := [(15, .int (r121.1)), (14, .int r103), (13, .int r90), (0, .ref p0_0), (1, .int v1), (5, .ref p0_11), (6, .int v6), (7, .int v7), (8, .int v8), (9, .int v9), (10, .int v10), (11, .int v11), (12, .int v12)]) K dX6_ith_124 (by decide) rfl rfl ?_
      refine j_iload (pc' := 128) K dX6_ith_126 8 rfl rfl ?_
      refine j_iload (pc' := 130) K dX6_ith_128 0 rfl rfl ?_
      refine j_icmp_ge (pc' := 133) (tgt := 147) K dX6_ith_130 (by decide) rfl (fun hc => ?_) (fun hc => ?_)
      · have h := jit hc h
        refine j_iload (pc' := 149) K dX6_ith_147 8 rfl rfl ?_
        refine j_iload (pc' := 151) K dX6_ith_149 0 rfl rfl ?_
        refine j_isub (pc' := 152) K dX6_ith_151 rfl ?_
        refine j_istore (pc' := 154) (lv' := [(8, .int (v8 - (r121.1))), (15, .int (r121.1)), (14, .int r103), (13, .int r90), (0, .ref p0_0), (1, .int v1), (5, .ref p0_11), (6, .int v6), (7, .int v7), (9, .int v9), (10, .int v10), (11, .int v11), (12, .int v12)]) K dX6_ith_152 (by decide) rfl rfl ?_
        refine j_iinc (pc' := 157) (j := 12) (v := (v12 + (1 : Int32))) (lv' := [(12, .int (v12 + (1 : Int32))), (8, .int (v8 - (r121.1))), (15, .int (r121.1)), (14, .int r103), (13, .int r90), (0, .ref p0_0), (1, .int v1), (5, .ref p0_11), (6, .int v6), (7, .int v7), (9, .int v9), (10, .int v10), (11, .int v11)]) K dX6_ith_154 rfl rfl (by decide) rfl rfl ?_
        refine j_goto (tgt := 55) K dX6_ith_157 (by decide) ?_
        refine j_sub [5, 6, 7, 8, 9, 1, 10, 11, 12, 0] rfl ?_
        exact ih v1 v6 v7 (v8 - (r121.1)) v9 v10 v11 (v12 + (1 : Int32)) (Orders_rise_s (Orders_row_s s0 (upd (Orders_row s0) (Int32.toNatClampNeg v10) r72)) (r121.2)) h
      · have h := jif hc h
        refine j_sub [3, 4, 5, 7, 8, 9, 10, 2, 1] rfl ?_
        exact b_X6_ith_133d p0_0 p0_1 p0_2 p0_3 p0_4 p0_5 p0_6 p0_7 p0_8 p0_9 p0_10 p0_11 p0_12 K hrw HR k33 hk33 v1 v7 v8 v9 v10 r90 r103 (Orders_rise_s (Orders_row_s s0 (upd (Orders_row s0) (Int32.toNatClampNeg v10) r72)) (r121.2)) h
set_option maxRecDepth 100000 in
set_option maxHeartbeats 4000000 in
theorem b_X6_ith_33d {E : jE} (p0_0 p0_1 p0_2 p0_3 p0_4 p0_5 p0_6 p0_7 p0_8 p0_9 p0_10 p0_11 p0_12 : Nat) {res : Int32 × OrdersS} (K : jC E cX6_ith 16 RX6 4) (hrw : jrw E) (HR : jRI E cX6_ith 16 (wOrders (jg E) p0_0 p0_1 p0_2 p0_3 p0_4 p0_5 p0_6 p0_7 p0_8 p0_9 p0_10 p0_11 p0_12 (res.2)) (res.1)) : ∀ (n : Nat) (v1 : Int32) (v6 : Int32) (v7 : Int32) (v8 : Int32) (v9 : Int32) (v10 : Int32) (s0 : OrdersS), f_X6_ith_33d n v1 v6 v7 v8 v9 v10 s0 = some res → J E 16 (wOrders (jg E) p0_0 p0_1 p0_2 p0_3 p0_4 p0_5 p0_6 p0_7 p0_8 p0_9 p0_10 p0_11 p0_12 s0) 33 [(0, .ref p0_0), (1, .int v1), (5, .ref p0_11), (6, .int v6), (7, .int v7), (8, .int v8), (9, .int v9), (10, .int v10)] [] := by
  intro n
  induction n with
  | zero => intro _ _ _ _ _ _ _ h; cases h
  | succ n ih =>
    intro v1 v6 v7 v8 v9 v10 s0 h
    rw [f_X6_ith_33d] at h
    refine j_iload (pc' := 35) K dX6_ith_33 7 rfl rfl ?_
    refine j_iload_n (pc' := 36) K dX6_ith_35 rfl 1 rfl rfl ?_
    refine j_icmp_ge (pc' := 39) (tgt := 182) K dX6_ith_36 (by decide) rfl (fun hc => ?_) (fun hc => ?_)
    · have h := jit hc h
      refine j_sub [0, 1] rfl ?_
      exact b_X6_ith_182 p0_0 p0_1 p0_2 p0_3 p0_4 p0_5 p0_6 p0_7 p0_8 p0_9 p0_10 p0_11 p0_12 K hrw HR v1 s0 h
    · have h := jif hc h
      refine j_iload (pc' := 41) K dX6_ith_39 7 rfl rfl ?_
      refine j_bipush (pc' := 43) (v := (8 : Int32)) K dX6_ith_41 (by decide) rfl ?_
      refine j_icmp_ge (pc' := 46) (tgt := 182) K dX6_ith_43 (by decide) rfl (fun hc => ?_) (fun hc => ?_)
      · have h := jit hc h
        refine j_sub [0, 1] rfl ?_
        exact b_X6_ith_182 p0_0 p0_1 p0_2 p0_3 p0_4 p0_5 p0_6 p0_7 p0_8 p0_9 p0_10 p0_11 p0_12 K hrw HR v1 s0 h
      · have h := jif hc h
        refine j_iload_n (pc' := 47) K dX6_ith_46 rfl 1 rfl rfl ?_
        refine j_iload (pc' := 49) K dX6_ith_47 7 rfl rfl ?_
        refine j_isub (pc' := 50) K dX6_ith_49 rfl ?_
        refine j_istore (pc' := 52) (lv' := [(11, .int (v1 - v10)), (0, .ref p0_0), (1, .int v1), (5, .ref p0_11), (6, .int v6), (7, .int v7), (8, .int v8), (9, .int v9), (10, .int v10)]) K dX6_ith_50 (by decide) rfl rfl ?_
        refine j_iconst (pc' := 53) (v := (0 : Int32)) K dX6_ith_52 (by decide) rfl ?_
        refine j_istore (pc' := 55) (lv' := [(12, .int (0 : Int32)), (11, .int (v1 - v10)), (0, .ref p0_0), (1, .int v1), (5, .ref p0_11), (6, .int v6), (7, .int v7), (8, .int v8), (9, .int v9), (10, .int v10)]) K dX6_ith_53 (by decide) rfl rfl ?_
        refine j_sub [2, 3, 4, 5, 6, 7, 8, 9, 1, 0] rfl ?_
        exact b_X6_ith_55d p0_0 p0_1 p0_2 p0_3 p0_4 p0_5 p0_6 p0_7 p0_8 p0_9 p0_10 p0_11 p0_12 K hrw HR (f_X6_ith_33d n) (ih) jFU v1 v6 v7 v8 v9 v10 (v1 - v10) (0 : Int32) s0 h
set_option maxRecDepth 100000 in
set_option maxHeartbeats 4000000 in
theorem b_X6_ith {E : jE} (p0_0 p0_1 p0_2 p0_3 p0_4 p0_5 p0_6 p0_7 p0_8 p0_9 p0_10 p0_11 p0_12 : Nat) {res : Int32 × OrdersS} (K : jC E cX6_ith 16 RX6 4) (hrw : jrw E) (HR : jRI E cX6_ith 16 (wOrders (jg E) p0_0 p0_1 p0_2 p0_3 p0_4 p0_5 p0_6 p0_7 p0_8 p0_9 p0_10 p0_11 p0_12 (res.2)) (res.1)) : ∀ (v1 : Int32) (v2 : Int32) (v3 : Int32) (v4 : Int32) (s0 : OrdersS), f_X6_ith v1 v2 v3 v4 s0 = some res → J E 16 (wOrders (jg E) p0_0 p0_1 p0_2 p0_3 p0_4 p0_5 p0_6 p0_7 p0_8 p0_9 p0_10 p0_11 p0_12 s0) 0 [(0, .ref p0_0), (1, .int v1), (2, .int v2), (3, .int v3), (4, .int v4)] [] := by
  intro v1 v2 v3 v4 s0 h
  unfold f_X6_ith at h
  refine j_aload_n (pc' := 1) K dX6_ith_0 rfl 0 rfl rfl ?_
  refine j_get (pc' := 4) K dX6_ith_1 inX6 0 rfl rfl 2 (by decide) u_1_144 rfl rfl rfl ?_
  refine j_iload_n (pc' := 5) K dX6_ith_4 rfl 2 rfl rfl ?_
  obtain ⟨hg, h⟩ := jgd_some h
  by_cases hc : v2 = 0
  · have h := jit hc h
    refine j_aald (pc' := 6) K dX6_ith_5 3 5 rfl rfl hg (by rw [hc]; rfl) rfl ?_
    refine j_astore (pc' := 8) (lv' := [(5, .ref p0_4), (0, .ref p0_0), (1, .int v1), (2, .int v2), (3, .int v3), (4, .int v4)]) K dX6_ith_6 (by decide) rfl rfl ?_
    refine j_aload (pc' := 10) K dX6_ith_8 0 rfl rfl ?_
    refine j_iload_n (pc' := 11) K dX6_ith_10 rfl 2 rfl rfl ?_
    obtain ⟨r11, hr11, h⟩ := jbd_some h
    refine j_ro (pc' := 14) K (fun H hP => jrun_A (x := ⟨"CountTriangles$Mark", "start", "(I)I"⟩) K dX6_ith_11 (M_X9_start (jl E) (jg E) p0_4 v1 hr11) u_3_13 u_2_236 u_2_238 u_3_12 u_3_11 u_1_6 (by decide) ⟨okx_start, by decide, by decide⟩ rfl (Nat.le_of_ble_eq_true rfl) 4 rfl rfl H hP) [] rfl rfl ?_
    refine j_istore (pc' := 16) (lv' := [(6, .int r11), (5, .ref p0_4), (0, .ref p0_0), (1, .int v1), (2, .int v2), (3, .int v3), (4, .int v4)]) K dX6_ith_14 (by decide) rfl rfl ?_
    refine j_iload_n (pc' := 17) K dX6_ith_16 rfl 5 rfl rfl ?_
    refine j_istore (pc' := 19) (lv' := [(7, .int v3), (6, .int r11), (5, .ref p0_4), (0, .ref p0_0), (1, .int v1), (2, .int v2), (3, .int v3), (4, .int v4)]) K dX6_ith_17 (by decide) rfl rfl ?_
    refine j_iload (pc' := 21) K dX6_ith_19 7 rfl rfl ?_
    refine j_istore (pc' := 23) (lv' := [(8, .int v4), (7, .int v3), (6, .int r11), (5, .ref p0_4), (0, .ref p0_0), (1, .int v1), (2, .int v2), (3, .int v3), (4, .int v4)]) K dX6_ith_21 (by decide) rfl rfl ?_
    refine j_iconst (pc' := 24) (v := (1 : Int32)) K dX6_ith_23 (by decide) rfl ?_
    refine j_iload_n (pc' := 25) K dX6_ith_24 rfl 5 rfl rfl ?_
    refine j_ishl (pc' := 26) K dX6_ith_25 rfl ?_
    refine j_iconst (pc' := 27) (v := (1 : Int32)) K dX6_ith_26 (by decide) rfl ?_
    refine j_isub (pc' := 28) K dX6_ith_27 rfl ?_
    refine j_istore (pc' := 30) (lv' := [(9, .int (((1 : Int32) <<< (v1 &&& 31)) - (1 : Int32))), (8, .int v4), (7, .int v3), (6, .int r11), (5, .ref p0_4), (0, .ref p0_0), (1, .int v1), (2, .int v2), (3, .int v3), (4, .int v4)]) K dX6_ith_28 (by decide) rfl rfl ?_
    refine j_iconst (pc' := 31) (v := (0 : Int32)) K dX6_ith_30 (by decide) rfl ?_
    refine j_istore (pc' := 33) (lv' := [(10, .int (0 : Int32)), (9, .int (((1 : Int32) <<< (v1 &&& 31)) - (1 : Int32))), (8, .int v4), (7, .int v3), (6, .int r11), (5, .ref p0_4), (0, .ref p0_0), (1, .int v1), (2, .int v2), (3, .int v3), (4, .int v4)]) K dX6_ith_31 (by decide) rfl rfl ?_
    refine j_sub [6, 7, 5, 4, 3, 2, 1, 0] rfl ?_
    exact b_X6_ith_33 p0_0 p0_1 p0_2 p0_3 p0_4 p0_5 p0_6 p0_7 p0_8 p0_9 p0_10 p0_11 p0_12 K hrw HR jFU v1 r11 v3 v4 (((1 : Int32) <<< (v1 &&& 31)) - (1 : Int32)) (0 : Int32) s0 h
  have hc0 := hc
  have h := jif hc h
  by_cases hc : v2 = 1
  · have h := jit hc h
    refine j_aald (pc' := 6) K dX6_ith_5 3 5 rfl rfl hg (by rw [hc]; rfl) rfl ?_
    refine j_astore (pc' := 8) (lv' := [(5, .ref p0_6), (0, .ref p0_0), (1, .int v1), (2, .int v2), (3, .int v3), (4, .int v4)]) K dX6_ith_6 (by decide) rfl rfl ?_
    refine j_aload (pc' := 10) K dX6_ith_8 0 rfl rfl ?_
    refine j_iload_n (pc' := 11) K dX6_ith_10 rfl 2 rfl rfl ?_
    obtain ⟨r11, hr11, h⟩ := jbd_some h
    refine j_ro (pc' := 14) K (fun H hP => jrun_A (x := ⟨"CountTriangles$Mark", "start", "(I)I"⟩) K dX6_ith_11 (M_X0_start (jl E) (jg E) p0_6 v1 hr11) u_3_1 u_2_236 u_2_238 u_3_0 u_2_239 u_1_7 (by decide) ⟨okx_start, by decide, by decide⟩ rfl (Nat.le_of_ble_eq_true rfl) 6 rfl rfl H hP) [] rfl rfl ?_
    refine j_istore (pc' := 16) (lv' := [(6, .int r11), (5, .ref p0_6), (0, .ref p0_0), (1, .int v1), (2, .int v2), (3, .int v3), (4, .int v4)]) K dX6_ith_14 (by decide) rfl rfl ?_
    refine j_iload_n (pc' := 17) K dX6_ith_16 rfl 5 rfl rfl ?_
    refine j_istore (pc' := 19) (lv' := [(7, .int v3), (6, .int r11), (5, .ref p0_6), (0, .ref p0_0), (1, .int v1), (2, .int v2), (3, .int v3), (4, .int v4)]) K dX6_ith_17 (by decide) rfl rfl ?_
    refine j_iload (pc' := 21) K dX6_ith_19 7 rfl rfl ?_
    refine j_istore (pc' := 23) (lv' := [(8, .int v4), (7, .int v3), (6, .int r11), (5, .ref p0_6), (0, .ref p0_0), (1, .int v1), (2, .int v2), (3, .int v3), (4, .int v4)]) K dX6_ith_21 (by decide) rfl rfl ?_
    refine j_iconst (pc' := 24) (v := (1 : Int32)) K dX6_ith_23 (by decide) rfl ?_
    refine j_iload_n (pc' := 25) K dX6_ith_24 rfl 5 rfl rfl ?_
    refine j_ishl (pc' := 26) K dX6_ith_25 rfl ?_
    refine j_iconst (pc' := 27) (v := (1 : Int32)) K dX6_ith_26 (by decide) rfl ?_
    refine j_isub (pc' := 28) K dX6_ith_27 rfl ?_
    refine j_istore (pc' := 30) (lv' := [(9, .int (((1 : Int32) <<< (v1 &&& 31)) - (1 : Int32))), (8, .int v4), (7, .int v3), (6, .int r11), (5, .ref p0_6), (0, .ref p0_0), (1, .int v1), (2, .int v2), (3, .int v3), (4, .int v4)]) K dX6_ith_28 (by decide) rfl rfl ?_
    refine j_iconst (pc' := 31) (v := (0 : Int32)) K dX6_ith_30 (by decide) rfl ?_
    refine j_istore (pc' := 33) (lv' := [(10, .int (0 : Int32)), (9, .int (((1 : Int32) <<< (v1 &&& 31)) - (1 : Int32))), (8, .int v4), (7, .int v3), (6, .int r11), (5, .ref p0_6), (0, .ref p0_0), (1, .int v1), (2, .int v2), (3, .int v3), (4, .int v4)]) K dX6_ith_31 (by decide) rfl rfl ?_
    refine j_sub [6, 7, 5, 4, 3, 2, 1, 0] rfl ?_
    exact b_X6_ith_33a p0_0 p0_1 p0_2 p0_3 p0_4 p0_5 p0_6 p0_7 p0_8 p0_9 p0_10 p0_11 p0_12 K hrw HR jFU v1 r11 v3 v4 (((1 : Int32) <<< (v1 &&& 31)) - (1 : Int32)) (0 : Int32) s0 h
  have hc1 := hc
  have h := jif hc h
  by_cases hc : v2 = 2
  · have h := jit hc h
    refine j_aald (pc' := 6) K dX6_ith_5 3 5 rfl rfl hg (by rw [hc]; rfl) rfl ?_
    refine j_astore (pc' := 8) (lv' := [(5, .ref p0_8), (0, .ref p0_0), (1, .int v1), (2, .int v2), (3, .int v3), (4, .int v4)]) K dX6_ith_6 (by decide) rfl rfl ?_
    refine j_aload (pc' := 10) K dX6_ith_8 0 rfl rfl ?_
    refine j_iload_n (pc' := 11) K dX6_ith_10 rfl 2 rfl rfl ?_
    obtain ⟨r11, hr11, h⟩ := jbd_some h
    refine j_ro (pc' := 14) K (fun H hP => jrun_A (x := ⟨"CountTriangles$Mark", "start", "(I)I"⟩) K dX6_ith_11 (M_X3_start (jl E) (jg E) p0_8 v1 hr11) u_3_7 u_2_236 u_2_238 u_3_6 u_3_5 u_1_8 (by decide) ⟨okx_start, by decide, by decide⟩ rfl (Nat.le_of_ble_eq_true rfl) 8 rfl rfl H hP) [] rfl rfl ?_
    refine j_istore (pc' := 16) (lv' := [(6, .int r11), (5, .ref p0_8), (0, .ref p0_0), (1, .int v1), (2, .int v2), (3, .int v3), (4, .int v4)]) K dX6_ith_14 (by decide) rfl rfl ?_
    refine j_iload_n (pc' := 17) K dX6_ith_16 rfl 5 rfl rfl ?_
    refine j_istore (pc' := 19) (lv' := [(7, .int v3), (6, .int r11), (5, .ref p0_8), (0, .ref p0_0), (1, .int v1), (2, .int v2), (3, .int v3), (4, .int v4)]) K dX6_ith_17 (by decide) rfl rfl ?_
    refine j_iload (pc' := 21) K dX6_ith_19 7 rfl rfl ?_
    refine j_istore (pc' := 23) (lv' := [(8, .int v4), (7, .int v3), (6, .int r11), (5, .ref p0_8), (0, .ref p0_0), (1, .int v1), (2, .int v2), (3, .int v3), (4, .int v4)]) K dX6_ith_21 (by decide) rfl rfl ?_
    refine j_iconst (pc' := 24) (v := (1 : Int32)) K dX6_ith_23 (by decide) rfl ?_
    refine j_iload_n (pc' := 25) K dX6_ith_24 rfl 5 rfl rfl ?_
    refine j_ishl (pc' := 26) K dX6_ith_25 rfl ?_
    refine j_iconst (pc' := 27) (v := (1 : Int32)) K dX6_ith_26 (by decide) rfl ?_
    refine j_isub (pc' := 28) K dX6_ith_27 rfl ?_
    refine j_istore (pc' := 30) (lv' := [(9, .int (((1 : Int32) <<< (v1 &&& 31)) - (1 : Int32))), (8, .int v4), (7, .int v3), (6, .int r11), (5, .ref p0_8), (0, .ref p0_0), (1, .int v1), (2, .int v2), (3, .int v3), (4, .int v4)]) K dX6_ith_28 (by decide) rfl rfl ?_
    refine j_iconst (pc' := 31) (v := (0 : Int32)) K dX6_ith_30 (by decide) rfl ?_
    refine j_istore (pc' := 33) (lv' := [(10, .int (0 : Int32)), (9, .int (((1 : Int32) <<< (v1 &&& 31)) - (1 : Int32))), (8, .int v4), (7, .int v3), (6, .int r11), (5, .ref p0_8), (0, .ref p0_0), (1, .int v1), (2, .int v2), (3, .int v3), (4, .int v4)]) K dX6_ith_31 (by decide) rfl rfl ?_
    refine j_sub [6, 7, 5, 4, 3, 2, 1, 0] rfl ?_
    exact b_X6_ith_33b p0_0 p0_1 p0_2 p0_3 p0_4 p0_5 p0_6 p0_7 p0_8 p0_9 p0_10 p0_11 p0_12 K hrw HR jFU v1 r11 v3 v4 (((1 : Int32) <<< (v1 &&& 31)) - (1 : Int32)) (0 : Int32) s0 h
  have hc2 := hc
  have h := jif hc h
  by_cases hc : v2 = 3
  · have h := jit hc h
    refine j_aald (pc' := 6) K dX6_ith_5 3 5 rfl rfl hg (by rw [hc]; rfl) rfl ?_
    refine j_astore (pc' := 8) (lv' := [(5, .ref p0_10), (0, .ref p0_0), (1, .int v1), (2, .int v2), (3, .int v3), (4, .int v4)]) K dX6_ith_6 (by decide) rfl rfl ?_
    refine j_aload (pc' := 10) K dX6_ith_8 0 rfl rfl ?_
    refine j_iload_n (pc' := 11) K dX6_ith_10 rfl 2 rfl rfl ?_
    obtain ⟨r11, hr11, h⟩ := jbd_some h
    refine j_ro (pc' := 14) K (fun H hP => jrun_A (x := ⟨"CountTriangles$Mark", "start", "(I)I"⟩) K dX6_ith_11 (M_X1_start (jl E) (jg E) p0_10 v1 hr11) u_3_4 u_2_236 u_2_238 u_3_3 u_3_2 u_1_9 (by decide) ⟨okx_start, by decide, by decide⟩ rfl (Nat.le_of_ble_eq_true rfl) 10 rfl rfl H hP) [] rfl rfl ?_
    refine j_istore (pc' := 16) (lv' := [(6, .int r11), (5, .ref p0_10), (0, .ref p0_0), (1, .int v1), (2, .int v2), (3, .int v3), (4, .int v4)]) K dX6_ith_14 (by decide) rfl rfl ?_
    refine j_iload_n (pc' := 17) K dX6_ith_16 rfl 5 rfl rfl ?_
    refine j_istore (pc' := 19) (lv' := [(7, .int v3), (6, .int r11), (5, .ref p0_10), (0, .ref p0_0), (1, .int v1), (2, .int v2), (3, .int v3), (4, .int v4)]) K dX6_ith_17 (by decide) rfl rfl ?_
    refine j_iload (pc' := 21) K dX6_ith_19 7 rfl rfl ?_
    refine j_istore (pc' := 23) (lv' := [(8, .int v4), (7, .int v3), (6, .int r11), (5, .ref p0_10), (0, .ref p0_0), (1, .int v1), (2, .int v2), (3, .int v3), (4, .int v4)]) K dX6_ith_21 (by decide) rfl rfl ?_
    refine j_iconst (pc' := 24) (v := (1 : Int32)) K dX6_ith_23 (by decide) rfl ?_
    refine j_iload_n (pc' := 25) K dX6_ith_24 rfl 5 rfl rfl ?_
    refine j_ishl (pc' := 26) K dX6_ith_25 rfl ?_
    refine j_iconst (pc' := 27) (v := (1 : Int32)) K dX6_ith_26 (by decide) rfl ?_
    refine j_isub (pc' := 28) K dX6_ith_27 rfl ?_
    refine j_istore (pc' := 30) (lv' := [(9, .int (((1 : Int32) <<< (v1 &&& 31)) - (1 : Int32))), (8, .int v4), (7, .int v3), (6, .int r11), (5, .ref p0_10), (0, .ref p0_0), (1, .int v1), (2, .int v2), (3, .int v3), (4, .int v4)]) K dX6_ith_28 (by decide) rfl rfl ?_
    refine j_iconst (pc' := 31) (v := (0 : Int32)) K dX6_ith_30 (by decide) rfl ?_
    refine j_istore (pc' := 33) (lv' := [(10, .int (0 : Int32)), (9, .int (((1 : Int32) <<< (v1 &&& 31)) - (1 : Int32))), (8, .int v4), (7, .int v3), (6, .int r11), (5, .ref p0_10), (0, .ref p0_0), (1, .int v1), (2, .int v2), (3, .int v3), (4, .int v4)]) K dX6_ith_31 (by decide) rfl rfl ?_
    refine j_sub [6, 7, 5, 4, 3, 2, 1, 0] rfl ?_
    exact b_X6_ith_33c p0_0 p0_1 p0_2 p0_3 p0_4 p0_5 p0_6 p0_7 p0_8 p0_9 p0_10 p0_11 p0_12 K hrw HR jFU v1 r11 v3 v4 (((1 : Int32) <<< (v1 &&& 31)) - (1 : Int32)) (0 : Int32) s0 h
  have hc3 := hc
  have h := jif hc h
  have hc : v2 = 4 := jin5 hg hc0 hc1 hc2 hc3
  refine j_aald (pc' := 6) K dX6_ith_5 3 5 rfl rfl hg (by rw [hc]; rfl) rfl ?_
  refine j_astore (pc' := 8) (lv' := [(5, .ref p0_11), (0, .ref p0_0), (1, .int v1), (2, .int v2), (3, .int v3), (4, .int v4)]) K dX6_ith_6 (by decide) rfl rfl ?_
  refine j_aload (pc' := 10) K dX6_ith_8 0 rfl rfl ?_
  refine j_iload_n (pc' := 11) K dX6_ith_10 rfl 2 rfl rfl ?_
  obtain ⟨r11, hr11, h⟩ := jbd_some h
  refine j_ro (pc' := 14) K (fun H hP => jrun_A (x := ⟨"CountTriangles$Mark", "start", "(I)I"⟩) K dX6_ith_11 (M_X4_start (jl E) (jg E) p0_11 v1 hr11) u_3_10 u_2_236 u_2_238 u_3_9 u_3_8 u_1_10 (by decide) ⟨okx_start, by decide, by decide⟩ rfl (Nat.le_of_ble_eq_true rfl) 11 rfl rfl H hP) [] rfl rfl ?_
  refine j_istore (pc' := 16) (lv' := [(6, .int r11), (5, .ref p0_11), (0, .ref p0_0), (1, .int v1), (2, .int v2), (3, .int v3), (4, .int v4)]) K dX6_ith_14 (by decide) rfl rfl ?_
  refine j_iload_n (pc' := 17) K dX6_ith_16 rfl 5 rfl rfl ?_
  refine j_istore (pc' := 19) (lv' := [(7, .int v3), (6, .int r11), (5, .ref p0_11), (0, .ref p0_0), (1, .int v1), (2, .int v2), (3, .int v3), (4, .int v4)]) K dX6_ith_17 (by decide) rfl rfl ?_
  refine j_iload (pc' := 21) K dX6_ith_19 7 rfl rfl ?_
  refine j_istore (pc' := 23) (lv' := [(8, .int v4), (7, .int v3), (6, .int r11), (5, .ref p0_11), (0, .ref p0_0), (1, .int v1), (2, .int v2), (3, .int v3), (4, .int v4)]) K dX6_ith_21 (by decide) rfl rfl ?_
  refine j_iconst (pc' := 24) (v := (1 : Int32)) K dX6_ith_23 (by decide) rfl ?_
  refine j_iload_n (pc' := 25) K dX6_ith_24 rfl 5 rfl rfl ?_
  refine j_ishl (pc' := 26) K dX6_ith_25 rfl ?_
  refine j_iconst (pc' := 27) (v := (1 : Int32)) K dX6_ith_26 (by decide) rfl ?_
  refine j_isub (pc' := 28) K dX6_ith_27 rfl ?_
  refine j_istore (pc' := 30) (lv' := [(9, .int (((1 : Int32) <<< (v1 &&& 31)) - (1 : Int32))), (8, .int v4), (7, .int v3), (6, .int r11), (5, .ref p0_11), (0, .ref p0_0), (1, .int v1), (2, .int v2), (3, .int v3), (4, .int v4)]) K dX6_ith_28 (by decide) rfl rfl ?_
  refine j_iconst (pc' := 31) (v := (0 : Int32)) K dX6_ith_30 (by decide) rfl ?_
  refine j_istore (pc' := 33) (lv' := [(10, .int (0 : Int32)), (9, .int (((1 : Int32) <<< (v1 &&& 31)) - (1 : Int32))), (8, .int v4), (7, .int v3), (6, .int r11), (5, .ref p0_11), (0, .ref p0_0), (1, .int v1), (2, .int v2), (3, .int v3), (4, .int v4)]) K dX6_ith_31 (by decide) rfl rfl ?_
  refine j_sub [6, 7, 5, 4, 3, 2, 1, 0] rfl ?_
  exact b_X6_ith_33d p0_0 p0_1 p0_2 p0_3 p0_4 p0_5 p0_6 p0_7 p0_8 p0_9 p0_10 p0_11 p0_12 K hrw HR jFU v1 r11 v3 v4 (((1 : Int32) <<< (v1 &&& 31)) - (1 : Int32)) (0 : Int32) s0 h
set_option maxRecDepth 100000 in
set_option maxHeartbeats 4000000 in
theorem M_X6_ith (l : Launch) (G : jG) (p0_0 p0_1 p0_2 p0_3 p0_4 p0_5 p0_6 p0_7 p0_8 p0_9 p0_10 p0_11 p0_12 : Nat) (v1 : Int32) (v2 : Int32) (v3 : Int32) (v4 : Int32) (s0 : OrdersS) {r : Int32 × OrdersS} (h : f_X6_ith v1 v2 v3 v4 s0 = some r) : MC l yX6_ith cX6_ith 16 (some .int) 4 G (jad (wOrders G p0_0 p0_1 p0_2 p0_3 p0_4 p0_5 p0_6 p0_7 p0_8 p0_9 p0_10 p0_11 p0_12 s0)) True (wOrders G p0_0 p0_1 p0_2 p0_3 p0_4 p0_5 p0_6 p0_7 p0_8 p0_9 p0_10 p0_11 p0_12 s0) (wOrders G p0_0 p0_1 p0_2 p0_3 p0_4 p0_5 p0_6 p0_7 p0_8 p0_9 p0_10 p0_11 p0_12 (r.2)) [.ref p0_0, .int v1, .int v2, .int v3, .int v4] (some (.int (r.1))) := by
  refine mc_int (by decide +kernel) (Nat.le_of_ble_eq_true rfl) fun E hl hg hA hrw K HR => ?_
  subst hl
  subst hg
  have hrw : jrw E := by rw [hrw]; trivial
  exact b_X6_ith p0_0 p0_1 p0_2 p0_3 p0_4 p0_5 p0_6 p0_7 p0_8 p0_9 p0_10 p0_11 p0_12 K hrw HR v1 v2 v3 v4 s0 h
