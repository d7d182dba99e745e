theorem ok_X11_value : yX11_value.cls ≠ "java/lang/invoke/MethodHandle" ∧ yX11_value.cls ≠ "java/lang/invoke/VarHandle" ∧ (parseMethodDescriptor yX11_value.desc).map (fun d => d.parameters.length) = some 3 := ⟨by decide, by decide, by decide +kernel⟩
def f_X11_value (v1 : Int32) (v2 : Int32) (v3 : Int32) (s0 : XS) : Option (Int64 × XS) :=
   jbd (f_X11_isPolynomial v1) (fun r1 =>
   if r1 = 0 then
    some ((-1000000000000000001 : Int64), s0)
   else
    jbd (f_X11_within v2 (-20 : Int32) (20 : Int32)) (fun r12 =>
     if r12 = 0 then
      some ((-1000000000000000001 : Int64), s0)
     else
      jbd (f_X11_within v3 (0 : Int32) (8 : Int32)) (fun r22 =>
       if r22 = 0 then
        some ((-1000000000000000001 : Int64), s0)
       else
        jgd v1 4 (
         if v1 = 0 then (
          jbd (f_X8_difference v2 v3 (X_poly0 s0)) (fun r40 =>
           some ((r40.1), (X_poly0_s s0 (r40.2))))) else if v1 = 1 then (
          jbd (f_X8_difference v2 v3 (X_poly1 s0)) (fun r40 =>
           some ((r40.1), (X_poly1_s s0 (r40.2))))) else if v1 = 2 then (
          jbd (f_X8_difference v2 v3 (X_poly2 s0)) (fun r40 =>
           some ((r40.1), (X_poly2_s s0 (r40.2))))) else (
          jbd (f_X8_difference v2 v3 (X_poly3 s0)) (fun r40 =>
           some ((r40.1), (X_poly3_s s0 (r40.2)))))))))
set_option maxRecDepth 100000 in
set_option maxHeartbeats 4000000 in
theorem b_X11_value {E : jE} (a0 : Nat → Nat) {res : Int64 × XS} (K : jC E cX11_value 4 RX11 3) (hrw : jrw E) (HR : jRL E cX11_value 4 (wX (jg E) a0 (res.2)) (res.1)) : ∀ (v1 : Int32) (v2 : Int32) (v3 : Int32) (s0 : XS), f_X11_value v1 v2 v3 s0 = some res → J E 4 (wX (jg E) a0 s0) 0 [(0, .ref (a0 0)), (1, .int v1), (2, .int v2), (3, .int v3)] [] := by
  intro v1 v2 v3 s0 h
  unfold f_X11_value at h
  refine j_iload_n (pc' := 1) K dX11_value_0 rfl 1 rfl rfl ?_
  obtain ⟨r1, hr1, h⟩ := jbd_some h
  refine j_ro (pc' := 4) K (fun H hP => jrun_S K dX11_value_1 (M_X11_isPolynomial (jl E) (jg E) v1 hr1) u_3_155 u_3_153 u_3_154 u_1_1 ⟨ok_X11_isPolynomial, by decide, by decide⟩ rfl (Nat.le_of_ble_eq_true rfl) H) [] rfl rfl ?_
  refine j_if_eq (pc' := 7) (tgt := 28) K dX11_value_4 (by decide) rfl (fun hc => ?_) (fun hc => ?_)
  · have h := jit hc h
    refine j_ldc2 (pc' := 31) K dX11_value_28 u_2_90 rfl ?_
    obtain rfl := Option.some.inj h
    exact HR _ _ dX11_value_31
  · have h := jif hc h
    refine j_iload_n (pc' := 8) K dX11_value_7 rfl 2 rfl rfl ?_
    refine j_bipush (pc' := 10) (v := (-20 : Int32)) K dX11_value_8 (by decide) rfl ?_
    refine j_bipush (pc' := 12) (v := (20 : Int32)) K dX11_value_10 (by decide) rfl ?_
    obtain ⟨r12, hr12, h⟩ := jbd_some h
    refine j_ro (pc' := 15) K (fun H hP => jrun_S K dX11_value_12 (M_X11_within (jl E) (jg E) v2 (-20 : Int32) (20 : Int32) hr12) u_1_76 u_1_217 u_1_75 u_1_1 ⟨ok_X11_within, by decide, by decide⟩ rfl (Nat.le_of_ble_eq_true rfl) H) [] rfl rfl ?_
    refine j_if_eq (pc' := 18) (tgt := 28) K dX11_value_15 (by decide) rfl (fun hc => ?_) (fun hc => ?_)
    · have h := jit hc h
      refine j_ldc2 (pc' := 31) K dX11_value_28 u_2_90 rfl ?_
      obtain rfl := Option.some.inj h
      exact HR _ _ dX11_value_31
    · have h := jif hc h
      refine j_iload_n (pc' := 19) K dX11_value_18 rfl 3 rfl rfl ?_
      refine j_iconst (pc' := 20) (v := (0 : Int32)) K dX11_value_19 (by decide) rfl ?_
      refine j_bipush (pc' := 22) (v := (8 : Int32)) K dX11_value_20 (by decide) rfl ?_
      obtain ⟨r22, hr22, h⟩ := jbd_some h
      refine j_ro (pc' := 25) K (fun H hP => jrun_S K dX11_value_22 (M_X11_within (jl E) (jg E) v3 (0 : Int32) (8 : Int32) hr22) u_1_76 u_1_217 u_1_75 u_1_1 ⟨ok_X11_within, by decide, by decide⟩ rfl (Nat.le_of_ble_eq_true rfl) H) [] rfl rfl ?_
      refine j_if_ne (pc' := 28) (tgt := 32) K dX11_value_25 (by decide) rfl (fun hc => ?_) (fun hc => ?_)
      · have h := jif hc h
        refine j_aload_n (pc' := 33) K dX11_value_32 rfl 0 rfl rfl ?_
        refine j_get (pc' := 36) K dX11_value_33 inX11 0 rfl rfl 4 (by decide) u_1_201 rfl rfl rfl ?_
        refine j_iload_n (pc' := 37) K dX11_value_36 rfl 1 rfl rfl ?_
        obtain ⟨hg, h⟩ := jgd_some h
        by_cases hc : v1 = 0
        · have h := jit hc h
          refine j_aald (pc' := 38) K dX11_value_37 43 6 rfl rfl hg (by rw [hc]; rfl) rfl ?_
          refine j_iload_n (pc' := 39) K dX11_value_38 rfl 2 rfl rfl ?_
          refine j_iload_n (pc' := 40) K dX11_value_39 rfl 3 rfl rfl ?_
          obtain ⟨r40, hr40, h⟩ := jbd_some h
          refine j_rw (pc' := 43) (ws' := (wX (jg E) a0 (X_poly0_s s0 (r40.2)))) K (fun H hP => jrun_V K dX11_value_40 (M_X8_difference (jl E) (jg E) (a0 44) (a0 45) (a0 46) v2 v3 (X_poly0 s0) hr40) u_3_234 u_3_231 u_3_232 u_3_233 u_1_12 ⟨ok_X8_difference, by decide, by decide⟩ rfl (Nat.le_of_ble_eq_true rfl) 44 rfl rfl H hP) hrw [44, 45, 46] rfl (cl_47_s ..) rfl (cl_47_m ..) (ad_X ..) rfl ?_
          obtain rfl := Option.some.inj h
          exact HR _ _ dX11_value_43
        have hc0 := hc
        have h := jif hc h
        by_cases hc : v1 = 1
        · have h := jit hc h
          refine j_aald (pc' := 38) K dX11_value_37 43 6 rfl rfl hg (by rw [hc]; rfl) rfl ?_
          refine j_iload_n (pc' := 39) K dX11_value_38 rfl 2 rfl rfl ?_
          refine j_iload_n (pc' := 40) K dX11_value_39 rfl 3 rfl rfl ?_
          obtain ⟨r40, hr40, h⟩ := jbd_some h
          refine j_rw (pc' := 43) (ws' := (wX (jg E) a0 (X_poly1_s s0 (r40.2)))) K (fun H hP => jrun_V K dX11_value_40 (M_X8_difference (jl E) (jg E) (a0 47) (a0 48) (a0 49) v2 v3 (X_poly1 s0) hr40) u_3_234 u_3_231 u_3_232 u_3_233 u_1_12 ⟨ok_X8_difference, by decide, by decide⟩ rfl (Nat.le_of_ble_eq_true rfl) 47 rfl rfl H hP) hrw [47, 48, 49] rfl (cl_48_s ..) rfl (cl_48_m ..) (ad_X ..) rfl ?_
          obtain rfl := Option.some.inj h
          exact HR _ _ dX11_value_43
        have hc1 := hc
        have h := jif hc h
        by_cases hc : v1 = 2
        · have h := jit hc h
          refine j_aald (pc' := 38) K dX11_value_37 43 6 rfl rfl hg (by rw [hc]; rfl) rfl ?_
          refine j_iload_n (pc' := 39) K dX11_value_38 rfl 2 rfl rfl ?_
          refine j_iload_n (pc' := 40) K dX11_value_39 rfl 3 rfl rfl ?_
          obtain ⟨r40, hr40, h⟩ := jbd_some h
          refine j_rw (pc' := 43) (ws' := (wX (jg E) a0 (X_poly2_s s0 (r40.2)))) K (fun H hP => jrun_V K dX11_value_40 (M_X8_difference (jl E) (jg E) (a0 50) (a0 51) (a0 52) v2 v3 (X_poly2 s0) hr40) u_3_234 u_3_231 u_3_232 u_3_233 u_1_12 ⟨ok_X8_difference, by decide, by decide⟩ rfl (Nat.le_of_ble_eq_true rfl) 50 rfl rfl H hP) hrw [50, 51, 52] rfl (cl_49_s ..) rfl (cl_49_m ..) (ad_X ..) rfl ?_
          obtain rfl := Option.some.inj h
          exact HR _ _ dX11_value_43
        have hc2 := hc
        have h := jif hc h
        have hc : v1 = 3 := jin4 hg hc0 hc1 hc2
        refine j_aald (pc' := 38) K dX11_value_37 43 6 rfl rfl hg (by rw [hc]; rfl) rfl ?_
        refine j_iload_n (pc' := 39) K dX11_value_38 rfl 2 rfl rfl ?_
        refine j_iload_n (pc' := 40) K dX11_value_39 rfl 3 rfl rfl ?_
        obtain ⟨r40, hr40, h⟩ := jbd_some h
        refine j_rw (pc' := 43) (ws' := (wX (jg E) a0 (X_poly3_s s0 (r40.2)))) K (fun H hP => jrun_V K dX11_value_40 (M_X8_difference (jl E) (jg E) (a0 53) (a0 54) (a0 55) v2 v3 (X_poly3 s0) hr40) u_3_234 u_3_231 u_3_232 u_3_233 u_1_12 ⟨ok_X8_difference, by decide, by decide⟩ rfl (Nat.le_of_ble_eq_true rfl) 53 rfl rfl H hP) hrw [53, 54, 55] rfl (cl_50_s ..) rfl (cl_50_m ..) (ad_X ..) rfl ?_
        obtain rfl := Option.some.inj h
        exact HR _ _ dX11_value_43
      · have h := jit hc h
        refine j_ldc2 (pc' := 31) K dX11_value_28 u_2_90 rfl ?_
        obtain rfl := Option.some.inj h
        exact HR _ _ dX11_value_31
set_option maxRecDepth 100000 in
set_option maxHeartbeats 4000000 in
theorem M_X11_value (l : Launch) (G : jG) (a0 : Nat → Nat) (v1 : Int32) (v2 : Int32) (v3 : Int32) (s0 : XS) {r : Int64 × XS} (h : f_X11_value v1 v2 v3 s0 = some r) : MC l yX11_value cX11_value 4 (some .long) 3 G (jad (wX G a0 s0)) True (wX G a0 s0) (wX G a0 (r.2)) [.ref (a0 0), .int v1, .int v2, .int v3] (some (.long (r.1))) := by
  refine mc_long (by decide +kernel) (Nat.le_of_ble_eq_true rfl) fun E hl hg hA hrw K HR => ?_
  subst hl
  subst hg
  have hrw : jrw E := by rw [hrw]; trivial
  exact b_X11_value a0 K hrw HR v1 v2 v3 s0 h
theorem ok_X11_sumUp : yX11_sumUp.cls ≠ "java/lang/invoke/MethodHandle" ∧ yX11_sumUp.cls ≠ "java/lang/invoke/VarHandle" ∧ (parseMethodDescriptor yX11_sumUp.desc).map (fun d => d.parameters.length) = some 1 := ⟨by decide, by decide, by decide +kernel⟩
def f_X11_sumUp (v1 : Int32) (s0 : XS) : Option (Int32 × XS) :=
   jbd (f_X11_isPolynomial v1) (fun r1 =>
   if r1 = 0 then
    some ((-1 : Int32), s0)
   else
    jgd v1 4 (
     if v1 = 0 then (
      jbd (f_X8_becomeSum (X_poly0 s0)) (fun r15 =>
       if (r15.1) = 0 then
        some ((-2 : Int32), (X_poly0_s s0 (r15.2)))
       else
        jgd v1 4 (
         if v1 = 0 then (
          jbd (f_X8_degree (X_poly0 (X_poly0_s s0 (r15.2)))) (fun r27 =>
           some (r27, (X_poly0_s s0 (r15.2))))) else if v1 = 1 then (
          jbd (f_X8_degree (X_poly1 (X_poly0_s s0 (r15.2)))) (fun r27 =>
           some (r27, (X_poly0_s s0 (r15.2))))) else if v1 = 2 then (
          jbd (f_X8_degree (X_poly2 (X_poly0_s s0 (r15.2)))) (fun r27 =>
           some (r27, (X_poly0_s s0 (r15.2))))) else (
          jbd (f_X8_degree (X_poly3 (X_poly0_s s0 (r15.2)))) (fun r27 =>
           some (r27, (X_poly0_s s0 (r15.2)))))))) else if v1 = 1 then (
      jbd (f_X8_becomeSum (X_poly1 s0)) (fun r15 =>
       if (r15.1) = 0 then
        some ((-2 : Int32), (X_poly1_s s0 (r15.2)))
       else
        jgd v1 4 (
         if v1 = 0 then (
          jbd (f_X8_degree (X_poly0 (X_poly1_s s0 (r15.2)))) (fun r27 =>
           some (r27, (X_poly1_s s0 (r15.2))))) else if v1 = 1 then (
          jbd (f_X8_degree (X_poly1 (X_poly1_s s0 (r15.2)))) (fun r27 =>
           some (r27, (X_poly1_s s0 (r15.2))))) else if v1 = 2 then (
          jbd (f_X8_degree (X_poly2 (X_poly1_s s0 (r15.2)))) (fun r27 =>
           some (r27, (X_poly1_s s0 (r15.2))))) else (
          jbd (f_X8_degree (X_poly3 (X_poly1_s s0 (r15.2)))) (fun r27 =>
           some (r27, (X_poly1_s s0 (r15.2)))))))) else if v1 = 2 then (
      jbd (f_X8_becomeSum (X_poly2 s0)) (fun r15 =>
       if (r15.1) = 0 then
        some ((-2 : Int32), (X_poly2_s s0 (r15.2)))
       else
        jgd v1 4 (
         if v1 = 0 then (
          jbd (f_X8_degree (X_poly0 (X_poly2_s s0 (r15.2)))) (fun r27 =>
           some (r27, (X_poly2_s s0 (r15.2))))) else if v1 = 1 then (
          jbd (f_X8_degree (X_poly1 (X_poly2_s s0 (r15.2)))) (fun r27 =>
           some (r27, (X_poly2_s s0 (r15.2))))) else if v1 = 2 then (
          jbd (f_X8_degree (X_poly2 (X_poly2_s s0 (r15.2)))) (fun r27 =>
           some (r27, (X_poly2_s s0 (r15.2))))) else (
          jbd (f_X8_degree (X_poly3 (X_poly2_s s0 (r15.2)))) (fun r27 =>
           some (r27, (X_poly2_s s0 (r15.2)))))))) else (
      jbd (f_X8_becomeSum (X_poly3 s0)) (fun r15 =>
       if (r15.1) = 0 then
        some ((-2 : Int32), (X_poly3_s s0 (r15.2)))
       else
        jgd v1 4 (
         if v1 = 0 then (
          jbd (f_X8_degree (X_poly0 (X_poly3_s s0 (r15.2)))) (fun r27 =>
           some (r27, (X_poly3_s s0 (r15.2))))) else if v1 = 1 then (
          jbd (f_X8_degree (X_poly1 (X_poly3_s s0 (r15.2)))) (fun r27 =>
           some (r27, (X_poly3_s s0 (r15.2))))) else if v1 = 2 then (
          jbd (f_X8_degree (X_poly2 (X_poly3_s s0 (r15.2)))) (fun r27 =>
           some (r27, (X_poly3_s s0 (r15.2))))) else (
          jbd (f_X8_degree (X_poly3 (X_poly3_s s0 (r15.2)))) (fun r27 =>
           some (r27, (X_poly3_s s0 (r15.2))))))))))
set_option maxRecDepth 100000 in
set_option maxHeartbeats 4000000 in
theorem b_X11_sumUp {E : jE} (a0 : Nat → Nat) {res : Int32 × XS} (K : jC E cX11_sumUp 2 RX11 4) (hrw : jrw E) (HR : jRI E cX11_sumUp 2 (wX (jg E) a0 (res.2)) (res.1)) : ∀ (v1 : Int32) (s0 : XS), f_X11_sumUp v1 s0 = some res → J E 2 (wX (jg E) a0 s0) 0 [(0, .ref (a0 0)), (1, .int v1)] [] := by
  intro v1 s0 h
  unfold f_X11_sumUp at h
  refine j_iload_n (pc' := 1) K dX11_sumUp_0 rfl 1 rfl rfl ?_
  obtain ⟨r1, hr1, h⟩ := jbd_some h
  refine j_ro (pc' := 4) K (fun H hP => jrun_S K dX11_sumUp_1 (M_X11_isPolynomial (jl E) (jg E) v1 hr1) u_3_155 u_3_153 u_3_154 u_1_1 ⟨ok_X11_isPolynomial, by decide, by decide⟩ rfl (Nat.le_of_ble_eq_true rfl) H) [] rfl rfl ?_
  refine j_if_ne (pc' := 7) (tgt := 9) K dX11_sumUp_4 (by decide) rfl (fun hc => ?_) (fun hc => ?_)
  · have h := jif hc h
    refine j_aload_n (pc' := 10) K dX11_sumUp_9 rfl 0 rfl rfl ?_
    refine j_get (pc' := 13) K dX11_sumUp_10 inX11 0 rfl rfl 4 (by decide) u_1_201 rfl rfl rfl ?_
    refine j_iload_n (pc' := 14) K dX11_sumUp_13 rfl 1 rfl rfl ?_
    obtain ⟨hg, h⟩ := jgd_some h
    by_cases hc : v1 = 0
    · have h := jit hc h
      refine j_aald (pc' := 15) K dX11_sumUp_14 43 6 rfl rfl hg (by rw [hc]; rfl) rfl ?_
      obtain ⟨r15, hr15, h⟩ := jbd_some h
      refine j_rw (pc' := 18) (ws' := (wX (jg E) a0 (X_poly0_s s0 (r15.2)))) K (fun H hP => jrun_V K dX11_sumUp_15 (M_X8_becomeSum (jl E) (jg E) (a0 44) (a0 45) (a0 46) (X_poly0 s0) hr15) u_4_6 u_4_3 u_4_4 u_4_5 u_1_12 ⟨ok_X8_becomeSum, by decide, by decide⟩ rfl (Nat.le_of_ble_eq_true rfl) 44 rfl rfl H hP) hrw [44, 45, 46] rfl (cl_47_s ..) rfl (cl_47_m ..) (ad_X ..) rfl ?_
      refine j_if_eq (pc' := 21) (tgt := 33) K dX11_sumUp_18 (by decide) rfl (fun hc => ?_) (fun hc => ?_)
      · have h := jit hc h
        refine j_bipush (pc' := 35) (v := (-2 : Int32)) K dX11_sumUp_33 (by decide) rfl ?_
        obtain rfl := Option.some.inj h
        exact HR _ _ dX11_sumUp_35
      · have h := jif hc h
        refine j_aload_n (pc' := 22) K dX11_sumUp_21 rfl 0 rfl rfl ?_
        refine j_get (pc' := 25) K dX11_sumUp_22 inX11 0 rfl rfl 4 (by decide) u_1_201 rfl rfl rfl ?_
        refine j_iload_n (pc' := 26) K dX11_sumUp_25 rfl 1 rfl rfl ?_
        obtain ⟨hg, h⟩ := jgd_some h
        by_cases hc : v1 = 0
        · have h := jit hc h
          refine j_aald (pc' := 27) K dX11_sumUp_26 43 6 rfl rfl hg (by rw [hc]; rfl) rfl ?_
          obtain ⟨r27, hr27, h⟩ := jbd_some h
          refine j_ro (pc' := 30) K (fun H hP => jrun_V K dX11_sumUp_27 (M_X8_degree (jl E) (jg E) (a0 44) (a0 45) (a0 46) (X_poly0 (X_poly0_s s0 (r15.2))) hr27) u_3_193 u_3_190 u_3_191 u_3_192 u_1_12 ⟨ok_X8_degree, by decide, by decide⟩ rfl (Nat.le_of_ble_eq_true rfl) 44 rfl rfl H hP) [44, 45, 46] (cl_46_f ..) rfl ?_
          refine j_goto (tgt := 35) K dX11_sumUp_30 (by decide) ?_
          obtain rfl := Option.some.inj h
          exact HR _ _ dX11_sumUp_35
        have hc0 := hc
        have h := jif hc h
        by_cases hc : v1 = 1
        · have h := jit hc h
          refine j_aald (pc' := 27) K dX11_sumUp_26 43 6 rfl rfl hg (by rw [hc]; rfl) rfl ?_
          obtain ⟨r27, hr27, h⟩ := jbd_some h
          refine j_ro (pc' := 30) K (fun H hP => jrun_V K dX11_sumUp_27 (M_X8_degree (jl E) (jg E) (a0 47) (a0 48) (a0 49) (X_poly1 (X_poly0_s s0 (r15.2))) hr27) u_3_193 u_3_190 u_3_191 u_3_192 u_1_12 ⟨ok_X8_degree, by decide, by decide⟩ rfl (Nat.le_of_ble_eq_true rfl) 47 rfl rfl H hP) [47, 48, 49] (cl_51_f ..) rfl ?_
          refine j_goto (tgt := 35) K dX11_sumUp_30 (by decide) ?_
          obtain rfl := Option.some.inj h
          exact HR _ _ dX11_sumUp_35
        have hc1 := hc
        have h := jif hc h
        by_cases hc : v1 = 2
        · have h := jit hc h
          refine j_aald (pc' := 27) K dX11_sumUp_26 43 6 rfl rfl hg (by rw [hc]; rfl) rfl ?_
          obtain ⟨r27, hr27, h⟩ := jbd_some h
          refine j_ro (pc' := 30) K (fun H hP => jrun_V K dX11_sumUp_27 (M_X8_degree (jl E) (jg E) (a0 50) (a0 51) (a0 52) (X_poly2 (X_poly0_s s0 (r15.2))) hr27) u_3_193 u_3_190 u_3_191 u_3_192 u_1_12 ⟨ok_X8_degree, by decide, by decide⟩ rfl (Nat.le_of_ble_eq_true rfl) 50 rfl rfl H hP) [50, 51, 52] (cl_52_f ..) rfl ?_
          refine j_goto (tgt := 35) K dX11_sumUp_30 (by decide) ?_
          obtain rfl := Option.some.inj h
          exact HR _ _ dX11_sumUp_35
        have hc2 := hc
        have h := jif hc h
        have hc : v1 = 3 := jin4 hg hc0 hc1 hc2
        refine j_aald (pc' := 27) K dX11_sumUp_26 43 6 rfl rfl hg (by rw [hc]; rfl) rfl ?_
        obtain ⟨r27, hr27, h⟩ := jbd_some h
        refine j_ro (pc' := 30) K (fun H hP => jrun_V K dX11_sumUp_27 (M_X8_degree (jl E) (jg E) (a0 53) (a0 54) (a0 55) (X_poly3 (X_poly0_s s0 (r15.2))) hr27) u_3_193 u_3_190 u_3_191 u_3_192 u_1_12 ⟨ok_X8_degree, by decide, by decide⟩ rfl (Nat.le_of_ble_eq_true rfl) 53 rfl rfl H hP) [53, 54, 55] (cl_53_f ..) rfl ?_
        refine j_goto (tgt := 35) K dX11_sumUp_30 (by decide) ?_
        obtain rfl := Option.some.inj h
        exact HR _ _ dX11_sumUp_35
    have hc0 := hc
    have h := jif hc h
    by_cases hc : v1 = 1
    · have h := jit hc h
      refine j_aald (pc' := 15) K dX11_sumUp_14 43 6 rfl rfl hg (by rw [hc]; rfl) rfl ?_
      obtain ⟨r15, hr15, h⟩ := jbd_some h
      refine j_rw (pc' := 18) (ws' := (wX (jg E) a0 (X_poly1_s s0 (r15.2)))) K (fun H hP => jrun_V K dX11_sumUp_15 (M_X8_becomeSum (jl E) (jg E) (a0 47) (a0 48) (a0 49) (X_poly1 s0) hr15) u_4_6 u_4_3 u_4_4 u_4_5 u_1_12 ⟨ok_X8_becomeSum, by decide, by decide⟩ rfl (Nat.le_of_ble_eq_true rfl) 47 rfl rfl H hP) hrw [47, 48, 49] rfl (cl_48_s ..) rfl (cl_48_m ..) (ad_X ..) rfl ?_
      refine j_if_eq (pc' := 21) (tgt := 33) K dX11_sumUp_18 (by decide) rfl (fun hc => ?_) (fun hc => ?_)
      · have h := jit hc h
        refine j_bipush (pc' := 35) (v := (-2 : Int32)) K dX11_sumUp_33 (by decide) rfl ?_
        obtain rfl := Option.some.inj h
        exact HR _ _ dX11_sumUp_35
      · have h := jif hc h
        refine j_aload_n (pc' := 22) K dX11_sumUp_21 rfl 0 rfl rfl ?_
        refine j_get (pc' := 25) K dX11_sumUp_22 inX11 0 rfl rfl 4 (by decide) u_1_201 rfl rfl rfl ?_
        refine j_iload_n (pc' := 26) K dX11_sumUp_25 rfl 1 rfl rfl ?_
        obtain ⟨hg, h⟩ := jgd_some h
        by_cases hc : v1 = 0
        · have h := jit hc h
          refine j_aald (pc' := 27) K dX11_sumUp_26 43 6 rfl rfl hg (by rw [hc]; rfl) rfl ?_
          obtain ⟨r27, hr27, h⟩ := jbd_some h
          refine j_ro (pc' := 30) K (fun H hP => jrun_V K dX11_sumUp_27 (M_X8_degree (jl E) (jg E) (a0 44) (a0 45) (a0 46) (X_poly0 (X_poly1_s s0 (r15.2))) hr27) u_3_193 u_3_190 u_3_191 u_3_192 u_1_12 ⟨ok_X8_degree, by decide, by decide⟩ rfl (Nat.le_of_ble_eq_true rfl) 44 rfl rfl H hP) [44, 45, 46] (cl_46_f ..) rfl ?_
          refine j_goto (tgt := 35) K dX11_sumUp_30 (by decide) ?_
          obtain rfl := Option.some.inj h
          exact HR _ _ dX11_sumUp_35
        have hc0 := hc
        have h := jif hc h
        by_cases hc : v1 = 1
        · have h := jit hc h
          refine j_aald (pc' := 27) K dX11_sumUp_26 43 6 rfl rfl hg (by rw [hc]; rfl) rfl ?_
          obtain ⟨r27, hr27, h⟩ := jbd_some h
          refine j_ro (pc' := 30) K (fun H hP => jrun_V K dX11_sumUp_27 (M_X8_degree (jl E) (jg E) (a0 47) (a0 48) (a0 49) (X_poly1 (X_poly1_s s0 (r15.2))) hr27) u_3_193 u_3_190 u_3_191 u_3_192 u_1_12 ⟨ok_X8_degree, by decide, by decide⟩ rfl (Nat.le_of_ble_eq_true rfl) 47 rfl rfl H hP) [47, 48, 49] (cl_51_f ..) rfl ?_
          refine j_goto (tgt := 35) K dX11_sumUp_30 (by decide) ?_
          obtain rfl := Option.some.inj h
          exact HR _ _ dX11_sumUp_35
        have hc1 := hc
        have h := jif hc h
        by_cases hc : v1 = 2
        · have h := jit hc h
          refine j_aald (pc' := 27) K dX11_sumUp_26 43 6 rfl rfl hg (by rw [hc]; rfl) rfl ?_
          obtain ⟨r27, hr27, h⟩ := jbd_some h
          refine j_ro (pc' := 30) K (fun H hP => jrun_V K dX11_sumUp_27 (M_X8_degree (jl E) (jg E) (a0 50) (a0 51) (a0 52) (X_poly2 (X_poly1_s s0 (r15.2))) hr27) u_3_193 u_3_190 u_3_191 u_3_192 u_1_12 ⟨ok_X8_degree, by decide, by decide⟩ rfl (Nat.le_of_ble_eq_true rfl) 50 rfl rfl H hP) [50, 51, 52] (cl_52_f ..) rfl ?_
          refine j_goto (tgt := 35) K dX11_sumUp_30 (by decide) ?_
          obtain rfl := Option.some.inj h
          exact HR _ _ dX11_sumUp_35
        have hc2 := hc
        have h := jif hc h
        have hc : v1 = 3 := jin4 hg hc0 hc1 hc2
        refine j_aald (pc' := 27) K dX11_sumUp_26 43 6 rfl rfl hg (by rw [hc]; rfl) rfl ?_
        obtain ⟨r27, hr27, h⟩ := jbd_some h
        refine j_ro (pc' := 30) K (fun H hP => jrun_V K dX11_sumUp_27 (M_X8_degree (jl E) (jg E) (a0 53) (a0 54) (a0 55) (X_poly3 (X_poly1_s s0 (r15.2))) hr27) u_3_193 u_3_190 u_3_191 u_3_192 u_1_12 ⟨ok_X8_degree, by decide, by decide⟩ rfl (Nat.le_of_ble_eq_true rfl) 53 rfl rfl H hP) [53, 54, 55] (cl_53_f ..) rfl ?_
        refine j_goto (tgt := 35) K dX11_sumUp_30 (by decide) ?_
        obtain rfl := Option.some.inj h
        exact HR _ _ dX11_sumUp_35
    have hc1 := hc
    have h := jif hc h
    by_cases hc : v1 = 2
    · have h := jit hc h
      refine j_aald (pc' := 15) K dX11_sumUp_14 43 6 rfl rfl hg (by rw [hc]; rfl) rfl ?_
      obtain ⟨r15, hr15, h⟩ := jbd_some h
      refine j_rw (pc' := 18) (ws' := (wX (jg E) a0 (X_poly2_s s0 (r15.2)))) K (fun H hP => jrun_V K dX11_sumUp_15 (M_X8_becomeSum (jl E) (jg E) (a0 50) (a0 51) (a0 52) (X_poly2 s0) hr15) u_4_6 u_4_3 u_4_4 u_4_5 u_1_12 ⟨ok_X8_becomeSum, by decide, by decide⟩ rfl (Nat.le_of_ble_eq_true rfl) 50 rfl rfl H hP) hrw [50, 51, 52] rfl (cl_49_s ..) rfl (cl_49_m ..) (ad_X ..) rfl ?_
      refine j_if_eq (pc' := 21) (tgt := 33) K dX11_sumUp_18 (by decide) rfl (fun hc => ?_) (fun hc => ?_)
      · have h := jit hc h
        refine j_bipush (pc' := 35) (v := (-2 : Int32)) K dX11_sumUp_33 (by decide) rfl ?_
        obtain rfl := Option.some.inj h
        exact HR _ _ dX11_sumUp_35
      · have h := jif hc h
        refine j_aload_n (pc' := 22) K dX11_sumUp_21 rfl 0 rfl rfl ?_
        refine j_get (pc' := 25) K dX11_sumUp_22 inX11 0 rfl rfl 4 (by decide) u_1_201 rfl rfl rfl ?_
        refine j_iload_n (pc' := 26) K dX11_sumUp_25 rfl 1 rfl rfl ?_
        obtain ⟨hg, h⟩ := jgd_some h
        by_cases hc : v1 = 0
        · have h := jit hc h
          refine j_aald (pc' := 27) K dX11_sumUp_26 43 6 rfl rfl hg (by rw [hc]; rfl) rfl ?_
          obtain ⟨r27, hr27, h⟩ := jbd_some h
          refine j_ro (pc' := 30) K (fun H hP => jrun_V K dX11_sumUp_27 (M_X8_degree (jl E) (jg E) (a0 44) (a0 45) (a0 46) (X_poly0 (X_poly2_s s0 (r15.2))) hr27) u_3_193 u_3_190 u_3_191 u_3_192 u_1_12 ⟨ok_X8_degree, by decide, by decide⟩ rfl (Nat.le_of_ble_eq_true rfl) 44 rfl rfl H hP) [44, 45, 46] (cl_46_f ..) rfl ?_
          refine j_goto (tgt := 35) K dX11_sumUp_30 (by decide) ?_
          obtain rfl := Option.some.inj h
          exact HR _ _ dX11_sumUp_35
        have hc0 := hc
        have h := jif hc h
        by_cases hc : v1 = 1
        · have h := jit hc h
          refine j_aald (pc' := 27) K dX11_sumUp_26 43 6 rfl rfl hg (by rw [hc]; rfl) rfl ?_
          obtain ⟨r27, hr27, h⟩ := jbd_some h
          refine j_ro (pc' := 30) K (fun H hP => jrun_V K dX11_sumUp_27 (M_X8_degree (jl E) (jg E) (a0 47) (a0 48) (a0 49) (X_poly1 (X_poly2_s s0 (r15.2))) hr27) u_3_193 u_3_190 u_3_191 u_3_192 u_1_12 ⟨ok_X8_degree, by decide, by decide⟩ rfl (Nat.le_of_ble_eq_true rfl) 47 rfl rfl H hP) [47, 48, 49] (cl_51_f ..) rfl ?_
          refine j_goto (tgt := 35) K dX11_sumUp_30 (by decide) ?_
          obtain rfl := Option.some.inj h
          exact HR _ _ dX11_sumUp_35
        have hc1 := hc
        have h := jif hc h
        by_cases hc : v1 = 2
        · have h := jit hc h
          refine j_aald (pc' := 27) K dX11_sumUp_26 43 6 rfl rfl hg (by rw [hc]; rfl) rfl ?_
          obtain ⟨r27, hr27, h⟩ := jbd_some h
          refine j_ro (pc' := 30) K (fun H hP => jrun_V K dX11_sumUp_27 (M_X8_degree (jl E) (jg E) (a0 50) (a0 51) (a0 52) (X_poly2 (X_poly2_s s0 (r15.2))) hr27) u_3_193 u_3_190 u_3_191 u_3_192 u_1_12 ⟨ok_X8_degree, by decide, by decide⟩ rfl (Nat.le_of_ble_eq_true rfl) 50 rfl rfl H hP) [50, 51, 52] (cl_52_f ..) rfl ?_
          refine j_goto (tgt := 35) K dX11_sumUp_30 (by decide) ?_
          obtain rfl := Option.some.inj h
          exact HR _ _ dX11_sumUp_35
        have hc2 := hc
        have h := jif hc h
        have hc : v1 = 3 := jin4 hg hc0 hc1 hc2
        refine j_aald (pc' := 27) K dX11_sumUp_26 43 6 rfl rfl hg (by rw [hc]; rfl) rfl ?_
        obtain ⟨r27, hr27, h⟩ := jbd_some h
        refine j_ro (pc' := 30) K (fun H hP => jrun_V K dX11_sumUp_27 (M_X8_degree (jl E) (jg E) (a0 53) (a0 54) (a0 55) (X_poly3 (X_poly2_s s0 (r15.2))) hr27) u_3_193 u_3_190 u_3_191 u_3_192 u_1_12 ⟨ok_X8_degree, by decide, by decide⟩ rfl (Nat.le_of_ble_eq_true rfl) 53 rfl rfl H hP) [53, 54, 55] (cl_53_f ..) rfl ?_
        refine j_goto (tgt := 35) K dX11_sumUp_30 (by decide) ?_
        obtain rfl := Option.some.inj h
        exact HR _ _ dX11_sumUp_35
    have hc2 := hc
    have h := jif hc h
    have hc : v1 = 3 := jin4 hg hc0 hc1 hc2
    refine j_aald (pc' := 15) K dX11_sumUp_14 43 6 rfl rfl hg (by rw [hc]; rfl) rfl ?_
    obtain ⟨r15, hr15, h⟩ := jbd_some h
    refine j_rw (pc' := 18) (ws' := (wX (jg E) a0 (X_poly3_s s0 (r15.2)))) K (fun H hP => jrun_V K dX11_sumUp_15 (M_X8_becomeSum (jl E) (jg E) (a0 53) (a0 54) (a0 55) (X_poly3 s0) hr15) u_4_6 u_4_3 u_4_4 u_4_5 u_1_12 ⟨ok_X8_becomeSum, by decide, by decide⟩ rfl (Nat.le_of_ble_eq_true rfl) 53 rfl rfl H hP) hrw [53, 54, 55] rfl (cl_50_s ..) rfl (cl_50_m ..) (ad_X ..) rfl ?_
    refine j_if_eq (pc' := 21) (tgt := 33) K dX11_sumUp_18 (by decide) rfl (fun hc => ?_) (fun hc => ?_)
    · have h := jit hc h
      refine j_bipush (pc' := 35) (v := (-2 : Int32)) K dX11_sumUp_33 (by decide) rfl ?_
      obtain rfl := Option.some.inj h
      exact HR _ _ dX11_sumUp_35
    · have h := jif hc h
      refine j_aload_n (pc' := 22) K dX11_sumUp_21 rfl 0 rfl rfl ?_
      refine j_get (pc' := 25) K dX11_sumUp_22 inX11 0 rfl rfl 4 (by decide) u_1_201 rfl rfl rfl ?_
      refine j_iload_n (pc' := 26) K dX11_sumUp_25 rfl 1 rfl rfl ?_
      obtain ⟨hg, h⟩ := jgd_some h
      by_cases hc : v1 = 0
      · have h := jit hc h
        refine j_aald (pc' := 27) K dX11_sumUp_26 43 6 rfl rfl hg (by rw [hc]; rfl) rfl ?_
        obtain ⟨r27, hr27, h⟩ := jbd_some h
        refine j_ro (pc' := 30) K (fun H hP => jrun_V K dX11_sumUp_27 (M_X8_degree (jl E) (jg E) (a0 44) (a0 45) (a0 46) (X_poly0 (X_poly3_s s0 (r15.2))) hr27) u_3_193 u_3_190 u_3_191 u_3_192 u_1_12 ⟨ok_X8_degree, by decide, by decide⟩ rfl (Nat.le_of_ble_eq_true rfl) 44 rfl rfl H hP) [44, 45, 46] (cl_46_f ..) rfl ?_
        refine j_goto (tgt := 35) K dX11_sumUp_30 (by decide) ?_
        obtain rfl := Option.some.inj h
        exact HR _ _ dX11_sumUp_35
      have hc0 := hc
      have h := jif hc h
      by_cases hc : v1 = 1
      · have h := jit hc h
        refine j_aald (pc' := 27) K dX11_sumUp_26 43 6 rfl rfl hg (by rw [hc]; rfl) rfl ?_
        obtain ⟨r27, hr27, h⟩ := jbd_some h
        refine j_ro (pc' := 30) K (fun H hP => jrun_V K dX11_sumUp_27 (M_X8_degree (jl E) (jg E) (a0 47) (a0 48) (a0 49) (X_poly1 (X_poly3_s s0 (r15.2))) hr27) u_3_193 u_3_190 u_3_191 u_3_192 u_1_12 ⟨ok_X8_degree, by decide, by decide⟩ rfl (Nat.le_of_ble_eq_true rfl) 47 rfl rfl H hP) [47, 48, 49] (cl_51_f ..) rfl ?_
        refine j_goto (tgt := 35) K dX11_sumUp_30 (by decide) ?_
        obtain rfl := Option.some.inj h
        exact HR _ _ dX11_sumUp_35
      have hc1 := hc
      have h := jif hc h
      by_cases hc : v1 = 2
      · have h := jit hc h
        refine j_aald (pc' := 27) K dX11_sumUp_26 43 6 rfl rfl hg (by rw [hc]; rfl) rfl ?_
        obtain ⟨r27, hr27, h⟩ := jbd_some h
        refine j_ro (pc' := 30) K (fun H hP => jrun_V K dX11_sumUp_27 (M_X8_degree (jl E) (jg E) (a0 50) (a0 51) (a0 52) (X_poly2 (X_poly3_s s0 (r15.2))) hr27) u_3_193 u_3_190 u_3_191 u_3_192 u_1_12 ⟨ok_X8_degree, by decide, by decide⟩ rfl (Nat.le_of_ble_eq_true rfl) 50 rfl rfl H hP) [50, 51, 52] (cl_52_f ..) rfl ?_
        refine j_goto (tgt := 35) K dX11_sumUp_30 (by decide) ?_
        obtain rfl := Option.some.inj h
        exact HR _ _ dX11_sumUp_35
      have hc2 := hc
      have h := jif hc h
      have hc : v1 = 3 := jin4 hg hc0 hc1 hc2
      refine j_aald (pc' := 27) K dX11_sumUp_26 43 6 rfl rfl hg (by rw [hc]; rfl) rfl ?_
      obtain ⟨r27, hr27, h⟩ := jbd_some h
      refine j_ro (pc' := 30) K (fun H hP => jrun_V K dX11_sumUp_27 (M_X8_degree (jl E) (jg E) (a0 53) (a0 54) (a0 55) (X_poly3 (X_poly3_s s0 (r15.2))) hr27) u_3_193 u_3_190 u_3_191 u_3_192 u_1_12 ⟨ok_X8_degree, by decide, by decide⟩ rfl (Nat.le_of_ble_eq_true rfl) 53 rfl rfl H hP) [53, 54, 55] (cl_53_f ..) rfl ?_
      refine j_goto (tgt := 35) K dX11_sumUp_30 (by decide) ?_
      obtain rfl := Option.some.inj h
      exact HR _ _ dX11_sumUp_35
  · have h := jit hc h
    refine j_iconst (pc' := 8) (v := (-1 : Int32)) K dX11_sumUp_7 (by decide) rfl ?_
    obtain rfl := Option.some.inj h
    exact HR _ _ dX11_sumUp_8
set_option maxRecDepth 100000 in
set_option maxHeartbeats 4000000 in
theorem M_X11_sumUp (l : Launch) (G : jG) (a0 : Nat → Nat) (v1 : Int32) (s0 : XS) {r : Int32 × XS} (h : f_X11_sumUp v1 s0 = some r) : MC l yX11_sumUp cX11_sumUp 2 (some .int) 4 G (jad (wX G a0 s0)) True (wX G a0 s0) (wX G a0 (r.2)) [.ref (a0 0), .int v1] (some (.int (r.1))) := by
  refine mc_int (by decide +kernel) (Nat.le_of_ble_eq_true rfl) fun E hl hg hA hrw K HR => ?_
  subst hl
  subst hg
  have hrw : jrw E := by rw [hrw]; trivial
  exact b_X11_sumUp a0 K hrw HR v1 s0 h
theorem ok_X11_root : yX11_root.cls ≠ "java/lang/invoke/MethodHandle" ∧ yX11_root.cls ≠ "java/lang/invoke/VarHandle" ∧ (parseMethodDescriptor yX11_root.desc).map (fun d => d.parameters.length) = some 2 := ⟨by decide, by decide, by decide +kernel⟩
def f_X11_root_62 (v2 : Int32) (v3 : Int32) (s0 : XS) : Option (Int32) :=
   if v2 = (-1 : Int32) then
   some v3
  else
   some (-1004 : Int32)
def f_X11_root_56 (k22 : Int32 → Int32 → Int32 → Int32 → XS → Option (Int32)) (v1 : Int32) (v2 : Int32) (v3 : Int32) (v4 : Int32) (s0 : XS) : Option (Int32) :=
   k22 v1 v2 v3 (v4 + (1 : Int32)) s0
def f_X11_root_22 : Nat → Int32 → Int32 → Int32 → Int32 → XS → Option (Int32)
  | 0, _, _, _, _, _ => none
  | n + 1, v1, v2, v3, v4, s0 =>
   if (20 : Int32) < v4 then
   f_X11_root_62 v2 v3 s0
  else
   jgd v1 4 (
    if v1 = 0 then (
     jbd (f_X8_valueAt v4 (X_poly0 s0)) (fun r37 =>
      if (lg_cmp r37 (0 : Int64)) = 0 then
       if v3 = v2 then
        some v4
       else
        f_X11_root_56 (f_X11_root_22 n) v1 v2 (v3 + (1 : Int32)) v4 s0
      else
       f_X11_root_56 (f_X11_root_22 n) v1 v2 v3 v4 s0)) else if v1 = 1 then (
     jbd (f_X8_valueAt v4 (X_poly1 s0)) (fun r37 =>
      if (lg_cmp r37 (0 : Int64)) = 0 then
       if v3 = v2 then
        some v4
       else
        f_X11_root_56 (f_X11_root_22 n) v1 v2 (v3 + (1 : Int32)) v4 s0
      else
       f_X11_root_56 (f_X11_root_22 n) v1 v2 v3 v4 s0)) else if v1 = 2 then (
     jbd (f_X8_valueAt v4 (X_poly2 s0)) (fun r37 =>
      if (lg_cmp r37 (0 : Int64)) = 0 then
       if v3 = v2 then
        some v4
       else
        f_X11_root_56 (f_X11_root_22 n) v1 v2 (v3 + (1 : Int32)) v4 s0
      else
       f_X11_root_56 (f_X11_root_22 n) v1 v2 v3 v4 s0)) else (
     jbd (f_X8_valueAt v4 (X_poly3 s0)) (fun r37 =>
      if (lg_cmp r37 (0 : Int64)) = 0 then
       if v3 = v2 then
        some v4
       else
        f_X11_root_56 (f_X11_root_22 n) v1 v2 (v3 + (1 : Int32)) v4 s0
      else
       f_X11_root_56 (f_X11_root_22 n) v1 v2 v3 v4 s0)))
def f_X11_root (v1 : Int32) (v2 : Int32) (s0 : XS) : Option (Int32) :=
   jbd (f_X11_isPolynomial v1) (fun r1 =>
   if r1 = 0 then
    some (-1001 : Int32)
   else
    if (-1 : Int32) ≤ v2 then
     f_X11_root_22 jFU v1 v2 (0 : Int32) (-20 : Int32) s0
    else
     some (-1001 : Int32))
set_option maxRecDepth 100000 in
set_option maxHeartbeats 4000000 in
theorem b_X11_root_62 {E : jE} (a0 : Nat → Nat) (s0 : XS) {res : Int32} (K : jC E cX11_root 5 RX11 2) (HR : jRI E cX11_root 5 (wX (jg E) a0 s0) res) : ∀ (v2 : Int32) (v3 : Int32), f_X11_root_62 v2 v3 s0 = some res → J E 5 (wX (jg E) a0 s0) 62 [(2, .int v2), (3, .int v3)] [] := by
  intro v2 v3 h
  unfold f_X11_root_62 at h
  refine j_iload_n (pc' := 63) K dX11_root_62 rfl 0 rfl rfl ?_
  refine j_iconst (pc' := 64) (v := (-1 : Int32)) K dX11_root_63 (by decide) rfl ?_
  refine j_icmp_ne (pc' := 67) (tgt := 71) K dX11_root_64 (by decide) rfl (fun hc => ?_) (fun hc => ?_)
  · have h := jif hc h
    refine j_sipush (pc' := 74) (v := (-1004 : Int32)) K dX11_root_71 (by decide) rfl ?_
    obtain rfl := Option.some.inj h
    exact HR _ _ dX11_root_74
  · have h := jit hc h
    refine j_iload_n (pc' := 68) K dX11_root_67 rfl 1 rfl rfl ?_
    refine j_goto (tgt := 74) K dX11_root_68 (by decide) ?_
    obtain rfl := Option.some.inj h
    exact HR _ _ dX11_root_74
set_option maxRecDepth 100000 in
set_option maxHeartbeats 4000000 in
theorem b_X11_root_56 {E : jE} (a0 : Nat → Nat) (s0 : XS) {res : Int32} (K : jC E cX11_root 5 RX11 2) (HR : jRI E cX11_root 5 (wX (jg E) a0 s0) res) (k22 : Int32 → Int32 → Int32 → Int32 → XS → Option (Int32)) (hk22 : ∀ (v1 : Int32) (v2 : Int32) (v3 : Int32) (v4 : Int32), k22 v1 v2 v3 v4 s0 = some res → J E 5 (wX (jg E) a0 s0) 22 [(0, .ref (a0 0)), (1, .int v1), (2, .int v2), (3, .int v3), (4, .int v4)] []) : ∀ (v1 : Int32) (v2 : Int32) (v3 : Int32) (v4 : Int32), f_X11_root_56 k22 v1 v2 v3 v4 s0 = some res → J E 5 (wX (jg E) a0 s0) 56 [(0, .ref (a0 0)), (1, .int v1), (2, .int v2), (3, .int v3), (4, .int v4)] [] := by
  intro v1 v2 v3 v4 h
  unfold f_X11_root_56 at h
  refine j_iinc (pc' := 59) (j := 4) (v := (v4 + (1 : Int32))) (lv' := [(4, .int (v4 + (1 : Int32))), (0, .ref (a0 0)), (1, .int v1), (2, .int v2), (3, .int v3)]) K dX11_root_56 rfl rfl (by decide) rfl rfl ?_
  refine j_goto (tgt := 22) K dX11_root_59 (by decide) ?_
  refine j_sub [1, 2, 3, 4, 0] rfl ?_
  exact hk22 v1 v2 v3 (v4 + (1 : Int32)) h
set_option maxRecDepth 100000 in
set_option maxHeartbeats 4000000 in
theorem b_X11_root_22 {E : jE} (a0 : Nat → Nat) (s0 : XS) {res : Int32} (K : jC E cX11_root 5 RX11 2) (HR : jRI E cX11_root 5 (wX (jg E) a0 s0) res) : ∀ (n : Nat) (v1 : Int32) (v2 : Int32) (v3 : Int32) (v4 : Int32), f_X11_root_22 n v1 v2 v3 v4 s0 = some res → J E 5 (wX (jg E) a0 s0) 22 [(0, .ref (a0 0)), (1, .int v1), (2, .int v2), (3, .int v3), (4, .int v4)] [] := by
  intro n
  induction n with
  | zero => intro _ _ _ _ h; cases h
  | succ n ih =>
    intro v1 v2 v3 v4 h
    rw [f_X11_root_22] at h
    refine j_iload (pc' := 24) K dX11_root_22 4 rfl rfl ?_
    refine j_bipush (pc' := 26) (v := (20 : Int32)) K dX11_root_24 (by decide) rfl ?_
    refine j_icmp_gt (pc' := 29) (tgt := 62) K dX11_root_26 (by decide) rfl (fun hc => ?_) (fun hc => ?_)
    · have h := jit hc h
      refine j_sub [2, 3] rfl ?_
      exact b_X11_root_62 a0 s0 K HR v2 v3 h
    · have h := jif hc h
      refine j_aload_n (pc' := 30) K dX11_root_29 rfl 0 rfl rfl ?_
      refine j_get (pc' := 33) K dX11_root_30 inX11 0 rfl rfl 4 (by decide) u_1_201 rfl rfl rfl ?_
      refine j_iload_n (pc' := 34) K dX11_root_33 rfl 1 rfl rfl ?_
      obtain ⟨hg, h⟩ := jgd_some h
      by_cases hc : v1 = 0
      · have h := jit hc h
        refine j_aald (pc' := 35) K dX11_root_34 43 6 rfl rfl hg (by rw [hc]; rfl) rfl ?_
        refine j_iload (pc' := 37) K dX11_root_35 4 rfl rfl ?_
        obtain ⟨r37, hr37, h⟩ := jbd_some h
        refine j_ro (pc' := 40) K (fun H hP => jrun_V K dX11_root_37 (M_X8_valueAt (jl E) (jg E) (a0 44) (a0 45) (a0 46) v4 (X_poly0 s0) hr37) u_3_238 u_4_12 u_3_236 u_3_237 u_1_12 ⟨ok_X8_valueAt, by decide, by decide⟩ rfl (Nat.le_of_ble_eq_true rfl) 44 rfl rfl H hP) [44, 45, 46] (cl_46_f ..) rfl ?_
        refine j_lconst (pc' := 41) (v := (0 : Int64)) K dX11_root_40 (by decide) rfl ?_
        refine j_lcmp (pc' := 42) K dX11_root_41 rfl ?_
        refine j_if_ne (pc' := 45) (tgt := 56) K dX11_root_42 (by decide) rfl (fun hc => ?_) (fun hc => ?_)
        · have h := jif hc h
          refine j_sub [0, 1, 2, 3, 4] rfl ?_
          exact b_X11_root_56 a0 s0 K HR (f_X11_root_22 n) (ih) v1 v2 v3 v4 h
        · have h := jit hc h
          refine j_iload_n (pc' := 46) K dX11_root_45 rfl 3 rfl rfl ?_
          refine j_iload_n (pc' := 47) K dX11_root_46 rfl 2 rfl rfl ?_
          refine j_icmp_ne (pc' := 50) (tgt := 53) K dX11_root_47 (by decide) rfl (fun hc => ?_) (fun hc => ?_)
          · have h := jif hc h
            refine j_iinc (pc' := 56) (j := 3) (v := (v3 + (1 : Int32))) (lv' := [(3, .int (v3 + (1 : Int32))), (0, .ref (a0 0)), (1, .int v1), (2, .int v2), (4, .int v4)]) K dX11_root_53 rfl rfl (by decide) rfl rfl ?_
            refine j_sub [1, 2, 3, 0, 4] rfl ?_
            exact b_X11_root_56 a0 s0 K HR (f_X11_root_22 n) (ih) v1 v2 (v3 + (1 : Int32)) v4 h
          · have h := jit hc h
            refine j_iload (pc' := 52) K dX11_root_50 4 rfl rfl ?_
            obtain rfl := Option.some.inj h
            exact HR _ _ dX11_root_52
      have hc0 := hc
      have h := jif hc h
      by_cases hc : v1 = 1
      · have h := jit hc h
        refine j_aald (pc' := 35) K dX11_root_34 43 6 rfl rfl hg (by rw [hc]; rfl) rfl ?_
        refine j_iload (pc' := 37) K dX11_root_35 4 rfl rfl ?_
        obtain ⟨r37, hr37, h⟩ := jbd_some h
        refine j_ro (pc' := 40) K (fun H hP => jrun_V K dX11_root_37 (M_X8_valueAt (jl E) (jg E) (a0 47) (a0 48) (a0 49) v4 (X_poly1 s0) hr37) u_3_238 u_4_12 u_3_236 u_3_237 u_1_12 ⟨ok_X8_valueAt, by decide, by decide⟩ rfl (Nat.le_of_ble_eq_true rfl) 47 rfl rfl H hP) [47, 48, 49] (cl_51_f ..) rfl ?_
        refine j_lconst (pc' := 41) (v := (0 : Int64)) K dX11_root_40 (by decide) rfl ?_
        refine j_lcmp (pc' := 42) K dX11_root_41 rfl ?_
        refine j_if_ne (pc' := 45) (tgt := 56) K dX11_root_42 (by decide) rfl (fun hc => ?_) (fun hc => ?_)
        · have h := jif hc h
          refine j_sub [0, 1, 2, 3, 4] rfl ?_
          exact b_X11_root_56 a0 s0 K HR (f_X11_root_22 n) (ih) v1 v2 v3 v4 h
        · have h := jit hc h
          refine j_iload_n (pc' := 46) K dX11_root_45 rfl 3 rfl rfl ?_
          refine j_iload_n (pc' := 47) K dX11_root_46 rfl 2 rfl rfl ?_
          refine j_icmp_ne (pc' := 50) (tgt := 53) K dX11_root_47 (by decide) rfl (fun hc => ?_) (fun hc => ?_)
          · have h := jif hc h
            refine j_iinc (pc' := 56) (j := 3) (v := (v3 + (1 : Int32))) (lv' := [(3, .int (v3 + (1 : Int32))), (0, .ref (a0 0)), (1, .int v1), (2, .int v2), (4, .int v4)]) K dX11_root_53 rfl rfl (by decide) rfl rfl ?_
            refine j_sub [1, 2, 3, 0, 4] rfl ?_
            exact b_X11_root_56 a0 s0 K HR (f_X11_root_22 n) (ih) v1 v2 (v3 + (1 : Int32)) v4 h
          · have h := jit hc h
            refine j_iload (pc' := 52) K dX11_root_50 4 rfl rfl ?_
            obtain rfl := Option.some.inj h
            exact HR _ _ dX11_root_52
      have hc1 := hc
      have h := jif hc h
      by_cases hc : v1 = 2
      · have h := jit hc h
        refine j_aald (pc' := 35) K dX11_root_34 43 6 rfl rfl hg (by rw [hc]; rfl) rfl ?_
        refine j_iload (pc' := 37) K dX11_root_35 4 rfl rfl ?_
        obtain ⟨r37, hr37, h⟩ := jbd_some h
        refine j_ro (pc' := 40) K (fun H hP => jrun_V K dX11_root_37 (M_X8_valueAt (jl E) (jg E) (a0 50) (a0 51) (a0 52) v4 (X_poly2 s0) hr37) u_3_238 u_4_12 u_3_236 u_3_237 u_1_12 ⟨ok_X8_valueAt, by decide, by decide⟩ rfl (Nat.le_of_ble_eq_true rfl) 50 rfl rfl H hP) [50, 51, 52] (cl_52_f ..) rfl ?_
        refine j_lconst (pc' := 41) (v := (0 : Int64)) K dX11_root_40 (by decide) rfl ?_
        refine j_lcmp (pc' := 42) K dX11_root_41 rfl ?_
        refine j_if_ne (pc' := 45) (tgt := 56) K dX11_root_42 (by decide) rfl (fun hc => ?_) (fun hc => ?_)
        · have h := jif hc h
          refine j_sub [0, 1, 2, 3, 4] rfl ?_
          exact b_X11_root_56 a0 s0 K HR (f_X11_root_22 n) (ih) v1 v2 v3 v4 h
        · have h := jit hc h
          refine j_iload_n (pc' := 46) K dX11_root_45 rfl 3 rfl rfl ?_
          refine j_iload_n (pc' := 47) K dX11_root_46 rfl 2 rfl rfl ?_
          refine j_icmp_ne (pc' := 50) (tgt := 53) K dX11_root_47 (by decide) rfl (fun hc => ?_) (fun hc => ?_)
          · have h := jif hc h
            refine j_iinc (pc' := 56) (j := 3) (v := (v3 + (1 : Int32))) (lv' := [(3, .int (v3 + (1 : Int32))), (0, .ref (a0 0)), (1, .int v1), (2, .int v2), (4, .int v4)]) K dX11_root_53 rfl rfl (by decide) rfl rfl ?_
            refine j_sub [1, 2, 3, 0, 4] rfl ?_
            exact b_X11_root_56 a0 s0 K HR (f_X11_root_22 n) (ih) v1 v2 (v3 + (1 : Int32)) v4 h
          · have h := jit hc h
            refine j_iload (pc' := 52) K dX11_root_50 4 rfl rfl ?_
            obtain rfl := Option.some.inj h
            exact HR _ _ dX11_root_52
      have hc2 := hc
      have h := jif hc h
      have hc : v1 = 3 := jin4 hg hc0 hc1 hc2
      refine j_aald (pc' := 35) K dX11_root_34 43 6 rfl rfl hg (by rw [hc]; rfl) rfl ?_
      refine j_iload (pc' := 37) K dX11_root_35 4 rfl rfl ?_
      obtain ⟨r37, hr37, h⟩ := jbd_some h
      refine j_ro (pc' := 40) K (fun H hP => jrun_V K dX11_root_37 (M_X8_valueAt (jl E) (jg E) (a0 53) (a0 54) (a0 55) v4 (X_poly3 s0) hr37) u_3_238 u_4_12 u_3_236 u_3_237 u_1_12 ⟨ok_X8_valueAt, by decide, by decide⟩ rfl (Nat.le_of_ble_eq_true rfl) 53 rfl rfl H hP) [53, 54, 55] (cl_53_f ..) rfl ?_
      refine j_lconst (pc' := 41) (v := (0 : Int64)) K dX11_root_40 (by decide) rfl ?_
      refine j_lcmp (pc' := 42) K dX11_root_41 rfl ?_
      refine j_if_ne (pc' := 45) (tgt := 56) K dX11_root_42 (by decide) rfl (fun hc => ?_) (fun hc => ?_)
      · have h := jif hc h
        refine j_sub [0, 1, 2, 3, 4] rfl ?_
        exact b_X11_root_56 a0 s0 K HR (f_X11_root_22 n) (ih) v1 v2 v3 v4 h
      · have h := jit hc h
        refine j_iload_n (pc' := 46) K dX11_root_45 rfl 3 rfl rfl ?_
        refine j_iload_n (pc' := 47) K dX11_root_46 rfl 2 rfl rfl ?_
        refine j_icmp_ne (pc' := 50) (tgt := 53) K dX11_root_47 (by decide) rfl (fun hc => ?_) (fun hc => ?_)
        · have h := jif hc h
          refine j_iinc (pc' := 56) (j := 3) (v := (v3 + (1 : Int32))) (lv' := [(3, .int (v3 + (1 : Int32))), (0, .ref (a0 0)), (1, .int v1), (2, .int v2), (4, .int v4)]) K dX11_root_53 rfl rfl (by decide) rfl rfl ?_
          refine j_sub [1, 2, 3, 0, 4] rfl ?_
          exact b_X11_root_56 a0 s0 K HR (f_X11_root_22 n) (ih) v1 v2 (v3 + (1 : Int32)) v4 h
        · have h := jit hc h
          refine j_iload (pc' := 52) K dX11_root_50 4 rfl rfl ?_
          obtain rfl := Option.some.inj h
          exact HR _ _ dX11_root_52
set_option maxRecDepth 100000 in
set_option maxHeartbeats 4000000 in
theorem b_X11_root {E : jE} (a0 : Nat → Nat) (s0 : XS) {res : Int32} (K : jC E cX11_root 5 RX11 2) (HR : jRI E cX11_root 5 (wX (jg E) a0 s0) res) : ∀ (v1 : Int32) (v2 : Int32), f_X11_root v1 v2 s0 = some res → J E 5 (wX (jg E) a0 s0) 0 [(0, .ref (a0 0)), (1, .int v1), (2, .int v2)] [] := by
  intro v1 v2 h
  unfold f_X11_root at h
  refine j_iload_n (pc' := 1) K dX11_root_0 rfl 1 rfl rfl ?_
  obtain ⟨r1, hr1, h⟩ := jbd_some h
  refine j_ro (pc' := 4) K (fun H hP => jrun_S K dX11_root_1 (M_X11_isPolynomial (jl E) (jg E) v1 hr1) u_3_155 u_3_153 u_3_154 u_1_1 ⟨ok_X11_isPolynomial, by decide, by decide⟩ rfl (Nat.le_of_ble_eq_true rfl) H) [] rfl rfl ?_
  refine j_if_eq (pc' := 7) (tgt := 12) K dX11_root_4 (by decide) rfl (fun hc => ?_) (fun hc => ?_)
  · have h := jit hc h
    refine j_sipush (pc' := 15) (v := (-1001 : Int32)) K dX11_root_12 (by decide) rfl ?_
    obtain rfl := Option.some.inj h
    exact HR _ _ dX11_root_15
  · have h := jif hc h
    refine j_iload_n (pc' := 8) K dX11_root_7 rfl 2 rfl rfl ?_
    refine j_iconst (pc' := 9) (v := (-1 : Int32)) K dX11_root_8 (by decide) rfl ?_
    refine j_icmp_ge (pc' := 12) (tgt := 16) K dX11_root_9 (by decide) rfl (fun hc => ?_) (fun hc => ?_)
    · have h := jit hc h
      refine j_iconst (pc' := 17) (v := (0 : Int32)) K dX11_root_16 (by decide) rfl ?_
      refine j_istore_n (pc' := 18) (lv' := [(3, .int (0 : Int32)), (0, .ref (a0 0)), (1, .int v1), (2, .int v2)]) K dX11_root_17 rfl (by decide) rfl rfl ?_
      refine j_bipush (pc' := 20) (v := (-20 : Int32)) K dX11_root_18 (by decide) rfl ?_
      refine j_istore (pc' := 22) (lv' := [(4, .int (-20 : Int32)), (3, .int (0 : Int32)), (0, .ref (a0 0)), (1, .int v1), (2, .int v2)]) K dX11_root_20 (by decide) rfl rfl ?_
      refine j_sub [2, 3, 4, 1, 0] rfl ?_
      exact b_X11_root_22 a0 s0 K HR jFU v1 v2 (0 : Int32) (-20 : Int32) h
    · have h := jif hc h
      refine j_sipush (pc' := 15) (v := (-1001 : Int32)) K dX11_root_12 (by decide) rfl ?_
      obtain rfl := Option.some.inj h
      exact HR _ _ dX11_root_15
set_option maxRecDepth 100000 in
set_option maxHeartbeats 4000000 in
theorem M_X11_root (l : Launch) (G : jG) (a0 : Nat → Nat) (v1 : Int32) (v2 : Int32) (s0 : XS) {r : Int32} (h : f_X11_root v1 v2 s0 = some r) : MC l yX11_root cX11_root 5 (some .int) 2 G jNo False (wX G a0 s0) (wX G a0 s0) [.ref (a0 0), .int v1, .int v2] (some (.int r)) := by
  refine mc_int (by decide +kernel) (Nat.le_of_ble_eq_true rfl) fun E hl hg hA hrw K HR => ?_
  subst hl
  subst hg
  exact b_X11_root a0 s0 K HR v1 v2 h
