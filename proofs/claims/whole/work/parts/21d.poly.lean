theorem ok_X11_base : yX11_base.cls ≠ "java/lang/invoke/MethodHandle" ∧ yX11_base.cls ≠ "java/lang/invoke/VarHandle" ∧ (parseMethodDescriptor yX11_base.desc).map (fun d => d.parameters.length) = some 2 := ⟨by decide, by decide, by decide +kernel⟩
def f_X11_base (v1 : Int32) (v2 : Int32) (s0 : XS) : Option (Int32 × XS) :=
   jbd (f_X11_isPolynomial v1) (fun r1 =>
   if r1 = 0 then
    some ((-1 : Int32), s0)
   else
    jbd (f_X11_within v2 (0 : Int32) (3 : Int32)) (fun r10 =>
     if r10 = 0 then
      some ((-1 : Int32), s0)
     else
      jgd v1 4 (
       if v1 = 0 then (
        jbd (f_X8_baseNow (X_poly0 s0)) (fun r24 =>
         jgd v1 4 (
          if v1 = 0 then (
           jbd (f_X8_clearIn v2 (X_poly0 s0)) (fun r35 =>
            some (r24, (X_poly0_s s0 r35)))) else if v1 = 1 then (
           jbd (f_X8_clearIn v2 (X_poly1 s0)) (fun r35 =>
            some (r24, (X_poly1_s s0 r35)))) else if v1 = 2 then (
           jbd (f_X8_clearIn v2 (X_poly2 s0)) (fun r35 =>
            some (r24, (X_poly2_s s0 r35)))) else (
           jbd (f_X8_clearIn v2 (X_poly3 s0)) (fun r35 =>
            some (r24, (X_poly3_s s0 r35))))))) else if v1 = 1 then (
        jbd (f_X8_baseNow (X_poly1 s0)) (fun r24 =>
         jgd v1 4 (
          if v1 = 0 then (
           jbd (f_X8_clearIn v2 (X_poly0 s0)) (fun r35 =>
            some (r24, (X_poly0_s s0 r35)))) else if v1 = 1 then (
           jbd (f_X8_clearIn v2 (X_poly1 s0)) (fun r35 =>
            some (r24, (X_poly1_s s0 r35)))) else if v1 = 2 then (
           jbd (f_X8_clearIn v2 (X_poly2 s0)) (fun r35 =>
            some (r24, (X_poly2_s s0 r35)))) else (
           jbd (f_X8_clearIn v2 (X_poly3 s0)) (fun r35 =>
            some (r24, (X_poly3_s s0 r35))))))) else if v1 = 2 then (
        jbd (f_X8_baseNow (X_poly2 s0)) (fun r24 =>
         jgd v1 4 (
          if v1 = 0 then (
           jbd (f_X8_clearIn v2 (X_poly0 s0)) (fun r35 =>
            some (r24, (X_poly0_s s0 r35)))) else if v1 = 1 then (
           jbd (f_X8_clearIn v2 (X_poly1 s0)) (fun r35 =>
            some (r24, (X_poly1_s s0 r35)))) else if v1 = 2 then (
           jbd (f_X8_clearIn v2 (X_poly2 s0)) (fun r35 =>
            some (r24, (X_poly2_s s0 r35)))) else (
           jbd (f_X8_clearIn v2 (X_poly3 s0)) (fun r35 =>
            some (r24, (X_poly3_s s0 r35))))))) else (
        jbd (f_X8_baseNow (X_poly3 s0)) (fun r24 =>
         jgd v1 4 (
          if v1 = 0 then (
           jbd (f_X8_clearIn v2 (X_poly0 s0)) (fun r35 =>
            some (r24, (X_poly0_s s0 r35)))) else if v1 = 1 then (
           jbd (f_X8_clearIn v2 (X_poly1 s0)) (fun r35 =>
            some (r24, (X_poly1_s s0 r35)))) else if v1 = 2 then (
           jbd (f_X8_clearIn v2 (X_poly2 s0)) (fun r35 =>
            some (r24, (X_poly2_s s0 r35)))) else (
           jbd (f_X8_clearIn v2 (X_poly3 s0)) (fun r35 =>
            some (r24, (X_poly3_s s0 r35))))))))))
set_option maxRecDepth 100000 in
set_option maxHeartbeats 4000000 in
theorem b_X11_base {E : jE} (a0 : Nat → Nat) {res : Int32 × XS} (K : jC E cX11_base 4 RX11 2) (hrw : jrw E) (HR : jRI E cX11_base 4 (wX (jg E) a0 (res.2)) (res.1)) : ∀ (v1 : Int32) (v2 : Int32) (s0 : XS), f_X11_base v1 v2 s0 = some res → J E 4 (wX (jg E) a0 s0) 0 [(0, .ref (a0 0)), (1, .int v1), (2, .int v2)] [] := by
  intro v1 v2 s0 h
  unfold f_X11_base at h
  refine j_iload_n (pc' := 1) K dX11_base_0 rfl 1 rfl rfl ?_
  obtain ⟨r1, hr1, h⟩ := jbd_some h
  refine j_ro (pc' := 4) K (fun H hP => jrun_S K dX11_base_1 (M_X11_isPolynomial (jl E) (jg E) v1 hr1) u_3_155 u_3_153 u_3_154 u_1_1 ⟨ok_X11_isPolynomial, by decide, by decide⟩ rfl (Nat.le_of_ble_eq_true rfl) H) [] rfl rfl ?_
  refine j_if_eq (pc' := 7) (tgt := 16) K dX11_base_4 (by decide) rfl (fun hc => ?_) (fun hc => ?_)
  · have h := jit hc h
    refine j_iconst (pc' := 17) (v := (-1 : Int32)) K dX11_base_16 (by decide) rfl ?_
    obtain rfl := Option.some.inj h
    exact HR _ _ dX11_base_17
  · have h := jif hc h
    refine j_iload_n (pc' := 8) K dX11_base_7 rfl 2 rfl rfl ?_
    refine j_iconst (pc' := 9) (v := (0 : Int32)) K dX11_base_8 (by decide) rfl ?_
    refine j_iconst (pc' := 10) (v := (3 : Int32)) K dX11_base_9 (by decide) rfl ?_
    obtain ⟨r10, hr10, h⟩ := jbd_some h
    refine j_ro (pc' := 13) K (fun H hP => jrun_S K dX11_base_10 (M_X11_within (jl E) (jg E) v2 (0 : Int32) (3 : Int32) hr10) u_1_76 u_1_217 u_1_75 u_1_1 ⟨ok_X11_within, by decide, by decide⟩ rfl (Nat.le_of_ble_eq_true rfl) H) [] rfl rfl ?_
    refine j_if_ne (pc' := 16) (tgt := 18) K dX11_base_13 (by decide) rfl (fun hc => ?_) (fun hc => ?_)
    · have h := jif hc h
      refine j_aload_n (pc' := 19) K dX11_base_18 rfl 0 rfl rfl ?_
      refine j_get (pc' := 22) K dX11_base_19 inX11 0 rfl rfl 4 (by decide) u_1_201 rfl rfl rfl ?_
      refine j_iload_n (pc' := 23) K dX11_base_22 rfl 1 rfl rfl ?_
      obtain ⟨hg, h⟩ := jgd_some h
      by_cases hc : v1 = 0
      · have h := jit hc h
        refine j_aald (pc' := 24) K dX11_base_23 43 6 rfl rfl hg (by rw [hc]; rfl) rfl ?_
        obtain ⟨r24, hr24, h⟩ := jbd_some h
        refine j_ro (pc' := 27) K (fun H hP => jrun_V K dX11_base_24 (M_X8_baseNow (jl E) (jg E) (a0 44) (a0 45) (a0 46) (X_poly0 s0) hr24) u_3_159 u_3_156 u_3_157 u_3_158 u_1_12 ⟨ok_X8_baseNow, by decide, by decide⟩ rfl (Nat.le_of_ble_eq_true rfl) 44 rfl rfl H hP) [44, 45, 46] (cl_46_f ..) rfl ?_
        refine j_istore_n (pc' := 28) (lv' := [(3, .int r24), (0, .ref (a0 0)), (1, .int v1), (2, .int v2)]) K dX11_base_27 rfl (by decide) rfl rfl ?_
        refine j_aload_n (pc' := 29) K dX11_base_28 rfl 1 rfl rfl ?_
        refine j_get (pc' := 32) K dX11_base_29 inX11 0 rfl rfl 4 (by decide) u_1_201 rfl rfl rfl ?_
        refine j_iload_n (pc' := 33) K dX11_base_32 rfl 2 rfl rfl ?_
        obtain ⟨hg, h⟩ := jgd_some h
        by_cases hc : v1 = 0
        · have h := jit hc h
          refine j_aald (pc' := 34) K dX11_base_33 43 6 rfl rfl hg (by rw [hc]; rfl) rfl ?_
          refine j_iload_n (pc' := 35) K dX11_base_34 rfl 3 rfl rfl ?_
          obtain ⟨r35, hr35, h⟩ := jbd_some h
          refine j_rw (pc' := 38) (ws' := (wX (jg E) a0 (X_poly0_s s0 r35))) K (fun H hP => jrun_V K dX11_base_35 (M_X8_clearIn (jl E) (jg E) (a0 44) (a0 45) (a0 46) v2 (X_poly0 s0) hr35) u_3_163 u_3_160 u_3_161 u_3_162 u_1_12 ⟨ok_X8_clearIn, by decide, by decide⟩ rfl (Nat.le_of_ble_eq_true rfl) 44 rfl rfl H hP) hrw [44, 45, 46] rfl (cl_47_s ..) rfl (cl_47_m ..) (ad_X ..) rfl ?_
          refine j_iload_n (pc' := 39) K dX11_base_38 rfl 0 rfl rfl ?_
          obtain rfl := Option.some.inj h
          exact HR _ _ dX11_base_39
        have hc0 := hc
        have h := jif hc h
        by_cases hc : v1 = 1
        · have h := jit hc h
          refine j_aald (pc' := 34) K dX11_base_33 43 6 rfl rfl hg (by rw [hc]; rfl) rfl ?_
          refine j_iload_n (pc' := 35) K dX11_base_34 rfl 3 rfl rfl ?_
          obtain ⟨r35, hr35, h⟩ := jbd_some h
          refine j_rw (pc' := 38) (ws' := (wX (jg E) a0 (X_poly1_s s0 r35))) K (fun H hP => jrun_V K dX11_base_35 (M_X8_clearIn (jl E) (jg E) (a0 47) (a0 48) (a0 49) v2 (X_poly1 s0) hr35) u_3_163 u_3_160 u_3_161 u_3_162 u_1_12 ⟨ok_X8_clearIn, by decide, by decide⟩ rfl (Nat.le_of_ble_eq_true rfl) 47 rfl rfl H hP) hrw [47, 48, 49] rfl (cl_48_s ..) rfl (cl_48_m ..) (ad_X ..) rfl ?_
          refine j_iload_n (pc' := 39) K dX11_base_38 rfl 0 rfl rfl ?_
          obtain rfl := Option.some.inj h
          exact HR _ _ dX11_base_39
        have hc1 := hc
        have h := jif hc h
        by_cases hc : v1 = 2
        · have h := jit hc h
          refine j_aald (pc' := 34) K dX11_base_33 43 6 rfl rfl hg (by rw [hc]; rfl) rfl ?_
          refine j_iload_n (pc' := 35) K dX11_base_34 rfl 3 rfl rfl ?_
          obtain ⟨r35, hr35, h⟩ := jbd_some h
          refine j_rw (pc' := 38) (ws' := (wX (jg E) a0 (X_poly2_s s0 r35))) K (fun H hP => jrun_V K dX11_base_35 (M_X8_clearIn (jl E) (jg E) (a0 50) (a0 51) (a0 52) v2 (X_poly2 s0) hr35) u_3_163 u_3_160 u_3_161 u_3_162 u_1_12 ⟨ok_X8_clearIn, by decide, by decide⟩ rfl (Nat.le_of_ble_eq_true rfl) 50 rfl rfl H hP) hrw [50, 51, 52] rfl (cl_49_s ..) rfl (cl_49_m ..) (ad_X ..) rfl ?_
          refine j_iload_n (pc' := 39) K dX11_base_38 rfl 0 rfl rfl ?_
          obtain rfl := Option.some.inj h
          exact HR _ _ dX11_base_39
        have hc2 := hc
        have h := jif hc h
        have hc : v1 = 3 := jin4 hg hc0 hc1 hc2
        refine j_aald (pc' := 34) K dX11_base_33 43 6 rfl rfl hg (by rw [hc]; rfl) rfl ?_
        refine j_iload_n (pc' := 35) K dX11_base_34 rfl 3 rfl rfl ?_
        obtain ⟨r35, hr35, h⟩ := jbd_some h
        refine j_rw (pc' := 38) (ws' := (wX (jg E) a0 (X_poly3_s s0 r35))) K (fun H hP => jrun_V K dX11_base_35 (M_X8_clearIn (jl E) (jg E) (a0 53) (a0 54) (a0 55) v2 (X_poly3 s0) hr35) u_3_163 u_3_160 u_3_161 u_3_162 u_1_12 ⟨ok_X8_clearIn, by decide, by decide⟩ rfl (Nat.le_of_ble_eq_true rfl) 53 rfl rfl H hP) hrw [53, 54, 55] rfl (cl_50_s ..) rfl (cl_50_m ..) (ad_X ..) rfl ?_
        refine j_iload_n (pc' := 39) K dX11_base_38 rfl 0 rfl rfl ?_
        obtain rfl := Option.some.inj h
        exact HR _ _ dX11_base_39
      have hc0 := hc
      have h := jif hc h
      by_cases hc : v1 = 1
      · have h := jit hc h
        refine j_aald (pc' := 24) K dX11_base_23 43 6 rfl rfl hg (by rw [hc]; rfl) rfl ?_
        obtain ⟨r24, hr24, h⟩ := jbd_some h
        refine j_ro (pc' := 27) K (fun H hP => jrun_V K dX11_base_24 (M_X8_baseNow (jl E) (jg E) (a0 47) (a0 48) (a0 49) (X_poly1 s0) hr24) u_3_159 u_3_156 u_3_157 u_3_158 u_1_12 ⟨ok_X8_baseNow, by decide, by decide⟩ rfl (Nat.le_of_ble_eq_true rfl) 47 rfl rfl H hP) [47, 48, 49] (cl_51_f ..) rfl ?_
        refine j_istore_n (pc' := 28) (lv' := [(3, .int r24), (0, .ref (a0 0)), (1, .int v1), (2, .int v2)]) K dX11_base_27 rfl (by decide) rfl rfl ?_
        refine j_aload_n (pc' := 29) K dX11_base_28 rfl 1 rfl rfl ?_
        refine j_get (pc' := 32) K dX11_base_29 inX11 0 rfl rfl 4 (by decide) u_1_201 rfl rfl rfl ?_
        refine j_iload_n (pc' := 33) K dX11_base_32 rfl 2 rfl rfl ?_
        obtain ⟨hg, h⟩ := jgd_some h
        by_cases hc : v1 = 0
        · have h := jit hc h
          refine j_aald (pc' := 34) K dX11_base_33 43 6 rfl rfl hg (by rw [hc]; rfl) rfl ?_
          refine j_iload_n (pc' := 35) K dX11_base_34 rfl 3 rfl rfl ?_
          obtain ⟨r35, hr35, h⟩ := jbd_some h
          refine j_rw (pc' := 38) (ws' := (wX (jg E) a0 (X_poly0_s s0 r35))) K (fun H hP => jrun_V K dX11_base_35 (M_X8_clearIn (jl E) (jg E) (a0 44) (a0 45) (a0 46) v2 (X_poly0 s0) hr35) u_3_163 u_3_160 u_3_161 u_3_162 u_1_12 ⟨ok_X8_clearIn, by decide, by decide⟩ rfl (Nat.le_of_ble_eq_true rfl) 44 rfl rfl H hP) hrw [44, 45, 46] rfl (cl_47_s ..) rfl (cl_47_m ..) (ad_X ..) rfl ?_
          refine j_iload_n (pc' := 39) K dX11_base_38 rfl 0 rfl rfl ?_
          obtain rfl := Option.some.inj h
          exact HR _ _ dX11_base_39
        have hc0 := hc
        have h := jif hc h
        by_cases hc : v1 = 1
        · have h := jit hc h
          refine j_aald (pc' := 34) K dX11_base_33 43 6 rfl rfl hg (by rw [hc]; rfl) rfl ?_
          refine j_iload_n (pc' := 35) K dX11_base_34 rfl 3 rfl rfl ?_
          obtain ⟨r35, hr35, h⟩ := jbd_some h
          refine j_rw (pc' := 38) (ws' := (wX (jg E) a0 (X_poly1_s s0 r35))) K (fun H hP => jrun_V K dX11_base_35 (M_X8_clearIn (jl E) (jg E) (a0 47) (a0 48) (a0 49) v2 (X_poly1 s0) hr35) u_3_163 u_3_160 u_3_161 u_3_162 u_1_12 ⟨ok_X8_clearIn, by decide, by decide⟩ rfl (Nat.le_of_ble_eq_true rfl) 47 rfl rfl H hP) hrw [47, 48, 49] rfl (cl_48_s ..) rfl (cl_48_m ..) (ad_X ..) rfl ?_
          refine j_iload_n (pc' := 39) K dX11_base_38 rfl 0 rfl rfl ?_
          obtain rfl := Option.some.inj h
          exact HR _ _ dX11_base_39
        have hc1 := hc
        have h := jif hc h
        by_cases hc : v1 = 2
        · have h := jit hc h
          refine j_aald (pc' := 34) K dX11_base_33 43 6 rfl rfl hg (by rw [hc]; rfl) rfl ?_
          refine j_iload_n (pc' := 35) K dX11_base_34 rfl 3 rfl rfl ?_
          obtain ⟨r35, hr35, h⟩ := jbd_some h
          refine j_rw (pc' := 38) (ws' := (wX (jg E) a0 (X_poly2_s s0 r35))) K (fun H hP => jrun_V K dX11_base_35 (M_X8_clearIn (jl E) (jg E) (a0 50) (a0 51) (a0 52) v2 (X_poly2 s0) hr35) u_3_163 u_3_160 u_3_161 u_3_162 u_1_12 ⟨ok_X8_clearIn, by decide, by decide⟩ rfl (Nat.le_of_ble_eq_true rfl) 50 rfl rfl H hP) hrw [50, 51, 52] rfl (cl_49_s ..) rfl (cl_49_m ..) (ad_X ..) rfl ?_
          refine j_iload_n (pc' := 39) K dX11_base_38 rfl 0 rfl rfl ?_
          obtain rfl := Option.some.inj h
          exact HR _ _ dX11_base_39
        have hc2 := hc
        have h := jif hc h
        have hc : v1 = 3 := jin4 hg hc0 hc1 hc2
        refine j_aald (pc' := 34) K dX11_base_33 43 6 rfl rfl hg (by rw [hc]; rfl) rfl ?_
        refine j_iload_n (pc' := 35) K dX11_base_34 rfl 3 rfl rfl ?_
        obtain ⟨r35, hr35, h⟩ := jbd_some h
        refine j_rw (pc' := 38) (ws' := (wX (jg E) a0 (X_poly3_s s0 r35))) K (fun H hP => jrun_V K dX11_base_35 (M_X8_clearIn (jl E) (jg E) (a0 53) (a0 54) (a0 55) v2 (X_poly3 s0) hr35) u_3_163 u_3_160 u_3_161 u_3_162 u_1_12 ⟨ok_X8_clearIn, by decide, by decide⟩ rfl (Nat.le_of_ble_eq_true rfl) 53 rfl rfl H hP) hrw [53, 54, 55] rfl (cl_50_s ..) rfl (cl_50_m ..) (ad_X ..) rfl ?_
        refine j_iload_n (pc' := 39) K dX11_base_38 rfl 0 rfl rfl ?_
        obtain rfl := Option.some.inj h
        exact HR _ _ dX11_base_39
      have hc1 := hc
      have h := jif hc h
      by_cases hc : v1 = 2
      · have h := jit hc h
        refine j_aald (pc' := 24) K dX11_base_23 43 6 rfl rfl hg (by rw [hc]; rfl) rfl ?_
        obtain ⟨r24, hr24, h⟩ := jbd_some h
        refine j_ro (pc' := 27) K (fun H hP => jrun_V K dX11_base_24 (M_X8_baseNow (jl E) (jg E) (a0 50) (a0 51) (a0 52) (X_poly2 s0) hr24) u_3_159 u_3_156 u_3_157 u_3_158 u_1_12 ⟨ok_X8_baseNow, by decide, by decide⟩ rfl (Nat.le_of_ble_eq_true rfl) 50 rfl rfl H hP) [50, 51, 52] (cl_52_f ..) rfl ?_
        refine j_istore_n (pc' := 28) (lv' := [(3, .int r24), (0, .ref (a0 0)), (1, .int v1), (2, .int v2)]) K dX11_base_27 rfl (by decide) rfl rfl ?_
        refine j_aload_n (pc' := 29) K dX11_base_28 rfl 1 rfl rfl ?_
        refine j_get (pc' := 32) K dX11_base_29 inX11 0 rfl rfl 4 (by decide) u_1_201 rfl rfl rfl ?_
        refine j_iload_n (pc' := 33) K dX11_base_32 rfl 2 rfl rfl ?_
        obtain ⟨hg, h⟩ := jgd_some h
        by_cases hc : v1 = 0
        · have h := jit hc h
          refine j_aald (pc' := 34) K dX11_base_33 43 6 rfl rfl hg (by rw [hc]; rfl) rfl ?_
          refine j_iload_n (pc' := 35) K dX11_base_34 rfl 3 rfl rfl ?_
          obtain ⟨r35, hr35, h⟩ := jbd_some h
          refine j_rw (pc' := 38) (ws' := (wX (jg E) a0 (X_poly0_s s0 r35))) K (fun H hP => jrun_V K dX11_base_35 (M_X8_clearIn (jl E) (jg E) (a0 44) (a0 45) (a0 46) v2 (X_poly0 s0) hr35) u_3_163 u_3_160 u_3_161 u_3_162 u_1_12 ⟨ok_X8_clearIn, by decide, by decide⟩ rfl (Nat.le_of_ble_eq_true rfl) 44 rfl rfl H hP) hrw [44, 45, 46] rfl (cl_47_s ..) rfl (cl_47_m ..) (ad_X ..) rfl ?_
          refine j_iload_n (pc' := 39) K dX11_base_38 rfl 0 rfl rfl ?_
          obtain rfl := Option.some.inj h
          exact HR _ _ dX11_base_39
        have hc0 := hc
        have h := jif hc h
        by_cases hc : v1 = 1
        · have h := jit hc h
          refine j_aald (pc' := 34) K dX11_base_33 43 6 rfl rfl hg (by rw [hc]; rfl) rfl ?_
          refine j_iload_n (pc' := 35) K dX11_base_34 rfl 3 rfl rfl ?_
          obtain ⟨r35, hr35, h⟩ := jbd_some h
          refine j_rw (pc' := 38) (ws' := (wX (jg E) a0 (X_poly1_s s0 r35))) K (fun H hP => jrun_V K dX11_base_35 (M_X8_clearIn (jl E) (jg E) (a0 47) (a0 48) (a0 49) v2 (X_poly1 s0) hr35) u_3_163 u_3_160 u_3_161 u_3_162 u_1_12 ⟨ok_X8_clearIn, by decide, by decide⟩ rfl (Nat.le_of_ble_eq_true rfl) 47 rfl rfl H hP) hrw [47, 48, 49] rfl (cl_48_s ..) rfl (cl_48_m ..) (ad_X ..) rfl ?_
          refine j_iload_n (pc' := 39) K dX11_base_38 rfl 0 rfl rfl ?_
          obtain rfl := Option.some.inj h
          exact HR _ _ dX11_base_39
        have hc1 := hc
        have h := jif hc h
        by_cases hc : v1 = 2
        · have h := jit hc h
          refine j_aald (pc' := 34) K dX11_base_33 43 6 rfl rfl hg (by rw [hc]; rfl) rfl ?_
          refine j_iload_n (pc' := 35) K dX11_base_34 rfl 3 rfl rfl ?_
          obtain ⟨r35, hr35, h⟩ := jbd_some h
          refine j_rw (pc' := 38) (ws' := (wX (jg E) a0 (X_poly2_s s0 r35))) K (fun H hP => jrun_V K dX11_base_35 (M_X8_clearIn (jl E) (jg E) (a0 50) (a0 51) (a0 52) v2 (X_poly2 s0) hr35) u_3_163 u_3_160 u_3_161 u_3_162 u_1_12 ⟨ok_X8_clearIn, by decide, by decide⟩ rfl (Nat.le_of_ble_eq_true rfl) 50 rfl rfl H hP) hrw [50, 51, 52] rfl (cl_49_s ..) rfl (cl_49_m ..) (ad_X ..) rfl ?_
          refine j_iload_n (pc' := 39) K dX11_base_38 rfl 0 rfl rfl ?_
          obtain rfl := Option.some.inj h
          exact HR _ _ dX11_base_39
        have hc2 := hc
        have h := jif hc h
        have hc : v1 = 3 := jin4 hg hc0 hc1 hc2
        refine j_aald (pc' := 34) K dX11_base_33 43 6 rfl rfl hg (by rw [hc]; rfl) rfl ?_
        refine j_iload_n (pc' := 35) K dX11_base_34 rfl 3 rfl rfl ?_
        obtain ⟨r35, hr35, h⟩ := jbd_some h
        refine j_rw (pc' := 38) (ws' := (wX (jg E) a0 (X_poly3_s s0 r35))) K (fun H hP => jrun_V K dX11_base_35 (M_X8_clearIn (jl E) (jg E) (a0 53) (a0 54) (a0 55) v2 (X_poly3 s0) hr35) u_3_163 u_3_160 u_3_161 u_3_162 u_1_12 ⟨ok_X8_clearIn, by decide, by decide⟩ rfl (Nat.le_of_ble_eq_true rfl) 53 rfl rfl H hP) hrw [53, 54, 55] rfl (cl_50_s ..) rfl (cl_50_m ..) (ad_X ..) rfl ?_
        refine j_iload_n (pc' := 39) K dX11_base_38 rfl 0 rfl rfl ?_
        obtain rfl := Option.some.inj h
        exact HR _ _ dX11_base_39
      have hc2 := hc
      have h := jif hc h
      have hc : v1 = 3 := jin4 hg hc0 hc1 hc2
      refine j_aald (pc' := 24) K dX11_base_23 43 6 rfl rfl hg (by rw [hc]; rfl) rfl ?_
      obtain ⟨r24, hr24, h⟩ := jbd_some h
      refine j_ro (pc' := 27) K (fun H hP => jrun_V K dX11_base_24 (M_X8_baseNow (jl E) (jg E) (a0 53) (a0 54) (a0 55) (X_poly3 s0) hr24) u_3_159 u_3_156 u_3_157 u_3_158 u_1_12 ⟨ok_X8_baseNow, by decide, by decide⟩ rfl (Nat.le_of_ble_eq_true rfl) 53 rfl rfl H hP) [53, 54, 55] (cl_53_f ..) rfl ?_
      refine j_istore_n (pc' := 28) (lv' := [(3, .int r24), (0, .ref (a0 0)), (1, .int v1), (2, .int v2)]) K dX11_base_27 rfl (by decide) rfl rfl ?_
      refine j_aload_n (pc' := 29) K dX11_base_28 rfl 1 rfl rfl ?_
      refine j_get (pc' := 32) K dX11_base_29 inX11 0 rfl rfl 4 (by decide) u_1_201 rfl rfl rfl ?_
      refine j_iload_n (pc' := 33) K dX11_base_32 rfl 2 rfl rfl ?_
      obtain ⟨hg, h⟩ := jgd_some h
      by_cases hc : v1 = 0
      · have h := jit hc h
        refine j_aald (pc' := 34) K dX11_base_33 43 6 rfl rfl hg (by rw [hc]; rfl) rfl ?_
        refine j_iload_n (pc' := 35) K dX11_base_34 rfl 3 rfl rfl ?_
        obtain ⟨r35, hr35, h⟩ := jbd_some h
        refine j_rw (pc' := 38) (ws' := (wX (jg E) a0 (X_poly0_s s0 r35))) K (fun H hP => jrun_V K dX11_base_35 (M_X8_clearIn (jl E) (jg E) (a0 44) (a0 45) (a0 46) v2 (X_poly0 s0) hr35) u_3_163 u_3_160 u_3_161 u_3_162 u_1_12 ⟨ok_X8_clearIn, by decide, by decide⟩ rfl (Nat.le_of_ble_eq_true rfl) 44 rfl rfl H hP) hrw [44, 45, 46] rfl (cl_47_s ..) rfl (cl_47_m ..) (ad_X ..) rfl ?_
        refine j_iload_n (pc' := 39) K dX11_base_38 rfl 0 rfl rfl ?_
        obtain rfl := Option.some.inj h
        exact HR _ _ dX11_base_39
      have hc0 := hc
      have h := jif hc h
      by_cases hc : v1 = 1
      · have h := jit hc h
        refine j_aald (pc' := 34) K dX11_base_33 43 6 rfl rfl hg (by rw [hc]; rfl) rfl ?_
        refine j_iload_n (pc' := 35) K dX11_base_34 rfl 3 rfl rfl ?_
        obtain ⟨r35, hr35, h⟩ := jbd_some h
        refine j_rw (pc' := 38) (ws' := (wX (jg E) a0 (X_poly1_s s0 r35))) K (fun H hP => jrun_V K dX11_base_35 (M_X8_clearIn (jl E) (jg E) (a0 47) (a0 48) (a0 49) v2 (X_poly1 s0) hr35) u_3_163 u_3_160 u_3_161 u_3_162 u_1_12 ⟨ok_X8_clearIn, by decide, by decide⟩ rfl (Nat.le_of_ble_eq_true rfl) 47 rfl rfl H hP) hrw [47, 48, 49] rfl (cl_48_s ..) rfl (cl_48_m ..) (ad_X ..) rfl ?_
        refine j_iload_n (pc' := 39) K dX11_base_38 rfl 0 rfl rfl ?_
        obtain rfl := Option.some.inj h
        exact HR _ _ dX11_base_39
      have hc1 := hc
      have h := jif hc h
      by_cases hc : v1 = 2
      · have h := jit hc h
        refine j_aald (pc' := 34) K dX11_base_33 43 6 rfl rfl hg (by rw [hc]; rfl) rfl ?_
        refine j_iload_n (pc' := 35) K dX11_base_34 rfl 3 rfl rfl ?_
        obtain ⟨r35, hr35, h⟩ := jbd_some h
        refine j_rw (pc' := 38) (ws' := (wX (jg E) a0 (X_poly2_s s0 r35))) K (fun H hP => jrun_V K dX11_base_35 (M_X8_clearIn (jl E) (jg E) (a0 50) (a0 51) (a0 52) v2 (X_poly2 s0) hr35) u_3_163 u_3_160 u_3_161 u_3_162 u_1_12 ⟨ok_X8_clearIn, by decide, by decide⟩ rfl (Nat.le_of_ble_eq_true rfl) 50 rfl rfl H hP) hrw [50, 51, 52] rfl (cl_49_s ..) rfl (cl_49_m ..) (ad_X ..) rfl ?_
        refine j_iload_n (pc' := 39) K dX11_base_38 rfl 0 rfl rfl ?_
        obtain rfl := Option.some.inj h
        exact HR _ _ dX11_base_39
      have hc2 := hc
      have h := jif hc h
      have hc : v1 = 3 := jin4 hg hc0 hc1 hc2
      refine j_aald (pc' := 34) K dX11_base_33 43 6 rfl rfl hg (by rw [hc]; rfl) rfl ?_
      refine j_iload_n (pc' := 35) K dX11_base_34 rfl 3 rfl rfl ?_
      obtain ⟨r35, hr35, h⟩ := jbd_some h
      refine j_rw (pc' := 38) (ws' := (wX (jg E) a0 (X_poly3_s s0 r35))) K (fun H hP => jrun_V K dX11_base_35 (M_X8_clearIn (jl E) (jg E) (a0 53) (a0 54) (a0 55) v2 (X_poly3 s0) hr35) u_3_163 u_3_160 u_3_161 u_3_162 u_1_12 ⟨ok_X8_clearIn, by decide, by decide⟩ rfl (Nat.le_of_ble_eq_true rfl) 53 rfl rfl H hP) hrw [53, 54, 55] rfl (cl_50_s ..) rfl (cl_50_m ..) (ad_X ..) rfl ?_
      refine j_iload_n (pc' := 39) K dX11_base_38 rfl 0 rfl rfl ?_
      obtain rfl := Option.some.inj h
      exact HR _ _ dX11_base_39
    · have h := jit hc h
      refine j_iconst (pc' := 17) (v := (-1 : Int32)) K dX11_base_16 (by decide) rfl ?_
      obtain rfl := Option.some.inj h
      exact HR _ _ dX11_base_17
set_option maxRecDepth 100000 in
set_option maxHeartbeats 4000000 in
theorem M_X11_base (l : Launch) (G : jG) (a0 : Nat → Nat) (v1 : Int32) (v2 : Int32) (s0 : XS) {r : Int32 × XS} (h : f_X11_base v1 v2 s0 = some r) : MC l yX11_base cX11_base 4 (some .int) 2 G (jad (wX G a0 s0)) True (wX G a0 s0) (wX G a0 (r.2)) [.ref (a0 0), .int v1, .int v2] (some (.int (r.1))) := by
  refine mc_int (by decide +kernel) (Nat.le_of_ble_eq_true rfl) fun E hl hg hA hrw K HR => ?_
  subst hl
  subst hg
  have hrw : jrw E := by rw [hrw]; trivial
  exact b_X11_base a0 K hrw HR v1 v2 s0 h
theorem ok_X11_set : yX11_set.cls ≠ "java/lang/invoke/MethodHandle" ∧ yX11_set.cls ≠ "java/lang/invoke/VarHandle" ∧ (parseMethodDescriptor yX11_set.desc).map (fun d => d.parameters.length) = some 3 := ⟨by decide, by decide, by decide +kernel⟩
def f_X11_set (v1 : Int32) (v2 : Int32) (v3 : Int64) (s0 : XS) : Option (Int64 × XS) :=
   jbd (f_X11_isPolynomial v1) (fun r1 =>
   if r1 = 0 then
    some ((-1000000000000000001 : Int64), s0)
   else
    jbd (f_X11_within v2 (0 : Int32) (8 : Int32)) (fun r11 =>
     if r11 = 0 then
      some ((-1000000000000000001 : Int64), s0)
     else
      jbd (f_X11_beyond v3 (1000000 : Int64)) (fun r21 =>
       if r21 = 0 then
        jgd v1 4 (
         if v1 = 0 then (
          jbd (f_X8_at v2 (X_poly0 s0)) (fun r38 =>
           jgd v1 4 (
            if v1 = 0 then (
             jbd (f_X8_put v2 v3 (X_poly0 s0)) (fun r51 =>
              some (r38, (X_poly0_s s0 r51)))) else if v1 = 1 then (
             jbd (f_X8_put v2 v3 (X_poly1 s0)) (fun r51 =>
              some (r38, (X_poly1_s s0 r51)))) else if v1 = 2 then (
             jbd (f_X8_put v2 v3 (X_poly2 s0)) (fun r51 =>
              some (r38, (X_poly2_s s0 r51)))) else (
             jbd (f_X8_put v2 v3 (X_poly3 s0)) (fun r51 =>
              some (r38, (X_poly3_s s0 r51))))))) else if v1 = 1 then (
          jbd (f_X8_at v2 (X_poly1 s0)) (fun r38 =>
           jgd v1 4 (
            if v1 = 0 then (
             jbd (f_X8_put v2 v3 (X_poly0 s0)) (fun r51 =>
              some (r38, (X_poly0_s s0 r51)))) else if v1 = 1 then (
             jbd (f_X8_put v2 v3 (X_poly1 s0)) (fun r51 =>
              some (r38, (X_poly1_s s0 r51)))) else if v1 = 2 then (
             jbd (f_X8_put v2 v3 (X_poly2 s0)) (fun r51 =>
              some (r38, (X_poly2_s s0 r51)))) else (
             jbd (f_X8_put v2 v3 (X_poly3 s0)) (fun r51 =>
              some (r38, (X_poly3_s s0 r51))))))) else if v1 = 2 then (
          jbd (f_X8_at v2 (X_poly2 s0)) (fun r38 =>
           jgd v1 4 (
            if v1 = 0 then (
             jbd (f_X8_put v2 v3 (X_poly0 s0)) (fun r51 =>
              some (r38, (X_poly0_s s0 r51)))) else if v1 = 1 then (
             jbd (f_X8_put v2 v3 (X_poly1 s0)) (fun r51 =>
              some (r38, (X_poly1_s s0 r51)))) else if v1 = 2 then (
             jbd (f_X8_put v2 v3 (X_poly2 s0)) (fun r51 =>
              some (r38, (X_poly2_s s0 r51)))) else (
             jbd (f_X8_put v2 v3 (X_poly3 s0)) (fun r51 =>
              some (r38, (X_poly3_s s0 r51))))))) else (
          jbd (f_X8_at v2 (X_poly3 s0)) (fun r38 =>
           jgd v1 4 (
            if v1 = 0 then (
             jbd (f_X8_put v2 v3 (X_poly0 s0)) (fun r51 =>
              some (r38, (X_poly0_s s0 r51)))) else if v1 = 1 then (
             jbd (f_X8_put v2 v3 (X_poly1 s0)) (fun r51 =>
              some (r38, (X_poly1_s s0 r51)))) else if v1 = 2 then (
             jbd (f_X8_put v2 v3 (X_poly2 s0)) (fun r51 =>
              some (r38, (X_poly2_s s0 r51)))) else (
             jbd (f_X8_put v2 v3 (X_poly3 s0)) (fun r51 =>
              some (r38, (X_poly3_s s0 r51))))))))
       else
        some ((-1000000000000000001 : Int64), s0))))
set_option maxRecDepth 100000 in
set_option maxHeartbeats 4000000 in
theorem b_X11_set {E : jE} (a0 : Nat → Nat) {res : Int64 × XS} (K : jC E cX11_set 7 RX11 2) (hrw : jrw E) (HR : jRL E cX11_set 7 (wX (jg E) a0 (res.2)) (res.1)) : ∀ (v1 : Int32) (v2 : Int32) (v3 : Int64) (s0 : XS), f_X11_set v1 v2 v3 s0 = some res → J E 7 (wX (jg E) a0 s0) 0 [(0, .ref (a0 0)), (1, .int v1), (2, .int v2), (3, .long v3)] [] := by
  intro v1 v2 v3 s0 h
  unfold f_X11_set at h
  refine j_iload_n (pc' := 1) K dX11_set_0 rfl 1 rfl rfl ?_
  obtain ⟨r1, hr1, h⟩ := jbd_some h
  refine j_ro (pc' := 4) K (fun H hP => jrun_S K dX11_set_1 (M_X11_isPolynomial (jl E) (jg E) v1 hr1) u_3_155 u_3_153 u_3_154 u_1_1 ⟨ok_X11_isPolynomial, by decide, by decide⟩ rfl (Nat.le_of_ble_eq_true rfl) H) [] rfl rfl ?_
  refine j_if_eq (pc' := 7) (tgt := 27) K dX11_set_4 (by decide) rfl (fun hc => ?_) (fun hc => ?_)
  · have h := jit hc h
    refine j_ldc2 (pc' := 30) K dX11_set_27 u_2_90 rfl ?_
    obtain rfl := Option.some.inj h
    exact HR _ _ dX11_set_30
  · have h := jif hc h
    refine j_iload_n (pc' := 8) K dX11_set_7 rfl 2 rfl rfl ?_
    refine j_iconst (pc' := 9) (v := (0 : Int32)) K dX11_set_8 (by decide) rfl ?_
    refine j_bipush (pc' := 11) (v := (8 : Int32)) K dX11_set_9 (by decide) rfl ?_
    obtain ⟨r11, hr11, h⟩ := jbd_some h
    refine j_ro (pc' := 14) K (fun H hP => jrun_S K dX11_set_11 (M_X11_within (jl E) (jg E) v2 (0 : Int32) (8 : Int32) hr11) u_1_76 u_1_217 u_1_75 u_1_1 ⟨ok_X11_within, by decide, by decide⟩ rfl (Nat.le_of_ble_eq_true rfl) H) [] rfl rfl ?_
    refine j_if_eq (pc' := 17) (tgt := 27) K dX11_set_14 (by decide) rfl (fun hc => ?_) (fun hc => ?_)
    · have h := jit hc h
      refine j_ldc2 (pc' := 30) K dX11_set_27 u_2_90 rfl ?_
      obtain rfl := Option.some.inj h
      exact HR _ _ dX11_set_30
    · have h := jif hc h
      refine j_lload_n (pc' := 18) K dX11_set_17 rfl 3 rfl rfl ?_
      refine j_ldc2 (pc' := 21) K dX11_set_18 u_3_171 rfl ?_
      obtain ⟨r21, hr21, h⟩ := jbd_some h
      refine j_ro (pc' := 24) K (fun H hP => jrun_S K dX11_set_21 (M_X11_beyond (jl E) (jg E) v3 (1000000 : Int64) hr21) u_2_80 u_3_172 u_2_79 u_1_1 ⟨ok_X11_beyond, by decide, by decide⟩ rfl (Nat.le_of_ble_eq_true rfl) H) [] rfl rfl ?_
      refine j_if_eq (pc' := 27) (tgt := 31) K dX11_set_24 (by decide) rfl (fun hc => ?_) (fun hc => ?_)
      · have h := jit hc h
        refine j_aload_n (pc' := 32) K dX11_set_31 rfl 0 rfl rfl ?_
        refine j_get (pc' := 35) K dX11_set_32 inX11 0 rfl rfl 4 (by decide) u_1_201 rfl rfl rfl ?_
        refine j_iload_n (pc' := 36) K dX11_set_35 rfl 1 rfl rfl ?_
        obtain ⟨hg, h⟩ := jgd_some h
        by_cases hc : v1 = 0
        · have h := jit hc h
          refine j_aald (pc' := 37) K dX11_set_36 43 6 rfl rfl hg (by rw [hc]; rfl) rfl ?_
          refine j_iload_n (pc' := 38) K dX11_set_37 rfl 2 rfl rfl ?_
          obtain ⟨r38, hr38, h⟩ := jbd_some h
          refine j_ro (pc' := 41) K (fun H hP => jrun_V K dX11_set_38 (M_X8_at (jl E) (jg E) (a0 44) (a0 45) (a0 46) v2 (X_poly0 s0) hr38) u_3_176 u_3_173 u_3_174 u_3_175 u_1_12 ⟨ok_X8_at, by decide, by decide⟩ rfl (Nat.le_of_ble_eq_true rfl) 44 rfl rfl H hP) [44, 45, 46] (cl_46_f ..) rfl ?_
          refine j_lstore (pc' := 43) (lv' := [(5, .long r38), (0, .ref (a0 0)), (1, .int v1), (2, .int v2), (3, .long v3)]) K dX11_set_41 (by decide) rfl rfl ?_
          refine j_aload_n (pc' := 44) K dX11_set_43 rfl 1 rfl rfl ?_
          refine j_get (pc' := 47) K dX11_set_44 inX11 0 rfl rfl 4 (by decide) u_1_201 rfl rfl rfl ?_
          refine j_iload_n (pc' := 48) K dX11_set_47 rfl 2 rfl rfl ?_
          obtain ⟨hg, h⟩ := jgd_some h
          by_cases hc : v1 = 0
          · have h := jit hc h
            refine j_aald (pc' := 49) K dX11_set_48 43 6 rfl rfl hg (by rw [hc]; rfl) rfl ?_
            refine j_iload_n (pc' := 50) K dX11_set_49 rfl 3 rfl rfl ?_
            refine j_lload_n (pc' := 51) K dX11_set_50 rfl 4 rfl rfl ?_
            obtain ⟨r51, hr51, h⟩ := jbd_some h
            refine j_rw (pc' := 54) (ws' := (wX (jg E) a0 (X_poly0_s s0 r51))) K (fun H hP => jrun_V K dX11_set_51 (M_X8_put (jl E) (jg E) (a0 44) (a0 45) (a0 46) v2 v3 (X_poly0 s0) hr51) u_3_181 u_3_178 u_3_179 u_3_180 u_1_12 ⟨ok_X8_put, by decide, by decide⟩ rfl (Nat.le_of_ble_eq_true rfl) 44 rfl rfl H hP) hrw [44, 45, 46] rfl (cl_47_s ..) rfl (cl_47_m ..) (ad_X ..) rfl ?_
            refine j_lload (pc' := 56) K dX11_set_54 0 rfl rfl ?_
            obtain rfl := Option.some.inj h
            exact HR _ _ dX11_set_56
          have hc0 := hc
          have h := jif hc h
          by_cases hc : v1 = 1
          · have h := jit hc h
            refine j_aald (pc' := 49) K dX11_set_48 43 6 rfl rfl hg (by rw [hc]; rfl) rfl ?_
            refine j_iload_n (pc' := 50) K dX11_set_49 rfl 3 rfl rfl ?_
            refine j_lload_n (pc' := 51) K dX11_set_50 rfl 4 rfl rfl ?_
            obtain ⟨r51, hr51, h⟩ := jbd_some h
            refine j_rw (pc' := 54) (ws' := (wX (jg E) a0 (X_poly1_s s0 r51))) K (fun H hP => jrun_V K dX11_set_51 (M_X8_put (jl E) (jg E) (a0 47) (a0 48) (a0 49) v2 v3 (X_poly1 s0) hr51) u_3_181 u_3_178 u_3_179 u_3_180 u_1_12 ⟨ok_X8_put, by decide, by decide⟩ rfl (Nat.le_of_ble_eq_true rfl) 47 rfl rfl H hP) hrw [47, 48, 49] rfl (cl_48_s ..) rfl (cl_48_m ..) (ad_X ..) rfl ?_
            refine j_lload (pc' := 56) K dX11_set_54 0 rfl rfl ?_
            obtain rfl := Option.some.inj h
            exact HR _ _ dX11_set_56
          have hc1 := hc
          have h := jif hc h
          by_cases hc : v1 = 2
          · have h := jit hc h
            refine j_aald (pc' := 49) K dX11_set_48 43 6 rfl rfl hg (by rw [hc]; rfl) rfl ?_
            refine j_iload_n (pc' := 50) K dX11_set_49 rfl 3 rfl rfl ?_
            refine j_lload_n (pc' := 51) K dX11_set_50 rfl 4 rfl rfl ?_
            obtain ⟨r51, hr51, h⟩ := jbd_some h
            refine j_rw (pc' := 54) (ws' := (wX (jg E) a0 (X_poly2_s s0 r51))) K (fun H hP => jrun_V K dX11_set_51 (M_X8_put (jl E) (jg E) (a0 50) (a0 51) (a0 52) v2 v3 (X_poly2 s0) hr51) u_3_181 u_3_178 u_3_179 u_3_180 u_1_12 ⟨ok_X8_put, by decide, by decide⟩ rfl (Nat.le_of_ble_eq_true rfl) 50 rfl rfl H hP) hrw [50, 51, 52] rfl (cl_49_s ..) rfl (cl_49_m ..) (ad_X ..) rfl ?_
            refine j_lload (pc' := 56) K dX11_set_54 0 rfl rfl ?_
            obtain rfl := Option.some.inj h
            exact HR _ _ dX11_set_56
          have hc2 := hc
          have h := jif hc h
          have hc : v1 = 3 := jin4 hg hc0 hc1 hc2
          refine j_aald (pc' := 49) K dX11_set_48 43 6 rfl rfl hg (by rw [hc]; rfl) rfl ?_
          refine j_iload_n (pc' := 50) K dX11_set_49 rfl 3 rfl rfl ?_
          refine j_lload_n (pc' := 51) K dX11_set_50 rfl 4 rfl rfl ?_
          obtain ⟨r51, hr51, h⟩ := jbd_some h
          refine j_rw (pc' := 54) (ws' := (wX (jg E) a0 (X_poly3_s s0 r51))) K (fun H hP => jrun_V K dX11_set_51 (M_X8_put (jl E) (jg E) (a0 53) (a0 54) (a0 55) v2 v3 (X_poly3 s0) hr51) u_3_181 u_3_178 u_3_179 u_3_180 u_1_12 ⟨ok_X8_put, by decide, by decide⟩ rfl (Nat.le_of_ble_eq_true rfl) 53 rfl rfl H hP) hrw [53, 54, 55] rfl (cl_50_s ..) rfl (cl_50_m ..) (ad_X ..) rfl ?_
          refine j_lload (pc' := 56) K dX11_set_54 0 rfl rfl ?_
          obtain rfl := Option.some.inj h
          exact HR _ _ dX11_set_56
        have hc0 := hc
        have h := jif hc h
        by_cases hc : v1 = 1
        · have h := jit hc h
          refine j_aald (pc' := 37) K dX11_set_36 43 6 rfl rfl hg (by rw [hc]; rfl) rfl ?_
          refine j_iload_n (pc' := 38) K dX11_set_37 rfl 2 rfl rfl ?_
          obtain ⟨r38, hr38, h⟩ := jbd_some h
          refine j_ro (pc' := 41) K (fun H hP => jrun_V K dX11_set_38 (M_X8_at (jl E) (jg E) (a0 47) (a0 48) (a0 49) v2 (X_poly1 s0) hr38) u_3_176 u_3_173 u_3_174 u_3_175 u_1_12 ⟨ok_X8_at, by decide, by decide⟩ rfl (Nat.le_of_ble_eq_true rfl) 47 rfl rfl H hP) [47, 48, 49] (cl_51_f ..) rfl ?_
          refine j_lstore (pc' := 43) (lv' := [(5, .long r38), (0, .ref (a0 0)), (1, .int v1), (2, .int v2), (3, .long v3)]) K dX11_set_41 (by decide) rfl rfl ?_
          refine j_aload_n (pc' := 44) K dX11_set_43 rfl 1 rfl rfl ?_
          refine j_get (pc' := 47) K dX11_set_44 inX11 0 rfl rfl 4 (by decide) u_1_201 rfl rfl rfl ?_
          refine j_iload_n (pc' := 48) K dX11_set_47 rfl 2 rfl rfl ?_
          obtain ⟨hg, h⟩ := jgd_some h
          by_cases hc : v1 = 0
          · have h := jit hc h
            refine j_aald (pc' := 49) K dX11_set_48 43 6 rfl rfl hg (by rw [hc]; rfl) rfl ?_
            refine j_iload_n (pc' := 50) K dX11_set_49 rfl 3 rfl rfl ?_
            refine j_lload_n (pc' := 51) K dX11_set_50 rfl 4 rfl rfl ?_
            obtain ⟨r51, hr51, h⟩ := jbd_some h
            refine j_rw (pc' := 54) (ws' := (wX (jg E) a0 (X_poly0_s s0 r51))) K (fun H hP => jrun_V K dX11_set_51 (M_X8_put (jl E) (jg E) (a0 44) (a0 45) (a0 46) v2 v3 (X_poly0 s0) hr51) u_3_181 u_3_178 u_3_179 u_3_180 u_1_12 ⟨ok_X8_put, by decide, by decide⟩ rfl (Nat.le_of_ble_eq_true rfl) 44 rfl rfl H hP) hrw [44, 45, 46] rfl (cl_47_s ..) rfl (cl_47_m ..) (ad_X ..) rfl ?_
            refine j_lload (pc' := 56) K dX11_set_54 0 rfl rfl ?_
            obtain rfl := Option.some.inj h
            exact HR _ _ dX11_set_56
          have hc0 := hc
          have h := jif hc h
          by_cases hc : v1 = 1
          · have h := jit hc h
            refine j_aald (pc' := 49) K dX11_set_48 43 6 rfl rfl hg (by rw [hc]; rfl) rfl ?_
            refine j_iload_n (pc' := 50) K dX11_set_49 rfl 3 rfl rfl ?_
            refine j_lload_n (pc' := 51) K dX11_set_50 rfl 4 rfl rfl ?_
            obtain ⟨r51, hr51, h⟩ := jbd_some h
            refine j_rw (pc' := 54) (ws' := (wX (jg E) a0 (X_poly1_s s0 r51))) K (fun H hP => jrun_V K dX11_set_51 (M_X8_put (jl E) (jg E) (a0 47) (a0 48) (a0 49) v2 v3 (X_poly1 s0) hr51) u_3_181 u_3_178 u_3_179 u_3_180 u_1_12 ⟨ok_X8_put, by decide, by decide⟩ rfl (Nat.le_of_ble_eq_true rfl) 47 rfl rfl H hP) hrw [47, 48, 49] rfl (cl_48_s ..) rfl (cl_48_m ..) (ad_X ..) rfl ?_
            refine j_lload (pc' := 56) K dX11_set_54 0 rfl rfl ?_
            obtain rfl := Option.some.inj h
            exact HR _ _ dX11_set_56
          have hc1 := hc
          have h := jif hc h
          by_cases hc : v1 = 2
          · have h := jit hc h
            refine j_aald (pc' := 49) K dX11_set_48 43 6 rfl rfl hg (by rw [hc]; rfl) rfl ?_
            refine j_iload_n (pc' := 50) K dX11_set_49 rfl 3 rfl rfl ?_
            refine j_lload_n (pc' := 51) K dX11_set_50 rfl 4 rfl rfl ?_
            obtain ⟨r51, hr51, h⟩ := jbd_some h
            refine j_rw (pc' := 54) (ws' := (wX (jg E) a0 (X_poly2_s s0 r51))) K (fun H hP => jrun_V K dX11_set_51 (M_X8_put (jl E) (jg E) (a0 50) (a0 51) (a0 52) v2 v3 (X_poly2 s0) hr51) u_3_181 u_3_178 u_3_179 u_3_180 u_1_12 ⟨ok_X8_put, by decide, by decide⟩ rfl (Nat.le_of_ble_eq_true rfl) 50 rfl rfl H hP) hrw [50, 51, 52] rfl (cl_49_s ..) rfl (cl_49_m ..) (ad_X ..) rfl ?_
            refine j_lload (pc' := 56) K dX11_set_54 0 rfl rfl ?_
            obtain rfl := Option.some.inj h
            exact HR _ _ dX11_set_56
          have hc2 := hc
          have h := jif hc h
          have hc : v1 = 3 := jin4 hg hc0 hc1 hc2
          refine j_aald (pc' := 49) K dX11_set_48 43 6 rfl rfl hg (by rw [hc]; rfl) rfl ?_
          refine j_iload_n (pc' := 50) K dX11_set_49 rfl 3 rfl rfl ?_
          refine j_lload_n (pc' := 51) K dX11_set_50 rfl 4 rfl rfl ?_
          obtain ⟨r51, hr51, h⟩ := jbd_some h
          refine j_rw (pc' := 54) (ws' := (wX (jg E) a0 (X_poly3_s s0 r51))) K (fun H hP => jrun_V K dX11_set_51 (M_X8_put (jl E) (jg E) (a0 53) (a0 54) (a0 55) v2 v3 (X_poly3 s0) hr51) u_3_181 u_3_178 u_3_179 u_3_180 u_1_12 ⟨ok_X8_put, by decide, by decide⟩ rfl (Nat.le_of_ble_eq_true rfl) 53 rfl rfl H hP) hrw [53, 54, 55] rfl (cl_50_s ..) rfl (cl_50_m ..) (ad_X ..) rfl ?_
          refine j_lload (pc' := 56) K dX11_set_54 0 rfl rfl ?_
          obtain rfl := Option.some.inj h
          exact HR _ _ dX11_set_56
        have hc1 := hc
        have h := jif hc h
        by_cases hc : v1 = 2
        · have h := jit hc h
          refine j_aald (pc' := 37) K dX11_set_36 43 6 rfl rfl hg (by rw [hc]; rfl) rfl ?_
          refine j_iload_n (pc' := 38) K dX11_set_37 rfl 2 rfl rfl ?_
          obtain ⟨r38, hr38, h⟩ := jbd_some h
          refine j_ro (pc' := 41) K (fun H hP => jrun_V K dX11_set_38 (M_X8_at (jl E) (jg E) (a0 50) (a0 51) (a0 52) v2 (X_poly2 s0) hr38) u_3_176 u_3_173 u_3_174 u_3_175 u_1_12 ⟨ok_X8_at, by decide, by decide⟩ rfl (Nat.le_of_ble_eq_true rfl) 50 rfl rfl H hP) [50, 51, 52] (cl_52_f ..) rfl ?_
          refine j_lstore (pc' := 43) (lv' := [(5, .long r38), (0, .ref (a0 0)), (1, .int v1), (2, .int v2), (3, .long v3)]) K dX11_set_41 (by decide) rfl rfl ?_
          refine j_aload_n (pc' := 44) K dX11_set_43 rfl 1 rfl rfl ?_
          refine j_get (pc' := 47) K dX11_set_44 inX11 0 rfl rfl 4 (by decide) u_1_201 rfl rfl rfl ?_
          refine j_iload_n (pc' := 48) K dX11_set_47 rfl 2 rfl rfl ?_
          obtain ⟨hg, h⟩ := jgd_some h
          by_cases hc : v1 = 0
          · have h := jit hc h
            refine j_aald (pc' := 49) K dX11_set_48 43 6 rfl rfl hg (by rw [hc]; rfl) rfl ?_
            refine j_iload_n (pc' := 50) K dX11_set_49 rfl 3 rfl rfl ?_
            refine j_lload_n (pc' := 51) K dX11_set_50 rfl 4 rfl rfl ?_
            obtain ⟨r51, hr51, h⟩ := jbd_some h
            refine j_rw (pc' := 54) (ws' := (wX (jg E) a0 (X_poly0_s s0 r51))) K (fun H hP => jrun_V K dX11_set_51 (M_X8_put (jl E) (jg E) (a0 44) (a0 45) (a0 46) v2 v3 (X_poly0 s0) hr51) u_3_181 u_3_178 u_3_179 u_3_180 u_1_12 ⟨ok_X8_put, by decide, by decide⟩ rfl (Nat.le_of_ble_eq_true rfl) 44 rfl rfl H hP) hrw [44, 45, 46] rfl (cl_47_s ..) rfl (cl_47_m ..) (ad_X ..) rfl ?_
            refine j_lload (pc' := 56) K dX11_set_54 0 rfl rfl ?_
            obtain rfl := Option.some.inj h
            exact HR _ _ dX11_set_56
          have hc0 := hc
          have h := jif hc h
          by_cases hc : v1 = 1
          · have h := jit hc h
            refine j_aald (pc' := 49) K dX11_set_48 43 6 rfl rfl hg (by rw [hc]; rfl) rfl ?_
            refine j_iload_n (pc' := 50) K dX11_set_49 rfl 3 rfl rfl ?_
            refine j_lload_n (pc' := 51) K dX11_set_50 rfl 4 rfl rfl ?_
            obtain ⟨r51, hr51, h⟩ := jbd_some h
            refine j_rw (pc' := 54) (ws' := (wX (jg E) a0 (X_poly1_s s0 r51))) K (fun H hP => jrun_V K dX11_set_51 (M_X8_put (jl E) (jg E) (a0 47) (a0 48) (a0 49) v2 v3 (X_poly1 s0) hr51) u_3_181 u_3_178 u_3_179 u_3_180 u_1_12 ⟨ok_X8_put, by decide, by decide⟩ rfl (Nat.le_of_ble_eq_true rfl) 47 rfl rfl H hP) hrw [47, 48, 49] rfl (cl_48_s ..) rfl (cl_48_m ..) (ad_X ..) rfl ?_
            refine j_lload (pc' := 56) K dX11_set_54 0 rfl rfl ?_
            obtain rfl := Option.some.inj h
            exact HR _ _ dX11_set_56
          have hc1 := hc
          have h := jif hc h
          by_cases hc : v1 = 2
          · have h := jit hc h
            refine j_aald (pc' := 49) K dX11_set_48 43 6 rfl rfl hg (by rw [hc]; rfl) rfl ?_
            refine j_iload_n (pc' := 50) K dX11_set_49 rfl 3 rfl rfl ?_
            refine j_lload_n (pc' := 51) K dX11_set_50 rfl 4 rfl rfl ?_
            obtain ⟨r51, hr51, h⟩ := jbd_some h
            refine j_rw (pc' := 54) (ws' := (wX (jg E) a0 (X_poly2_s s0 r51))) K (fun H hP => jrun_V K dX11_set_51 (M_X8_put (jl E) (jg E) (a0 50) (a0 51) (a0 52) v2 v3 (X_poly2 s0) hr51) u_3_181 u_3_178 u_3_179 u_3_180 u_1_12 ⟨ok_X8_put, by decide, by decide⟩ rfl (Nat.le_of_ble_eq_true rfl) 50 rfl rfl H hP) hrw [50, 51, 52] rfl (cl_49_s ..) rfl (cl_49_m ..) (ad_X ..) rfl ?_
            refine j_lload (pc' := 56) K dX11_set_54 0 rfl rfl ?_
            obtain rfl := Option.some.inj h
            exact HR _ _ dX11_set_56
          have hc2 := hc
          have h := jif hc h
          have hc : v1 = 3 := jin4 hg hc0 hc1 hc2
          refine j_aald (pc' := 49) K dX11_set_48 43 6 rfl rfl hg (by rw [hc]; rfl) rfl ?_
          refine j_iload_n (pc' := 50) K dX11_set_49 rfl 3 rfl rfl ?_
          refine j_lload_n (pc' := 51) K dX11_set_50 rfl 4 rfl rfl ?_
          obtain ⟨r51, hr51, h⟩ := jbd_some h
          refine j_rw (pc' := 54) (ws' := (wX (jg E) a0 (X_poly3_s s0 r51))) K (fun H hP => jrun_V K dX11_set_51 (M_X8_put (jl E) (jg E) (a0 53) (a0 54) (a0 55) v2 v3 (X_poly3 s0) hr51) u_3_181 u_3_178 u_3_179 u_3_180 u_1_12 ⟨ok_X8_put, by decide, by decide⟩ rfl (Nat.le_of_ble_eq_true rfl) 53 rfl rfl H hP) hrw [53, 54, 55] rfl (cl_50_s ..) rfl (cl_50_m ..) (ad_X ..) rfl ?_
          refine j_lload (pc' := 56) K dX11_set_54 0 rfl rfl ?_
          obtain rfl := Option.some.inj h
          exact HR _ _ dX11_set_56
        have hc2 := hc
        have h := jif hc h
        have hc : v1 = 3 := jin4 hg hc0 hc1 hc2
        refine j_aald (pc' := 37) K dX11_set_36 43 6 rfl rfl hg (by rw [hc]; rfl) rfl ?_
        refine j_iload_n (pc' := 38) K dX11_set_37 rfl 2 rfl rfl ?_
        obtain ⟨r38, hr38, h⟩ := jbd_some h
        refine j_ro (pc' := 41) K (fun H hP => jrun_V K dX11_set_38 (M_X8_at (jl E) (jg E) (a0 53) (a0 54) (a0 55) v2 (X_poly3 s0) hr38) u_3_176 u_3_173 u_3_174 u_3_175 u_1_12 ⟨ok_X8_at, by decide, by decide⟩ rfl (Nat.le_of_ble_eq_true rfl) 53 rfl rfl H hP) [53, 54, 55] (cl_53_f ..) rfl ?_
        refine j_lstore (pc' := 43) (lv' := [(5, .long r38), (0, .ref (a0 0)), (1, .int v1), (2, .int v2), (3, .long v3)]) K dX11_set_41 (by decide) rfl rfl ?_
        refine j_aload_n (pc' := 44) K dX11_set_43 rfl 1 rfl rfl ?_
        refine j_get (pc' := 47) K dX11_set_44 inX11 0 rfl rfl 4 (by decide) u_1_201 rfl rfl rfl ?_
        refine j_iload_n (pc' := 48) K dX11_set_47 rfl 2 rfl rfl ?_
        obtain ⟨hg, h⟩ := jgd_some h
        by_cases hc : v1 = 0
        · have h := jit hc h
          refine j_aald (pc' := 49) K dX11_set_48 43 6 rfl rfl hg (by rw [hc]; rfl) rfl ?_
          refine j_iload_n (pc' := 50) K dX11_set_49 rfl 3 rfl rfl ?_
          refine j_lload_n (pc' := 51) K dX11_set_50 rfl 4 rfl rfl ?_
          obtain ⟨r51, hr51, h⟩ := jbd_some h
          refine j_rw (pc' := 54) (ws' := (wX (jg E) a0 (X_poly0_s s0 r51))) K (fun H hP => jrun_V K dX11_set_51 (M_X8_put (jl E) (jg E) (a0 44) (a0 45) (a0 46) v2 v3 (X_poly0 s0) hr51) u_3_181 u_3_178 u_3_179 u_3_180 u_1_12 ⟨ok_X8_put, by decide, by decide⟩ rfl (Nat.le_of_ble_eq_true rfl) 44 rfl rfl H hP) hrw [44, 45, 46] rfl (cl_47_s ..) rfl (cl_47_m ..) (ad_X ..) rfl ?_
          refine j_lload (pc' := 56) K dX11_set_54 0 rfl rfl ?_
          obtain rfl := Option.some.inj h
          exact HR _ _ dX11_set_56
        have hc0 := hc
        have h := jif hc h
        by_cases hc : v1 = 1
        · have h := jit hc h
          refine j_aald (pc' := 49) K dX11_set_48 43 6 rfl rfl hg (by rw [hc]; rfl) rfl ?_
          refine j_iload_n (pc' := 50) K dX11_set_49 rfl 3 rfl rfl ?_
          refine j_lload_n (pc' := 51) K dX11_set_50 rfl 4 rfl rfl ?_
          obtain ⟨r51, hr51, h⟩ := jbd_some h
          refine j_rw (pc' := 54) (ws' := (wX (jg E) a0 (X_poly1_s s0 r51))) K (fun H hP => jrun_V K dX11_set_51 (M_X8_put (jl E) (jg E) (a0 47) (a0 48) (a0 49) v2 v3 (X_poly1 s0) hr51) u_3_181 u_3_178 u_3_179 u_3_180 u_1_12 ⟨ok_X8_put, by decide, by decide⟩ rfl (Nat.le_of_ble_eq_true rfl) 47 rfl rfl H hP) hrw [47, 48, 49] rfl (cl_48_s ..) rfl (cl_48_m ..) (ad_X ..) rfl ?_
          refine j_lload (pc' := 56) K dX11_set_54 0 rfl rfl ?_
          obtain rfl := Option.some.inj h
          exact HR _ _ dX11_set_56
        have hc1 := hc
        have h := jif hc h
        by_cases hc : v1 = 2
        · have h := jit hc h
          refine j_aald (pc' := 49) K dX11_set_48 43 6 rfl rfl hg (by rw [hc]; rfl) rfl ?_
          refine j_iload_n (pc' := 50) K dX11_set_49 rfl 3 rfl rfl ?_
          refine j_lload_n (pc' := 51) K dX11_set_50 rfl 4 rfl rfl ?_
          obtain ⟨r51, hr51, h⟩ := jbd_some h
          refine j_rw (pc' := 54) (ws' := (wX (jg E) a0 (X_poly2_s s0 r51))) K (fun H hP => jrun_V K dX11_set_51 (M_X8_put (jl E) (jg E) (a0 50) (a0 51) (a0 52) v2 v3 (X_poly2 s0) hr51) u_3_181 u_3_178 u_3_179 u_3_180 u_1_12 ⟨ok_X8_put, by decide, by decide⟩ rfl (Nat.le_of_ble_eq_true rfl) 50 rfl rfl H hP) hrw [50, 51, 52] rfl (cl_49_s ..) rfl (cl_49_m ..) (ad_X ..) rfl ?_
          refine j_lload (pc' := 56) K dX11_set_54 0 rfl rfl ?_
          obtain rfl := Option.some.inj h
          exact HR _ _ dX11_set_56
        have hc2 := hc
        have h := jif hc h
        have hc : v1 = 3 := jin4 hg hc0 hc1 hc2
        refine j_aald (pc' := 49) K dX11_set_48 43 6 rfl rfl hg (by rw [hc]; rfl) rfl ?_
        refine j_iload_n (pc' := 50) K dX11_set_49 rfl 3 rfl rfl ?_
        refine j_lload_n (pc' := 51) K dX11_set_50 rfl 4 rfl rfl ?_
        obtain ⟨r51, hr51, h⟩ := jbd_some h
        refine j_rw (pc' := 54) (ws' := (wX (jg E) a0 (X_poly3_s s0 r51))) K (fun H hP => jrun_V K dX11_set_51 (M_X8_put (jl E) (jg E) (a0 53) (a0 54) (a0 55) v2 v3 (X_poly3 s0) hr51) u_3_181 u_3_178 u_3_179 u_3_180 u_1_12 ⟨ok_X8_put, by decide, by decide⟩ rfl (Nat.le_of_ble_eq_true rfl) 53 rfl rfl H hP) hrw [53, 54, 55] rfl (cl_50_s ..) rfl (cl_50_m ..) (ad_X ..) rfl ?_
        refine j_lload (pc' := 56) K dX11_set_54 0 rfl rfl ?_
        obtain rfl := Option.some.inj h
        exact HR _ _ dX11_set_56
      · have h := jif hc h
        refine j_ldc2 (pc' := 30) K dX11_set_27 u_2_90 rfl ?_
        obtain rfl := Option.some.inj h
        exact HR _ _ dX11_set_30
set_option maxRecDepth 100000 in
set_option maxHeartbeats 4000000 in
theorem M_X11_set (l : Launch) (G : jG) (a0 : Nat → Nat) (v1 : Int32) (v2 : Int32) (v3 : Int64) (s0 : XS) {r : Int64 × XS} (h : f_X11_set v1 v2 v3 s0 = some r) : MC l yX11_set cX11_set 7 (some .long) 2 G (jad (wX G a0 s0)) True (wX G a0 s0) (wX G a0 (r.2)) [.ref (a0 0), .int v1, .int v2, .long v3] (some (.long (r.1))) := by
  refine mc_long (by decide +kernel) (Nat.le_of_ble_eq_true rfl) fun E hl hg hA hrw K HR => ?_
  subst hl
  subst hg
  have hrw : jrw E := by rw [hrw]; trivial
  exact b_X11_set a0 K hrw HR v1 v2 v3 s0 h
theorem ok_X11_coefficient : yX11_coefficient.cls ≠ "java/lang/invoke/MethodHandle" ∧ yX11_coefficient.cls ≠ "java/lang/invoke/VarHandle" ∧ (parseMethodDescriptor yX11_coefficient.desc).map (fun d => d.parameters.length) = some 2 := ⟨by decide, by decide, by decide +kernel⟩
def f_X11_coefficient (v1 : Int32) (v2 : Int32) (s0 : XS) : Option (Int64) :=
   jbd (f_X11_isPolynomial v1) (fun r1 =>
   if r1 = 0 then
    some (-1000000000000000001 : Int64)
   else
    jbd (f_X11_within v2 (0 : Int32) (8 : Int32)) (fun r11 =>
     if r11 = 0 then
      some (-1000000000000000001 : Int64)
     else
      jgd v1 4 (
       if v1 = 0 then (
        jbd (f_X8_at v2 (X_poly0 s0)) (fun r28 =>
         some r28)) else if v1 = 1 then (
        jbd (f_X8_at v2 (X_poly1 s0)) (fun r28 =>
         some r28)) else if v1 = 2 then (
        jbd (f_X8_at v2 (X_poly2 s0)) (fun r28 =>
         some r28)) else (
        jbd (f_X8_at v2 (X_poly3 s0)) (fun r28 =>
         some r28)))))
set_option maxRecDepth 100000 in
set_option maxHeartbeats 4000000 in
theorem b_X11_coefficient {E : jE} (a0 : Nat → Nat) (s0 : XS) {res : Int64} (K : jC E cX11_coefficient 3 RX11 2) (HR : jRL E cX11_coefficient 3 (wX (jg E) a0 s0) res) : ∀ (v1 : Int32) (v2 : Int32), f_X11_coefficient v1 v2 s0 = some res → J E 3 (wX (jg E) a0 s0) 0 [(0, .ref (a0 0)), (1, .int v1), (2, .int v2)] [] := by
  intro v1 v2 h
  unfold f_X11_coefficient at h
  refine j_iload_n (pc' := 1) K dX11_coefficient_0 rfl 1 rfl rfl ?_
  obtain ⟨r1, hr1, h⟩ := jbd_some h
  refine j_ro (pc' := 4) K (fun H hP => jrun_S K dX11_coefficient_1 (M_X11_isPolynomial (jl E) (jg E) v1 hr1) u_3_155 u_3_153 u_3_154 u_1_1 ⟨ok_X11_isPolynomial, by decide, by decide⟩ rfl (Nat.le_of_ble_eq_true rfl) H) [] rfl rfl ?_
  refine j_if_eq (pc' := 7) (tgt := 17) K dX11_coefficient_4 (by decide) rfl (fun hc => ?_) (fun hc => ?_)
  · have h := jit hc h
    refine j_ldc2 (pc' := 20) K dX11_coefficient_17 u_2_90 rfl ?_
    obtain rfl := Option.some.inj h
    exact HR _ _ dX11_coefficient_20
  · have h := jif hc h
    refine j_iload_n (pc' := 8) K dX11_coefficient_7 rfl 2 rfl rfl ?_
    refine j_iconst (pc' := 9) (v := (0 : Int32)) K dX11_coefficient_8 (by decide) rfl ?_
    refine j_bipush (pc' := 11) (v := (8 : Int32)) K dX11_coefficient_9 (by decide) rfl ?_
    obtain ⟨r11, hr11, h⟩ := jbd_some h
    refine j_ro (pc' := 14) K (fun H hP => jrun_S K dX11_coefficient_11 (M_X11_within (jl E) (jg E) v2 (0 : Int32) (8 : Int32) hr11) u_1_76 u_1_217 u_1_75 u_1_1 ⟨ok_X11_within, by decide, by decide⟩ rfl (Nat.le_of_ble_eq_true rfl) H) [] rfl rfl ?_
    refine j_if_ne (pc' := 17) (tgt := 21) K dX11_coefficient_14 (by decide) rfl (fun hc => ?_) (fun hc => ?_)
    · have h := jif hc h
      refine j_aload_n (pc' := 22) K dX11_coefficient_21 rfl 0 rfl rfl ?_
      refine j_get (pc' := 25) K dX11_coefficient_22 inX11 0 rfl rfl 4 (by decide) u_1_201 rfl rfl rfl ?_
      refine j_iload_n (pc' := 26) K dX11_coefficient_25 rfl 1 rfl rfl ?_
      obtain ⟨hg, h⟩ := jgd_some h
      by_cases hc : v1 = 0
      · have h := jit hc h
        refine j_aald (pc' := 27) K dX11_coefficient_26 43 6 rfl rfl hg (by rw [hc]; rfl) rfl ?_
        refine j_iload_n (pc' := 28) K dX11_coefficient_27 rfl 2 rfl rfl ?_
        obtain ⟨r28, hr28, h⟩ := jbd_some h
        refine j_ro (pc' := 31) K (fun H hP => jrun_V K dX11_coefficient_28 (M_X8_at (jl E) (jg E) (a0 44) (a0 45) (a0 46) v2 (X_poly0 s0) hr28) u_3_176 u_3_173 u_3_174 u_3_175 u_1_12 ⟨ok_X8_at, by decide, by decide⟩ rfl (Nat.le_of_ble_eq_true rfl) 44 rfl rfl H hP) [44, 45, 46] (cl_46_f ..) rfl ?_
        obtain rfl := Option.some.inj h
        exact HR _ _ dX11_coefficient_31
      have hc0 := hc
      have h := jif hc h
      by_cases hc : v1 = 1
      · have h := jit hc h
        refine j_aald (pc' := 27) K dX11_coefficient_26 43 6 rfl rfl hg (by rw [hc]; rfl) rfl ?_
        refine j_iload_n (pc' := 28) K dX11_coefficient_27 rfl 2 rfl rfl ?_
        obtain ⟨r28, hr28, h⟩ := jbd_some h
        refine j_ro (pc' := 31) K (fun H hP => jrun_V K dX11_coefficient_28 (M_X8_at (jl E) (jg E) (a0 47) (a0 48) (a0 49) v2 (X_poly1 s0) hr28) u_3_176 u_3_173 u_3_174 u_3_175 u_1_12 ⟨ok_X8_at, by decide, by decide⟩ rfl (Nat.le_of_ble_eq_true rfl) 47 rfl rfl H hP) [47, 48, 49] (cl_51_f ..) rfl ?_
        obtain rfl := Option.some.inj h
        exact HR _ _ dX11_coefficient_31
      have hc1 := hc
      have h := jif hc h
      by_cases hc : v1 = 2
      · have h := jit hc h
        refine j_aald (pc' := 27) K dX11_coefficient_26 43 6 rfl rfl hg (by rw [hc]; rfl) rfl ?_
        refine j_iload_n (pc' := 28) K dX11_coefficient_27 rfl 2 rfl rfl ?_
        obtain ⟨r28, hr28, h⟩ := jbd_some h
        refine j_ro (pc' := 31) K (fun H hP => jrun_V K dX11_coefficient_28 (M_X8_at (jl E) (jg E) (a0 50) (a0 51) (a0 52) v2 (X_poly2 s0) hr28) u_3_176 u_3_173 u_3_174 u_3_175 u_1_12 ⟨ok_X8_at, by decide, by decide⟩ rfl (Nat.le_of_ble_eq_true rfl) 50 rfl rfl H hP) [50, 51, 52] (cl_52_f ..) rfl ?_
        obtain rfl := Option.some.inj h
        exact HR _ _ dX11_coefficient_31
      have hc2 := hc
      have h := jif hc h
      have hc : v1 = 3 := jin4 hg hc0 hc1 hc2
      refine j_aald (pc' := 27) K dX11_coefficient_26 43 6 rfl rfl hg (by rw [hc]; rfl) rfl ?_
      refine j_iload_n (pc' := 28) K dX11_coefficient_27 rfl 2 rfl rfl ?_
      obtain ⟨r28, hr28, h⟩ := jbd_some h
      refine j_ro (pc' := 31) K (fun H hP => jrun_V K dX11_coefficient_28 (M_X8_at (jl E) (jg E) (a0 53) (a0 54) (a0 55) v2 (X_poly3 s0) hr28) u_3_176 u_3_173 u_3_174 u_3_175 u_1_12 ⟨ok_X8_at, by decide, by decide⟩ rfl (Nat.le_of_ble_eq_true rfl) 53 rfl rfl H hP) [53, 54, 55] (cl_53_f ..) rfl ?_
      obtain rfl := Option.some.inj h
      exact HR _ _ dX11_coefficient_31
    · have h := jit hc h
      refine j_ldc2 (pc' := 20) K dX11_coefficient_17 u_2_90 rfl ?_
      obtain rfl := Option.some.inj h
      exact HR _ _ dX11_coefficient_20
set_option maxRecDepth 100000 in
set_option maxHeartbeats 4000000 in
theorem M_X11_coefficient (l : Launch) (G : jG) (a0 : Nat → Nat) (v1 : Int32) (v2 : Int32) (s0 : XS) {r : Int64} (h : f_X11_coefficient v1 v2 s0 = some r) : MC l yX11_coefficient cX11_coefficient 3 (some .long) 2 G jNo False (wX G a0 s0) (wX G a0 s0) [.ref (a0 0), .int v1, .int v2] (some (.long r)) := by
  refine mc_long (by decide +kernel) (Nat.le_of_ble_eq_true rfl) fun E hl hg hA hrw K HR => ?_
  subst hl
  subst hg
  exact b_X11_coefficient a0 s0 K HR v1 v2 h
theorem ok_X11_told : yX11_told.cls ≠ "java/lang/invoke/MethodHandle" ∧ yX11_told.cls ≠ "java/lang/invoke/VarHandle" ∧ (parseMethodDescriptor yX11_told.desc).map (fun d => d.parameters.length) = some 2 := ⟨by decide, by decide, by decide +kernel⟩
def f_X11_told (v1 : Int32) (v2 : Int32) (s0 : XS) : Option (Int32) :=
   jbd (f_X11_isPolynomial v1) (fun r1 =>
   if r1 = 0 then
    some (-1 : Int32)
   else
    jbd (f_X11_within v2 (0 : Int32) (1 : Int32)) (fun r10 =>
     if r10 = 0 then
      some (-1 : Int32)
     else
      if v2 = 0 then
       jgd v1 4 (
        if v1 = 0 then (
         jbd (f_X8_baseNow (X_poly0 s0)) (fun r28 =>
          some r28)) else if v1 = 1 then (
         jbd (f_X8_baseNow (X_poly1 s0)) (fun r28 =>
          some r28)) else if v1 = 2 then (
         jbd (f_X8_baseNow (X_poly2 s0)) (fun r28 =>
          some r28)) else (
         jbd (f_X8_baseNow (X_poly3 s0)) (fun r28 =>
          some r28)))
      else
       jgd v1 4 (
        if v1 = 0 then (
         jbd (f_X8_degree (X_poly0 s0)) (fun r40 =>
          some r40)) else if v1 = 1 then (
         jbd (f_X8_degree (X_poly1 s0)) (fun r40 =>
          some r40)) else if v1 = 2 then (
         jbd (f_X8_degree (X_poly2 s0)) (fun r40 =>
          some r40)) else (
         jbd (f_X8_degree (X_poly3 s0)) (fun r40 =>
          some r40)))))
set_option maxRecDepth 100000 in
set_option maxHeartbeats 4000000 in
theorem b_X11_told {E : jE} (a0 : Nat → Nat) (s0 : XS) {res : Int32} (K : jC E cX11_told 3 RX11 2) (HR : jRI E cX11_told 3 (wX (jg E) a0 s0) res) : ∀ (v1 : Int32) (v2 : Int32), f_X11_told v1 v2 s0 = some res → J E 3 (wX (jg E) a0 s0) 0 [(0, .ref (a0 0)), (1, .int v1), (2, .int v2)] [] := by
  intro v1 v2 h
  unfold f_X11_told at h
  refine j_iload_n (pc' := 1) K dX11_told_0 rfl 1 rfl rfl ?_
  obtain ⟨r1, hr1, h⟩ := jbd_some h
  refine j_ro (pc' := 4) K (fun H hP => jrun_S K dX11_told_1 (M_X11_isPolynomial (jl E) (jg E) v1 hr1) u_3_155 u_3_153 u_3_154 u_1_1 ⟨ok_X11_isPolynomial, by decide, by decide⟩ rfl (Nat.le_of_ble_eq_true rfl) H) [] rfl rfl ?_
  refine j_if_eq (pc' := 7) (tgt := 16) K dX11_told_4 (by decide) rfl (fun hc => ?_) (fun hc => ?_)
  · have h := jit hc h
    refine j_iconst (pc' := 17) (v := (-1 : Int32)) K dX11_told_16 (by decide) rfl ?_
    obtain rfl := Option.some.inj h
    exact HR _ _ dX11_told_17
  · have h := jif hc h
    refine j_iload_n (pc' := 8) K dX11_told_7 rfl 2 rfl rfl ?_
    refine j_iconst (pc' := 9) (v := (0 : Int32)) K dX11_told_8 (by decide) rfl ?_
    refine j_iconst (pc' := 10) (v := (1 : Int32)) K dX11_told_9 (by decide) rfl ?_
    obtain ⟨r10, hr10, h⟩ := jbd_some h
    refine j_ro (pc' := 13) K (fun H hP => jrun_S K dX11_told_10 (M_X11_within (jl E) (jg E) v2 (0 : Int32) (1 : Int32) hr10) u_1_76 u_1_217 u_1_75 u_1_1 ⟨ok_X11_within, by decide, by decide⟩ rfl (Nat.le_of_ble_eq_true rfl) H) [] rfl rfl ?_
    refine j_if_ne (pc' := 16) (tgt := 18) K dX11_told_13 (by decide) rfl (fun hc => ?_) (fun hc => ?_)
    · have h := jif hc h
      refine j_iload_n (pc' := 19) K dX11_told_18 rfl 2 rfl rfl ?_
      refine j_if_ne (pc' := 22) (tgt := 34) K dX11_told_19 (by decide) rfl (fun hc => ?_) (fun hc => ?_)
      · have h := jif hc h
        refine j_aload_n (pc' := 35) K dX11_told_34 rfl 0 rfl rfl ?_
        refine j_get (pc' := 38) K dX11_told_35 inX11 0 rfl rfl 4 (by decide) u_1_201 rfl rfl rfl ?_
        refine j_iload_n (pc' := 39) K dX11_told_38 rfl 1 rfl rfl ?_
        obtain ⟨hg, h⟩ := jgd_some h
        by_cases hc : v1 = 0
        · have h := jit hc h
          refine j_aald (pc' := 40) K dX11_told_39 43 6 rfl rfl hg (by rw [hc]; rfl) rfl ?_
          obtain ⟨r40, hr40, h⟩ := jbd_some h
          refine j_ro (pc' := 43) K (fun H hP => jrun_V K dX11_told_40 (M_X8_degree (jl E) (jg E) (a0 44) (a0 45) (a0 46) (X_poly0 s0) hr40) u_3_193 u_3_190 u_3_191 u_3_192 u_1_12 ⟨ok_X8_degree, by decide, by decide⟩ rfl (Nat.le_of_ble_eq_true rfl) 44 rfl rfl H hP) [44, 45, 46] (cl_46_f ..) rfl ?_
          obtain rfl := Option.some.inj h
          exact HR _ _ dX11_told_43
        have hc0 := hc
        have h := jif hc h
        by_cases hc : v1 = 1
        · have h := jit hc h
          refine j_aald (pc' := 40) K dX11_told_39 43 6 rfl rfl hg (by rw [hc]; rfl) rfl ?_
          obtain ⟨r40, hr40, h⟩ := jbd_some h
          refine j_ro (pc' := 43) K (fun H hP => jrun_V K dX11_told_40 (M_X8_degree (jl E) (jg E) (a0 47) (a0 48) (a0 49) (X_poly1 s0) hr40) u_3_193 u_3_190 u_3_191 u_3_192 u_1_12 ⟨ok_X8_degree, by decide, by decide⟩ rfl (Nat.le_of_ble_eq_true rfl) 47 rfl rfl H hP) [47, 48, 49] (cl_51_f ..) rfl ?_
          obtain rfl := Option.some.inj h
          exact HR _ _ dX11_told_43
        have hc1 := hc
        have h := jif hc h
        by_cases hc : v1 = 2
        · have h := jit hc h
          refine j_aald (pc' := 40) K dX11_told_39 43 6 rfl rfl hg (by rw [hc]; rfl) rfl ?_
          obtain ⟨r40, hr40, h⟩ := jbd_some h
          refine j_ro (pc' := 43) K (fun H hP => jrun_V K dX11_told_40 (M_X8_degree (jl E) (jg E) (a0 50) (a0 51) (a0 52) (X_poly2 s0) hr40) u_3_193 u_3_190 u_3_191 u_3_192 u_1_12 ⟨ok_X8_degree, by decide, by decide⟩ rfl (Nat.le_of_ble_eq_true rfl) 50 rfl rfl H hP) [50, 51, 52] (cl_52_f ..) rfl ?_
          obtain rfl := Option.some.inj h
          exact HR _ _ dX11_told_43
        have hc2 := hc
        have h := jif hc h
        have hc : v1 = 3 := jin4 hg hc0 hc1 hc2
        refine j_aald (pc' := 40) K dX11_told_39 43 6 rfl rfl hg (by rw [hc]; rfl) rfl ?_
        obtain ⟨r40, hr40, h⟩ := jbd_some h
        refine j_ro (pc' := 43) K (fun H hP => jrun_V K dX11_told_40 (M_X8_degree (jl E) (jg E) (a0 53) (a0 54) (a0 55) (X_poly3 s0) hr40) u_3_193 u_3_190 u_3_191 u_3_192 u_1_12 ⟨ok_X8_degree, by decide, by decide⟩ rfl (Nat.le_of_ble_eq_true rfl) 53 rfl rfl H hP) [53, 54, 55] (cl_53_f ..) rfl ?_
        obtain rfl := Option.some.inj h
        exact HR _ _ dX11_told_43
      · have h := jit hc h
        refine j_aload_n (pc' := 23) K dX11_told_22 rfl 0 rfl rfl ?_
        refine j_get (pc' := 26) K dX11_told_23 inX11 0 rfl rfl 4 (by decide) u_1_201 rfl rfl rfl ?_
        refine j_iload_n (pc' := 27) K dX11_told_26 rfl 1 rfl rfl ?_
        obtain ⟨hg, h⟩ := jgd_some h
        by_cases hc : v1 = 0
        · have h := jit hc h
          refine j_aald (pc' := 28) K dX11_told_27 43 6 rfl rfl hg (by rw [hc]; rfl) rfl ?_
          obtain ⟨r28, hr28, h⟩ := jbd_some h
          refine j_ro (pc' := 31) K (fun H hP => jrun_V K dX11_told_28 (M_X8_baseNow (jl E) (jg E) (a0 44) (a0 45) (a0 46) (X_poly0 s0) hr28) u_3_159 u_3_156 u_3_157 u_3_158 u_1_12 ⟨ok_X8_baseNow, by decide, by decide⟩ rfl (Nat.le_of_ble_eq_true rfl) 44 rfl rfl H hP) [44, 45, 46] (cl_46_f ..) rfl ?_
          refine j_goto (tgt := 43) K dX11_told_31 (by decide) ?_
          obtain rfl := Option.some.inj h
          exact HR _ _ dX11_told_43
        have hc0 := hc
        have h := jif hc h
        by_cases hc : v1 = 1
        · have h := jit hc h
          refine j_aald (pc' := 28) K dX11_told_27 43 6 rfl rfl hg (by rw [hc]; rfl) rfl ?_
          obtain ⟨r28, hr28, h⟩ := jbd_some h
          refine j_ro (pc' := 31) K (fun H hP => jrun_V K dX11_told_28 (M_X8_baseNow (jl E) (jg E) (a0 47) (a0 48) (a0 49) (X_poly1 s0) hr28) u_3_159 u_3_156 u_3_157 u_3_158 u_1_12 ⟨ok_X8_baseNow, by decide, by decide⟩ rfl (Nat.le_of_ble_eq_true rfl) 47 rfl rfl H hP) [47, 48, 49] (cl_51_f ..) rfl ?_
          refine j_goto (tgt := 43) K dX11_told_31 (by decide) ?_
          obtain rfl := Option.some.inj h
          exact HR _ _ dX11_told_43
        have hc1 := hc
        have h := jif hc h
        by_cases hc : v1 = 2
        · have h := jit hc h
          refine j_aald (pc' := 28) K dX11_told_27 43 6 rfl rfl hg (by rw [hc]; rfl) rfl ?_
          obtain ⟨r28, hr28, h⟩ := jbd_some h
          refine j_ro (pc' := 31) K (fun H hP => jrun_V K dX11_told_28 (M_X8_baseNow (jl E) (jg E) (a0 50) (a0 51) (a0 52) (X_poly2 s0) hr28) u_3_159 u_3_156 u_3_157 u_3_158 u_1_12 ⟨ok_X8_baseNow, by decide, by decide⟩ rfl (Nat.le_of_ble_eq_true rfl) 50 rfl rfl H hP) [50, 51, 52] (cl_52_f ..) rfl ?_
          refine j_goto (tgt := 43) K dX11_told_31 (by decide) ?_
          obtain rfl := Option.some.inj h
          exact HR _ _ dX11_told_43
        have hc2 := hc
        have h := jif hc h
        have hc : v1 = 3 := jin4 hg hc0 hc1 hc2
        refine j_aald (pc' := 28) K dX11_told_27 43 6 rfl rfl hg (by rw [hc]; rfl) rfl ?_
        obtain ⟨r28, hr28, h⟩ := jbd_some h
        refine j_ro (pc' := 31) K (fun H hP => jrun_V K dX11_told_28 (M_X8_baseNow (jl E) (jg E) (a0 53) (a0 54) (a0 55) (X_poly3 s0) hr28) u_3_159 u_3_156 u_3_157 u_3_158 u_1_12 ⟨ok_X8_baseNow, by decide, by decide⟩ rfl (Nat.le_of_ble_eq_true rfl) 53 rfl rfl H hP) [53, 54, 55] (cl_53_f ..) rfl ?_
        refine j_goto (tgt := 43) K dX11_told_31 (by decide) ?_
        obtain rfl := Option.some.inj h
        exact HR _ _ dX11_told_43
    · have h := jit hc h
      refine j_iconst (pc' := 17) (v := (-1 : Int32)) K dX11_told_16 (by decide) rfl ?_
      obtain rfl := Option.some.inj h
      exact HR _ _ dX11_told_17
set_option maxRecDepth 100000 in
set_option maxHeartbeats 4000000 in
theorem M_X11_told (l : Launch) (G : jG) (a0 : Nat → Nat) (v1 : Int32) (v2 : Int32) (s0 : XS) {r : Int32} (h : f_X11_told v1 v2 s0 = some r) : MC l yX11_told cX11_told 3 (some .int) 2 G jNo False (wX G a0 s0) (wX G a0 s0) [.ref (a0 0), .int v1, .int v2] (some (.int r)) := by
  refine mc_int (by decide +kernel) (Nat.le_of_ble_eq_true rfl) fun E hl hg hA hrw K HR => ?_
  subst hl
  subst hg
  exact b_X11_told a0 s0 K HR v1 v2 h
theorem ok_X11_turn : yX11_turn.cls ≠ "java/lang/invoke/MethodHandle" ∧ yX11_turn.cls ≠ "java/lang/invoke/VarHandle" ∧ (parseMethodDescriptor yX11_turn.desc).map (fun d => d.parameters.length) = some 2 := ⟨by decide, by decide, by decide +kernel⟩
def f_X11_turn (v1 : Int32) (v2 : Int32) (s0 : XS) : Option (Int32 × XS) :=
   jbd (f_X11_isPolynomial v1) (fun r1 =>
   if r1 = 0 then
    some ((-1 : Int32), s0)
   else
    jbd (f_X11_within v2 (0 : Int32) (3 : Int32)) (fun r10 =>
     if r10 = 0 then
      some ((-1 : Int32), s0)
     else
      jgd v1 4 (
       if v1 = 0 then (
        jbd (f_X8_turnInto v2 (X_poly0 s0)) (fun r25 =>
         if (r25.1) = 0 then
          some ((-2 : Int32), (X_poly0_s s0 (r25.2)))
         else
          jgd v1 4 (
           if v1 = 0 then (
            jbd (f_X8_degree (X_poly0 (X_poly0_s s0 (r25.2)))) (fun r37 =>
             some (r37, (X_poly0_s s0 (r25.2))))) else if v1 = 1 then (
            jbd (f_X8_degree (X_poly1 (X_poly0_s s0 (r25.2)))) (fun r37 =>
             some (r37, (X_poly0_s s0 (r25.2))))) else if v1 = 2 then (
            jbd (f_X8_degree (X_poly2 (X_poly0_s s0 (r25.2)))) (fun r37 =>
             some (r37, (X_poly0_s s0 (r25.2))))) else (
            jbd (f_X8_degree (X_poly3 (X_poly0_s s0 (r25.2)))) (fun r37 =>
             some (r37, (X_poly0_s s0 (r25.2)))))))) else if v1 = 1 then (
        jbd (f_X8_turnInto v2 (X_poly1 s0)) (fun r25 =>
         if (r25.1) = 0 then
          some ((-2 : Int32), (X_poly1_s s0 (r25.2)))
         else
          jgd v1 4 (
           if v1 = 0 then (
            jbd (f_X8_degree (X_poly0 (X_poly1_s s0 (r25.2)))) (fun r37 =>
             some (r37, (X_poly1_s s0 (r25.2))))) else if v1 = 1 then (
            jbd (f_X8_degree (X_poly1 (X_poly1_s s0 (r25.2)))) (fun r37 =>
             some (r37, (X_poly1_s s0 (r25.2))))) else if v1 = 2 then (
            jbd (f_X8_degree (X_poly2 (X_poly1_s s0 (r25.2)))) (fun r37 =>
             some (r37, (X_poly1_s s0 (r25.2))))) else (
            jbd (f_X8_degree (X_poly3 (X_poly1_s s0 (r25.2)))) (fun r37 =>
             some (r37, (X_poly1_s s0 (r25.2)))))))) else if v1 = 2 then (
        jbd (f_X8_turnInto v2 (X_poly2 s0)) (fun r25 =>
         if (r25.1) = 0 then
          some ((-2 : Int32), (X_poly2_s s0 (r25.2)))
         else
          jgd v1 4 (
           if v1 = 0 then (
            jbd (f_X8_degree (X_poly0 (X_poly2_s s0 (r25.2)))) (fun r37 =>
             some (r37, (X_poly2_s s0 (r25.2))))) else if v1 = 1 then (
            jbd (f_X8_degree (X_poly1 (X_poly2_s s0 (r25.2)))) (fun r37 =>
             some (r37, (X_poly2_s s0 (r25.2))))) else if v1 = 2 then (
            jbd (f_X8_degree (X_poly2 (X_poly2_s s0 (r25.2)))) (fun r37 =>
             some (r37, (X_poly2_s s0 (r25.2))))) else (
            jbd (f_X8_degree (X_poly3 (X_poly2_s s0 (r25.2)))) (fun r37 =>
             some (r37, (X_poly2_s s0 (r25.2)))))))) else (
        jbd (f_X8_turnInto v2 (X_poly3 s0)) (fun r25 =>
         if (r25.1) = 0 then
          some ((-2 : Int32), (X_poly3_s s0 (r25.2)))
         else
          jgd v1 4 (
           if v1 = 0 then (
            jbd (f_X8_degree (X_poly0 (X_poly3_s s0 (r25.2)))) (fun r37 =>
             some (r37, (X_poly3_s s0 (r25.2))))) else if v1 = 1 then (
            jbd (f_X8_degree (X_poly1 (X_poly3_s s0 (r25.2)))) (fun r37 =>
             some (r37, (X_poly3_s s0 (r25.2))))) else if v1 = 2 then (
            jbd (f_X8_degree (X_poly2 (X_poly3_s s0 (r25.2)))) (fun r37 =>
             some (r37, (X_poly3_s s0 (r25.2))))) else (
            jbd (f_X8_degree (X_poly3 (X_poly3_s s0 (r25.2)))) (fun r37 =>
             some (r37, (X_poly3_s s0 (r25.2)))))))))))
set_option maxRecDepth 100000 in
set_option maxHeartbeats 4000000 in
theorem b_X11_turn {E : jE} (a0 : Nat → Nat) {res : Int32 × XS} (K : jC E cX11_turn 3 RX11 4) (hrw : jrw E) (HR : jRI E cX11_turn 3 (wX (jg E) a0 (res.2)) (res.1)) : ∀ (v1 : Int32) (v2 : Int32) (s0 : XS), f_X11_turn v1 v2 s0 = some res → J E 3 (wX (jg E) a0 s0) 0 [(0, .ref (a0 0)), (1, .int v1), (2, .int v2)] [] := by
  intro v1 v2 s0 h
  unfold f_X11_turn at h
  refine j_iload_n (pc' := 1) K dX11_turn_0 rfl 1 rfl rfl ?_
  obtain ⟨r1, hr1, h⟩ := jbd_some h
  refine j_ro (pc' := 4) K (fun H hP => jrun_S K dX11_turn_1 (M_X11_isPolynomial (jl E) (jg E) v1 hr1) u_3_155 u_3_153 u_3_154 u_1_1 ⟨ok_X11_isPolynomial, by decide, by decide⟩ rfl (Nat.le_of_ble_eq_true rfl) H) [] rfl rfl ?_
  refine j_if_eq (pc' := 7) (tgt := 16) K dX11_turn_4 (by decide) rfl (fun hc => ?_) (fun hc => ?_)
  · have h := jit hc h
    refine j_iconst (pc' := 17) (v := (-1 : Int32)) K dX11_turn_16 (by decide) rfl ?_
    obtain rfl := Option.some.inj h
    exact HR _ _ dX11_turn_17
  · have h := jif hc h
    refine j_iload_n (pc' := 8) K dX11_turn_7 rfl 2 rfl rfl ?_
    refine j_iconst (pc' := 9) (v := (0 : Int32)) K dX11_turn_8 (by decide) rfl ?_
    refine j_iconst (pc' := 10) (v := (3 : Int32)) K dX11_turn_9 (by decide) rfl ?_
    obtain ⟨r10, hr10, h⟩ := jbd_some h
    refine j_ro (pc' := 13) K (fun H hP => jrun_S K dX11_turn_10 (M_X11_within (jl E) (jg E) v2 (0 : Int32) (3 : Int32) hr10) u_1_76 u_1_217 u_1_75 u_1_1 ⟨ok_X11_within, by decide, by decide⟩ rfl (Nat.le_of_ble_eq_true rfl) H) [] rfl rfl ?_
    refine j_if_ne (pc' := 16) (tgt := 18) K dX11_turn_13 (by decide) rfl (fun hc => ?_) (fun hc => ?_)
    · have h := jif hc h
      refine j_aload_n (pc' := 19) K dX11_turn_18 rfl 0 rfl rfl ?_
      refine j_get (pc' := 22) K dX11_turn_19 inX11 0 rfl rfl 4 (by decide) u_1_201 rfl rfl rfl ?_
      refine j_iload_n (pc' := 23) K dX11_turn_22 rfl 1 rfl rfl ?_
      obtain ⟨hg, h⟩ := jgd_some h
      by_cases hc : v1 = 0
      · have h := jit hc h
        refine j_aald (pc' := 24) K dX11_turn_23 43 6 rfl rfl hg (by rw [hc]; rfl) rfl ?_
        refine j_iload_n (pc' := 25) K dX11_turn_24 rfl 2 rfl rfl ?_
        obtain ⟨r25, hr25, h⟩ := jbd_some h
        refine j_rw (pc' := 28) (ws' := (wX (jg E) a0 (X_poly0_s s0 (r25.2)))) K (fun H hP => jrun_V K dX11_turn_25 (M_X8_turnInto (jl E) (jg E) (a0 44) (a0 45) (a0 46) v2 (X_poly0 s0) hr25) u_3_201 u_3_198 u_3_199 u_3_200 u_1_12 ⟨ok_X8_turnInto, by decide, by decide⟩ rfl (Nat.le_of_ble_eq_true rfl) 44 rfl rfl H hP) hrw [44, 45, 46] rfl (cl_47_s ..) rfl (cl_47_m ..) (ad_X ..) rfl ?_
        refine j_if_eq (pc' := 31) (tgt := 43) K dX11_turn_28 (by decide) rfl (fun hc => ?_) (fun hc => ?_)
        · have h := jit hc h
          refine j_bipush (pc' := 45) (v := (-2 : Int32)) K dX11_turn_43 (by decide) rfl ?_
          obtain rfl := Option.some.inj h
          exact HR _ _ dX11_turn_45
        · have h := jif hc h
          refine j_aload_n (pc' := 32) K dX11_turn_31 rfl 0 rfl rfl ?_
          refine j_get (pc' := 35) K dX11_turn_32 inX11 0 rfl rfl 4 (by decide) u_1_201 rfl rfl rfl ?_
          refine j_iload_n (pc' := 36) K dX11_turn_35 rfl 1 rfl rfl ?_
          obtain ⟨hg, h⟩ := jgd_some h
          by_cases hc : v1 = 0
          · have h := jit hc h
            refine j_aald (pc' := 37) K dX11_turn_36 43 6 rfl rfl hg (by rw [hc]; rfl) rfl ?_
            obtain ⟨r37, hr37, h⟩ := jbd_some h
            refine j_ro (pc' := 40) K (fun H hP => jrun_V K dX11_turn_37 (M_X8_degree (jl E) (jg E) (a0 44) (a0 45) (a0 46) (X_poly0 (X_poly0_s s0 (r25.2))) hr37) u_3_193 u_3_190 u_3_191 u_3_192 u_1_12 ⟨ok_X8_degree, by decide, by decide⟩ rfl (Nat.le_of_ble_eq_true rfl) 44 rfl rfl H hP) [44, 45, 46] (cl_46_f ..) rfl ?_
            refine j_goto (tgt := 45) K dX11_turn_40 (by decide) ?_
            obtain rfl := Option.some.inj h
            exact HR _ _ dX11_turn_45
          have hc0 := hc
          have h := jif hc h
          by_cases hc : v1 = 1
          · have h := jit hc h
            refine j_aald (pc' := 37) K dX11_turn_36 43 6 rfl rfl hg (by rw [hc]; rfl) rfl ?_
            obtain ⟨r37, hr37, h⟩ := jbd_some h
            refine j_ro (pc' := 40) K (fun H hP => jrun_V K dX11_turn_37 (M_X8_degree (jl E) (jg E) (a0 47) (a0 48) (a0 49) (X_poly1 (X_poly0_s s0 (r25.2))) hr37) u_3_193 u_3_190 u_3_191 u_3_192 u_1_12 ⟨ok_X8_degree, by decide, by decide⟩ rfl (Nat.le_of_ble_eq_true rfl) 47 rfl rfl H hP) [47, 48, 49] (cl_51_f ..) rfl ?_
            refine j_goto (tgt := 45) K dX11_turn_40 (by decide) ?_
            obtain rfl := Option.some.inj h
            exact HR _ _ dX11_turn_45
          have hc1 := hc
          have h := jif hc h
          by_cases hc : v1 = 2
          · have h := jit hc h
            refine j_aald (pc' := 37) K dX11_turn_36 43 6 rfl rfl hg (by rw [hc]; rfl) rfl ?_
            obtain ⟨r37, hr37, h⟩ := jbd_some h
            refine j_ro (pc' := 40) K (fun H hP => jrun_V K dX11_turn_37 (M_X8_degree (jl E) (jg E) (a0 50) (a0 51) (a0 52) (X_poly2 (X_poly0_s s0 (r25.2))) hr37) u_3_193 u_3_190 u_3_191 u_3_192 u_1_12 ⟨ok_X8_degree, by decide, by decide⟩ rfl (Nat.le_of_ble_eq_true rfl) 50 rfl rfl H hP) [50, 51, 52] (cl_52_f ..) rfl ?_
            refine j_goto (tgt := 45) K dX11_turn_40 (by decide) ?_
            obtain rfl := Option.some.inj h
            exact HR _ _ dX11_turn_45
          have hc2 := hc
          have h := jif hc h
          have hc : v1 = 3 := jin4 hg hc0 hc1 hc2
          refine j_aald (pc' := 37) K dX11_turn_36 43 6 rfl rfl hg (by rw [hc]; rfl) rfl ?_
          obtain ⟨r37, hr37, h⟩ := jbd_some h
          refine j_ro (pc' := 40) K (fun H hP => jrun_V K dX11_turn_37 (M_X8_degree (jl E) (jg E) (a0 53) (a0 54) (a0 55) (X_poly3 (X_poly0_s s0 (r25.2))) hr37) u_3_193 u_3_190 u_3_191 u_3_192 u_1_12 ⟨ok_X8_degree, by decide, by decide⟩ rfl (Nat.le_of_ble_eq_true rfl) 53 rfl rfl H hP) [53, 54, 55] (cl_53_f ..) rfl ?_
          refine j_goto (tgt := 45) K dX11_turn_40 (by decide) ?_
          obtain rfl := Option.some.inj h
          exact HR _ _ dX11_turn_45
      have hc0 := hc
      have h := jif hc h
      by_cases hc : v1 = 1
      · have h := jit hc h
        refine j_aald (pc' := 24) K dX11_turn_23 43 6 rfl rfl hg (by rw [hc]; rfl) rfl ?_
        refine j_iload_n (pc' := 25) K dX11_turn_24 rfl 2 rfl rfl ?_
        obtain ⟨r25, hr25, h⟩ := jbd_some h
        refine j_rw (pc' := 28) (ws' := (wX (jg E) a0 (X_poly1_s s0 (r25.2)))) K (fun H hP => jrun_V K dX11_turn_25 (M_X8_turnInto (jl E) (jg E) (a0 47) (a0 48) (a0 49) v2 (X_poly1 s0) hr25) u_3_201 u_3_198 u_3_199 u_3_200 u_1_12 ⟨ok_X8_turnInto, by decide, by decide⟩ rfl (Nat.le_of_ble_eq_true rfl) 47 rfl rfl H hP) hrw [47, 48, 49] rfl (cl_48_s ..) rfl (cl_48_m ..) (ad_X ..) rfl ?_
        refine j_if_eq (pc' := 31) (tgt := 43) K dX11_turn_28 (by decide) rfl (fun hc => ?_) (fun hc => ?_)
        · have h := jit hc h
          refine j_bipush (pc' := 45) (v := (-2 : Int32)) K dX11_turn_43 (by decide) rfl ?_
          obtain rfl := Option.some.inj h
          exact HR _ _ dX11_turn_45
        · have h := jif hc h
          refine j_aload_n (pc' := 32) K dX11_turn_31 rfl 0 rfl rfl ?_
          refine j_get (pc' := 35) K dX11_turn_32 inX11 0 rfl rfl 4 (by decide) u_1_201 rfl rfl rfl ?_
          refine j_iload_n (pc' := 36) K dX11_turn_35 rfl 1 rfl rfl ?_
          obtain ⟨hg, h⟩ := jgd_some h
          by_cases hc : v1 = 0
          · have h := jit hc h
            refine j_aald (pc' := 37) K dX11_turn_36 43 6 rfl rfl hg (by rw [hc]; rfl) rfl ?_
            obtain ⟨r37, hr37, h⟩ := jbd_some h
            refine j_ro (pc' := 40) K (fun H hP => jrun_V K dX11_turn_37 (M_X8_degree (jl E) (jg E) (a0 44) (a0 45) (a0 46) (X_poly0 (X_poly1_s s0 (r25.2))) hr37) u_3_193 u_3_190 u_3_191 u_3_192 u_1_12 ⟨ok_X8_degree, by decide, by decide⟩ rfl (Nat.le_of_ble_eq_true rfl) 44 rfl rfl H hP) [44, 45, 46] (cl_46_f ..) rfl ?_
            refine j_goto (tgt := 45) K dX11_turn_40 (by decide) ?_
            obtain rfl := Option.some.inj h
            exact HR _ _ dX11_turn_45
          have hc0 := hc
          have h := jif hc h
          by_cases hc : v1 = 1
          · have h := jit hc h
            refine j_aald (pc' := 37) K dX11_turn_36 43 6 rfl rfl hg (by rw [hc]; rfl) rfl ?_
            obtain ⟨r37, hr37, h⟩ := jbd_some h
            refine j_ro (pc' := 40) K (fun H hP => jrun_V K dX11_turn_37 (M_X8_degree (jl E) (jg E) (a0 47) (a0 48) (a0 49) (X_poly1 (X_poly1_s s0 (r25.2))) hr37) u_3_193 u_3_190 u_3_191 u_3_192 u_1_12 ⟨ok_X8_degree, by decide, by decide⟩ rfl (Nat.le_of_ble_eq_true rfl) 47 rfl rfl H hP) [47, 48, 49] (cl_51_f ..) rfl ?_
            refine j_goto (tgt := 45) K dX11_turn_40 (by decide) ?_
            obtain rfl := Option.some.inj h
            exact HR _ _ dX11_turn_45
          have hc1 := hc
          have h := jif hc h
          by_cases hc : v1 = 2
          · have h := jit hc h
            refine j_aald (pc' := 37) K dX11_turn_36 43 6 rfl rfl hg (by rw [hc]; rfl) rfl ?_
            obtain ⟨r37, hr37, h⟩ := jbd_some h
            refine j_ro (pc' := 40) K (fun H hP => jrun_V K dX11_turn_37 (M_X8_degree (jl E) (jg E) (a0 50) (a0 51) (a0 52) (X_poly2 (X_poly1_s s0 (r25.2))) hr37) u_3_193 u_3_190 u_3_191 u_3_192 u_1_12 ⟨ok_X8_degree, by decide, by decide⟩ rfl (Nat.le_of_ble_eq_true rfl) 50 rfl rfl H hP) [50, 51, 52] (cl_52_f ..) rfl ?_
            refine j_goto (tgt := 45) K dX11_turn_40 (by decide) ?_
            obtain rfl := Option.some.inj h
            exact HR _ _ dX11_turn_45
          have hc2 := hc
          have h := jif hc h
          have hc : v1 = 3 := jin4 hg hc0 hc1 hc2
          refine j_aald (pc' := 37) K dX11_turn_36 43 6 rfl rfl hg (by rw [hc]; rfl) rfl ?_
          obtain ⟨r37, hr37, h⟩ := jbd_some h
          refine j_ro (pc' := 40) K (fun H hP => jrun_V K dX11_turn_37 (M_X8_degree (jl E) (jg E) (a0 53) (a0 54) (a0 55) (X_poly3 (X_poly1_s s0 (r25.2))) hr37) u_3_193 u_3_190 u_3_191 u_3_192 u_1_12 ⟨ok_X8_degree, by decide, by decide⟩ rfl (Nat.le_of_ble_eq_true rfl) 53 rfl rfl H hP) [53, 54, 55] (cl_53_f ..) rfl ?_
          refine j_goto (tgt := 45) K dX11_turn_40 (by decide) ?_
          obtain rfl := Option.some.inj h
          exact HR _ _ dX11_turn_45
      have hc1 := hc
      have h := jif hc h
      by_cases hc : v1 = 2
      · have h := jit hc h
        refine j_aald (pc' := 24) K dX11_turn_23 43 6 rfl rfl hg (by rw [hc]; rfl) rfl ?_
        refine j_iload_n (pc' := 25) K dX11_turn_24 rfl 2 rfl rfl ?_
        obtain ⟨r25, hr25, h⟩ := jbd_some h
        refine j_rw (pc' := 28) (ws' := (wX (jg E) a0 (X_poly2_s s0 (r25.2)))) K (fun H hP => jrun_V K dX11_turn_25 (M_X8_turnInto (jl E) (jg E) (a0 50) (a0 51) (a0 52) v2 (X_poly2 s0) hr25) u_3_201 u_3_198 u_3_199 u_3_200 u_1_12 ⟨ok_X8_turnInto, by decide, by decide⟩ rfl (Nat.le_of_ble_eq_true rfl) 50 rfl rfl H hP) hrw [50, 51, 52] rfl (cl_49_s ..) rfl (cl_49_m ..) (ad_X ..) rfl ?_
        refine j_if_eq (pc' := 31) (tgt := 43) K dX11_turn_28 (by decide) rfl (fun hc => ?_) (fun hc => ?_)
        · have h := jit hc h
          refine j_bipush (pc' := 45) (v := (-2 : Int32)) K dX11_turn_43 (by decide) rfl ?_
          obtain rfl := Option.some.inj h
          exact HR _ _ dX11_turn_45
        · have h := jif hc h
          refine j_aload_n (pc' := 32) K dX11_turn_31 rfl 0 rfl rfl ?_
          refine j_get (pc' := 35) K dX11_turn_32 inX11 0 rfl rfl 4 (by decide) u_1_201 rfl rfl rfl ?_
          refine j_iload_n (pc' := 36) K dX11_turn_35 rfl 1 rfl rfl ?_
          obtain ⟨hg, h⟩ := jgd_some h
          by_cases hc : v1 = 0
          · have h := jit hc h
            refine j_aald (pc' := 37) K dX11_turn_36 43 6 rfl rfl hg (by rw [hc]; rfl) rfl ?_
            obtain ⟨r37, hr37, h⟩ := jbd_some h
            refine j_ro (pc' := 40) K (fun H hP => jrun_V K dX11_turn_37 (M_X8_degree (jl E) (jg E) (a0 44) (a0 45) (a0 46) (X_poly0 (X_poly2_s s0 (r25.2))) hr37) u_3_193 u_3_190 u_3_191 u_3_192 u_1_12 ⟨ok_X8_degree, by decide, by decide⟩ rfl (Nat.le_of_ble_eq_true rfl) 44 rfl rfl H hP) [44, 45, 46] (cl_46_f ..) rfl ?_
            refine j_goto (tgt := 45) K dX11_turn_40 (by decide) ?_
            obtain rfl := Option.some.inj h
            exact HR _ _ dX11_turn_45
          have hc0 := hc
          have h := jif hc h
          by_cases hc : v1 = 1
          · have h := jit hc h
            refine j_aald (pc' := 37) K dX11_turn_36 43 6 rfl rfl hg (by rw [hc]; rfl) rfl ?_
            obtain ⟨r37, hr37, h⟩ := jbd_some h
            refine j_ro (pc' := 40) K (fun H hP => jrun_V K dX11_turn_37 (M_X8_degree (jl E) (jg E) (a0 47) (a0 48) (a0 49) (X_poly1 (X_poly2_s s0 (r25.2))) hr37) u_3_193 u_3_190 u_3_191 u_3_192 u_1_12 ⟨ok_X8_degree, by decide, by decide⟩ rfl (Nat.le_of_ble_eq_true rfl) 47 rfl rfl H hP) [47, 48, 49] (cl_51_f ..) rfl ?_
            refine j_goto (tgt := 45) K dX11_turn_40 (by decide) ?_
            obtain rfl := Option.some.inj h
            exact HR _ _ dX11_turn_45
          have hc1 := hc
          have h := jif hc h
          by_cases hc : v1 = 2
          · have h := jit hc h
            refine j_aald (pc' := 37) K dX11_turn_36 43 6 rfl rfl hg (by rw [hc]; rfl) rfl ?_
            obtain ⟨r37, hr37, h⟩ := jbd_some h
            refine j_ro (pc' := 40) K (fun H hP => jrun_V K dX11_turn_37 (M_X8_degree (jl E) (jg E) (a0 50) (a0 51) (a0 52) (X_poly2 (X_poly2_s s0 (r25.2))) hr37) u_3_193 u_3_190 u_3_191 u_3_192 u_1_12 ⟨ok_X8_degree, by decide, by decide⟩ rfl (Nat.le_of_ble_eq_true rfl) 50 rfl rfl H hP) [50, 51, 52] (cl_52_f ..) rfl ?_
            refine j_goto (tgt := 45) K dX11_turn_40 (by decide) ?_
            obtain rfl := Option.some.inj h
            exact HR _ _ dX11_turn_45
          have hc2 := hc
          have h := jif hc h
          have hc : v1 = 3 := jin4 hg hc0 hc1 hc2
          refine j_aald (pc' := 37) K dX11_turn_36 43 6 rfl rfl hg (by rw [hc]; rfl) rfl ?_
          obtain ⟨r37, hr37, h⟩ := jbd_some h
          refine j_ro (pc' := 40) K (fun H hP => jrun_V K dX11_turn_37 (M_X8_degree (jl E) (jg E) (a0 53) (a0 54) (a0 55) (X_poly3 (X_poly2_s s0 (r25.2))) hr37) u_3_193 u_3_190 u_3_191 u_3_192 u_1_12 ⟨ok_X8_degree, by decide, by decide⟩ rfl (Nat.le_of_ble_eq_true rfl) 53 rfl rfl H hP) [53, 54, 55] (cl_53_f ..) rfl ?_
          refine j_goto (tgt := 45) K dX11_turn_40 (by decide) ?_
          obtain rfl := Option.some.inj h
          exact HR _ _ dX11_turn_45
      have hc2 := hc
      have h := jif hc h
      have hc : v1 = 3 := jin4 hg hc0 hc1 hc2
      refine j_aald (pc' := 24) K dX11_turn_23 43 6 rfl rfl hg (by rw [hc]; rfl) rfl ?_
      refine j_iload_n (pc' := 25) K dX11_turn_24 rfl 2 rfl rfl ?_
      obtain ⟨r25, hr25, h⟩ := jbd_some h
      refine j_rw (pc' := 28) (ws' := (wX (jg E) a0 (X_poly3_s s0 (r25.2)))) K (fun H hP => jrun_V K dX11_turn_25 (M_X8_turnInto (jl E) (jg E) (a0 53) (a0 54) (a0 55) v2 (X_poly3 s0) hr25) u_3_201 u_3_198 u_3_199 u_3_200 u_1_12 ⟨ok_X8_turnInto, by decide, by decide⟩ rfl (Nat.le_of_ble_eq_true rfl) 53 rfl rfl H hP) hrw [53, 54, 55] rfl (cl_50_s ..) rfl (cl_50_m ..) (ad_X ..) rfl ?_
      refine j_if_eq (pc' := 31) (tgt := 43) K dX11_turn_28 (by decide) rfl (fun hc => ?_) (fun hc => ?_)
      · have h := jit hc h
        refine j_bipush (pc' := 45) (v := (-2 : Int32)) K dX11_turn_43 (by decide) rfl ?_
        obtain rfl := Option.some.inj h
        exact HR _ _ dX11_turn_45
      · have h := jif hc h
        refine j_aload_n (pc' := 32) K dX11_turn_31 rfl 0 rfl rfl ?_
        refine j_get (pc' := 35) K dX11_turn_32 inX11 0 rfl rfl 4 (by decide) u_1_201 rfl rfl rfl ?_
        refine j_iload_n (pc' := 36) K dX11_turn_35 rfl 1 rfl rfl ?_
        obtain ⟨hg, h⟩ := jgd_some h
        by_cases hc : v1 = 0
        · have h := jit hc h
          refine j_aald (pc' := 37) K dX11_turn_36 43 6 rfl rfl hg (by rw [hc]; rfl) rfl ?_
          obtain ⟨r37, hr37, h⟩ := jbd_some h
          refine j_ro (pc' := 40) K (fun H hP => jrun_V K dX11_turn_37 (M_X8_degree (jl E) (jg E) (a0 44) (a0 45) (a0 46) (X_poly0 (X_poly3_s s0 (r25.2))) hr37) u_3_193 u_3_190 u_3_191 u_3_192 u_1_12 ⟨ok_X8_degree, by decide, by decide⟩ rfl (Nat.le_of_ble_eq_true rfl) 44 rfl rfl H hP) [44, 45, 46] (cl_46_f ..) rfl ?_
          refine j_goto (tgt := 45) K dX11_turn_40 (by decide) ?_
          obtain rfl := Option.some.inj h
          exact HR _ _ dX11_turn_45
        have hc0 := hc
        have h := jif hc h
        by_cases hc : v1 = 1
        · have h := jit hc h
          refine j_aald (pc' := 37) K dX11_turn_36 43 6 rfl rfl hg (by rw [hc]; rfl) rfl ?_
          obtain ⟨r37, hr37, h⟩ := jbd_some h
          refine j_ro (pc' := 40) K (fun H hP => jrun_V K dX11_turn_37 (M_X8_degree (jl E) (jg E) (a0 47) (a0 48) (a0 49) (X_poly1 (X_poly3_s s0 (r25.2))) hr37) u_3_193 u_3_190 u_3_191 u_3_192 u_1_12 ⟨ok_X8_degree, by decide, by decide⟩ rfl (Nat.le_of_ble_eq_true rfl) 47 rfl rfl H hP) [47, 48, 49] (cl_51_f ..) rfl ?_
          refine j_goto (tgt := 45) K dX11_turn_40 (by decide) ?_
          obtain rfl := Option.some.inj h
          exact HR _ _ dX11_turn_45
        have hc1 := hc
        have h := jif hc h
        by_cases hc : v1 = 2
        · have h := jit hc h
          refine j_aald (pc' := 37) K dX11_turn_36 43 6 rfl rfl hg (by rw [hc]; rfl) rfl ?_
          obtain ⟨r37, hr37, h⟩ := jbd_some h
          refine j_ro (pc' := 40) K (fun H hP => jrun_V K dX11_turn_37 (M_X8_degree (jl E) (jg E) (a0 50) (a0 51) (a0 52) (X_poly2 (X_poly3_s s0 (r25.2))) hr37) u_3_193 u_3_190 u_3_191 u_3_192 u_1_12 ⟨ok_X8_degree, by decide, by decide⟩ rfl (Nat.le_of_ble_eq_true rfl) 50 rfl rfl H hP) [50, 51, 52] (cl_52_f ..) rfl ?_
          refine j_goto (tgt := 45) K dX11_turn_40 (by decide) ?_
          obtain rfl := Option.some.inj h
          exact HR _ _ dX11_turn_45
        have hc2 := hc
        have h := jif hc h
        have hc : v1 = 3 := jin4 hg hc0 hc1 hc2
        refine j_aald (pc' := 37) K dX11_turn_36 43 6 rfl rfl hg (by rw [hc]; rfl) rfl ?_
        obtain ⟨r37, hr37, h⟩ := jbd_some h
        refine j_ro (pc' := 40) K (fun H hP => jrun_V K dX11_turn_37 (M_X8_degree (jl E) (jg E) (a0 53) (a0 54) (a0 55) (X_poly3 (X_poly3_s s0 (r25.2))) hr37) u_3_193 u_3_190 u_3_191 u_3_192 u_1_12 ⟨ok_X8_degree, by decide, by decide⟩ rfl (Nat.le_of_ble_eq_true rfl) 53 rfl rfl H hP) [53, 54, 55] (cl_53_f ..) rfl ?_
        refine j_goto (tgt := 45) K dX11_turn_40 (by decide) ?_
        obtain rfl := Option.some.inj h
        exact HR _ _ dX11_turn_45
    · have h := jit hc h
      refine j_iconst (pc' := 17) (v := (-1 : Int32)) K dX11_turn_16 (by decide) rfl ?_
      obtain rfl := Option.some.inj h
      exact HR _ _ dX11_turn_17
set_option maxRecDepth 100000 in
set_option maxHeartbeats 4000000 in
theorem M_X11_turn (l : Launch) (G : jG) (a0 : Nat → Nat) (v1 : Int32) (v2 : Int32) (s0 : XS) {r : Int32 × XS} (h : f_X11_turn v1 v2 s0 = some r) : MC l yX11_turn cX11_turn 3 (some .int) 4 G (jad (wX G a0 s0)) True (wX G a0 s0) (wX G a0 (r.2)) [.ref (a0 0), .int v1, .int v2] (some (.int (r.1))) := by
  refine mc_int (by decide +kernel) (Nat.le_of_ble_eq_true rfl) fun E hl hg hA hrw K HR => ?_
  subst hl
  subst hg
  have hrw : jrw E := by rw [hrw]; trivial
  exact b_X11_turn a0 K hrw HR v1 v2 s0 h
