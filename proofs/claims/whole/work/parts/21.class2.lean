theorem ok_X11_parting : yX11_parting.cls ≠ "java/lang/invoke/MethodHandle" ∧ yX11_parting.cls ≠ "java/lang/invoke/VarHandle" ∧ (parseMethodDescriptor yX11_parting.desc).map (fun d => d.parameters.length) = some 3 := ⟨by decide, by decide, by decide +kernel⟩
def f_X11_parting (v1 : Int32) (v2 : Int32) (v3 : Int32) (s0 : XS) : Option (Int32 × XS) :=
   jbd (f_X11_within v1 (1 : Int32) (8 : Int32)) (fun r4 =>
   if r4 = 0 then
    some ((-1 : Int32), s0)
   else
    jbd (f_X11_within v2 (1 : Int32) (8 : Int32)) (fun r14 =>
     if r14 = 0 then
      some ((-1 : Int32), s0)
     else
      if (-1 : Int32) ≤ v3 then
       jbd (f_X7_want v2 (X_partings s0)) (fun r32 =>
        jbd (f_X7_howMany v1 (X_partings (X_partings_s s0 r32))) (fun r40 =>
         if v3 = (-1 : Int32) then
          some (r40, (X_partings_s s0 r32))
         else
          if r40 ≤ v3 then
           some ((-4 : Int32), (X_partings_s s0 r32))
          else
           jbd (f_X7_ith v1 v3 (X_partings (X_partings_s s0 r32))) (fun r65 =>
            some (r65, (X_partings_s s0 r32)))))
      else
       some ((-1 : Int32), s0)))
set_option maxRecDepth 100000 in
set_option maxHeartbeats 4000000 in
theorem b_X11_parting {E : jE} (a0 : Nat → Nat) {res : Int32 × XS} (K : jC E cX11_parting 5 RX11 3) (hrw : jrw E) (HR : jRI E cX11_parting 5 (wX (jg E) a0 (res.2)) (res.1)) : ∀ (v1 : Int32) (v2 : Int32) (v3 : Int32) (s0 : XS), f_X11_parting v1 v2 v3 s0 = some res → J E 5 (wX (jg E) a0 s0) 0 [(0, .ref (a0 0)), (1, .int v1), (2, .int v2), (3, .int v3)] [] := by
  intro v1 v2 v3 s0 h
  unfold f_X11_parting at h
  refine j_iload_n (pc' := 1) K dX11_parting_0 rfl 1 rfl rfl ?_
  refine j_iconst (pc' := 2) (v := (1 : Int32)) K dX11_parting_1 (by decide) rfl ?_
  refine j_bipush (pc' := 4) (v := (8 : Int32)) K dX11_parting_2 (by decide) rfl ?_
  obtain ⟨r4, hr4, h⟩ := jbd_some h
  refine j_ro (pc' := 7) K (fun H hP => jrun_S K dX11_parting_4 (M_X11_within (jl E) (jg E) v1 (1 : Int32) (8 : Int32) hr4) u_1_76 u_1_217 u_1_75 u_1_1 ⟨ok_X11_within, by decide, by decide⟩ rfl (Nat.le_of_ble_eq_true rfl) H) [] rfl rfl ?_
  refine j_if_eq (pc' := 10) (tgt := 25) K dX11_parting_7 (by decide) rfl (fun hc => ?_) (fun hc => ?_)
  · have h := jit hc h
    refine j_iconst (pc' := 26) (v := (-1 : Int32)) K dX11_parting_25 (by decide) rfl ?_
    obtain rfl := Option.some.inj h
    exact HR _ _ dX11_parting_26
  · have h := jif hc h
    refine j_iload_n (pc' := 11) K dX11_parting_10 rfl 2 rfl rfl ?_
    refine j_iconst (pc' := 12) (v := (1 : Int32)) K dX11_parting_11 (by decide) rfl ?_
    refine j_bipush (pc' := 14) (v := (8 : Int32)) K dX11_parting_12 (by decide) rfl ?_
    obtain ⟨r14, hr14, h⟩ := jbd_some h
    refine j_ro (pc' := 17) K (fun H hP => jrun_S K dX11_parting_14 (M_X11_within (jl E) (jg E) v2 (1 : Int32) (8 : Int32) hr14) u_1_76 u_1_217 u_1_75 u_1_1 ⟨ok_X11_within, by decide, by decide⟩ rfl (Nat.le_of_ble_eq_true rfl) H) [] rfl rfl ?_
    refine j_if_eq (pc' := 20) (tgt := 25) K dX11_parting_17 (by decide) rfl (fun hc => ?_) (fun hc => ?_)
    · have h := jit hc h
      refine j_iconst (pc' := 26) (v := (-1 : Int32)) K dX11_parting_25 (by decide) rfl ?_
      obtain rfl := Option.some.inj h
      exact HR _ _ dX11_parting_26
    · have h := jif hc h
      refine j_iload_n (pc' := 21) K dX11_parting_20 rfl 3 rfl rfl ?_
      refine j_iconst (pc' := 22) (v := (-1 : Int32)) K dX11_parting_21 (by decide) rfl ?_
      refine j_icmp_ge (pc' := 25) (tgt := 27) K dX11_parting_22 (by decide) rfl (fun hc => ?_) (fun hc => ?_)
      · have h := jit hc h
        refine j_aload_n (pc' := 28) K dX11_parting_27 rfl 0 rfl rfl ?_
        refine j_get (pc' := 31) K dX11_parting_28 inX11 0 rfl rfl 2 (by decide) u_1_199 rfl rfl rfl ?_
        refine j_iload_n (pc' := 32) K dX11_parting_31 rfl 2 rfl rfl ?_
        obtain ⟨r32, hr32, h⟩ := jbd_some h
        refine j_rw (pc' := 35) (ws' := (wX (jg E) a0 (X_partings_s s0 r32))) K (fun H hP => jrun_V K dX11_parting_32 (M_X7_want (jl E) (jg E) (a0 28) (a0 29) v2 (X_partings s0) hr32) u_2_192 u_2_189 u_2_190 u_2_191 u_1_3 ⟨ok_X7_want, by decide, by decide⟩ rfl (Nat.le_of_ble_eq_true rfl) 28 rfl rfl H hP) hrw [28, 29] rfl (cl_42_s ..) rfl (cl_42_m ..) (ad_X ..) rfl ?_
        refine j_aload_n (pc' := 36) K dX11_parting_35 rfl 0 rfl rfl ?_
        refine j_get (pc' := 39) K dX11_parting_36 inX11 0 rfl rfl 2 (by decide) u_1_199 rfl rfl rfl ?_
        refine j_iload_n (pc' := 40) K dX11_parting_39 rfl 1 rfl rfl ?_
        obtain ⟨r40, hr40, h⟩ := jbd_some h
        refine j_ro (pc' := 43) K (fun H hP => jrun_V K dX11_parting_40 (M_X7_howMany (jl E) (jg E) (a0 28) (a0 29) v1 (X_partings (X_partings_s s0 r32)) hr40) u_2_201 u_2_198 u_2_199 u_2_200 u_1_3 ⟨ok_X7_howMany, by decide, by decide⟩ rfl (Nat.le_of_ble_eq_true rfl) 28 rfl rfl H hP) [28, 29] (cl_43_f ..) rfl ?_
        refine j_istore (pc' := 45) (lv' := [(4, .int r40), (0, .ref (a0 0)), (1, .int v1), (2, .int v2), (3, .int v3)]) K dX11_parting_43 (by decide) rfl rfl ?_
        refine j_iload_n (pc' := 46) K dX11_parting_45 rfl 4 rfl rfl ?_
        refine j_iconst (pc' := 47) (v := (-1 : Int32)) K dX11_parting_46 (by decide) rfl ?_
        refine j_icmp_ne (pc' := 50) (tgt := 53) K dX11_parting_47 (by decide) rfl (fun hc => ?_) (fun hc => ?_)
        · have h := jif hc h
          refine j_iload_n (pc' := 54) K dX11_parting_53 rfl 4 rfl rfl ?_
          refine j_iload (pc' := 56) K dX11_parting_54 0 rfl rfl ?_
          refine j_icmp_ge (pc' := 59) (tgt := 71) K dX11_parting_56 (by decide) rfl (fun hc => ?_) (fun hc => ?_)
          · have h := jit hc h
            refine j_bipush (pc' := 73) (v := (-4 : Int32)) K dX11_parting_71 (by decide) rfl ?_
            obtain rfl := Option.some.inj h
            exact HR _ _ dX11_parting_73
          · have h := jif hc h
            refine j_aload_n (pc' := 60) K dX11_parting_59 rfl 1 rfl rfl ?_
            refine j_get (pc' := 63) K dX11_parting_60 inX11 0 rfl rfl 2 (by decide) u_1_199 rfl rfl rfl ?_
            refine j_iload_n (pc' := 64) K dX11_parting_63 rfl 2 rfl rfl ?_
            refine j_iload_n (pc' := 65) K dX11_parting_64 rfl 4 rfl rfl ?_
            obtain ⟨r65, hr65, h⟩ := jbd_some h
            refine j_ro (pc' := 68) K (fun H hP => jrun_V K dX11_parting_65 (M_X7_ith (jl E) (jg E) (a0 28) (a0 29) v1 v3 (X_partings (X_partings_s s0 r32)) hr65) u_2_205 u_2_202 u_2_203 u_2_204 u_1_3 ⟨ok_X7_ith, by decide, by decide⟩ rfl (Nat.le_of_ble_eq_true rfl) 28 rfl rfl H hP) [28, 29] (cl_43_f ..) rfl ?_
            refine j_goto (tgt := 73) K dX11_parting_68 (by decide) ?_
            obtain rfl := Option.some.inj h
            exact HR _ _ dX11_parting_73
        · have h := jit hc h
          refine j_iload (pc' := 52) K dX11_parting_50 0 rfl rfl ?_
          obtain rfl := Option.some.inj h
          exact HR _ _ dX11_parting_52
      · have h := jif hc h
        refine j_iconst (pc' := 26) (v := (-1 : Int32)) K dX11_parting_25 (by decide) rfl ?_
        obtain rfl := Option.some.inj h
        exact HR _ _ dX11_parting_26
set_option maxRecDepth 100000 in
set_option maxHeartbeats 4000000 in
theorem M_X11_parting (l : Launch) (G : jG) (a0 : Nat → Nat) (v1 : Int32) (v2 : Int32) (v3 : Int32) (s0 : XS) {r : Int32 × XS} (h : f_X11_parting v1 v2 v3 s0 = some r) : MC l yX11_parting cX11_parting 5 (some .int) 3 G (jad (wX G a0 s0)) True (wX G a0 s0) (wX G a0 (r.2)) [.ref (a0 0), .int v1, .int v2, .int v3] (some (.int (r.1))) := by
  refine mc_int (by decide +kernel) (Nat.le_of_ble_eq_true rfl) fun E hl hg hA hrw K HR => ?_
  subst hl
  subst hg
  have hrw : jrw E := by rw [hrw]; trivial
  exact b_X11_parting a0 K hrw HR v1 v2 v3 s0 h
theorem ok_X11_partRank : yX11_partRank.cls ≠ "java/lang/invoke/MethodHandle" ∧ yX11_partRank.cls ≠ "java/lang/invoke/VarHandle" ∧ (parseMethodDescriptor yX11_partRank.desc).map (fun d => d.parameters.length) = some 2 := ⟨by decide, by decide, by decide +kernel⟩
def f_X11_partRank (v1 : Int32) (v2 : Int32) (s0 : XS) : Option (Int32 × XS) :=
   jbd (f_X11_within v1 (1 : Int32) (8 : Int32)) (fun r4 =>
   if r4 = 0 then
    some ((-1 : Int32), s0)
   else
    jbd (f_X7_partsOf v1 v2) (fun r18 =>
     if r18 = 0 then
      some ((-1 : Int32), s0)
     else
      jbd (f_X7_want r18 (X_partings s0)) (fun r33 =>
       jbd (f_X7_rankOf v1 v2 (X_partings (X_partings_s s0 r33))) (fun r42 =>
        some (r42, (X_partings_s s0 r33))))))
set_option maxRecDepth 100000 in
set_option maxHeartbeats 4000000 in
theorem b_X11_partRank {E : jE} (a0 : Nat → Nat) {res : Int32 × XS} (K : jC E cX11_partRank 4 RX11 3) (hrw : jrw E) (HR : jRI E cX11_partRank 4 (wX (jg E) a0 (res.2)) (res.1)) : ∀ (v1 : Int32) (v2 : Int32) (s0 : XS), f_X11_partRank v1 v2 s0 = some res → J E 4 (wX (jg E) a0 s0) 0 [(0, .ref (a0 0)), (1, .int v1), (2, .int v2)] [] := by
  intro v1 v2 s0 h
  unfold f_X11_partRank at h
  refine j_iload_n (pc' := 1) K dX11_partRank_0 rfl 1 rfl rfl ?_
  refine j_iconst (pc' := 2) (v := (1 : Int32)) K dX11_partRank_1 (by decide) rfl ?_
  refine j_bipush (pc' := 4) (v := (8 : Int32)) K dX11_partRank_2 (by decide) rfl ?_
  obtain ⟨r4, hr4, h⟩ := jbd_some h
  refine j_ro (pc' := 7) K (fun H hP => jrun_S K dX11_partRank_4 (M_X11_within (jl E) (jg E) v1 (1 : Int32) (8 : Int32) hr4) u_1_76 u_1_217 u_1_75 u_1_1 ⟨ok_X11_within, by decide, by decide⟩ rfl (Nat.le_of_ble_eq_true rfl) H) [] rfl rfl ?_
  refine j_if_ne (pc' := 10) (tgt := 12) K dX11_partRank_7 (by decide) rfl (fun hc => ?_) (fun hc => ?_)
  · have h := jif hc h
    refine j_aload_n (pc' := 13) K dX11_partRank_12 rfl 0 rfl rfl ?_
    refine j_get (pc' := 16) K dX11_partRank_13 inX11 0 rfl rfl 2 (by decide) u_1_199 rfl rfl rfl ?_
    refine j_iload_n (pc' := 17) K dX11_partRank_16 rfl 1 rfl rfl ?_
    refine j_iload_n (pc' := 18) K dX11_partRank_17 rfl 2 rfl rfl ?_
    obtain ⟨r18, hr18, h⟩ := jbd_some h
    refine j_ro (pc' := 21) K (fun H hP => jrun_V K dX11_partRank_18 (M_X7_partsOf (jl E) (jg E) (a0 28) v1 v2 hr18) u_2_217 u_2_214 u_2_215 u_2_216 u_1_3 ⟨ok_X7_partsOf, by decide, by decide⟩ rfl (Nat.le_of_ble_eq_true rfl) 28 rfl rfl H hP) [] rfl rfl ?_
    refine j_istore_n (pc' := 22) (lv' := [(3, .int r18), (0, .ref (a0 0)), (1, .int v1), (2, .int v2)]) K dX11_partRank_21 rfl (by decide) rfl rfl ?_
    refine j_iload_n (pc' := 23) K dX11_partRank_22 rfl 0 rfl rfl ?_
    refine j_if_ne (pc' := 26) (tgt := 28) K dX11_partRank_23 (by decide) rfl (fun hc => ?_) (fun hc => ?_)
    · have h := jif hc h
      refine j_aload_n (pc' := 29) K dX11_partRank_28 rfl 1 rfl rfl ?_
      refine j_get (pc' := 32) K dX11_partRank_29 inX11 0 rfl rfl 2 (by decide) u_1_199 rfl rfl rfl ?_
      refine j_iload_n (pc' := 33) K dX11_partRank_32 rfl 0 rfl rfl ?_
      obtain ⟨r33, hr33, h⟩ := jbd_some h
      refine j_rw (pc' := 36) (ws' := (wX (jg E) a0 (X_partings_s s0 r33))) K (fun H hP => jrun_V K dX11_partRank_33 (M_X7_want (jl E) (jg E) (a0 28) (a0 29) r18 (X_partings s0) hr33) u_2_192 u_2_189 u_2_190 u_2_191 u_1_3 ⟨ok_X7_want, by decide, by decide⟩ rfl (Nat.le_of_ble_eq_true rfl) 28 rfl rfl H hP) hrw [28, 29] rfl (cl_42_s ..) rfl (cl_42_m ..) (ad_X ..) rfl ?_
      refine j_aload_n (pc' := 37) K dX11_partRank_36 rfl 1 rfl rfl ?_
      refine j_get (pc' := 40) K dX11_partRank_37 inX11 0 rfl rfl 2 (by decide) u_1_199 rfl rfl rfl ?_
      refine j_iload_n (pc' := 41) K dX11_partRank_40 rfl 2 rfl rfl ?_
      refine j_iload_n (pc' := 42) K dX11_partRank_41 rfl 3 rfl rfl ?_
      obtain ⟨r42, hr42, h⟩ := jbd_some h
      refine j_ro (pc' := 45) K (fun H hP => jrun_V K dX11_partRank_42 (M_X7_rankOf (jl E) (jg E) (a0 28) (a0 29) v1 v2 (X_partings (X_partings_s s0 r33)) hr42) u_2_227 u_2_224 u_2_225 u_2_226 u_1_3 ⟨ok_X7_rankOf, by decide, by decide⟩ rfl (Nat.le_of_ble_eq_true rfl) 28 rfl rfl H hP) [28, 29] (cl_43_f ..) rfl ?_
      obtain rfl := Option.some.inj h
      exact HR _ _ dX11_partRank_45
    · have h := jit hc h
      refine j_iconst (pc' := 27) (v := (-1 : Int32)) K dX11_partRank_26 (by decide) rfl ?_
      obtain rfl := Option.some.inj h
      exact HR _ _ dX11_partRank_27
  · have h := jit hc h
    refine j_iconst (pc' := 11) (v := (-1 : Int32)) K dX11_partRank_10 (by decide) rfl ?_
    obtain rfl := Option.some.inj h
    exact HR _ _ dX11_partRank_11
set_option maxRecDepth 100000 in
set_option maxHeartbeats 4000000 in
theorem M_X11_partRank (l : Launch) (G : jG) (a0 : Nat → Nat) (v1 : Int32) (v2 : Int32) (s0 : XS) {r : Int32 × XS} (h : f_X11_partRank v1 v2 s0 = some r) : MC l yX11_partRank cX11_partRank 4 (some .int) 3 G (jad (wX G a0 s0)) True (wX G a0 s0) (wX G a0 (r.2)) [.ref (a0 0), .int v1, .int v2] (some (.int (r.1))) := by
  refine mc_int (by decide +kernel) (Nat.le_of_ble_eq_true rfl) fun E hl hg hA hrw K HR => ?_
  subst hl
  subst hg
  have hrw : jrw E := by rw [hrw]; trivial
  exact b_X11_partRank a0 K hrw HR v1 v2 s0 h
