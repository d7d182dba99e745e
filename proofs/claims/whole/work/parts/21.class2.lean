theorem ok_X11_parting : yX11_parting.cls ≠ "java/lang/invoke/MethodHandle" ∧ yX11_parting.cls ≠ "java/lang/invoke/VarHandle" ∧ (parseMethodDescriptor yX11_parting.desc).map (fun d => d.parameters.length) = some 3 := ⟨by decide, by decide, by decide +kernel⟩
def f_X11_parting (v1 : Int32) (v2 : Int32) (v3 : Int32) (s0 : XS) : Option (Int32 × XS) :=
   jbd (f_X11_within v1 (1 : Int32) (8 : Int32)) (fun r4 =>
   if r4 = 0 then
    some ((-1 : Int32), s0)
   else
    jbd (f_X11_within v2 (1 : Int32) (8 : Int32)) (fun r14 =>
     if r14 = 0 then
      some ((-1 : Int32), s0)
     else
      if (-1 : Int32) ≤ v3 then
       jbd (f_X7_want v2 (X_partings s0)) (fun r32 =>
        jbd (f_X7_howMany v1 (X_partings (X_partings_s s0 r32))) (fun r40 =>
         if v3 = (-1 : Int32) then
          some (r40, (X_partings_s s0 r32))
         else
          if r40 ≤ v3 then
           some ((-4 : Int32), (X_partings_s s0 r32))
          else
           jbd (f_X7_ith v1 v3 (X_partings (X_partings_s s0 r32))) (fun r65 =>
            some (r65, (X_partings_s s0 r32)))))
      else
       some ((-1 : Int32), s0)))
set_option maxRecDepth 100000 in
set_option maxHeartbeats 4000000 in
theorem b_X11_parting {E : jE} (a0 : Nat → Nat) {res : Int32 × XS} (K : jC E cX11_parting 5 RX11 3) (hrw : jrw E) (HR : jRI E cX11_parting 5 (wX (jg E) a0 (res.2)) (res.1)) : ∀ (v1 : Int32) (v2 : Int32) (v3 : Int32) (s0 : XS), f_X11_parting v1 v2 v3 s0 = some res → J E 5 (wX (jg E) a0 s0) 0 [(0, .ref (a0 0)), (1, .int v1), (2, .int v2), (3, .int v3)] [] := by
  intro v1 v2 v3 s0 h
  unfold f_X11_parting at h
  refine j_iload_n (pc' := 1) K dX11_parting_0 rfl 1 rfl rfl ?_
  refine j_iconst (pc' := 2) (v := (1 : Int32)) K dX11_parting_1 (by decide) rfl ?_
  refine j_bipush (pc' := 4) (v := (8 : Int32)) K dX11_parting_2 (by decide) rfl ?_
  obtain ⟨r4, hr4, h⟩ := jbd_some h
  refine j_ro (pc' := 7) K (fun H hP => jrun_S K dX11_parting_4 (M_X11_within (jl E) (jg E) v1 (1 : Int32) (8 : Int32) hr4) u_1_76 u_1_217 u_1_75 u_1_1 ⟨ok_X11_within, by decide, by decide⟩ rfl (Nat.le_of_ble_eq_true rfl) H) [] rfl rfl ?_
  refine j_if_eq (pc' := 10) (tgt := 25) K dX11_parting_7 (by decide) rfl (fun hc => ?_) (fun hc => ?_)
  · have h := jit hc h
    refine j_iconst (pc' := 26) (v := (-1 : Int32)) K dX11_parting_25 (by decide) rfl ?_
    obtain rfl := Option.some.inj h
    exact HR _ _ dX11_parting_26
  · have h := jif hc h
    refine j_iload_n (pc' := 11) K dX11_parting_10 rfl 2 rfl rfl ?_
    refine j_iconst (pc' := 12) (v := (1 : Int32)) K dX11_parting_11 (by decide) rfl ?_
    refine j_bipush (pc' := 14) (v := (8 : Int32)) K dX11_parting_12 (by decide) rfl ?_
    obtain ⟨r14, hr14, h⟩ := jbd_some h
    refine j_ro (pc' := 17) K (fun H hP => jrun_S K dX11_parting_14 (M_X11_within (jl E) (jg E) v2 (1 : Int32) (8 : Int32) hr14) u_1_76 u_1_217 u_1_75 u_1_1 ⟨ok_X11_within, by decide, by decide⟩ rfl (Nat.le_of_ble_eq_true rfl) H) [] rfl rfl ?_
    refine j_if_eq (pc' := 20) (tgt := 25) K dX11_parting_17 (by decide) rfl (fun hc => ?_) (fun hc => ?_)
    · have h := jit hc h
      refine j_iconst (pc' := 26) (v := (-1 : Int32)) K dX11_parting_25 (by decide) rfl ?_
      obtain rfl := Option.some.inj h
      exact HR _ _ dX11_parting_26
    · have h := jif hc h
      refine j_iload_n (pc' := 21) K dX11_parting_20 rfl 3 rfl rfl ?_
      refine j_iconst (pc' := 22) (v := (-1 : Int32)) K dX11_parting_21 (by decide) rfl ?_
      refine j_icmp_ge (pc' := 25) (tgt := 27) K dX11_parting_22 (by decide) rfl (fun hc => ?_) (fun hc => ?_)
      · have h := jit hc h
        refine j_aload_n (pc' := 28) K dX11_parting_27 rfl 0 rfl rfl ?_
        refine j_get (pc' := 31) K dX11_parting_28 inX11 0 rfl rfl 2 (by decide) u_1_199 rfl rfl rfl ?_
        refine j_iload_n (pc' := 32) K dX11_parting_31 rfl 2 rfl rfl ?_
        obtain ⟨r32, hr32, h⟩ := jbd_some h
        refine j_rw (pc' := 35) (ws' := (wX (jg E) a0 (X_partings_s s0 r32))) K (fun H hP => jrun_V K dX11_parting_32 (M_X7_want (jl E) (jg E) (a0 28) (a0 29) v2 (X_partings s0) hr32) u_2_192 u_2_189 u_2_190 u_2_191 u_1_3 ⟨ok_X7_want, by decide, by decide⟩ rfl (Nat.le_of_ble_eq_true rfl) 28 rfl rfl H hP) hrw [28, 29] rfl rfl rfl rfl rfl rfl ?_
        refine j_aload_n (pc' := 36) K dX11_parting_35 rfl 0 rfl rfl ?_
        refine j_get (pc' := 39) K dX11_parting_36 inX11 0 rfl rfl 2 (by decide) u_1_199 rfl rfl rfl ?_
        refine j_iload_n (pc' := 40) K dX11_parting_39 rfl 1 rfl rfl ?_
        obtain ⟨r40, hr40, h⟩ := jbd_some h
        refine j_ro (pc' := 43) K (fun H hP => jrun_V K dX11_parting_40 (M_X7_howMany (jl E) (jg E) (a0 28) (a0 29) v1 (X_partings (X_partings_s s0 r32)) hr40) u_2_201 u_2_198 u_2_199 u_2_200 u_1_3 ⟨ok_X7_howMany, by decide, by decide⟩ rfl (Nat.le_of_ble_eq_true rfl) 28 rfl rfl H hP) [28, 29] rfl rfl ?_
        refine j_istore (pc' := 45) (lv' := [(4, .int r40), (0, .ref (a0 0)), (1, .int v1), (2, .int v2), (3, .int v3)]) K dX11_parting_43 (by decide) rfl rfl ?_
        refine j_iload_n (pc' := 46) K dX11_parting_45 rfl 4 rfl rfl ?_
        refine j_iconst (pc' := 47) (v := (-1 : Int32)) K dX11_parting_46 (by decide) rfl ?_
        refine j_icmp_ne (pc' := 50) (tgt := 53) K dX11_parting_47 (by decide) rfl (fun hc => ?_) (fun hc => ?_)
        · have h := jif hc h
          refine j_iload_n (pc' := 54) K dX11_parting_53 rfl 4 rfl rfl ?_
          refine j_iload (pc' := 56) K dX11_parting_54 0 rfl rfl ?_
          refine j_icmp_ge (pc' := 59) (tgt := 71) K dX11_parting_56 (by decide) rfl (fun hc => ?_) (fun hc => ?_)
          · have h := jit hc h
            refine j_bipush (pc' := 73) (v := (-4 : Int32)) K dX11_parting_71 (by decide) rfl ?_
            obtain rfl := Option.some.inj h
            exact HR _ _ dX11_parting_73
          · have h := jif hc h
            refine j_aload_n (pc' := 60) K dX11_parting_59 rfl 1 rfl rfl ?_
            refine j_get (pc' := 63) K dX11_parting_60 inX11 0 rfl rfl 2 (by decide) u_1_199 rfl rfl rfl ?_
            refine j_iload_n (pc' := 64) K dX11_parting_63 rfl 2 rfl rfl ?_
            refine j_iload_n (pc' := 65) K dX11_parting_64 rfl 4 rfl rfl ?_
            obtain ⟨r65, hr65, h⟩ := jbd_some h
            refine j_ro (pc' := 68) K (fun H hP => jrun_V K dX11_parting_65 (M_X7_ith (jl E) (jg E) (a0 28) (a0 29) v1 v3 (X_partings (X_partings_s s0 r32)) hr65) u_2_205 u_2_202 u_2_203 u_2_204 u_1_3 ⟨ok_X7_ith, by decide, by decide⟩ rfl (Nat.le_of_ble_eq_true rfl) 28 rfl rfl H hP) [28, 29] rfl rfl ?_
            refine j_goto (tgt := 73) K dX11_parting_68 (by decide) ?_
            obtain rfl := Option.some.inj h
            exact HR _ _ dX11_parting_73
        · have h := jit hc h
          refine j_iload (pc' := 52) K dX11_parting_50 0 rfl rfl ?_
          obtain rfl := Option.some.inj h
          exact HR _ _ dX11_parting_52
      · have h := jif hc h
        refine j_iconst (pc' := 26) (v := (-1 : Int32)) K dX11_parting_25 (by decide) rfl ?_
        obtain rfl := Option.some.inj h
        exact HR _ _ dX11_parting_26
set_option maxRecDepth 100000 in
set_option maxHeartbeats 4000000 in
theorem M_X11_parting (l : Launch) (G : jG) (a0 : Nat → Nat) (v1 : Int32) (v2 : Int32) (v3 : Int32) (s0 : XS) {r : Int32 × XS} (h : f_X11_parting v1 v2 v3 s0 = some r) : MC l yX11_parting cX11_parting 5 (some .int) 3 G (jad (wX G a0 s0)) True (wX G a0 s0) (wX G a0 (r.2)) [.ref (a0 0), .int v1, .int v2, .int v3] (some (.int (r.1))) := by
  refine mc_int (by decide +kernel) (Nat.le_of_ble_eq_true rfl) fun E hl hg hA hrw K HR => ?_
  subst hl
  subst hg
  have hrw : jrw E := by rw [hrw]; trivial
  exact b_X11_parting a0 K hrw HR v1 v2 v3 s0 h
theorem ok_X11_partRank : yX11_partRank.cls ≠ "java/lang/invoke/MethodHandle" ∧ yX11_partRank.cls ≠ "java/lang/invoke/VarHandle" ∧ (parseMethodDescriptor yX11_partRank.desc).map (fun d => d.parameters.length) = some 2 := ⟨by decide, by decide, by decide +kernel⟩
def f_X11_partRank (v1 : Int32) (v2 : Int32) (s0 : XS) : Option (Int32 × XS) :=
   jbd (f_X11_within v1 (1 : Int32) (8 : Int32)) (fun r4 =>
   if r4 = 0 then
    some ((-1 : Int32), s0)
   else
    jbd (f_X7_partsOf v1 v2) (fun r18 =>
     if r18 = 0 then
      some ((-1 : Int32), s0)
     else
      jbd (f_X7_want r18 (X_partings s0)) (fun r33 =>
       jbd (f_X7_rankOf v1 v2 (X_partings (X_partings_s s0 r33))) (fun r42 =>
        some (r42, (X_partings_s s0 r33))))))
set_option maxRecDepth 100000 in
set_option maxHeartbeats 4000000 in
theorem b_X11_partRank {E : jE} (a0 : Nat → Nat) {res : Int32 × XS} (K : jC E cX11_partRank 4 RX11 3) (hrw : jrw E) (HR : jRI E cX11_partRank 4 (wX (jg E) a0 (res.2)) (res.1)) : ∀ (v1 : Int32) (v2 : Int32) (s0 : XS), f_X11_partRank v1 v2 s0 = some res → J E 4 (wX (jg E) a0 s0) 0 [(0, .ref (a0 0)), (1, .int v1), (2, .int v2)] [] := by
  intro v1 v2 s0 h
  unfold f_X11_partRank at h
  refine j_iload_n (pc' := 1) K dX11_partRank_0 rfl 1 rfl rfl ?_
  refine j_iconst (pc' := 2) (v := (1 : Int32)) K dX11_partRank_1 (by decide) rfl ?_
  refine j_bipush (pc' := 4) (v := (8 : Int32)) K dX11_partRank_2 (by decide) rfl ?_
  obtain ⟨r4, hr4, h⟩ := jbd_some h
  refine j_ro (pc' := 7) K (fun H hP => jrun_S K dX11_partRank_4 (M_X11_within (jl E) (jg E) v1 (1 : Int32) (8 : Int32) hr4) u_1_76 u_1_217 u_1_75 u_1_1 ⟨ok_X11_within, by decide, by decide⟩ rfl (Nat.le_of_ble_eq_true rfl) H) [] rfl rfl ?_
  refine j_if_ne (pc' := 10) (tgt := 12) K dX11_partRank_7 (by decide) rfl (fun hc => ?_) (fun hc => ?_)
  · have h := jif hc h
    refine j_aload_n (pc' := 13) K dX11_partRank_12 rfl 0 rfl rfl ?_
    refine j_get (pc' := 16) K dX11_partRank_13 inX11 0 rfl rfl 2 (by decide) u_1_199 rfl rfl rfl ?_
    refine j_iload_n (pc' := 17) K dX11_partRank_16 rfl 1 rfl rfl ?_
    refine j_iload_n (pc' := 18) K dX11_partRank_17 rfl 2 rfl rfl ?_
    obtain ⟨r18, hr18, h⟩ := jbd_some h
    refine j_ro (pc' := 21) K (fun H hP => jrun_V K dX11_partRank_18 (M_X7_partsOf (jl E) (jg E) (a0 28) v1 v2 hr18) u_2_217 u_2_214 u_2_215 u_2_216 u_1_3 ⟨ok_X7_partsOf, by decide, by decide⟩ rfl (Nat.le_of_ble_eq_true rfl) 28 rfl rfl H hP) [] rfl rfl ?_
    refine j_istore_n (pc' := 22) (lv' := [(3, .int r18), (0, .ref (a0 0)), (1, .int v1), (2, .int v2)]) K dX11_partRank_21 rfl (by decide) rfl rfl ?_
    refine j_iload_n (pc' := 23) K dX11_partRank_22 rfl 0 rfl rfl ?_
    refine j_if_ne (pc' := 26) (tgt := 28) K dX11_partRank_23 (by decide) rfl (fun hc => ?_) (fun hc => ?_)
    · have h := jif hc h
      refine j_aload_n (pc' := 29) K dX11_partRank_28 rfl 1 rfl rfl ?_
      refine j_get (pc' := 32) K dX11_partRank_29 inX11 0 rfl rfl 2 (by decide) u_1_199 rfl rfl rfl ?_
      refine j_iload_n (pc' := 33) K dX11_partRank_32 rfl 0 rfl rfl ?_
      obtain ⟨r33, hr33, h⟩ := jbd_some h
      refine j_rw (pc' := 36) (ws' := (wX (jg E) a0 (X_partings_s s0 r33))) K (fun H hP => jrun_V K dX11_partRank_33 (M_X7_want (jl E) (jg E) (a0 28) (a0 29) r18 (X_partings s0) hr33) u_2_192 u_2_189 u_2_190 u_2_191 u_1_3 ⟨ok_X7_want, by decide, by decide⟩ rfl (Nat.le_of_ble_eq_true rfl) 28 rfl rfl H hP) hrw [28, 29] rfl rfl rfl rfl rfl rfl ?_
      refine j_aload_n (pc' := 37) K dX11_partRank_36 rfl 1 rfl rfl ?_
      refine j_get (pc' := 40) K dX11_partRank_37 inX11 0 rfl rfl 2 (by decide) u_1_199 rfl rfl rfl ?_
      refine j_iload_n (pc' := 41) K dX11_partRank_40 rfl 2 rfl rfl ?_
      refine j_iload_n (pc' := 42) K dX11_partRank_41 rfl 3 rfl rfl ?_
      obtain ⟨r42, hr42, h⟩ := jbd_some h
      refine j_ro (pc' := 45) K (fun H hP => jrun_V K dX11_partRank_42 (M_X7_rankOf (jl E) (jg E) (a0 28) (a0 29) v1 v2 (X_partings (X_partings_s s0 r33)) hr42) u_2_227 u_2_224 u_2_225 u_2_226 u_1_3 ⟨ok_X7_rankOf, by decide, by decide⟩ rfl (Nat.le_of_ble_eq_true rfl) 28 rfl rfl H hP) [28, 29] rfl rfl ?_
      obtain rfl := Option.some.inj h
      exact HR _ _ dX11_partRank_45
    · have h := jit hc h
      refine j_iconst (pc' := 27) (v := (-1 : Int32)) K dX11_partRank_26 (by decide) rfl ?_
      obtain rfl := Option.some.inj h
      exact HR _ _ dX11_partRank_27
  · have h := jit hc h
    refine j_iconst (pc' := 11) (v := (-1 : Int32)) K dX11_partRank_10 (by decide) rfl ?_
    obtain rfl := Option.some.inj h
    exact HR _ _ dX11_partRank_11
set_option maxRecDepth 100000 in
set_option maxHeartbeats 4000000 in
theorem M_X11_partRank (l : Launch) (G : jG) (a0 : Nat → Nat) (v1 : Int32) (v2 : Int32) (s0 : XS) {r : Int32 × XS} (h : f_X11_partRank v1 v2 s0 = some r) : MC l yX11_partRank cX11_partRank 4 (some .int) 3 G (jad (wX G a0 s0)) True (wX G a0 s0) (wX G a0 (r.2)) [.ref (a0 0), .int v1, .int v2] (some (.int (r.1))) := by
  refine mc_int (by decide +kernel) (Nat.le_of_ble_eq_true rfl) fun E hl hg hA hrw K HR => ?_
  subst hl
  subst hg
  have hrw : jrw E := by rw [hrw]; trivial
  exact b_X11_partRank a0 K hrw HR v1 v2 s0 h
theorem ok_X11_orders : yX11_orders.cls ≠ "java/lang/invoke/MethodHandle" ∧ yX11_orders.cls ≠ "java/lang/invoke/VarHandle" ∧ (parseMethodDescriptor yX11_orders.desc).map (fun d => d.parameters.length) = some 4 := ⟨by decide, by decide, by decide +kernel⟩
def f_X11_orders (v1 : Int32) (v2 : Int32) (v3 : Int32) (v4 : Int32) (s0 : XS) : Option (Int32 × XS) :=
   jbd (f_X11_within v1 (1 : Int32) (8 : Int32)) (fun r4 =>
   if r4 = 0 then
    some ((-1 : Int32), s0)
   else
    jbd (f_X11_within v2 (0 : Int32) (4 : Int32)) (fun r13 =>
     if r13 = 0 then
      some ((-1 : Int32), s0)
     else
      jbd (f_X11_within v3 (0 : Int32) (28 : Int32)) (fun r25 =>
       if r25 = 0 then
        some ((-1 : Int32), s0)
       else
        if (-1 : Int32) ≤ v4 then
         jbd (f_X6_howMany v1 v2 v3 (X_orders s0)) (fun r46 =>
          if v4 = (-1 : Int32) then
           some ((r46.1), (X_orders_s s0 (r46.2)))
          else
           if (r46.1) ≤ v4 then
            some ((-4 : Int32), (X_orders_s s0 (r46.2)))
           else
            jbd (f_X6_ith v1 v2 v3 v4 (X_orders (X_orders_s s0 (r46.2)))) (fun r76 =>
             some ((r76.1), (X_orders_s (X_orders_s s0 (r46.2)) (r76.2)))))
        else
         some ((-1 : Int32), s0))))
set_option maxRecDepth 100000 in
set_option maxHeartbeats 4000000 in
theorem b_X11_orders {E : jE} (a0 : Nat → Nat) {res : Int32 × XS} (K : jC E cX11_orders 6 RX11 5) (hrw : jrw E) (HR : jRI E cX11_orders 6 (wX (jg E) a0 (res.2)) (res.1)) : ∀ (v1 : Int32) (v2 : Int32) (v3 : Int32) (v4 : Int32) (s0 : XS), f_X11_orders v1 v2 v3 v4 s0 = some res → J E 6 (wX (jg E) a0 s0) 0 [(0, .ref (a0 0)), (1, .int v1), (2, .int v2), (3, .int v3), (4, .int v4)] [] := by
  intro v1 v2 v3 v4 s0 h
  unfold f_X11_orders at h
  refine j_iload_n (pc' := 1) K dX11_orders_0 rfl 1 rfl rfl ?_
  refine j_iconst (pc' := 2) (v := (1 : Int32)) K dX11_orders_1 (by decide) rfl ?_
  refine j_bipush (pc' := 4) (v := (8 : Int32)) K dX11_orders_2 (by decide) rfl ?_
  obtain ⟨r4, hr4, h⟩ := jbd_some h
  refine j_ro (pc' := 7) K (fun H hP => jrun_S K dX11_orders_4 (M_X11_within (jl E) (jg E) v1 (1 : Int32) (8 : Int32) hr4) u_1_76 u_1_217 u_1_75 u_1_1 ⟨ok_X11_within, by decide, by decide⟩ rfl (Nat.le_of_ble_eq_true rfl) H) [] rfl rfl ?_
  refine j_if_eq (pc' := 10) (tgt := 19) K dX11_orders_7 (by decide) rfl (fun hc => ?_) (fun hc => ?_)
  · have h := jit hc h
    refine j_iconst (pc' := 20) (v := (-1 : Int32)) K dX11_orders_19 (by decide) rfl ?_
    obtain rfl := Option.some.inj h
    exact HR _ _ dX11_orders_20
  · have h := jif hc h
    refine j_iload_n (pc' := 11) K dX11_orders_10 rfl 2 rfl rfl ?_
    refine j_iconst (pc' := 12) (v := (0 : Int32)) K dX11_orders_11 (by decide) rfl ?_
    refine j_iconst (pc' := 13) (v := (4 : Int32)) K dX11_orders_12 (by decide) rfl ?_
    obtain ⟨r13, hr13, h⟩ := jbd_some h
    refine j_ro (pc' := 16) K (fun H hP => jrun_S K dX11_orders_13 (M_X11_within (jl E) (jg E) v2 (0 : Int32) (4 : Int32) hr13) u_1_76 u_1_217 u_1_75 u_1_1 ⟨ok_X11_within, by decide, by decide⟩ rfl (Nat.le_of_ble_eq_true rfl) H) [] rfl rfl ?_
    refine j_if_ne (pc' := 19) (tgt := 21) K dX11_orders_16 (by decide) rfl (fun hc => ?_) (fun hc => ?_)
    · have h := jif hc h
      refine j_iload_n (pc' := 22) K dX11_orders_21 rfl 3 rfl rfl ?_
      refine j_iconst (pc' := 23) (v := (0 : Int32)) K dX11_orders_22 (by decide) rfl ?_
      refine j_bipush (pc' := 25) (v := (28 : Int32)) K dX11_orders_23 (by decide) rfl ?_
      obtain ⟨r25, hr25, h⟩ := jbd_some h
      refine j_ro (pc' := 28) K (fun H hP => jrun_S K dX11_orders_25 (M_X11_within (jl E) (jg E) v3 (0 : Int32) (28 : Int32) hr25) u_1_76 u_1_217 u_1_75 u_1_1 ⟨ok_X11_within, by decide, by decide⟩ rfl (Nat.le_of_ble_eq_true rfl) H) [] rfl rfl ?_
      refine j_if_eq (pc' := 31) (tgt := 37) K dX11_orders_28 (by decide) rfl (fun hc => ?_) (fun hc => ?_)
      · have h := jit hc h
        refine j_iconst (pc' := 38) (v := (-1 : Int32)) K dX11_orders_37 (by decide) rfl ?_
        obtain rfl := Option.some.inj h
        exact HR _ _ dX11_orders_38
      · have h := jif hc h
        refine j_iload (pc' := 33) K dX11_orders_31 4 rfl rfl ?_
        refine j_iconst (pc' := 34) (v := (-1 : Int32)) K dX11_orders_33 (by decide) rfl ?_
        refine j_icmp_ge (pc' := 37) (tgt := 39) K dX11_orders_34 (by decide) rfl (fun hc => ?_) (fun hc => ?_)
        · have h := jit hc h
          refine j_aload_n (pc' := 40) K dX11_orders_39 rfl 0 rfl rfl ?_
          refine j_get (pc' := 43) K dX11_orders_40 inX11 0 rfl rfl 3 (by decide) u_1_200 rfl rfl rfl ?_
          refine j_iload_n (pc' := 44) K dX11_orders_43 rfl 1 rfl rfl ?_
          refine j_iload_n (pc' := 45) K dX11_orders_44 rfl 2 rfl rfl ?_
          refine j_iload_n (pc' := 46) K dX11_orders_45 rfl 3 rfl rfl ?_
          obtain ⟨r46, hr46, h⟩ := jbd_some h
          refine j_rw (pc' := 49) (ws' := (wX (jg E) a0 (X_orders_s s0 (r46.2)))) K (fun H hP => jrun_V K dX11_orders_46 (M_X6_howMany (jl E) (jg E) (a0 30) (a0 31) (a0 32) (a0 33) (a0 34) (a0 35) (a0 36) (a0 37) (a0 38) (a0 39) (a0 40) (a0 41) (a0 42) v1 v2 v3 (X_orders s0) hr46) u_2_235 u_2_232 u_2_233 u_2_234 u_1_4 ⟨ok_X6_howMany, by decide, by decide⟩ rfl (Nat.le_of_ble_eq_true rfl) 30 rfl rfl H hP) hrw [30, 31, 32, 33, 34, 35, 36, 37, 38, 39, 40, 41, 42] rfl rfl rfl rfl rfl rfl ?_
          refine j_istore (pc' := 51) (lv' := [(5, .int (r46.1)), (0, .ref (a0 0)), (1, .int v1), (2, .int v2), (3, .int v3), (4, .int v4)]) K dX11_orders_49 (by decide) rfl rfl ?_
          refine j_iload (pc' := 53) K dX11_orders_51 5 rfl rfl ?_
          refine j_iconst (pc' := 54) (v := (-1 : Int32)) K dX11_orders_53 (by decide) rfl ?_
          refine j_icmp_ne (pc' := 57) (tgt := 60) K dX11_orders_54 (by decide) rfl (fun hc => ?_) (fun hc => ?_)
          · have h := jif hc h
            refine j_iload (pc' := 62) K dX11_orders_60 5 rfl rfl ?_
            refine j_iload (pc' := 64) K dX11_orders_62 0 rfl rfl ?_
            refine j_icmp_ge (pc' := 67) (tgt := 82) K dX11_orders_64 (by decide) rfl (fun hc => ?_) (fun hc => ?_)
            · have h := jit hc h
              refine j_bipush (pc' := 84) (v := (-4 : Int32)) K dX11_orders_82 (by decide) rfl ?_
              obtain rfl := Option.some.inj h
              exact HR _ _ dX11_orders_84
            · have h := jif hc h
              refine j_aload_n (pc' := 68) K dX11_orders_67 rfl 1 rfl rfl ?_
              refine j_get (pc' := 71) K dX11_orders_68 inX11 0 rfl rfl 3 (by decide) u_1_200 rfl rfl rfl ?_
              refine j_iload_n (pc' := 72) K dX11_orders_71 rfl 2 rfl rfl ?_
              refine j_iload_n (pc' := 73) K dX11_orders_72 rfl 3 rfl rfl ?_
              refine j_iload_n (pc' := 74) K dX11_orders_73 rfl 4 rfl rfl ?_
              refine j_iload (pc' := 76) K dX11_orders_74 5 rfl rfl ?_
              obtain ⟨r76, hr76, h⟩ := jbd_some h
              refine j_rw (pc' := 79) (ws' := (wX (jg E) a0 (X_orders_s (X_orders_s s0 (r46.2)) (r76.2)))) K (fun H hP => jrun_V K dX11_orders_76 (M_X6_ith (jl E) (jg E) (a0 30) (a0 31) (a0 32) (a0 33) (a0 34) (a0 35) (a0 36) (a0 37) (a0 38) (a0 39) (a0 40) (a0 41) (a0 42) v1 v2 v3 v4 (X_orders (X_orders_s s0 (r46.2))) hr76) u_3_51 u_3_48 u_3_49 u_3_50 u_1_4 ⟨ok_X6_ith, by decide, by decide⟩ rfl (Nat.le_of_ble_eq_true rfl) 30 rfl rfl H hP) hrw [30, 31, 32, 33, 34, 35, 36, 37, 38, 39, 40, 41, 42] rfl rfl rfl rfl rfl rfl ?_
              refine j_goto (tgt := 84) K dX11_orders_79 (by decide) ?_
              obtain rfl := Option.some.inj h
              exact HR _ _ dX11_orders_84
          · have h := jit hc h
            refine j_iload (pc' := 59) K dX11_orders_57 0 rfl rfl ?_
            obtain rfl := Option.some.inj h
            exact HR _ _ dX11_orders_59
        · have h := jif hc h
          refine j_iconst (pc' := 38) (v := (-1 : Int32)) K dX11_orders_37 (by decide) rfl ?_
          obtain rfl := Option.some.inj h
          exact HR _ _ dX11_orders_38
    · have h := jit hc h
      refine j_iconst (pc' := 20) (v := (-1 : Int32)) K dX11_orders_19 (by decide) rfl ?_
      obtain rfl := Option.some.inj h
      exact HR _ _ dX11_orders_20
set_option maxRecDepth 100000 in
set_option maxHeartbeats 4000000 in
theorem M_X11_orders (l : Launch) (G : jG) (a0 : Nat → Nat) (v1 : Int32) (v2 : Int32) (v3 : Int32) (v4 : Int32) (s0 : XS) {r : Int32 × XS} (h : f_X11_orders v1 v2 v3 v4 s0 = some r) : MC l yX11_orders cX11_orders 6 (some .int) 5 G (jad (wX G a0 s0)) True (wX G a0 s0) (wX G a0 (r.2)) [.ref (a0 0), .int v1, .int v2, .int v3, .int v4] (some (.int (r.1))) := by
  refine mc_int (by decide +kernel) (Nat.le_of_ble_eq_true rfl) fun E hl hg hA hrw K HR => ?_
  subst hl
  subst hg
  have hrw : jrw E := by rw [hrw]; trivial
  exact b_X11_orders a0 K hrw HR v1 v2 v3 v4 s0 h
theorem ok_X11_mark : yX11_mark.cls ≠ "java/lang/invoke/MethodHandle" ∧ yX11_mark.cls ≠ "java/lang/invoke/VarHandle" ∧ (parseMethodDescriptor yX11_mark.desc).map (fun d => d.parameters.length) = some 3 := ⟨by decide, by decide, by decide +kernel⟩
def f_X11_mark (v1 : Int32) (v2 : Int32) (v3 : Int32) (s0 : XS) : Option (Int32 × XS) :=
   jbd (f_X11_isOrder v1 v2 s0) (fun r3 =>
   if r3 = 0 then
    some ((-1 : Int32), s0)
   else
    jbd (f_X11_within v3 (0 : Int32) (4 : Int32)) (fun r12 =>
     if r12 = 0 then
      some ((-1 : Int32), s0)
     else
      jbd (f_X6_markOf v1 v2 v3 (X_orders s0)) (fun r27 =>
       some ((r27.1), (X_orders_s s0 (r27.2))))))
set_option maxRecDepth 100000 in
set_option maxHeartbeats 4000000 in
theorem b_X11_mark {E : jE} (a0 : Nat → Nat) {res : Int32 × XS} (K : jC E cX11_mark 4 RX11 4) (hrw : jrw E) (HR : jRI E cX11_mark 4 (wX (jg E) a0 (res.2)) (res.1)) : ∀ (v1 : Int32) (v2 : Int32) (v3 : Int32) (s0 : XS), f_X11_mark v1 v2 v3 s0 = some res → J E 4 (wX (jg E) a0 s0) 0 [(0, .ref (a0 0)), (1, .int v1), (2, .int v2), (3, .int v3)] [] := by
  intro v1 v2 v3 s0 h
  unfold f_X11_mark at h
  refine j_aload_n (pc' := 1) K dX11_mark_0 rfl 0 rfl rfl ?_
  refine j_iload_n (pc' := 2) K dX11_mark_1 rfl 1 rfl rfl ?_
  refine j_iload_n (pc' := 3) K dX11_mark_2 rfl 2 rfl rfl ?_
  obtain ⟨r3, hr3, h⟩ := jbd_some h
  refine j_ro (pc' := 6) K (fun H hP => jrun_V K dX11_mark_3 (M_X11_isOrder (jl E) (jg E) a0 v1 v2 s0 hr3) u_3_106 u_3_103 u_3_105 u_p_12 u_1_1 ⟨ok_X11_isOrder, by decide, by decide⟩ rfl (Nat.le_of_ble_eq_true rfl) 0 rfl rfl H hP) [0, 1, 2, 3, 4, 5, 6, 7, 8, 9, 10, 11, 12, 13, 14, 15, 16, 17, 18, 19, 20, 21, 22, 23, 24, 25, 26, 27, 28, 29, 30, 31, 32, 33, 34, 35, 36, 37, 38, 39, 40, 41, 42, 43, 44, 45, 46, 47, 48, 49, 50, 51, 52, 53, 54, 55] rfl rfl ?_
  refine j_if_eq (pc' := 9) (tgt := 18) K dX11_mark_6 (by decide) rfl (fun hc => ?_) (fun hc => ?_)
  · have h := jit hc h
    refine j_iconst (pc' := 19) (v := (-1 : Int32)) K dX11_mark_18 (by decide) rfl ?_
    obtain rfl := Option.some.inj h
    exact HR _ _ dX11_mark_19
  · have h := jif hc h
    refine j_iload_n (pc' := 10) K dX11_mark_9 rfl 3 rfl rfl ?_
    refine j_iconst (pc' := 11) (v := (0 : Int32)) K dX11_mark_10 (by decide) rfl ?_
    refine j_iconst (pc' := 12) (v := (4 : Int32)) K dX11_mark_11 (by decide) rfl ?_
    obtain ⟨r12, hr12, h⟩ := jbd_some h
    refine j_ro (pc' := 15) K (fun H hP => jrun_S K dX11_mark_12 (M_X11_within (jl E) (jg E) v3 (0 : Int32) (4 : Int32) hr12) u_1_76 u_1_217 u_1_75 u_1_1 ⟨ok_X11_within, by decide, by decide⟩ rfl (Nat.le_of_ble_eq_true rfl) H) [] rfl rfl ?_
    refine j_if_ne (pc' := 18) (tgt := 20) K dX11_mark_15 (by decide) rfl (fun hc => ?_) (fun hc => ?_)
    · have h := jif hc h
      refine j_aload_n (pc' := 21) K dX11_mark_20 rfl 0 rfl rfl ?_
      refine j_get (pc' := 24) K dX11_mark_21 inX11 0 rfl rfl 3 (by decide) u_1_200 rfl rfl rfl ?_
      refine j_iload_n (pc' := 25) K dX11_mark_24 rfl 1 rfl rfl ?_
      refine j_iload_n (pc' := 26) K dX11_mark_25 rfl 2 rfl rfl ?_
      refine j_iload_n (pc' := 27) K dX11_mark_26 rfl 3 rfl rfl ?_
      obtain ⟨r27, hr27, h⟩ := jbd_some h
      refine j_rw (pc' := 30) (ws' := (wX (jg E) a0 (X_orders_s s0 (r27.2)))) K (fun H hP => jrun_V K dX11_mark_27 (M_X6_markOf (jl E) (jg E) (a0 30) (a0 31) (a0 32) (a0 33) (a0 34) (a0 35) (a0 36) (a0 37) (a0 38) (a0 39) (a0 40) (a0 41) (a0 42) v1 v2 v3 (X_orders s0) hr27) u_3_116 u_3_113 u_3_114 u_3_115 u_1_4 ⟨ok_X6_markOf, by decide, by decide⟩ rfl (Nat.le_of_ble_eq_true rfl) 30 rfl rfl H hP) hrw [30, 31, 32, 33, 34, 35, 36, 37, 38, 39, 40, 41, 42] rfl rfl rfl rfl rfl rfl ?_
      obtain rfl := Option.some.inj h
      exact HR _ _ dX11_mark_30
    · have h := jit hc h
      refine j_iconst (pc' := 19) (v := (-1 : Int32)) K dX11_mark_18 (by decide) rfl ?_
      obtain rfl := Option.some.inj h
      exact HR _ _ dX11_mark_19
set_option maxRecDepth 100000 in
set_option maxHeartbeats 4000000 in
theorem M_X11_mark (l : Launch) (G : jG) (a0 : Nat → Nat) (v1 : Int32) (v2 : Int32) (v3 : Int32) (s0 : XS) {r : Int32 × XS} (h : f_X11_mark v1 v2 v3 s0 = some r) : MC l yX11_mark cX11_mark 4 (some .int) 4 G (jad (wX G a0 s0)) True (wX G a0 s0) (wX G a0 (r.2)) [.ref (a0 0), .int v1, .int v2, .int v3] (some (.int (r.1))) := by
  refine mc_int (by decide +kernel) (Nat.le_of_ble_eq_true rfl) fun E hl hg hA hrw K HR => ?_
  subst hl
  subst hg
  have hrw : jrw E := by rw [hrw]; trivial
  exact b_X11_mark a0 K hrw HR v1 v2 v3 s0 h
theorem ok_X11_rank : yX11_rank.cls ≠ "java/lang/invoke/MethodHandle" ∧ yX11_rank.cls ≠ "java/lang/invoke/VarHandle" ∧ (parseMethodDescriptor yX11_rank.desc).map (fun d => d.parameters.length) = some 2 := ⟨by decide, by decide, by decide +kernel⟩
def f_X11_rank (v1 : Int32) (v2 : Int32) (s0 : XS) : Option (Int32 × XS) :=
   jbd (f_X11_isOrder v1 v2 s0) (fun r3 =>
   if r3 = 0 then
    some ((-1 : Int32), s0)
   else
    jbd (f_X6_rankOf v1 v2 (X_orders s0)) (fun r15 =>
     some ((r15.1), (X_orders_s s0 (r15.2)))))
set_option maxRecDepth 100000 in
set_option maxHeartbeats 4000000 in
theorem b_X11_rank {E : jE} (a0 : Nat → Nat) {res : Int32 × XS} (K : jC E cX11_rank 3 RX11 3) (hrw : jrw E) (HR : jRI E cX11_rank 3 (wX (jg E) a0 (res.2)) (res.1)) : ∀ (v1 : Int32) (v2 : Int32) (s0 : XS), f_X11_rank v1 v2 s0 = some res → J E 3 (wX (jg E) a0 s0) 0 [(0, .ref (a0 0)), (1, .int v1), (2, .int v2)] [] := by
  intro v1 v2 s0 h
  unfold f_X11_rank at h
  refine j_aload_n (pc' := 1) K dX11_rank_0 rfl 0 rfl rfl ?_
  refine j_iload_n (pc' := 2) K dX11_rank_1 rfl 1 rfl rfl ?_
  refine j_iload_n (pc' := 3) K dX11_rank_2 rfl 2 rfl rfl ?_
  obtain ⟨r3, hr3, h⟩ := jbd_some h
  refine j_ro (pc' := 6) K (fun H hP => jrun_V K dX11_rank_3 (M_X11_isOrder (jl E) (jg E) a0 v1 v2 s0 hr3) u_3_106 u_3_103 u_3_105 u_p_12 u_1_1 ⟨ok_X11_isOrder, by decide, by decide⟩ rfl (Nat.le_of_ble_eq_true rfl) 0 rfl rfl H hP) [0, 1, 2, 3, 4, 5, 6, 7, 8, 9, 10, 11, 12, 13, 14, 15, 16, 17, 18, 19, 20, 21, 22, 23, 24, 25, 26, 27, 28, 29, 30, 31, 32, 33, 34, 35, 36, 37, 38, 39, 40, 41, 42, 43, 44, 45, 46, 47, 48, 49, 50, 51, 52, 53, 54, 55] rfl rfl ?_
  refine j_if_eq (pc' := 9) (tgt := 21) K dX11_rank_6 (by decide) rfl (fun hc => ?_) (fun hc => ?_)
  · have h := jit hc h
    refine j_iconst (pc' := 22) (v := (-1 : Int32)) K dX11_rank_21 (by decide) rfl ?_
    obtain rfl := Option.some.inj h
    exact HR _ _ dX11_rank_22
  · have h := jif hc h
    refine j_aload_n (pc' := 10) K dX11_rank_9 rfl 0 rfl rfl ?_
    refine j_get (pc' := 13) K dX11_rank_10 inX11 0 rfl rfl 3 (by decide) u_1_200 rfl rfl rfl ?_
    refine j_iload_n (pc' := 14) K dX11_rank_13 rfl 1 rfl rfl ?_
    refine j_iload_n (pc' := 15) K dX11_rank_14 rfl 2 rfl rfl ?_
    obtain ⟨r15, hr15, h⟩ := jbd_some h
    refine j_rw (pc' := 18) (ws' := (wX (jg E) a0 (X_orders_s s0 (r15.2)))) K (fun H hP => jrun_V K dX11_rank_15 (M_X6_rankOf (jl E) (jg E) (a0 30) (a0 31) (a0 32) (a0 33) (a0 34) (a0 35) (a0 36) (a0 37) (a0 38) (a0 39) (a0 40) (a0 41) (a0 42) v1 v2 (X_orders s0) hr15) u_3_131 u_3_128 u_3_129 u_3_130 u_1_4 ⟨ok_X6_rankOf, by decide, by decide⟩ rfl (Nat.le_of_ble_eq_true rfl) 30 rfl rfl H hP) hrw [30, 31, 32, 33, 34, 35, 36, 37, 38, 39, 40, 41, 42] rfl rfl rfl rfl rfl rfl ?_
    refine j_goto (tgt := 22) K dX11_rank_18 (by decide) ?_
    obtain rfl := Option.some.inj h
    exact HR _ _ dX11_rank_22
set_option maxRecDepth 100000 in
set_option maxHeartbeats 4000000 in
theorem M_X11_rank (l : Launch) (G : jG) (a0 : Nat → Nat) (v1 : Int32) (v2 : Int32) (s0 : XS) {r : Int32 × XS} (h : f_X11_rank v1 v2 s0 = some r) : MC l yX11_rank cX11_rank 3 (some .int) 3 G (jad (wX G a0 s0)) True (wX G a0 s0) (wX G a0 (r.2)) [.ref (a0 0), .int v1, .int v2] (some (.int (r.1))) := by
  refine mc_int (by decide +kernel) (Nat.le_of_ble_eq_true rfl) fun E hl hg hA hrw K HR => ?_
  subst hl
  subst hg
  have hrw : jrw E := by rw [hrw]; trivial
  exact b_X11_rank a0 K hrw HR v1 v2 s0 h
theorem ok_X11_over : yX11_over.cls ≠ "java/lang/invoke/MethodHandle" ∧ yX11_over.cls ≠ "java/lang/invoke/VarHandle" ∧ (parseMethodDescriptor yX11_over.desc).map (fun d => d.parameters.length) = some 2 := ⟨by decide, by decide, by decide +kernel⟩
def f_X11_over (v1 : Int32) (v2 : Int32) (s0 : XS) : Option (Int32 × XS) :=
   jbd (f_X11_isOrder v1 v2 s0) (fun r3 =>
   if r3 = 0 then
    some ((-1 : Int32), s0)
   else
    jbd (f_X6_turnedOver v1 v2 (X_orders s0)) (fun r15 =>
     some ((r15.1), (X_orders_s s0 (r15.2)))))
set_option maxRecDepth 100000 in
set_option maxHeartbeats 4000000 in
theorem b_X11_over {E : jE} (a0 : Nat → Nat) {res : Int32 × XS} (K : jC E cX11_over 3 RX11 3) (hrw : jrw E) (HR : jRI E cX11_over 3 (wX (jg E) a0 (res.2)) (res.1)) : ∀ (v1 : Int32) (v2 : Int32) (s0 : XS), f_X11_over v1 v2 s0 = some res → J E 3 (wX (jg E) a0 s0) 0 [(0, .ref (a0 0)), (1, .int v1), (2, .int v2)] [] := by
  intro v1 v2 s0 h
  unfold f_X11_over at h
  refine j_aload_n (pc' := 1) K dX11_over_0 rfl 0 rfl rfl ?_
  refine j_iload_n (pc' := 2) K dX11_over_1 rfl 1 rfl rfl ?_
  refine j_iload_n (pc' := 3) K dX11_over_2 rfl 2 rfl rfl ?_
  obtain ⟨r3, hr3, h⟩ := jbd_some h
  refine j_ro (pc' := 6) K (fun H hP => jrun_V K dX11_over_3 (M_X11_isOrder (jl E) (jg E) a0 v1 v2 s0 hr3) u_3_106 u_3_103 u_3_105 u_p_12 u_1_1 ⟨ok_X11_isOrder, by decide, by decide⟩ rfl (Nat.le_of_ble_eq_true rfl) 0 rfl rfl H hP) [0, 1, 2, 3, 4, 5, 6, 7, 8, 9, 10, 11, 12, 13, 14, 15, 16, 17, 18, 19, 20, 21, 22, 23, 24, 25, 26, 27, 28, 29, 30, 31, 32, 33, 34, 35, 36, 37, 38, 39, 40, 41, 42, 43, 44, 45, 46, 47, 48, 49, 50, 51, 52, 53, 54, 55] rfl rfl ?_
  refine j_if_eq (pc' := 9) (tgt := 21) K dX11_over_6 (by decide) rfl (fun hc => ?_) (fun hc => ?_)
  · have h := jit hc h
    refine j_iconst (pc' := 22) (v := (-1 : Int32)) K dX11_over_21 (by decide) rfl ?_
    obtain rfl := Option.some.inj h
    exact HR _ _ dX11_over_22
  · have h := jif hc h
    refine j_aload_n (pc' := 10) K dX11_over_9 rfl 0 rfl rfl ?_
    refine j_get (pc' := 13) K dX11_over_10 inX11 0 rfl rfl 3 (by decide) u_1_200 rfl rfl rfl ?_
    refine j_iload_n (pc' := 14) K dX11_over_13 rfl 1 rfl rfl ?_
    refine j_iload_n (pc' := 15) K dX11_over_14 rfl 2 rfl rfl ?_
    obtain ⟨r15, hr15, h⟩ := jbd_some h
    refine j_rw (pc' := 18) (ws' := (wX (jg E) a0 (X_orders_s s0 (r15.2)))) K (fun H hP => jrun_V K dX11_over_15 (M_X6_turnedOver (jl E) (jg E) (a0 30) (a0 31) (a0 32) (a0 33) (a0 34) (a0 35) (a0 36) (a0 37) (a0 38) (a0 39) (a0 40) (a0 41) (a0 42) v1 v2 (X_orders s0) hr15) u_3_140 u_3_137 u_3_138 u_3_139 u_1_4 ⟨ok_X6_turnedOver, by decide, by decide⟩ rfl (Nat.le_of_ble_eq_true rfl) 30 rfl rfl H hP) hrw [30, 31, 32, 33, 34, 35, 36, 37, 38, 39, 40, 41, 42] rfl rfl rfl rfl rfl rfl ?_
    refine j_goto (tgt := 22) K dX11_over_18 (by decide) ?_
    obtain rfl := Option.some.inj h
    exact HR _ _ dX11_over_22
set_option maxRecDepth 100000 in
set_option maxHeartbeats 4000000 in
theorem M_X11_over (l : Launch) (G : jG) (a0 : Nat → Nat) (v1 : Int32) (v2 : Int32) (s0 : XS) {r : Int32 × XS} (h : f_X11_over v1 v2 s0 = some r) : MC l yX11_over cX11_over 3 (some .int) 3 G (jad (wX G a0 s0)) True (wX G a0 s0) (wX G a0 (r.2)) [.ref (a0 0), .int v1, .int v2] (some (.int (r.1))) := by
  refine mc_int (by decide +kernel) (Nat.le_of_ble_eq_true rfl) fun E hl hg hA hrw K HR => ?_
  subst hl
  subst hg
  have hrw : jrw E := by rw [hrw]; trivial
  exact b_X11_over a0 K hrw HR v1 v2 s0 h
theorem ok_X11_behind : yX11_behind.cls ≠ "java/lang/invoke/MethodHandle" ∧ yX11_behind.cls ≠ "java/lang/invoke/VarHandle" ∧ (parseMethodDescriptor yX11_behind.desc).map (fun d => d.parameters.length) = some 3 := ⟨by decide, by decide, by decide +kernel⟩
def f_X11_behind (v1 : Int32) (v2 : Int32) (v3 : Int32) (s0 : XS) : Option (Int32 × XS) :=
   jbd (f_X11_isOrder v1 v2 s0) (fun r3 =>
   if r3 = 0 then
    some ((-1 : Int32), s0)
   else
    jbd (f_X11_isOrder v1 v3 s0) (fun r12 =>
     if r12 = 0 then
      some ((-1 : Int32), s0)
     else
      jbd (f_X6_oneBehind v1 v2 v3 (X_orders s0)) (fun r25 =>
       some ((r25.1), (X_orders_s s0 (r25.2))))))
set_option maxRecDepth 100000 in
set_option maxHeartbeats 4000000 in
theorem b_X11_behind {E : jE} (a0 : Nat → Nat) {res : Int32 × XS} (K : jC E cX11_behind 4 RX11 3) (hrw : jrw E) (HR : jRI E cX11_behind 4 (wX (jg E) a0 (res.2)) (res.1)) : ∀ (v1 : Int32) (v2 : Int32) (v3 : Int32) (s0 : XS), f_X11_behind v1 v2 v3 s0 = some res → J E 4 (wX (jg E) a0 s0) 0 [(0, .ref (a0 0)), (1, .int v1), (2, .int v2), (3, .int v3)] [] := by
  intro v1 v2 v3 s0 h
  unfold f_X11_behind at h
  refine j_aload_n (pc' := 1) K dX11_behind_0 rfl 0 rfl rfl ?_
  refine j_iload_n (pc' := 2) K dX11_behind_1 rfl 1 rfl rfl ?_
  refine j_iload_n (pc' := 3) K dX11_behind_2 rfl 2 rfl rfl ?_
  obtain ⟨r3, hr3, h⟩ := jbd_some h
  refine j_ro (pc' := 6) K (fun H hP => jrun_V K dX11_behind_3 (M_X11_isOrder (jl E) (jg E) a0 v1 v2 s0 hr3) u_3_106 u_3_103 u_3_105 u_p_12 u_1_1 ⟨ok_X11_isOrder, by decide, by decide⟩ rfl (Nat.le_of_ble_eq_true rfl) 0 rfl rfl H hP) [0, 1, 2, 3, 4, 5, 6, 7, 8, 9, 10, 11, 12, 13, 14, 15, 16, 17, 18, 19, 20, 21, 22, 23, 24, 25, 26, 27, 28, 29, 30, 31, 32, 33, 34, 35, 36, 37, 38, 39, 40, 41, 42, 43, 44, 45, 46, 47, 48, 49, 50, 51, 52, 53, 54, 55] rfl rfl ?_
  refine j_if_eq (pc' := 9) (tgt := 31) K dX11_behind_6 (by decide) rfl (fun hc => ?_) (fun hc => ?_)
  · have h := jit hc h
    refine j_iconst (pc' := 32) (v := (-1 : Int32)) K dX11_behind_31 (by decide) rfl ?_
    obtain rfl := Option.some.inj h
    exact HR _ _ dX11_behind_32
  · have h := jif hc h
    refine j_aload_n (pc' := 10) K dX11_behind_9 rfl 0 rfl rfl ?_
    refine j_iload_n (pc' := 11) K dX11_behind_10 rfl 1 rfl rfl ?_
    refine j_iload_n (pc' := 12) K dX11_behind_11 rfl 3 rfl rfl ?_
    obtain ⟨r12, hr12, h⟩ := jbd_some h
    refine j_ro (pc' := 15) K (fun H hP => jrun_V K dX11_behind_12 (M_X11_isOrder (jl E) (jg E) a0 v1 v3 s0 hr12) u_3_106 u_3_103 u_3_105 u_p_12 u_1_1 ⟨ok_X11_isOrder, by decide, by decide⟩ rfl (Nat.le_of_ble_eq_true rfl) 0 rfl rfl H hP) [0, 1, 2, 3, 4, 5, 6, 7, 8, 9, 10, 11, 12, 13, 14, 15, 16, 17, 18, 19, 20, 21, 22, 23, 24, 25, 26, 27, 28, 29, 30, 31, 32, 33, 34, 35, 36, 37, 38, 39, 40, 41, 42, 43, 44, 45, 46, 47, 48, 49, 50, 51, 52, 53, 54, 55] rfl rfl ?_
    refine j_if_eq (pc' := 18) (tgt := 31) K dX11_behind_15 (by decide) rfl (fun hc => ?_) (fun hc => ?_)
    · have h := jit hc h
      refine j_iconst (pc' := 32) (v := (-1 : Int32)) K dX11_behind_31 (by decide) rfl ?_
      obtain rfl := Option.some.inj h
      exact HR _ _ dX11_behind_32
    · have h := jif hc h
      refine j_aload_n (pc' := 19) K dX11_behind_18 rfl 0 rfl rfl ?_
      refine j_get (pc' := 22) K dX11_behind_19 inX11 0 rfl rfl 3 (by decide) u_1_200 rfl rfl rfl ?_
      refine j_iload_n (pc' := 23) K dX11_behind_22 rfl 1 rfl rfl ?_
      refine j_iload_n (pc' := 24) K dX11_behind_23 rfl 2 rfl rfl ?_
      refine j_iload_n (pc' := 25) K dX11_behind_24 rfl 3 rfl rfl ?_
      obtain ⟨r25, hr25, h⟩ := jbd_some h
      refine j_rw (pc' := 28) (ws' := (wX (jg E) a0 (X_orders_s s0 (r25.2)))) K (fun H hP => jrun_V K dX11_behind_25 (M_X6_oneBehind (jl E) (jg E) (a0 30) (a0 31) (a0 32) (a0 33) (a0 34) (a0 35) (a0 36) (a0 37) (a0 38) (a0 39) (a0 40) (a0 41) (a0 42) v1 v2 v3 (X_orders s0) hr25) u_3_148 u_3_145 u_3_146 u_3_147 u_1_4 ⟨ok_X6_oneBehind, by decide, by decide⟩ rfl (Nat.le_of_ble_eq_true rfl) 30 rfl rfl H hP) hrw [30, 31, 32, 33, 34, 35, 36, 37, 38, 39, 40, 41, 42] rfl rfl rfl rfl rfl rfl ?_
      refine j_goto (tgt := 32) K dX11_behind_28 (by decide) ?_
      obtain rfl := Option.some.inj h
      exact HR _ _ dX11_behind_32
set_option maxRecDepth 100000 in
set_option maxHeartbeats 4000000 in
theorem M_X11_behind (l : Launch) (G : jG) (a0 : Nat → Nat) (v1 : Int32) (v2 : Int32) (v3 : Int32) (s0 : XS) {r : Int32 × XS} (h : f_X11_behind v1 v2 v3 s0 = some r) : MC l yX11_behind cX11_behind 4 (some .int) 3 G (jad (wX G a0 s0)) True (wX G a0 s0) (wX G a0 (r.2)) [.ref (a0 0), .int v1, .int v2, .int v3] (some (.int (r.1))) := by
  refine mc_int (by decide +kernel) (Nat.le_of_ble_eq_true rfl) fun E hl hg hA hrw K HR => ?_
  subst hl
  subst hg
  have hrw : jrw E := by rw [hrw]; trivial
  exact b_X11_behind a0 K hrw HR v1 v2 v3 s0 h
theorem ok_X11_base : yX11_base.cls ≠ "java/lang/invoke/MethodHandle" ∧ yX11_base.cls ≠ "java/lang/invoke/VarHandle" ∧ (parseMethodDescriptor yX11_base.desc).map (fun d => d.parameters.length) = some 2 := ⟨by decide, by decide, by decide +kernel⟩
def f_X11_base (v1 : Int32) (v2 : Int32) (s0 : XS) : Option (Int32 × XS) :=
   jbd (f_X11_isPolynomial v1) (fun r1 =>
   if r1 = 0 then
    some ((-1 : Int32), s0)
   else
    jbd (f_X11_within v2 (0 : Int32) (3 : Int32)) (fun r10 =>
     if r10 = 0 then
      some ((-1 : Int32), s0)
     else
      jgd v1 4 (
       if v1 = 0 then (
        jbd (f_X8_baseNow (X_poly0 s0)) (fun r24 =>
         jgd v1 4 (
          if v1 = 0 then (
           jbd (f_X8_clearIn v2 (X_poly0 s0)) (fun r35 =>
            some (r24, (X_poly0_s s0 r35)))) else if v1 = 1 then (
           jbd (f_X8_clearIn v2 (X_poly1 s0)) (fun r35 =>
            some (r24, (X_poly1_s s0 r35)))) else if v1 = 2 then (
           jbd (f_X8_clearIn v2 (X_poly2 s0)) (fun r35 =>
            some (r24, (X_poly2_s s0 r35)))) else (
           jbd (f_X8_clearIn v2 (X_poly3 s0)) (fun r35 =>
            some (r24, (X_poly3_s s0 r35))))))) else if v1 = 1 then (
        jbd (f_X8_baseNow (X_poly1 s0)) (fun r24 =>
         jgd v1 4 (
          if v1 = 0 then (
           jbd (f_X8_clearIn v2 (X_poly0 s0)) (fun r35 =>
            some (r24, (X_poly0_s s0 r35)))) else if v1 = 1 then (
           jbd (f_X8_clearIn v2 (X_poly1 s0)) (fun r35 =>
            some (r24, (X_poly1_s s0 r35)))) else if v1 = 2 then (
           jbd (f_X8_clearIn v2 (X_poly2 s0)) (fun r35 =>
            some (r24, (X_poly2_s s0 r35)))) else (
           jbd (f_X8_clearIn v2 (X_poly3 s0)) (fun r35 =>
            some (r24, (X_poly3_s s0 r35))))))) else if v1 = 2 then (
        jbd (f_X8_baseNow (X_poly2 s0)) (fun r24 =>
         jgd v1 4 (
          if v1 = 0 then (
           jbd (f_X8_clearIn v2 (X_poly0 s0)) (fun r35 =>
            some (r24, (X_poly0_s s0 r35)))) else if v1 = 1 then (
           jbd (f_X8_clearIn v2 (X_poly1 s0)) (fun r35 =>
            some (r24, (X_poly1_s s0 r35)))) else if v1 = 2 then (
           jbd (f_X8_clearIn v2 (X_poly2 s0)) (fun r35 =>
            some (r24, (X_poly2_s s0 r35)))) else (
           jbd (f_X8_clearIn v2 (X_poly3 s0)) (fun r35 =>
            some (r24, (X_poly3_s s0 r35))))))) else (
        jbd (f_X8_baseNow (X_poly3 s0)) (fun r24 =>
         jgd v1 4 (
          if v1 = 0 then (
           jbd (f_X8_clearIn v2 (X_poly0 s0)) (fun r35 =>
            some (r24, (X_poly0_s s0 r35)))) else if v1 = 1 then (
           jbd (f_X8_clearIn v2 (X_poly1 s0)) (fun r35 =>
            some (r24, (X_poly1_s s0 r35)))) else if v1 = 2 then (
           jbd (f_X8_clearIn v2 (X_poly2 s0)) (fun r35 =>
            some (r24, (X_poly2_s s0 r35)))) else (
           jbd (f_X8_clearIn v2 (X_poly3 s0)) (fun r35 =>
            some (r24, (X_poly3_s s0 r35))))))))))
set_option maxRecDepth 100000 in
set_option maxHeartbeats 4000000 in
theorem b_X11_base {E : jE} (a0 : Nat → Nat) {res : Int32 × XS} (K : jC E cX11_base 4 RX11 2) (hrw : jrw E) (HR : jRI E cX11_base 4 (wX (jg E) a0 (res.2)) (res.1)) : ∀ (v1 : Int32) (v2 : Int32) (s0 : XS), f_X11_base v1 v2 s0 = some res → J E 4 (wX (jg E) a0 s0) 0 [(0, .ref (a0 0)), (1, .int v1), (2, .int v2)] [] := by
  intro v1 v2 s0 h
  unfold f_X11_base at h
  refine j_iload_n (pc' := 1) K dX11_base_0 rfl 1 rfl rfl ?_
  obtain ⟨r1, hr1, h⟩ := jbd_some h
  refine j_ro (pc' := 4) K (fun H hP => jrun_S K dX11_base_1 (M_X11_isPolynomial (jl E) (jg E) v1 hr1) u_3_155 u_3_153 u_3_154 u_1_1 ⟨ok_X11_isPolynomial, by decide, by decide⟩ rfl (Nat.le_of_ble_eq_true rfl) H) [] rfl rfl ?_
  refine j_if_eq (pc' := 7) (tgt := 16) K dX11_base_4 (by decide) rfl (fun hc => ?_) (fun hc => ?_)
  · have h := jit hc h
    refine j_iconst (pc' := 17) (v := (-1 : Int32)) K dX11_base_16 (by decide) rfl ?_
    obtain rfl := Option.some.inj h
    exact HR _ _ dX11_base_17
  · have h := jif hc h
    refine j_iload_n (pc' := 8) K dX11_base_7 rfl 2 rfl rfl ?_
    refine j_iconst (pc' := 9) (v := (0 : Int32)) K dX11_base_8 (by decide) rfl ?_
    refine j_iconst (pc' := 10) (v := (3 : Int32)) K dX11_base_9 (by decide) rfl ?_
    obtain ⟨r10, hr10, h⟩ := jbd_some h
    refine j_ro (pc' := 13) K (fun H hP => jrun_S K dX11_base_10 (M_X11_within (jl E) (jg E) v2 (0 : Int32) (3 : Int32) hr10) u_1_76 u_1_217 u_1_75 u_1_1 ⟨ok_X11_within, by decide, by decide⟩ rfl (Nat.le_of_ble_eq_true rfl) H) [] rfl rfl ?_
    refine j_if_ne (pc' := 16) (tgt := 18) K dX11_base_13 (by decide) rfl (fun hc => ?_) (fun hc => ?_)
    · have h := jif hc h
      refine j_aload_n (pc' := 19) K dX11_base_18 rfl 0 rfl rfl ?_
      refine j_get (pc' := 22) K dX11_base_19 inX11 0 rfl rfl 4 (by decide) u_1_201 rfl rfl rfl ?_
      refine j_iload_n (pc' := 23) K dX11_base_22 rfl 1 rfl rfl ?_
      obtain ⟨hg, h⟩ := jgd_some h
      by_cases hc : v1 = 0
      · have h := jit hc h
        refine j_aald (pc' := 24) K dX11_base_23 43 6 rfl rfl hg (by rw [hc]; rfl) rfl ?_
        obtain ⟨r24, hr24, h⟩ := jbd_some h
        refine j_ro (pc' := 27) K (fun H hP => jrun_V K dX11_base_24 (M_X8_baseNow (jl E) (jg E) (a0 44) (a0 45) (a0 46) (X_poly0 s0) hr24) u_3_159 u_3_156 u_3_157 u_3_158 u_1_12 ⟨ok_X8_baseNow, by decide, by decide⟩ rfl (Nat.le_of_ble_eq_true rfl) 44 rfl rfl H hP) [44, 45, 46] rfl rfl ?_
        refine j_istore_n (pc' := 28) (lv' := [(3, .int r24), (0, .ref (a0 0)), (1, .int v1), (2, .int v2)]) K dX11_base_27 rfl (by decide) rfl rfl ?_
        refine j_aload_n (pc' := 29) K dX11_base_28 rfl 1 rfl rfl ?_
        refine j_get (pc' := 32) K dX11_base_29 inX11 0 rfl rfl 4 (by decide) u_1_201 rfl rfl rfl ?_
        refine j_iload_n (pc' := 33) K dX11_base_32 rfl 2 rfl rfl ?_
        obtain ⟨hg, h⟩ := jgd_some h
        by_cases hc : v1 = 0
        · have h := jit hc h
          refine j_aald (pc' := 34) K dX11_base_33 43 6 rfl rfl hg (by rw [hc]; rfl) rfl ?_
          refine j_iload_n (pc' := 35) K dX11_base_34 rfl 3 rfl rfl ?_
          obtain ⟨r35, hr35, h⟩ := jbd_some h
          refine j_rw (pc' := 38) (ws' := (wX (jg E) a0 (X_poly0_s s0 r35))) K (fun H hP => jrun_V K dX11_base_35 (M_X8_clearIn (jl E) (jg E) (a0 44) (a0 45) (a0 46) v2 (X_poly0 s0) hr35) u_3_163 u_3_160 u_3_161 u_3_162 u_1_12 ⟨ok_X8_clearIn, by decide, by decide⟩ rfl (Nat.le_of_ble_eq_true rfl) 44 rfl rfl H hP) hrw [44, 45, 46] rfl rfl rfl rfl rfl rfl ?_
          refine j_iload_n (pc' := 39) K dX11_base_38 rfl 0 rfl rfl ?_
          obtain rfl := Option.some.inj h
          exact HR _ _ dX11_base_39
        have hc0 := hc
        have h := jif hc h
        by_cases hc : v1 = 1
        · have h := jit hc h
          refine j_aald (pc' := 34) K dX11_base_33 43 6 rfl rfl hg (by rw [hc]; rfl) rfl ?_
          refine j_iload_n (pc' := 35) K dX11_base_34 rfl 3 rfl rfl ?_
          obtain ⟨r35, hr35, h⟩ := jbd_some h
          refine j_rw (pc' := 38) (ws' := (wX (jg E) a0 (X_poly1_s s0 r35))) K (fun H hP => jrun_V K dX11_base_35 (M_X8_clearIn (jl E) (jg E) (a0 47) (a0 48) (a0 49) v2 (X_poly1 s0) hr35) u_3_163 u_3_160 u_3_161 u_3_162 u_1_12 ⟨ok_X8_clearIn, by decide, by decide⟩ rfl (Nat.le_of_ble_eq_true rfl) 47 rfl rfl H hP) hrw [47, 48, 49] rfl rfl rfl rfl rfl rfl ?_
          refine j_iload_n (pc' := 39) K dX11_base_38 rfl 0 rfl rfl ?_
          obtain rfl := Option.some.inj h
          exact HR _ _ dX11_base_39
        have hc1 := hc
        have h := jif hc h
        by_cases hc : v1 = 2
        · have h := jit hc h
          refine j_aald (pc' := 34) K dX11_base_33 43 6 rfl rfl hg (by rw [hc]; rfl) rfl ?_
          refine j_iload_n (pc' := 35) K dX11_base_34 rfl 3 rfl rfl ?_
          obtain ⟨r35, hr35, h⟩ := jbd_some h
          refine j_rw (pc' := 38) (ws' := (wX (jg E) a0 (X_poly2_s s0 r35))) K (fun H hP => jrun_V K dX11_base_35 (M_X8_clearIn (jl E) (jg E) (a0 50) (a0 51) (a0 52) v2 (X_poly2 s0) hr35) u_3_163 u_3_160 u_3_161 u_3_162 u_1_12 ⟨ok_X8_clearIn, by decide, by decide⟩ rfl (Nat.le_of_ble_eq_true rfl) 50 rfl rfl H hP) hrw [50, 51, 52] rfl rfl rfl rfl rfl rfl ?_
          refine j_iload_n (pc' := 39) K dX11_base_38 rfl 0 rfl rfl ?_
          obtain rfl := Option.some.inj h
          exact HR _ _ dX11_base_39
        have hc2 := hc
        have h := jif hc h
        have hc : v1 = 3 := jin4 hg hc0 hc1 hc2
        refine j_aald (pc' := 34) K dX11_base_33 43 6 rfl rfl hg (by rw [hc]; rfl) rfl ?_
        refine j_iload_n (pc' := 35) K dX11_base_34 rfl 3 rfl rfl ?_
        obtain ⟨r35, hr35, h⟩ := jbd_some h
        refine j_rw (pc' := 38) (ws' := (wX (jg E) a0 (X_poly3_s s0 r35))) K (fun H hP => jrun_V K dX11_base_35 (M_X8_clearIn (jl E) (jg E) (a0 53) (a0 54) (a0 55) v2 (X_poly3 s0) hr35) u_3_163 u_3_160 u_3_161 u_3_162 u_1_12 ⟨ok_X8_clearIn, by decide, by decide⟩ rfl (Nat.le_of_ble_eq_true rfl) 53 rfl rfl H hP) hrw [53, 54, 55] rfl rfl rfl rfl rfl rfl ?_
        refine j_iload_n (pc' := 39) K dX11_base_38 rfl 0 rfl rfl ?_
        obtain rfl := Option.some.inj h
        exact HR _ _ dX11_base_39
      have hc0 := hc
      have h := jif hc h
      by_cases hc : v1 = 1
      · have h := jit hc h
        refine j_aald (pc' := 24) K dX11_base_23 43 6 rfl rfl hg (by rw [hc]; rfl) rfl ?_
        obtain ⟨r24, hr24, h⟩ := jbd_some h
        refine j_ro (pc' := 27) K (fun H hP => jrun_V K dX11_base_24 (M_X8_baseNow (jl E) (jg E) (a0 47) (a0 48) (a0 49) (X_poly1 s0) hr24) u_3_159 u_3_156 u_3_157 u_3_158 u_1_12 ⟨ok_X8_baseNow, by decide, by decide⟩ rfl (Nat.le_of_ble_eq_true rfl) 47 rfl rfl H hP) [47, 48, 49] rfl rfl ?_
        refine j_istore_n (pc' := 28) (lv' := [(3, .int r24), (0, .ref (a0 0)), (1, .int v1), (2, .int v2)]) K dX11_base_27 rfl (by decide) rfl rfl ?_
        refine j_aload_n (pc' := 29) K dX11_base_28 rfl 1 rfl rfl ?_
        refine j_get (pc' := 32) K dX11_base_29 inX11 0 rfl rfl 4 (by decide) u_1_201 rfl rfl rfl ?_
        refine j_iload_n (pc' := 33) K dX11_base_32 rfl 2 rfl rfl ?_
        obtain ⟨hg, h⟩ := jgd_some h
        by_cases hc : v1 = 0
        · have h := jit hc h
          refine j_aald (pc' := 34) K dX11_base_33 43 6 rfl rfl hg (by rw [hc]; rfl) rfl ?_
          refine j_iload_n (pc' := 35) K dX11_base_34 rfl 3 rfl rfl ?_
          obtain ⟨r35, hr35, h⟩ := jbd_some h
          refine j_rw (pc' := 38) (ws' := (wX (jg E) a0 (X_poly0_s s0 r35))) K (fun H hP => jrun_V K dX11_base_35 (M_X8_clearIn (jl E) (jg E) (a0 44) (a0 45) (a0 46) v2 (X_poly0 s0) hr35) u_3_163 u_3_160 u_3_161 u_3_162 u_1_12 ⟨ok_X8_clearIn, by decide, by decide⟩ rfl (Nat.le_of_ble_eq_true rfl) 44 rfl rfl H hP) hrw [44, 45, 46] rfl rfl rfl rfl rfl rfl ?_
          refine j_iload_n (pc' := 39) K dX11_base_38 rfl 0 rfl rfl ?_
          obtain rfl := Option.some.inj h
          exact HR _ _ dX11_base_39
        have hc0 := hc
        have h := jif hc h
        by_cases hc : v1 = 1
        · have h := jit hc h
          refine j_aald (pc' := 34) K dX11_base_33 43 6 rfl rfl hg (by rw [hc]; rfl) rfl ?_
          refine j_iload_n (pc' := 35) K dX11_base_34 rfl 3 rfl rfl ?_
          obtain ⟨r35, hr35, h⟩ := jbd_some h
          refine j_rw (pc' := 38) (ws' := (wX (jg E) a0 (X_poly1_s s0 r35))) K (fun H hP => jrun_V K dX11_base_35 (M_X8_clearIn (jl E) (jg E) (a0 47) (a0 48) (a0 49) v2 (X_poly1 s0) hr35) u_3_163 u_3_160 u_3_161 u_3_162 u_1_12 ⟨ok_X8_clearIn, by decide, by decide⟩ rfl (Nat.le_of_ble_eq_true rfl) 47 rfl rfl H hP) hrw [47, 48, 49] rfl rfl rfl rfl rfl rfl ?_
          refine j_iload_n (pc' := 39) K dX11_base_38 rfl 0 rfl rfl ?_
          obtain rfl := Option.some.inj h
          exact HR _ _ dX11_base_39
        have hc1 := hc
        have h := jif hc h
        by_cases hc : v1 = 2
        · have h := jit hc h
          refine j_aald (pc' := 34) K dX11_base_33 43 6 rfl rfl hg (by rw [hc]; rfl) rfl ?_
          refine j_iload_n (pc' := 35) K dX11_base_34 rfl 3 rfl rfl ?_
          obtain ⟨r35, hr35, h⟩ := jbd_some h
          refine j_rw (pc' := 38) (ws' := (wX (jg E) a0 (X_poly2_s s0 r35))) K (fun H hP => jrun_V K dX11_base_35 (M_X8_clearIn (jl E) (jg E) (a0 50) (a0 51) (a0 52) v2 (X_poly2 s0) hr35) u_3_163 u_3_160 u_3_161 u_3_162 u_1_12 ⟨ok_X8_clearIn, by decide, by decide⟩ rfl (Nat.le_of_ble_eq_true rfl) 50 rfl rfl H hP) hrw [50, 51, 52] rfl rfl rfl rfl rfl rfl ?_
          refine j_iload_n (pc' := 39) K dX11_base_38 rfl 0 rfl rfl ?_
          obtain rfl := Option.some.inj h
          exact HR _ _ dX11_base_39
        have hc2 := hc
        have h := jif hc h
        have hc : v1 = 3 := jin4 hg hc0 hc1 hc2
        refine j_aald (pc' := 34) K dX11_base_33 43 6 rfl rfl hg (by rw [hc]; rfl) rfl ?_
        refine j_iload_n (pc' := 35) K dX11_base_34 rfl 3 rfl rfl ?_
        obtain ⟨r35, hr35, h⟩ := jbd_some h
        refine j_rw (pc' := 38) (ws' := (wX (jg E) a0 (X_poly3_s s0 r35))) K (fun H hP => jrun_V K dX11_base_35 (M_X8_clearIn (jl E) (jg E) (a0 53) (a0 54) (a0 55) v2 (X_poly3 s0) hr35) u_3_163 u_3_160 u_3_161 u_3_162 u_1_12 ⟨ok_X8_clearIn, by decide, by decide⟩ rfl (Nat.le_of_ble_eq_true rfl) 53 rfl rfl H hP) hrw [53, 54, 55] rfl rfl rfl rfl rfl rfl ?_
        refine j_iload_n (pc' := 39) K dX11_base_38 rfl 0 rfl rfl ?_
        obtain rfl := Option.some.inj h
        exact HR _ _ dX11_base_39
      have hc1 := hc
      have h := jif hc h
      by_cases hc : v1 = 2
      · have h := jit hc h
        refine j_aald (pc' := 24) K dX11_base_23 43 6 rfl rfl hg (by rw [hc]; rfl) rfl ?_
        obtain ⟨r24, hr24, h⟩ := jbd_some h
        refine j_ro (pc' := 27) K (fun H hP => jrun_V K dX11_base_24 (M_X8_baseNow (jl E) (jg E) (a0 50) (a0 51) (a0 52) (X_poly2 s0) hr24) u_3_159 u_3_156 u_3_157 u_3_158 u_1_12 ⟨ok_X8_baseNow, by decide, by decide⟩ rfl (Nat.le_of_ble_eq_true rfl) 50 rfl rfl H hP) [50, 51, 52] rfl rfl ?_
        refine j_istore_n (pc' := 28) (lv' := [(3, .int r24), (0, .ref (a0 0)), (1, .int v1), (2, .int v2)]) K dX11_base_27 rfl (by decide) rfl rfl ?_
        refine j_aload_n (pc' := 29) K dX11_base_28 rfl 1 rfl rfl ?_
        refine j_get (pc' := 32) K dX11_base_29 inX11 0 rfl rfl 4 (by decide) u_1_201 rfl rfl rfl ?_
        refine j_iload_n (pc' := 33) K dX11_base_32 rfl 2 rfl rfl ?_
        obtain ⟨hg, h⟩ := jgd_some h
        by_cases hc : v1 = 0
        · have h := jit hc h
          refine j_aald (pc' := 34) K dX11_base_33 43 6 rfl rfl hg (by rw [hc]; rfl) rfl ?_
          refine j_iload_n (pc' := 35) K dX11_base_34 rfl 3 rfl rfl ?_
          obtain ⟨r35, hr35, h⟩ := jbd_some h
          refine j_rw (pc' := 38) (ws' := (wX (jg E) a0 (X_poly0_s s0 r35))) K (fun H hP => jrun_V K dX11_base_35 (M_X8_clearIn (jl E) (jg E) (a0 44) (a0 45) (a0 46) v2 (X_poly0 s0) hr35) u_3_163 u_3_160 u_3_161 u_3_162 u_1_12 ⟨ok_X8_clearIn, by decide, by decide⟩ rfl (Nat.le_of_ble_eq_true rfl) 44 rfl rfl H hP) hrw [44, 45, 46] rfl rfl rfl rfl rfl rfl ?_
          refine j_iload_n (pc' := 39) K dX11_base_38 rfl 0 rfl rfl ?_
          obtain rfl := Option.some.inj h
          exact HR _ _ dX11_base_39
        have hc0 := hc
        have h := jif hc h
        by_cases hc : v1 = 1
        · have h := jit hc h
          refine j_aald (pc' := 34) K dX11_base_33 43 6 rfl rfl hg (by rw [hc]; rfl) rfl ?_
          refine j_iload_n (pc' := 35) K dX11_base_34 rfl 3 rfl rfl ?_
          obtain ⟨r35, hr35, h⟩ := jbd_some h
          refine j_rw (pc' := 38) (ws' := (wX (jg E) a0 (X_poly1_s s0 r35))) K (fun H hP => jrun_V K dX11_base_35 (M_X8_clearIn (jl E) (jg E) (a0 47) (a0 48) (a0 49) v2 (X_poly1 s0) hr35) u_3_163 u_3_160 u_3_161 u_3_162 u_1_12 ⟨ok_X8_clearIn, by decide, by decide⟩ rfl (Nat.le_of_ble_eq_true rfl) 47 rfl rfl H hP) hrw [47, 48, 49] rfl rfl rfl rfl rfl rfl ?_
          refine j_iload_n (pc' := 39) K dX11_base_38 rfl 0 rfl rfl ?_
          obtain rfl := Option.some.inj h
          exact HR _ _ dX11_base_39
        have hc1 := hc
        have h := jif hc h
        by_cases hc : v1 = 2
        · have h := jit hc h
          refine j_aald (pc' := 34) K dX11_base_33 43 6 rfl rfl hg (by rw [hc]; rfl) rfl ?_
          refine j_iload_n (pc' := 35) K dX11_base_34 rfl 3 rfl rfl ?_
          obtain ⟨r35, hr35, h⟩ := jbd_some h
          refine j_rw (pc' := 38) (ws' := (wX (jg E) a0 (X_poly2_s s0 r35))) K (fun H hP => jrun_V K dX11_base_35 (M_X8_clearIn (jl E) (jg E) (a0 50) (a0 51) (a0 52) v2 (X_poly2 s0) hr35) u_3_163 u_3_160 u_3_161 u_3_162 u_1_12 ⟨ok_X8_clearIn, by decide, by decide⟩ rfl (Nat.le_of_ble_eq_true rfl) 50 rfl rfl H hP) hrw [50, 51, 52] rfl rfl rfl rfl rfl rfl ?_
          refine j_iload_n (pc' := 39) K dX11_base_38 rfl 0 rfl rfl ?_
          obtain rfl := Option.some.inj h
          exact HR _ _ dX11_base_39
        have hc2 := hc
        have h := jif hc h
        have hc : v1 = 3 := jin4 hg hc0 hc1 hc2
        refine j_aald (pc' := 34) K dX11_base_33 43 6 rfl rfl hg (by rw [hc]; rfl) rfl ?_
        refine j_iload_n (pc' := 35) K dX11_base_34 rfl 3 rfl rfl ?_
        obtain ⟨r35, hr35, h⟩ := jbd_some h
        refine j_rw (pc' := 38) (ws' := (wX (jg E) a0 (X_poly3_s s0 r35))) K (fun H hP => jrun_V K dX11_base_35 (M_X8_clearIn (jl E) (jg E) (a0 53) (a0 54) (a0 55) v2 (X_poly3 s0) hr35) u_3_163 u_3_160 u_3_161 u_3_162 u_1_12 ⟨ok_X8_clearIn, by decide, by decide⟩ rfl (Nat.le_of_ble_eq_true rfl) 53 rfl rfl H hP) hrw [53, 54, 55] rfl rfl rfl rfl rfl rfl ?_
        refine j_iload_n (pc' := 39) K dX11_base_38 rfl 0 rfl rfl ?_
        obtain rfl := Option.some.inj h
        exact HR _ _ dX11_base_39
      have hc2 := hc
      have h := jif hc h
      have hc : v1 = 3 := jin4 hg hc0 hc1 hc2
      refine j_aald (pc' := 24) K dX11_base_23 43 6 rfl rfl hg (by rw [hc]; rfl) rfl ?_
      obtain ⟨r24, hr24, h⟩ := jbd_some h
      refine j_ro (pc' := 27) K (fun H hP => jrun_V K dX11_base_24 (M_X8_baseNow (jl E) (jg E) (a0 53) (a0 54) (a0 55) (X_poly3 s0) hr24) u_3_159 u_3_156 u_3_157 u_3_158 u_1_12 ⟨ok_X8_baseNow, by decide, by decide⟩ rfl (Nat.le_of_ble_eq_true rfl) 53 rfl rfl H hP) [53, 54, 55] rfl rfl ?_
      refine j_istore_n (pc' := 28) (lv' := [(3, .int r24), (0, .ref (a0 0)), (1, .int v1), (2, .int v2)]) K dX11_base_27 rfl (by decide) rfl rfl ?_
      refine j_aload_n (pc' := 29) K dX11_base_28 rfl 1 rfl rfl ?_
      refine j_get (pc' := 32) K dX11_base_29 inX11 0 rfl rfl 4 (by decide) u_1_201 rfl rfl rfl ?_
      refine j_iload_n (pc' := 33) K dX11_base_32 rfl 2 rfl rfl ?_
      obtain ⟨hg, h⟩ := jgd_some h
      by_cases hc : v1 = 0
      · have h := jit hc h
        refine j_aald (pc' := 34) K dX11_base_33 43 6 rfl rfl hg (by rw [hc]; rfl) rfl ?_
        refine j_iload_n (pc' := 35) K dX11_base_34 rfl 3 rfl rfl ?_
        obtain ⟨r35, hr35, h⟩ := jbd_some h
        refine j_rw (pc' := 38) (ws' := (wX (jg E) a0 (X_poly0_s s0 r35))) K (fun H hP => jrun_V K dX11_base_35 (M_X8_clearIn (jl E) (jg E) (a0 44) (a0 45) (a0 46) v2 (X_poly0 s0) hr35) u_3_163 u_3_160 u_3_161 u_3_162 u_1_12 ⟨ok_X8_clearIn, by decide, by decide⟩ rfl (Nat.le_of_ble_eq_true rfl) 44 rfl rfl H hP) hrw [44, 45, 46] rfl rfl rfl rfl rfl rfl ?_
        refine j_iload_n (pc' := 39) K dX11_base_38 rfl 0 rfl rfl ?_
        obtain rfl := Option.some.inj h
        exact HR _ _ dX11_base_39
      have hc0 := hc
      have h := jif hc h
      by_cases hc : v1 = 1
      · have h := jit hc h
        refine j_aald (pc' := 34) K dX11_base_33 43 6 rfl rfl hg (by rw [hc]; rfl) rfl ?_
        refine j_iload_n (pc' := 35) K dX11_base_34 rfl 3 rfl rfl ?_
        obtain ⟨r35, hr35, h⟩ := jbd_some h
        refine j_rw (pc' := 38) (ws' := (wX (jg E) a0 (X_poly1_s s0 r35))) K (fun H hP => jrun_V K dX11_base_35 (M_X8_clearIn (jl E) (jg E) (a0 47) (a0 48) (a0 49) v2 (X_poly1 s0) hr35) u_3_163 u_3_160 u_3_161 u_3_162 u_1_12 ⟨ok_X8_clearIn, by decide, by decide⟩ rfl (Nat.le_of_ble_eq_true rfl) 47 rfl rfl H hP) hrw [47, 48, 49] rfl rfl rfl rfl rfl rfl ?_
        refine j_iload_n (pc' := 39) K dX11_base_38 rfl 0 rfl rfl ?_
        obtain rfl := Option.some.inj h
        exact HR _ _ dX11_base_39
      have hc1 := hc
      have h := jif hc h
      by_cases hc : v1 = 2
      · have h := jit hc h
        refine j_aald (pc' := 34) K dX11_base_33 43 6 rfl rfl hg (by rw [hc]; rfl) rfl ?_
        refine j_iload_n (pc' := 35) K dX11_base_34 rfl 3 rfl rfl ?_
        obtain ⟨r35, hr35, h⟩ := jbd_some h
        refine j_rw (pc' := 38) (ws' := (wX (jg E) a0 (X_poly2_s s0 r35))) K (fun H hP => jrun_V K dX11_base_35 (M_X8_clearIn (jl E) (jg E) (a0 50) (a0 51) (a0 52) v2 (X_poly2 s0) hr35) u_3_163 u_3_160 u_3_161 u_3_162 u_1_12 ⟨ok_X8_clearIn, by decide, by decide⟩ rfl (Nat.le_of_ble_eq_true rfl) 50 rfl rfl H hP) hrw [50, 51, 52] rfl rfl rfl rfl rfl rfl ?_
        refine j_iload_n (pc' := 39) K dX11_base_38 rfl 0 rfl rfl ?_
        obtain rfl := Option.some.inj h
        exact HR _ _ dX11_base_39
      have hc2 := hc
      have h := jif hc h
      have hc : v1 = 3 := jin4 hg hc0 hc1 hc2
      refine j_aald (pc' := 34) K dX11_base_33 43 6 rfl rfl hg (by rw [hc]; rfl) rfl ?_
      refine j_iload_n (pc' := 35) K dX11_base_34 rfl 3 rfl rfl ?_
      obtain ⟨r35, hr35, h⟩ := jbd_some h
      refine j_rw (pc' := 38) (ws' := (wX (jg E) a0 (X_poly3_s s0 r35))) K (fun H hP => jrun_V K dX11_base_35 (M_X8_clearIn (jl E) (jg E) (a0 53) (a0 54) (a0 55) v2 (X_poly3 s0) hr35) u_3_163 u_3_160 u_3_161 u_3_162 u_1_12 ⟨ok_X8_clearIn, by decide, by decide⟩ rfl (Nat.le_of_ble_eq_true rfl) 53 rfl rfl H hP) hrw [53, 54, 55] rfl rfl rfl rfl rfl rfl ?_
      refine j_iload_n (pc' := 39) K dX11_base_38 rfl 0 rfl rfl ?_
      obtain rfl := Option.some.inj h
      exact HR _ _ dX11_base_39
    · have h := jit hc h
      refine j_iconst (pc' := 17) (v := (-1 : Int32)) K dX11_base_16 (by decide) rfl ?_
      obtain rfl := Option.some.inj h
      exact HR _ _ dX11_base_17
set_option maxRecDepth 100000 in
set_option maxHeartbeats 4000000 in
theorem M_X11_base (l : Launch) (G : jG) (a0 : Nat → Nat) (v1 : Int32) (v2 : Int32) (s0 : XS) {r : Int32 × XS} (h : f_X11_base v1 v2 s0 = some r) : MC l yX11_base cX11_base 4 (some .int) 2 G (jad (wX G a0 s0)) True (wX G a0 s0) (wX G a0 (r.2)) [.ref (a0 0), .int v1, .int v2] (some (.int (r.1))) := by
  refine mc_int (by decide +kernel) (Nat.le_of_ble_eq_true rfl) fun E hl hg hA hrw K HR => ?_
  subst hl
  subst hg
  have hrw : jrw E := by rw [hrw]; trivial
  exact b_X11_base a0 K hrw HR v1 v2 s0 h
theorem ok_X11_set : yX11_set.cls ≠ "java/lang/invoke/MethodHandle" ∧ yX11_set.cls ≠ "java/lang/invoke/VarHandle" ∧ (parseMethodDescriptor yX11_set.desc).map (fun d => d.parameters.length) = some 3 := ⟨by decide, by decide, by decide +kernel⟩
def f_X11_set (v1 : Int32) (v2 : Int32) (v3 : Int64) (s0 : XS) : Option (Int64 × XS) :=
   jbd (f_X11_isPolynomial v1) (fun r1 =>
   if r1 = 0 then
    some ((-1000000000000000001 : Int64), s0)
   else
    jbd (f_X11_within v2 (0 : Int32) (8 : Int32)) (fun r11 =>
     if r11 = 0 then
      some ((-1000000000000000001 : Int64), s0)
     else
      jbd (f_X11_beyond v3 (1000000 : Int64)) (fun r21 =>
       if r21 = 0 then
        jgd v1 4 (
         if v1 = 0 then (
          jbd (f_X8_at v2 (X_poly0 s0)) (fun r38 =>
           jgd v1 4 (
            if v1 = 0 then (
             jbd (f_X8_put v2 v3 (X_poly0 s0)) (fun r51 =>
              some (r38, (X_poly0_s s0 r51)))) else if v1 = 1 then (
             jbd (f_X8_put v2 v3 (X_poly1 s0)) (fun r51 =>
              some (r38, (X_poly1_s s0 r51)))) else if v1 = 2 then (
             jbd (f_X8_put v2 v3 (X_poly2 s0)) (fun r51 =>
              some (r38, (X_poly2_s s0 r51)))) else (
             jbd (f_X8_put v2 v3 (X_poly3 s0)) (fun r51 =>
              some (r38, (X_poly3_s s0 r51))))))) else if v1 = 1 then (
          jbd (f_X8_at v2 (X_poly1 s0)) (fun r38 =>
           jgd v1 4 (
            if v1 = 0 then (
             jbd (f_X8_put v2 v3 (X_poly0 s0)) (fun r51 =>
              some (r38, (X_poly0_s s0 r51)))) else if v1 = 1 then (
             jbd (f_X8_put v2 v3 (X_poly1 s0)) (fun r51 =>
              some (r38, (X_poly1_s s0 r51)))) else if v1 = 2 then (
             jbd (f_X8_put v2 v3 (X_poly2 s0)) (fun r51 =>
              some (r38, (X_poly2_s s0 r51)))) else (
             jbd (f_X8_put v2 v3 (X_poly3 s0)) (fun r51 =>
              some (r38, (X_poly3_s s0 r51))))))) else if v1 = 2 then (
          jbd (f_X8_at v2 (X_poly2 s0)) (fun r38 =>
           jgd v1 4 (
            if v1 = 0 then (
             jbd (f_X8_put v2 v3 (X_poly0 s0)) (fun r51 =>
              some (r38, (X_poly0_s s0 r51)))) else if v1 = 1 then (
             jbd (f_X8_put v2 v3 (X_poly1 s0)) (fun r51 =>
              some (r38, (X_poly1_s s0 r51)))) else if v1 = 2 then (
             jbd (f_X8_put v2 v3 (X_poly2 s0)) (fun r51 =>
              some (r38, (X_poly2_s s0 r51)))) else (
             jbd (f_X8_put v2 v3 (X_poly3 s0)) (fun r51 =>
              some (r38, (X_poly3_s s0 r51))))))) else (
          jbd (f_X8_at v2 (X_poly3 s0)) (fun r38 =>
           jgd v1 4 (
            if v1 = 0 then (
             jbd (f_X8_put v2 v3 (X_poly0 s0)) (fun r51 =>
              some (r38, (X_poly0_s s0 r51)))) else if v1 = 1 then (
             jbd (f_X8_put v2 v3 (X_poly1 s0)) (fun r51 =>
              some (r38, (X_poly1_s s0 r51)))) else if v1 = 2 then (
             jbd (f_X8_put v2 v3 (X_poly2 s0)) (fun r51 =>
              some (r38, (X_poly2_s s0 r51)))) else (
             jbd (f_X8_put v2 v3 (X_poly3 s0)) (fun r51 =>
              some (r38, (X_poly3_s s0 r51))))))))
       else
        some ((-1000000000000000001 : Int64), s0))))
set_option maxRecDepth 100000 in
set_option maxHeartbeats 4000000 in
theorem b_X11_set {E : jE} (a0 : Nat → Nat) {res : Int64 × XS} (K : jC E cX11_set 7 RX11 2) (hrw : jrw E) (HR : jRL E cX11_set 7 (wX (jg E) a0 (res.2)) (res.1)) : ∀ (v1 : Int32) (v2 : Int32) (v3 : Int64) (s0 : XS), f_X11_set v1 v2 v3 s0 = some res → J E 7 (wX (jg E) a0 s0) 0 [(0, .ref (a0 0)), (1, .int v1), (2, .int v2), (3, .long v3)] [] := by
  intro v1 v2 v3 s0 h
  unfold f_X11_set at h
  refine j_iload_n (pc' := 1) K dX11_set_0 rfl 1 rfl rfl ?_
  obtain ⟨r1, hr1, h⟩ := jbd_some h
  refine j_ro (pc' := 4) K (fun H hP => jrun_S K dX11_set_1 (M_X11_isPolynomial (jl E) (jg E) v1 hr1) u_3_155 u_3_153 u_3_154 u_1_1 ⟨ok_X11_isPolynomial, by decide, by decide⟩ rfl (Nat.le_of_ble_eq_true rfl) H) [] rfl rfl ?_
  refine j_if_eq (pc' := 7) (tgt := 27) K dX11_set_4 (by decide) rfl (fun hc => ?_) (fun hc => ?_)
  · have h := jit hc h
    refine j_ldc2 (pc' := 30) K dX11_set_27 u_2_90 rfl ?_
    obtain rfl := Option.some.inj h
    exact HR _ _ dX11_set_30
  · have h := jif hc h
    refine j_iload_n (pc' := 8) K dX11_set_7 rfl 2 rfl rfl ?_
    refine j_iconst (pc' := 9) (v := (0 : Int32)) K dX11_set_8 (by decide) rfl ?_
    refine j_bipush (pc' := 11) (v := (8 : Int32)) K dX11_set_9 (by decide) rfl ?_
    obtain ⟨r11, hr11, h⟩ := jbd_some h
    refine j_ro (pc' := 14) K (fun H hP => jrun_S K dX11_set_11 (M_X11_within (jl E) (jg E) v2 (0 : Int32) (8 : Int32) hr11) u_1_76 u_1_217 u_1_75 u_1_1 ⟨ok_X11_within, by decide, by decide⟩ rfl (Nat.le_of_ble_eq_true rfl) H) [] rfl rfl ?_
    refine j_if_eq (pc' := 17) (tgt := 27) K dX11_set_14 (by decide) rfl (fun hc => ?_) (fun hc => ?_)
    · have h := jit hc h
      refine j_ldc2 (pc' := 30) K dX11_set_27 u_2_90 rfl ?_
      obtain rfl := Option.some.inj h
      exact HR _ _ dX11_set_30
    · have h := jif hc h
      refine j_lload_n (pc' := 18) K dX11_set_17 rfl 3 rfl rfl ?_
      refine j_ldc2 (pc' := 21) K dX11_set_18 u_3_171 rfl ?_
      obtain ⟨r21, hr21, h⟩ := jbd_some h
      refine j_ro (pc' := 24) K (fun H hP => jrun_S K dX11_set_21 (M_X11_beyond (jl E) (jg E) v3 (1000000 : Int64) hr21) u_2_80 u_3_172 u_2_79 u_1_1 ⟨ok_X11_beyond, by decide, by decide⟩ rfl (Nat.le_of_ble_eq_true rfl) H) [] rfl rfl ?_
      refine j_if_eq (pc' := 27) (tgt := 31) K dX11_set_24 (by decide) rfl (fun hc => ?_) (fun hc => ?_)
      · have h := jit hc h
        refine j_aload_n (pc' := 32) K dX11_set_31 rfl 0 rfl rfl ?_
        refine j_get (pc' := 35) K dX11_set_32 inX11 0 rfl rfl 4 (by decide) u_1_201 rfl rfl rfl ?_
        refine j_iload_n (pc' := 36) K dX11_set_35 rfl 1 rfl rfl ?_
        obtain ⟨hg, h⟩ := jgd_some h
        by_cases hc : v1 = 0
        · have h := jit hc h
          refine j_aald (pc' := 37) K dX11_set_36 43 6 rfl rfl hg (by rw [hc]; rfl) rfl ?_
          refine j_iload_n (pc' := 38) K dX11_set_37 rfl 2 rfl rfl ?_
          obtain ⟨r38, hr38, h⟩ := jbd_some h
          refine j_ro (pc' := 41) K (fun H hP => jrun_V K dX11_set_38 (M_X8_at (jl E) (jg E) (a0 44) (a0 45) (a0 46) v2 (X_poly0 s0) hr38) u_3_176 u_3_173 u_3_174 u_3_175 u_1_12 ⟨ok_X8_at, by decide, by decide⟩ rfl (Nat.le_of_ble_eq_true rfl) 44 rfl rfl H hP) [44, 45, 46] rfl rfl ?_
          refine j_lstore (pc' := 43) (lv' := [(5, .long r38), (0, .ref (a0 0)), (1, .int v1), (2, .int v2), (3, .long v3)]) K dX11_set_41 (by decide) rfl rfl ?_
          refine j_aload_n (pc' := 44) K dX11_set_43 rfl 1 rfl rfl ?_
          refine j_get (pc' := 47) K dX11_set_44 inX11 0 rfl rfl 4 (by decide) u_1_201 rfl rfl rfl ?_
          refine j_iload_n (pc' := 48) K dX11_set_47 rfl 2 rfl rfl ?_
          obtain ⟨hg, h⟩ := jgd_some h
          by_cases hc : v1 = 0
          · have h := jit hc h
            refine j_aald (pc' := 49) K dX11_set_48 43 6 rfl rfl hg (by rw [hc]; rfl) rfl ?_
            refine j_iload_n (pc' := 50) K dX11_set_49 rfl 3 rfl rfl ?_
            refine j_lload_n (pc' := 51) K dX11_set_50 rfl 4 rfl rfl ?_
            obtain ⟨r51, hr51, h⟩ := jbd_some h
            refine j_rw (pc' := 54) (ws' := (wX (jg E) a0 (X_poly0_s s0 r51))) K (fun H hP => jrun_V K dX11_set_51 (M_X8_put (jl E) (jg E) (a0 44) (a0 45) (a0 46) v2 v3 (X_poly0 s0) hr51) u_3_181 u_3_178 u_3_179 u_3_180 u_1_12 ⟨ok_X8_put, by decide, by decide⟩ rfl (Nat.le_of_ble_eq_true rfl) 44 rfl rfl H hP) hrw [44, 45, 46] rfl rfl rfl rfl rfl rfl ?_
            refine j_lload (pc' := 56) K dX11_set_54 0 rfl rfl ?_
            obtain rfl := Option.some.inj h
            exact HR _ _ dX11_set_56
          have hc0 := hc
          have h := jif hc h
          by_cases hc : v1 = 1
          · have h := jit hc h
            refine j_aald (pc' := 49) K dX11_set_48 43 6 rfl rfl hg (by rw [hc]; rfl) rfl ?_
            refine j_iload_n (pc' := 50) K dX11_set_49 rfl 3 rfl rfl ?_
            refine j_lload_n (pc' := 51) K dX11_set_50 rfl 4 rfl rfl ?_
            obtain ⟨r51, hr51, h⟩ := jbd_some h
            refine j_rw (pc' := 54) (ws' := (wX (jg E) a0 (X_poly1_s s0 r51))) K (fun H hP => jrun_V K dX11_set_51 (M_X8_put (jl E) (jg E) (a0 47) (a0 48) (a0 49) v2 v3 (X_poly1 s0) hr51) u_3_181 u_3_178 u_3_179 u_3_180 u_1_12 ⟨ok_X8_put, by decide, by decide⟩ rfl (Nat.le_of_ble_eq_true rfl) 47 rfl rfl H hP) hrw [47, 48, 49] rfl rfl rfl rfl rfl rfl ?_
            refine j_lload (pc' := 56) K dX11_set_54 0 rfl rfl ?_
            obtain rfl := Option.some.inj h
            exact HR _ _ dX11_set_56
          have hc1 := hc
          have h := jif hc h
          by_cases hc : v1 = 2
          · have h := jit hc h
            refine j_aald (pc' := 49) K dX11_set_48 43 6 rfl rfl hg (by rw [hc]; rfl) rfl ?_
            refine j_iload_n (pc' := 50) K dX11_set_49 rfl 3 rfl rfl ?_
            refine j_lload_n (pc' := 51) K dX11_set_50 rfl 4 rfl rfl ?_
            obtain ⟨r51, hr51, h⟩ := jbd_some h
            refine j_rw (pc' := 54) (ws' := (wX (jg E) a0 (X_poly2_s s0 r51))) K (fun H hP => jrun_V K dX11_set_51 (M_X8_put (jl E) (jg E) (a0 50) (a0 51) (a0 52) v2 v3 (X_poly2 s0) hr51) u_3_181 u_3_178 u_3_179 u_3_180 u_1_12 ⟨ok_X8_put, by decide, by decide⟩ rfl (Nat.le_of_ble_eq_true rfl) 50 rfl rfl H hP) hrw [50, 51, 52] rfl rfl rfl rfl rfl rfl ?_
            refine j_lload (pc' := 56) K dX11_set_54 0 rfl rfl ?_
            obtain rfl := Option.some.inj h
            exact HR _ _ dX11_set_56
          have hc2 := hc
          have h := jif hc h
          have hc : v1 = 3 := jin4 hg hc0 hc1 hc2
          refine j_aald (pc' := 49) K dX11_set_48 43 6 rfl rfl hg (by rw [hc]; rfl) rfl ?_
          refine j_iload_n (pc' := 50) K dX11_set_49 rfl 3 rfl rfl ?_
          refine j_lload_n (pc' := 51) K dX11_set_50 rfl 4 rfl rfl ?_
          obtain ⟨r51, hr51, h⟩ := jbd_some h
          refine j_rw (pc' := 54) (ws' := (wX (jg E) a0 (X_poly3_s s0 r51))) K (fun H hP => jrun_V K dX11_set_51 (M_X8_put (jl E) (jg E) (a0 53) (a0 54) (a0 55) v2 v3 (X_poly3 s0) hr51) u_3_181 u_3_178 u_3_179 u_3_180 u_1_12 ⟨ok_X8_put, by decide, by decide⟩ rfl (Nat.le_of_ble_eq_true rfl) 53 rfl rfl H hP) hrw [53, 54, 55] rfl rfl rfl rfl rfl rfl ?_
          refine j_lload (pc' := 56) K dX11_set_54 0 rfl rfl ?_
          obtain rfl := Option.some.inj h
          exact HR _ _ dX11_set_56
        have hc0 := hc
        have h := jif hc h
        by_cases hc : v1 = 1
        · have h := jit hc h
          refine j_aald (pc' := 37) K dX11_set_36 43 6 rfl rfl hg (by rw [hc]; rfl) rfl ?_
          refine j_iload_n (pc' := 38) K dX11_set_37 rfl 2 rfl rfl ?_
          obtain ⟨r38, hr38, h⟩ := jbd_some h
          refine j_ro (pc' := 41) K (fun H hP => jrun_V K dX11_set_38 (M_X8_at (jl E) (jg E) (a0 47) (a0 48) (a0 49) v2 (X_poly1 s0) hr38) u_3_176 u_3_173 u_3_174 u_3_175 u_1_12 ⟨ok_X8_at, by decide, by decide⟩ rfl (Nat.le_of_ble_eq_true rfl) 47 rfl rfl H hP) [47, 48, 49] rfl rfl ?_
          refine j_lstore (pc' := 43) (lv' := [(5, .long r38), (0, .ref (a0 0)), (1, .int v1), (2, .int v2), (3, .long v3)]) K dX11_set_41 (by decide) rfl rfl ?_
          refine j_aload_n (pc' := 44) K dX11_set_43 rfl 1 rfl rfl ?_
          refine j_get (pc' := 47) K dX11_set_44 inX11 0 rfl rfl 4 (by decide) u_1_201 rfl rfl rfl ?_
          refine j_iload_n (pc' := 48) K dX11_set_47 rfl 2 rfl rfl ?_
          obtain ⟨hg, h⟩ := jgd_some h
          by_cases hc : v1 = 0
          · have h := jit hc h
            refine j_aald (pc' := 49) K dX11_set_48 43 6 rfl rfl hg (by rw [hc]; rfl) rfl ?_
            refine j_iload_n (pc' := 50) K dX11_set_49 rfl 3 rfl rfl ?_
            refine j_lload_n (pc' := 51) K dX11_set_50 rfl 4 rfl rfl ?_
            obtain ⟨r51, hr51, h⟩ := jbd_some h
            refine j_rw (pc' := 54) (ws' := (wX (jg E) a0 (X_poly0_s s0 r51))) K (fun H hP => jrun_V K dX11_set_51 (M_X8_put (jl E) (jg E) (a0 44) (a0 45) (a0 46) v2 v3 (X_poly0 s0) hr51) u_3_181 u_3_178 u_3_179 u_3_180 u_1_12 ⟨ok_X8_put, by decide, by decide⟩ rfl (Nat.le_of_ble_eq_true rfl) 44 rfl rfl H hP) hrw [44, 45, 46] rfl rfl rfl rfl rfl rfl ?_
            refine j_lload (pc' := 56) K dX11_set_54 0 rfl rfl ?_
            obtain rfl := Option.some.inj h
            exact HR _ _ dX11_set_56
          have hc0 := hc
          have h := jif hc h
          by_cases hc : v1 = 1
          · have h := jit hc h
            refine j_aald (pc' := 49) K dX11_set_48 43 6 rfl rfl hg (by rw [hc]; rfl) rfl ?_
            refine j_iload_n (pc' := 50) K dX11_set_49 rfl 3 rfl rfl ?_
            refine j_lload_n (pc' := 51) K dX11_set_50 rfl 4 rfl rfl ?_
            obtain ⟨r51, hr51, h⟩ := jbd_some h
            refine j_rw (pc' := 54) (ws' := (wX (jg E) a0 (X_poly1_s s0 r51))) K (fun H hP => jrun_V K dX11_set_51 (M_X8_put (jl E) (jg E) (a0 47) (a0 48) (a0 49) v2 v3 (X_poly1 s0) hr51) u_3_181 u_3_178 u_3_179 u_3_180 u_1_12 ⟨ok_X8_put, by decide, by decide⟩ rfl (Nat.le_of_ble_eq_true rfl) 47 rfl rfl H hP) hrw [47, 48, 49] rfl rfl rfl rfl rfl rfl ?_
            refine j_lload (pc' := 56) K dX11_set_54 0 rfl rfl ?_
            obtain rfl := Option.some.inj h
            exact HR _ _ dX11_set_56
          have hc1 := hc
          have h := jif hc h
          by_cases hc : v1 = 2
          · have h := jit hc h
            refine j_aald (pc' := 49) K dX11_set_48 43 6 rfl rfl hg (by rw [hc]; rfl) rfl ?_
            refine j_iload_n (pc' := 50) K dX11_set_49 rfl 3 rfl rfl ?_
            refine j_lload_n (pc' := 51) K dX11_set_50 rfl 4 rfl rfl ?_
            obtain ⟨r51, hr51, h⟩ := jbd_some h
            refine j_rw (pc' := 54) (ws' := (wX (jg E) a0 (X_poly2_s s0 r51))) K (fun H hP => jrun_V K dX11_set_51 (M_X8_put (jl E) (jg E) (a0 50) (a0 51) (a0 52) v2 v3 (X_poly2 s0) hr51) u_3_181 u_3_178 u_3_179 u_3_180 u_1_12 ⟨ok_X8_put, by decide, by decide⟩ rfl (Nat.le_of_ble_eq_true rfl) 50 rfl rfl H hP) hrw [50, 51, 52] rfl rfl rfl rfl rfl rfl ?_
            refine j_lload (pc' := 56) K dX11_set_54 0 rfl rfl ?_
            obtain rfl := Option.some.inj h
            exact HR _ _ dX11_set_56
          have hc2 := hc
          have h := jif hc h
          have hc : v1 = 3 := jin4 hg hc0 hc1 hc2
          refine j_aald (pc' := 49) K dX11_set_48 43 6 rfl rfl hg (by rw [hc]; rfl) rfl ?_
          refine j_iload_n (pc' := 50) K dX11_set_49 rfl 3 rfl rfl ?_
          refine j_lload_n (pc' := 51) K dX11_set_50 rfl 4 rfl rfl ?_
          obtain ⟨r51, hr51, h⟩ := jbd_some h
          refine j_rw (pc' := 54) (ws' := (wX (jg E) a0 (X_poly3_s s0 r51))) K (fun H hP => jrun_V K dX11_set_51 (M_X8_put (jl E) (jg E) (a0 53) (a0 54) (a0 55) v2 v3 (X_poly3 s0) hr51) u_3_181 u_3_178 u_3_179 u_3_180 u_1_12 ⟨ok_X8_put, by decide, by decide⟩ rfl (Nat.le_of_ble_eq_true rfl) 53 rfl rfl H hP) hrw [53, 54, 55] rfl rfl rfl rfl rfl rfl ?_
          refine j_lload (pc' := 56) K dX11_set_54 0 rfl rfl ?_
          obtain rfl := Option.some.inj h
          exact HR _ _ dX11_set_56
        have hc1 := hc
        have h := jif hc h
        by_cases hc : v1 = 2
        · have h := jit hc h
          refine j_aald (pc' := 37) K dX11_set_36 43 6 rfl rfl hg (by rw [hc]; rfl) rfl ?_
          refine j_iload_n (pc' := 38) K dX11_set_37 rfl 2 rfl rfl ?_
          obtain ⟨r38, hr38, h⟩ := jbd_some h
          refine j_ro (pc' := 41) K (fun H hP => jrun_V K dX11_set_38 (M_X8_at (jl E) (jg E) (a0 50) (a0 51) (a0 52) v2 (X_poly2 s0) hr38) u_3_176 u_3_173 u_3_174 u_3_175 u_1_12 ⟨ok_X8_at, by decide, by decide⟩ rfl (Nat.le_of_ble_eq_true rfl) 50 rfl rfl H hP) [50, 51, 52] rfl rfl ?_
          refine j_lstore (pc' := 43) (lv' := [(5, .long r38), (0, .ref (a0 0)), (1, .int v1), (2, .int v2), (3, .long v3)]) K dX11_set_41 (by decide) rfl rfl ?_
          refine j_aload_n (pc' := 44) K dX11_set_43 rfl 1 rfl rfl ?_
          refine j_get (pc' := 47) K dX11_set_44 inX11 0 rfl rfl 4 (by decide) u_1_201 rfl rfl rfl ?_
          refine j_iload_n (pc' := 48) K dX11_set_47 rfl 2 rfl rfl ?_
          obtain ⟨hg, h⟩ := jgd_some h
          by_cases hc : v1 = 0
          · have h := jit hc h
            refine j_aald (pc' := 49) K dX11_set_48 43 6 rfl rfl hg (by rw [hc]; rfl) rfl ?_
            refine j_iload_n (pc' := 50) K dX11_set_49 rfl 3 rfl rfl ?_
            refine j_lload_n (pc' := 51) K dX11_set_50 rfl 4 rfl rfl ?_
            obtain ⟨r51, hr51, h⟩ := jbd_some h
            refine j_rw (pc' := 54) (ws' := (wX (jg E) a0 (X_poly0_s s0 r51))) K (fun H hP => jrun_V K dX11_set_51 (M_X8_put (jl E) (jg E) (a0 44) (a0 45) (a0 46) v2 v3 (X_poly0 s0) hr51) u_3_181 u_3_178 u_3_179 u_3_180 u_1_12 ⟨ok_X8_put, by decide, by decide⟩ rfl (Nat.le_of_ble_eq_true rfl) 44 rfl rfl H hP) hrw [44, 45, 46] rfl rfl rfl rfl rfl rfl ?_
            refine j_lload (pc' := 56) K dX11_set_54 0 rfl rfl ?_
            obtain rfl := Option.some.inj h
            exact HR _ _ dX11_set_56
          have hc0 := hc
          have h := jif hc h
          by_cases hc : v1 = 1
          · have h := jit hc h
            refine j_aald (pc' := 49) K dX11_set_48 43 6 rfl rfl hg (by rw [hc]; rfl) rfl ?_
            refine j_iload_n (pc' := 50) K dX11_set_49 rfl 3 rfl rfl ?_
            refine j_lload_n (pc' := 51) K dX11_set_50 rfl 4 rfl rfl ?_
            obtain ⟨r51, hr51, h⟩ := jbd_some h
            refine j_rw (pc' := 54) (ws' := (wX (jg E) a0 (X_poly1_s s0 r51))) K (fun H hP => jrun_V K dX11_set_51 (M_X8_put (jl E) (jg E) (a0 47) (a0 48) (a0 49) v2 v3 (X_poly1 s0) hr51) u_3_181 u_3_178 u_3_179 u_3_180 u_1_12 ⟨ok_X8_put, by decide, by decide⟩ rfl (Nat.le_of_ble_eq_true rfl) 47 rfl rfl H hP) hrw [47, 48, 49] rfl rfl rfl rfl rfl rfl ?_
            refine j_lload (pc' := 56) K dX11_set_54 0 rfl rfl ?_
            obtain rfl := Option.some.inj h
            exact HR _ _ dX11_set_56
          have hc1 := hc
          have h := jif hc h
          by_cases hc : v1 = 2
          · have h := jit hc h
            refine j_aald (pc' := 49) K dX11_set_48 43 6 rfl rfl hg (by rw [hc]; rfl) rfl ?_
            refine j_iload_n (pc' := 50) K dX11_set_49 rfl 3 rfl rfl ?_
            refine j_lload_n (pc' := 51) K dX11_set_50 rfl 4 rfl rfl ?_
            obtain ⟨r51, hr51, h⟩ := jbd_some h
            refine j_rw (pc' := 54) (ws' := (wX (jg E) a0 (X_poly2_s s0 r51))) K (fun H hP => jrun_V K dX11_set_51 (M_X8_put (jl E) (jg E) (a0 50) (a0 51) (a0 52) v2 v3 (X_poly2 s0) hr51) u_3_181 u_3_178 u_3_179 u_3_180 u_1_12 ⟨ok_X8_put, by decide, by decide⟩ rfl (Nat.le_of_ble_eq_true rfl) 50 rfl rfl H hP) hrw [50, 51, 52] rfl rfl rfl rfl rfl rfl ?_
            refine j_lload (pc' := 56) K dX11_set_54 0 rfl rfl ?_
            obtain rfl := Option.some.inj h
            exact HR _ _ dX11_set_56
          have hc2 := hc
          have h := jif hc h
          have hc : v1 = 3 := jin4 hg hc0 hc1 hc2
          refine j_aald (pc' := 49) K dX11_set_48 43 6 rfl rfl hg (by rw [hc]; rfl) rfl ?_
          refine j_iload_n (pc' := 50) K dX11_set_49 rfl 3 rfl rfl ?_
          refine j_lload_n (pc' := 51) K dX11_set_50 rfl 4 rfl rfl ?_
          obtain ⟨r51, hr51, h⟩ := jbd_some h
          refine j_rw (pc' := 54) (ws' := (wX (jg E) a0 (X_poly3_s s0 r51))) K (fun H hP => jrun_V K dX11_set_51 (M_X8_put (jl E) (jg E) (a0 53) (a0 54) (a0 55) v2 v3 (X_poly3 s0) hr51) u_3_181 u_3_178 u_3_179 u_3_180 u_1_12 ⟨ok_X8_put, by decide, by decide⟩ rfl (Nat.le_of_ble_eq_true rfl) 53 rfl rfl H hP) hrw [53, 54, 55] rfl rfl rfl rfl rfl rfl ?_
          refine j_lload (pc' := 56) K dX11_set_54 0 rfl rfl ?_
          obtain rfl := Option.some.inj h
          exact HR _ _ dX11_set_56
        have hc2 := hc
        have h := jif hc h
        have hc : v1 = 3 := jin4 hg hc0 hc1 hc2
        refine j_aald (pc' := 37) K dX11_set_36 43 6 rfl rfl hg (by rw [hc]; rfl) rfl ?_
        refine j_iload_n (pc' := 38) K dX11_set_37 rfl 2 rfl rfl ?_
        obtain ⟨r38, hr38, h⟩ := jbd_some h
        refine j_ro (pc' := 41) K (fun H hP => jrun_V K dX11_set_38 (M_X8_at (jl E) (jg E) (a0 53) (a0 54) (a0 55) v2 (X_poly3 s0) hr38) u_3_176 u_3_173 u_3_174 u_3_175 u_1_12 ⟨ok_X8_at, by decide, by decide⟩ rfl (Nat.le_of_ble_eq_true rfl) 53 rfl rfl H hP) [53, 54, 55] rfl rfl ?_
        refine j_lstore (pc' := 43) (lv' := [(5, .long r38), (0, .ref (a0 0)), (1, .int v1), (2, .int v2), (3, .long v3)]) K dX11_set_41 (by decide) rfl rfl ?_
        refine j_aload_n (pc' := 44) K dX11_set_43 rfl 1 rfl rfl ?_
        refine j_get (pc' := 47) K dX11_set_44 inX11 0 rfl rfl 4 (by decide) u_1_201 rfl rfl rfl ?_
        refine j_iload_n (pc' := 48) K dX11_set_47 rfl 2 rfl rfl ?_
        obtain ⟨hg, h⟩ := jgd_some h
        by_cases hc : v1 = 0
        · have h := jit hc h
          refine j_aald (pc' := 49) K dX11_set_48 43 6 rfl rfl hg (by rw [hc]; rfl) rfl ?_
          refine j_iload_n (pc' := 50) K dX11_set_49 rfl 3 rfl rfl ?_
          refine j_lload_n (pc' := 51) K dX11_set_50 rfl 4 rfl rfl ?_
          obtain ⟨r51, hr51, h⟩ := jbd_some h
          refine j_rw (pc' := 54) (ws' := (wX (jg E) a0 (X_poly0_s s0 r51))) K (fun H hP => jrun_V K dX11_set_51 (M_X8_put (jl E) (jg E) (a0 44) (a0 45) (a0 46) v2 v3 (X_poly0 s0) hr51) u_3_181 u_3_178 u_3_179 u_3_180 u_1_12 ⟨ok_X8_put, by decide, by decide⟩ rfl (Nat.le_of_ble_eq_true rfl) 44 rfl rfl H hP) hrw [44, 45, 46] rfl rfl rfl rfl rfl rfl ?_
          refine j_lload (pc' := 56) K dX11_set_54 0 rfl rfl ?_
          obtain rfl := Option.some.inj h
          exact HR _ _ dX11_set_56
        have hc0 := hc
        have h := jif hc h
        by_cases hc : v1 = 1
        · have h := jit hc h
          refine j_aald (pc' := 49) K dX11_set_48 43 6 rfl rfl hg (by rw [hc]; rfl) rfl ?_
          refine j_iload_n (pc' := 50) K dX11_set_49 rfl 3 rfl rfl ?_
          refine j_lload_n (pc' := 51) K dX11_set_50 rfl 4 rfl rfl ?_
          obtain ⟨r51, hr51, h⟩ := jbd_some h
          refine j_rw (pc' := 54) (ws' := (wX (jg E) a0 (X_poly1_s s0 r51))) K (fun H hP => jrun_V K dX11_set_51 (M_X8_put (jl E) (jg E) (a0 47) (a0 48) (a0 49) v2 v3 (X_poly1 s0) hr51) u_3_181 u_3_178 u_3_179 u_3_180 u_1_12 ⟨ok_X8_put, by decide, by decide⟩ rfl (Nat.le_of_ble_eq_true rfl) 47 rfl rfl H hP) hrw [47, 48, 49] rfl rfl rfl rfl rfl rfl ?_
          refine j_lload (pc' := 56) K dX11_set_54 0 rfl rfl ?_
          obtain rfl := Option.some.inj h
          exact HR _ _ dX11_set_56
        have hc1 := hc
        have h := jif hc h
        by_cases hc : v1 = 2
        · have h := jit hc h
          refine j_aald (pc' := 49) K dX11_set_48 43 6 rfl rfl hg (by rw [hc]; rfl) rfl ?_
          refine j_iload_n (pc' := 50) K dX11_set_49 rfl 3 rfl rfl ?_
          refine j_lload_n (pc' := 51) K dX11_set_50 rfl 4 rfl rfl ?_
          obtain ⟨r51, hr51, h⟩ := jbd_some h
          refine j_rw (pc' := 54) (ws' := (wX (jg E) a0 (X_poly2_s s0 r51))) K (fun H hP => jrun_V K dX11_set_51 (M_X8_put (jl E) (jg E) (a0 50) (a0 51) (a0 52) v2 v3 (X_poly2 s0) hr51) u_3_181 u_3_178 u_3_179 u_3_180 u_1_12 ⟨ok_X8_put, by decide, by decide⟩ rfl (Nat.le_of_ble_eq_true rfl) 50 rfl rfl H hP) hrw [50, 51, 52] rfl rfl rfl rfl rfl rfl ?_
          refine j_lload (pc' := 56) K dX11_set_54 0 rfl rfl ?_
          obtain rfl := Option.some.inj h
          exact HR _ _ dX11_set_56
        have hc2 := hc
        have h := jif hc h
        have hc : v1 = 3 := jin4 hg hc0 hc1 hc2
        refine j_aald (pc' := 49) K dX11_set_48 43 6 rfl rfl hg (by rw [hc]; rfl) rfl ?_
        refine j_iload_n (pc' := 50) K dX11_set_49 rfl 3 rfl rfl ?_
        refine j_lload_n (pc' := 51) K dX11_set_50 rfl 4 rfl rfl ?_
        obtain ⟨r51, hr51, h⟩ := jbd_some h
        refine j_rw (pc' := 54) (ws' := (wX (jg E) a0 (X_poly3_s s0 r51))) K (fun H hP => jrun_V K dX11_set_51 (M_X8_put (jl E) (jg E) (a0 53) (a0 54) (a0 55) v2 v3 (X_poly3 s0) hr51) u_3_181 u_3_178 u_3_179 u_3_180 u_1_12 ⟨ok_X8_put, by decide, by decide⟩ rfl (Nat.le_of_ble_eq_true rfl) 53 rfl rfl H hP) hrw [53, 54, 55] rfl rfl rfl rfl rfl rfl ?_
        refine j_lload (pc' := 56) K dX11_set_54 0 rfl rfl ?_
        obtain rfl := Option.some.inj h
        exact HR _ _ dX11_set_56
      · have h := jif hc h
        refine j_ldc2 (pc' := 30) K dX11_set_27 u_2_90 rfl ?_
        obtain rfl := Option.some.inj h
        exact HR _ _ dX11_set_30
set_option maxRecDepth 100000 in
set_option maxHeartbeats 4000000 in
theorem M_X11_set (l : Launch) (G : jG) (a0 : Nat → Nat) (v1 : Int32) (v2 : Int32) (v3 : Int64) (s0 : XS) {r : Int64 × XS} (h : f_X11_set v1 v2 v3 s0 = some r) : MC l yX11_set cX11_set 7 (some .long) 2 G (jad (wX G a0 s0)) True (wX G a0 s0) (wX G a0 (r.2)) [.ref (a0 0), .int v1, .int v2, .long v3] (some (.long (r.1))) := by
  refine mc_long (by decide +kernel) (Nat.le_of_ble_eq_true rfl) fun E hl hg hA hrw K HR => ?_
  subst hl
  subst hg
  have hrw : jrw E := by rw [hrw]; trivial
  exact b_X11_set a0 K hrw HR v1 v2 v3 s0 h
theorem ok_X11_coefficient : yX11_coefficient.cls ≠ "java/lang/invoke/MethodHandle" ∧ yX11_coefficient.cls ≠ "java/lang/invoke/VarHandle" ∧ (parseMethodDescriptor yX11_coefficient.desc).map (fun d => d.parameters.length) = some 2 := ⟨by decide, by decide, by decide +kernel⟩
def f_X11_coefficient (v1 : Int32) (v2 : Int32) (s0 : XS) : Option (Int64) :=
   jbd (f_X11_isPolynomial v1) (fun r1 =>
   if r1 = 0 then
    some (-1000000000000000001 : Int64)
   else
    jbd (f_X11_within v2 (0 : Int32) (8 : Int32)) (fun r11 =>
     if r11 = 0 then
      some (-1000000000000000001 : Int64)
     else
      jgd v1 4 (
       if v1 = 0 then (
        jbd (f_X8_at v2 (X_poly0 s0)) (fun r28 =>
         some r28)) else if v1 = 1 then (
        jbd (f_X8_at v2 (X_poly1 s0)) (fun r28 =>
         some r28)) else if v1 = 2 then (
        jbd (f_X8_at v2 (X_poly2 s0)) (fun r28 =>
         some r28)) else (
        jbd (f_X8_at v2 (X_poly3 s0)) (fun r28 =>
         some r28)))))
set_option maxRecDepth 100000 in
set_option maxHeartbeats 4000000 in
theorem b_X11_coefficient {E : jE} (a0 : Nat → Nat) (s0 : XS) {res : Int64} (K : jC E cX11_coefficient 3 RX11 2) (HR : jRL E cX11_coefficient 3 (wX (jg E) a0 s0) res) : ∀ (v1 : Int32) (v2 : Int32), f_X11_coefficient v1 v2 s0 = some res → J E 3 (wX (jg E) a0 s0) 0 [(0, .ref (a0 0)), (1, .int v1), (2, .int v2)] [] := by
  intro v1 v2 h
  unfold f_X11_coefficient at h
  refine j_iload_n (pc' := 1) K dX11_coefficient_0 rfl 1 rfl rfl ?_
  obtain ⟨r1, hr1, h⟩ := jbd_some h
  refine j_ro (pc' := 4) K (fun H hP => jrun_S K dX11_coefficient_1 (M_X11_isPolynomial (jl E) (jg E) v1 hr1) u_3_155 u_3_153 u_3_154 u_1_1 ⟨ok_X11_isPolynomial, by decide, by decide⟩ rfl (Nat.le_of_ble_eq_true rfl) H) [] rfl rfl ?_
  refine j_if_eq (pc' := 7) (tgt := 17) K dX11_coefficient_4 (by decide) rfl (fun hc => ?_) (fun hc => ?_)
  · have h := jit hc h
    refine j_ldc2 (pc' := 20) K dX11_coefficient_17 u_2_90 rfl ?_
    obtain rfl := Option.some.inj h
    exact HR _ _ dX11_coefficient_20
  · have h := jif hc h
    refine j_iload_n (pc' := 8) K dX11_coefficient_7 rfl 2 rfl rfl ?_
    refine j_iconst (pc' := 9) (v := (0 : Int32)) K dX11_coefficient_8 (by decide) rfl ?_
    refine j_bipush (pc' := 11) (v := (8 : Int32)) K dX11_coefficient_9 (by decide) rfl ?_
    obtain ⟨r11, hr11, h⟩ := jbd_some h
    refine j_ro (pc' := 14) K (fun H hP => jrun_S K dX11_coefficient_11 (M_X11_within (jl E) (jg E) v2 (0 : Int32) (8 : Int32) hr11) u_1_76 u_1_217 u_1_75 u_1_1 ⟨ok_X11_within, by decide, by decide⟩ rfl (Nat.le_of_ble_eq_true rfl) H) [] rfl rfl ?_
    refine j_if_ne (pc' := 17) (tgt := 21) K dX11_coefficient_14 (by decide) rfl (fun hc => ?_) (fun hc => ?_)
    · have h := jif hc h
      refine j_aload_n (pc' := 22) K dX11_coefficient_21 rfl 0 rfl rfl ?_
      refine j_get (pc' := 25) K dX11_coefficient_22 inX11 0 rfl rfl 4 (by decide) u_1_201 rfl rfl rfl ?_
      refine j_iload_n (pc' := 26) K dX11_coefficient_25 rfl 1 rfl rfl ?_
      obtain ⟨hg, h⟩ := jgd_some h
      by_cases hc : v1 = 0
      · have h := jit hc h
        refine j_aald (pc' := 27) K dX11_coefficient_26 43 6 rfl rfl hg (by rw [hc]; rfl) rfl ?_
        refine j_iload_n (pc' := 28) K dX11_coefficient_27 rfl 2 rfl rfl ?_
        obtain ⟨r28, hr28, h⟩ := jbd_some h
        refine j_ro (pc' := 31) K (fun H hP => jrun_V K dX11_coefficient_28 (M_X8_at (jl E) (jg E) (a0 44) (a0 45) (a0 46) v2 (X_poly0 s0) hr28) u_3_176 u_3_173 u_3_174 u_3_175 u_1_12 ⟨ok_X8_at, by decide, by decide⟩ rfl (Nat.le_of_ble_eq_true rfl) 44 rfl rfl H hP) [44, 45, 46] rfl rfl ?_
        obtain rfl := Option.some.inj h
        exact HR _ _ dX11_coefficient_31
      have hc0 := hc
      have h := jif hc h
      by_cases hc : v1 = 1
      · have h := jit hc h
        refine j_aald (pc' := 27) K dX11_coefficient_26 43 6 rfl rfl hg (by rw [hc]; rfl) rfl ?_
        refine j_iload_n (pc' := 28) K dX11_coefficient_27 rfl 2 rfl rfl ?_
        obtain ⟨r28, hr28, h⟩ := jbd_some h
        refine j_ro (pc' := 31) K (fun H hP => jrun_V K dX11_coefficient_28 (M_X8_at (jl E) (jg E) (a0 47) (a0 48) (a0 49) v2 (X_poly1 s0) hr28) u_3_176 u_3_173 u_3_174 u_3_175 u_1_12 ⟨ok_X8_at, by decide, by decide⟩ rfl (Nat.le_of_ble_eq_true rfl) 47 rfl rfl H hP) [47, 48, 49] rfl rfl ?_
        obtain rfl := Option.some.inj h
        exact HR _ _ dX11_coefficient_31
      have hc1 := hc
      have h := jif hc h
      by_cases hc : v1 = 2
      · have h := jit hc h
        refine j_aald (pc' := 27) K dX11_coefficient_26 43 6 rfl rfl hg (by rw [hc]; rfl) rfl ?_
        refine j_iload_n (pc' := 28) K dX11_coefficient_27 rfl 2 rfl rfl ?_
        obtain ⟨r28, hr28, h⟩ := jbd_some h
        refine j_ro (pc' := 31) K (fun H hP => jrun_V K dX11_coefficient_28 (M_X8_at (jl E) (jg E) (a0 50) (a0 51) (a0 52) v2 (X_poly2 s0) hr28) u_3_176 u_3_173 u_3_174 u_3_175 u_1_12 ⟨ok_X8_at, by decide, by decide⟩ rfl (Nat.le_of_ble_eq_true rfl) 50 rfl rfl H hP) [50, 51, 52] rfl rfl ?_
        obtain rfl := Option.some.inj h
        exact HR _ _ dX11_coefficient_31
      have hc2 := hc
      have h := jif hc h
      have hc : v1 = 3 := jin4 hg hc0 hc1 hc2
      refine j_aald (pc' := 27) K dX11_coefficient_26 43 6 rfl rfl hg (by rw [hc]; rfl) rfl ?_
      refine j_iload_n (pc' := 28) K dX11_coefficient_27 rfl 2 rfl rfl ?_
      obtain ⟨r28, hr28, h⟩ := jbd_some h
      refine j_ro (pc' := 31) K (fun H hP => jrun_V K dX11_coefficient_28 (M_X8_at (jl E) (jg E) (a0 53) (a0 54) (a0 55) v2 (X_poly3 s0) hr28) u_3_176 u_3_173 u_3_174 u_3_175 u_1_12 ⟨ok_X8_at, by decide, by decide⟩ rfl (Nat.le_of_ble_eq_true rfl) 53 rfl rfl H hP) [53, 54, 55] rfl rfl ?_
      obtain rfl := Option.some.inj h
      exact HR _ _ dX11_coefficient_31
    · have h := jit hc h
      refine j_ldc2 (pc' := 20) K dX11_coefficient_17 u_2_90 rfl ?_
      obtain rfl := Option.some.inj h
      exact HR _ _ dX11_coefficient_20
set_option maxRecDepth 100000 in
set_option maxHeartbeats 4000000 in
theorem M_X11_coefficient (l : Launch) (G : jG) (a0 : Nat → Nat) (v1 : Int32) (v2 : Int32) (s0 : XS) {r : Int64} (h : f_X11_coefficient v1 v2 s0 = some r) : MC l yX11_coefficient cX11_coefficient 3 (some .long) 2 G jNo False (wX G a0 s0) (wX G a0 s0) [.ref (a0 0), .int v1, .int v2] (some (.long r)) := by
  refine mc_long (by decide +kernel) (Nat.le_of_ble_eq_true rfl) fun E hl hg hA hrw K HR => ?_
  subst hl
  subst hg
  exact b_X11_coefficient a0 s0 K HR v1 v2 h
theorem ok_X11_told : yX11_told.cls ≠ "java/lang/invoke/MethodHandle" ∧ yX11_told.cls ≠ "java/lang/invoke/VarHandle" ∧ (parseMethodDescriptor yX11_told.desc).map (fun d => d.parameters.length) = some 2 := ⟨by decide, by decide, by decide +kernel⟩
def f_X11_told (v1 : Int32) (v2 : Int32) (s0 : XS) : Option (Int32) :=
   jbd (f_X11_isPolynomial v1) (fun r1 =>
   if r1 = 0 then
    some (-1 : Int32)
   else
    jbd (f_X11_within v2 (0 : Int32) (1 : Int32)) (fun r10 =>
     if r10 = 0 then
      some (-1 : Int32)
     else
      if v2 = 0 then
       jgd v1 4 (
        if v1 = 0 then (
         jbd (f_X8_baseNow (X_poly0 s0)) (fun r28 =>
          some r28)) else if v1 = 1 then (
         jbd (f_X8_baseNow (X_poly1 s0)) (fun r28 =>
          some r28)) else if v1 = 2 then (
         jbd (f_X8_baseNow (X_poly2 s0)) (fun r28 =>
          some r28)) else (
         jbd (f_X8_baseNow (X_poly3 s0)) (fun r28 =>
          some r28)))
      else
       jgd v1 4 (
        if v1 = 0 then (
         jbd (f_X8_degree (X_poly0 s0)) (fun r40 =>
          some r40)) else if v1 = 1 then (
         jbd (f_X8_degree (X_poly1 s0)) (fun r40 =>
          some r40)) else if v1 = 2 then (
         jbd (f_X8_degree (X_poly2 s0)) (fun r40 =>
          some r40)) else (
         jbd (f_X8_degree (X_poly3 s0)) (fun r40 =>
          some r40)))))
set_option maxRecDepth 100000 in
set_option maxHeartbeats 4000000 in
theorem b_X11_told {E : jE} (a0 : Nat → Nat) (s0 : XS) {res : Int32} (K : jC E cX11_told 3 RX11 2) (HR : jRI E cX11_told 3 (wX (jg E) a0 s0) res) : ∀ (v1 : Int32) (v2 : Int32), f_X11_told v1 v2 s0 = some res → J E 3 (wX (jg E) a0 s0) 0 [(0, .ref (a0 0)), (1, .int v1), (2, .int v2)] [] := by
  intro v1 v2 h
  unfold f_X11_told at h
  refine j_iload_n (pc' := 1) K dX11_told_0 rfl 1 rfl rfl ?_
  obtain ⟨r1, hr1, h⟩ := jbd_some h
  refine j_ro (pc' := 4) K (fun H hP => jrun_S K dX11_told_1 (M_X11_isPolynomial (jl E) (jg E) v1 hr1) u_3_155 u_3_153 u_3_154 u_1_1 ⟨ok_X11_isPolynomial, by decide, by decide⟩ rfl (Nat.le_of_ble_eq_true rfl) H) [] rfl rfl ?_
  refine j_if_eq (pc' := 7) (tgt := 16) K dX11_told_4 (by decide) rfl (fun hc => ?_) (fun hc => ?_)
  · have h := jit hc h
    refine j_iconst (pc' := 17) (v := (-1 : Int32)) K dX11_told_16 (by decide) rfl ?_
    obtain rfl := Option.some.inj h
    exact HR _ _ dX11_told_17
  · have h := jif hc h
    refine j_iload_n (pc' := 8) K dX11_told_7 rfl 2 rfl rfl ?_
    refine j_iconst (pc' := 9) (v := (0 : Int32)) K dX11_told_8 (by decide) rfl ?_
    refine j_iconst (pc' := 10) (v := (1 : Int32)) K dX11_told_9 (by decide) rfl ?_
    obtain ⟨r10, hr10, h⟩ := jbd_some h
    refine j_ro (pc' := 13) K (fun H hP => jrun_S K dX11_told_10 (M_X11_within (jl E) (jg E) v2 (0 : Int32) (1 : Int32) hr10) u_1_76 u_1_217 u_1_75 u_1_1 ⟨ok_X11_within, by decide, by decide⟩ rfl (Nat.le_of_ble_eq_true rfl) H) [] rfl rfl ?_
    refine j_if_ne (pc' := 16) (tgt := 18) K dX11_told_13 (by decide) rfl (fun hc => ?_) (fun hc => ?_)
    · have h := jif hc h
      refine j_iload_n (pc' := 19) K dX11_told_18 rfl 2 rfl rfl ?_
      refine j_if_ne (pc' := 22) (tgt := 34) K dX11_told_19 (by decide) rfl (fun hc => ?_) (fun hc => ?_)
      · have h := jif hc h
        refine j_aload_n (pc' := 35) K dX11_told_34 rfl 0 rfl rfl ?_
        refine j_get (pc' := 38) K dX11_told_35 inX11 0 rfl rfl 4 (by decide) u_1_201 rfl rfl rfl ?_
        refine j_iload_n (pc' := 39) K dX11_told_38 rfl 1 rfl rfl ?_
        obtain ⟨hg, h⟩ := jgd_some h
        by_cases hc : v1 = 0
        · have h := jit hc h
          refine j_aald (pc' := 40) K dX11_told_39 43 6 rfl rfl hg (by rw [hc]; rfl) rfl ?_
          obtain ⟨r40, hr40, h⟩ := jbd_some h
          refine j_ro (pc' := 43) K (fun H hP => jrun_V K dX11_told_40 (M_X8_degree (jl E) (jg E) (a0 44) (a0 45) (a0 46) (X_poly0 s0) hr40) u_3_193 u_3_190 u_3_191 u_3_192 u_1_12 ⟨ok_X8_degree, by decide, by decide⟩ rfl (Nat.le_of_ble_eq_true rfl) 44 rfl rfl H hP) [44, 45, 46] rfl rfl ?_
          obtain rfl := Option.some.inj h
          exact HR _ _ dX11_told_43
        have hc0 := hc
        have h := jif hc h
        by_cases hc : v1 = 1
        · have h := jit hc h
          refine j_aald (pc' := 40) K dX11_told_39 43 6 rfl rfl hg (by rw [hc]; rfl) rfl ?_
          obtain ⟨r40, hr40, h⟩ := jbd_some h
          refine j_ro (pc' := 43) K (fun H hP => jrun_V K dX11_told_40 (M_X8_degree (jl E) (jg E) (a0 47) (a0 48) (a0 49) (X_poly1 s0) hr40) u_3_193 u_3_190 u_3_191 u_3_192 u_1_12 ⟨ok_X8_degree, by decide, by decide⟩ rfl (Nat.le_of_ble_eq_true rfl) 47 rfl rfl H hP) [47, 48, 49] rfl rfl ?_
          obtain rfl := Option.some.inj h
          exact HR _ _ dX11_told_43
        have hc1 := hc
        have h := jif hc h
        by_cases hc : v1 = 2
        · have h := jit hc h
          refine j_aald (pc' := 40) K dX11_told_39 43 6 rfl rfl hg (by rw [hc]; rfl) rfl ?_
          obtain ⟨r40, hr40, h⟩ := jbd_some h
          refine j_ro (pc' := 43) K (fun H hP => jrun_V K dX11_told_40 (M_X8_degree (jl E) (jg E) (a0 50) (a0 51) (a0 52) (X_poly2 s0) hr40) u_3_193 u_3_190 u_3_191 u_3_192 u_1_12 ⟨ok_X8_degree, by decide, by decide⟩ rfl (Nat.le_of_ble_eq_true rfl) 50 rfl rfl H hP) [50, 51, 52] rfl rfl ?_
          obtain rfl := Option.some.inj h
          exact HR _ _ dX11_told_43
        have hc2 := hc
        have h := jif hc h
        have hc : v1 = 3 := jin4 hg hc0 hc1 hc2
        refine j_aald (pc' := 40) K dX11_told_39 43 6 rfl rfl hg (by rw [hc]; rfl) rfl ?_
        obtain ⟨r40, hr40, h⟩ := jbd_some h
        refine j_ro (pc' := 43) K (fun H hP => jrun_V K dX11_told_40 (M_X8_degree (jl E) (jg E) (a0 53) (a0 54) (a0 55) (X_poly3 s0) hr40) u_3_193 u_3_190 u_3_191 u_3_192 u_1_12 ⟨ok_X8_degree, by decide, by decide⟩ rfl (Nat.le_of_ble_eq_true rfl) 53 rfl rfl H hP) [53, 54, 55] rfl rfl ?_
        obtain rfl := Option.some.inj h
        exact HR _ _ dX11_told_43
      · have h := jit hc h
        refine j_aload_n (pc' := 23) K dX11_told_22 rfl 0 rfl rfl ?_
        refine j_get (pc' := 26) K dX11_told_23 inX11 0 rfl rfl 4 (by decide) u_1_201 rfl rfl rfl ?_
        refine j_iload_n (pc' := 27) K dX11_told_26 rfl 1 rfl rfl ?_
        obtain ⟨hg, h⟩ := jgd_some h
        by_cases hc : v1 = 0
        · have h := jit hc h
          refine j_aald (pc' := 28) K dX11_told_27 43 6 rfl rfl hg (by rw [hc]; rfl) rfl ?_
          obtain ⟨r28, hr28, h⟩ := jbd_some h
          refine j_ro (pc' := 31) K (fun H hP => jrun_V K dX11_told_28 (M_X8_baseNow (jl E) (jg E) (a0 44) (a0 45) (a0 46) (X_poly0 s0) hr28) u_3_159 u_3_156 u_3_157 u_3_158 u_1_12 ⟨ok_X8_baseNow, by decide, by decide⟩ rfl (Nat.le_of_ble_eq_true rfl) 44 rfl rfl H hP) [44, 45, 46] rfl rfl ?_
          refine j_goto (tgt := 43) K dX11_told_31 (by decide) ?_
          obtain rfl := Option.some.inj h
          exact HR _ _ dX11_told_43
        have hc0 := hc
        have h := jif hc h
        by_cases hc : v1 = 1
        · have h := jit hc h
          refine j_aald (pc' := 28) K dX11_told_27 43 6 rfl rfl hg (by rw [hc]; rfl) rfl ?_
          obtain ⟨r28, hr28, h⟩ := jbd_some h
          refine j_ro (pc' := 31) K (fun H hP => jrun_V K dX11_told_28 (M_X8_baseNow (jl E) (jg E) (a0 47) (a0 48) (a0 49) (X_poly1 s0) hr28) u_3_159 u_3_156 u_3_157 u_3_158 u_1_12 ⟨ok_X8_baseNow, by decide, by decide⟩ rfl (Nat.le_of_ble_eq_true rfl) 47 rfl rfl H hP) [47, 48, 49] rfl rfl ?_
          refine j_goto (tgt := 43) K dX11_told_31 (by decide) ?_
          obtain rfl := Option.some.inj h
          exact HR _ _ dX11_told_43
        have hc1 := hc
        have h := jif hc h
        by_cases hc : v1 = 2
        · have h := jit hc h
          refine j_aald (pc' := 28) K dX11_told_27 43 6 rfl rfl hg (by rw [hc]; rfl) rfl ?_
          obtain ⟨r28, hr28, h⟩ := jbd_some h
          refine j_ro (pc' := 31) K (fun H hP => jrun_V K dX11_told_28 (M_X8_baseNow (jl E) (jg E) (a0 50) (a0 51) (a0 52) (X_poly2 s0) hr28) u_3_159 u_3_156 u_3_157 u_3_158 u_1_12 ⟨ok_X8_baseNow, by decide, by decide⟩ rfl (Nat.le_of_ble_eq_true rfl) 50 rfl rfl H hP) [50, 51, 52] rfl rfl ?_
          refine j_goto (tgt := 43) K dX11_told_31 (by decide) ?_
          obtain rfl := Option.some.inj h
          exact HR _ _ dX11_told_43
        have hc2 := hc
        have h := jif hc h
        have hc : v1 = 3 := jin4 hg hc0 hc1 hc2
        refine j_aald (pc' := 28) K dX11_told_27 43 6 rfl rfl hg (by rw [hc]; rfl) rfl ?_
        obtain ⟨r28, hr28, h⟩ := jbd_some h
        refine j_ro (pc' := 31) K (fun H hP => jrun_V K dX11_told_28 (M_X8_baseNow (jl E) (jg E) (a0 53) (a0 54) (a0 55) (X_poly3 s0) hr28) u_3_159 u_3_156 u_3_157 u_3_158 u_1_12 ⟨ok_X8_baseNow, by decide, by decide⟩ rfl (Nat.le_of_ble_eq_true rfl) 53 rfl rfl H hP) [53, 54, 55] rfl rfl ?_
        refine j_goto (tgt := 43) K dX11_told_31 (by decide) ?_
        obtain rfl := Option.some.inj h
        exact HR _ _ dX11_told_43
    · have h := jit hc h
      refine j_iconst (pc' := 17) (v := (-1 : Int32)) K dX11_told_16 (by decide) rfl ?_
      obtain rfl := Option.some.inj h
      exact HR _ _ dX11_told_17
set_option maxRecDepth 100000 in
set_option maxHeartbeats 4000000 in
theorem M_X11_told (l : Launch) (G : jG) (a0 : Nat → Nat) (v1 : Int32) (v2 : Int32) (s0 : XS) {r : Int32} (h : f_X11_told v1 v2 s0 = some r) : MC l yX11_told cX11_told 3 (some .int) 2 G jNo False (wX G a0 s0) (wX G a0 s0) [.ref (a0 0), .int v1, .int v2] (some (.int r)) := by
  refine mc_int (by decide +kernel) (Nat.le_of_ble_eq_true rfl) fun E hl hg hA hrw K HR => ?_
  subst hl
  subst hg
  exact b_X11_told a0 s0 K HR v1 v2 h
theorem ok_X11_turn : yX11_turn.cls ≠ "java/lang/invoke/MethodHandle" ∧ yX11_turn.cls ≠ "java/lang/invoke/VarHandle" ∧ (parseMethodDescriptor yX11_turn.desc).map (fun d => d.parameters.length) = some 2 := ⟨by decide, by decide, by decide +kernel⟩
def f_X11_turn (v1 : Int32) (v2 : Int32) (s0 : XS) : Option (Int32 × XS) :=
   jbd (f_X11_isPolynomial v1) (fun r1 =>
   if r1 = 0 then
    some ((-1 : Int32), s0)
   else
    jbd (f_X11_within v2 (0 : Int32) (3 : Int32)) (fun r10 =>
     if r10 = 0 then
      some ((-1 : Int32), s0)
     else
      jgd v1 4 (
       if v1 = 0 then (
        jbd (f_X8_turnInto v2 (X_poly0 s0)) (fun r25 =>
         if (r25.1) = 0 then
          some ((-2 : Int32), (X_poly0_s s0 (r25.2)))
         else
          jgd v1 4 (
           if v1 = 0 then (
            jbd (f_X8_degree (X_poly0 (X_poly0_s s0 (r25.2)))) (fun r37 =>
             some (r37, (X_poly0_s s0 (r25.2))))) else if v1 = 1 then (
            jbd (f_X8_degree (X_poly1 (X_poly0_s s0 (r25.2)))) (fun r37 =>
             some (r37, (X_poly0_s s0 (r25.2))))) else if v1 = 2 then (
            jbd (f_X8_degree (X_poly2 (X_poly0_s s0 (r25.2)))) (fun r37 =>
             some (r37, (X_poly0_s s0 (r25.2))))) else (
            jbd (f_X8_degree (X_poly3 (X_poly0_s s0 (r25.2)))) (fun r37 =>
             some (r37, (X_poly0_s s0 (r25.2)))))))) else if v1 = 1 then (
        jbd (f_X8_turnInto v2 (X_poly1 s0)) (fun r25 =>
         if (r25.1) = 0 then
          some ((-2 : Int32), (X_poly1_s s0 (r25.2)))
         else
          jgd v1 4 (
           if v1 = 0 then (
            jbd (f_X8_degree (X_poly0 (X_poly1_s s0 (r25.2)))) (fun r37 =>
             some (r37, (X_poly1_s s0 (r25.2))))) else if v1 = 1 then (
            jbd (f_X8_degree (X_poly1 (X_poly1_s s0 (r25.2)))) (fun r37 =>
             some (r37, (X_poly1_s s0 (r25.2))))) else if v1 = 2 then (
            jbd (f_X8_degree (X_poly2 (X_poly1_s s0 (r25.2)))) (fun r37 =>
             some (r37, (X_poly1_s s0 (r25.2))))) else (
            jbd (f_X8_degree (X_poly3 (X_poly1_s s0 (r25.2)))) (fun r37 =>
             some (r37, (X_poly1_s s0 (r25.2)))))))) else if v1 = 2 then (
        jbd (f_X8_turnInto v2 (X_poly2 s0)) (fun r25 =>
         if (r25.1) = 0 then
          some ((-2 : Int32), (X_poly2_s s0 (r25.2)))
         else
          jgd v1 4 (
           if v1 = 0 then (
            jbd (f_X8_degree (X_poly0 (X_poly2_s s0 (r25.2)))) (fun r37 =>
             some (r37, (X_poly2_s s0 (r25.2))))) else if v1 = 1 then (
            jbd (f_X8_degree (X_poly1 (X_poly2_s s0 (r25.2)))) (fun r37 =>
             some (r37, (X_poly2_s s0 (r25.2))))) else if v1 = 2 then (
            jbd (f_X8_degree (X_poly2 (X_poly2_s s0 (r25.2)))) (fun r37 =>
             some (r37, (X_poly2_s s0 (r25.2))))) else (
            jbd (f_X8_degree (X_poly3 (X_poly2_s s0 (r25.2)))) (fun r37 =>
             some (r37, (X_poly2_s s0 (r25.2)))))))) else (
        jbd (f_X8_turnInto v2 (X_poly3 s0)) (fun r25 =>
         if (r25.1) = 0 then
          some ((-2 : Int32), (X_poly3_s s0 (r25.2)))
         else
          jgd v1 4 (
           if v1 = 0 then (
            jbd (f_X8_degree (X_poly0 (X_poly3_s s0 (r25.2)))) (fun r37 =>
             some (r37, (X_poly3_s s0 (r25.2))))) else if v1 = 1 then (
            jbd (f_X8_degree (X_poly1 (X_poly3_s s0 (r25.2)))) (fun r37 =>
             some (r37, (X_poly3_s s0 (r25.2))))) else if v1 = 2 then (
            jbd (f_X8_degree (X_poly2 (X_poly3_s s0 (r25.2)))) (fun r37 =>
             some (r37, (X_poly3_s s0 (r25.2))))) else (
            jbd (f_X8_degree (X_poly3 (X_poly3_s s0 (r25.2)))) (fun r37 =>
             some (r37, (X_poly3_s s0 (r25.2)))))))))))
set_option maxRecDepth 100000 in
set_option maxHeartbeats 4000000 in
theorem b_X11_turn {E : jE} (a0 : Nat → Nat) {res : Int32 × XS} (K : jC E cX11_turn 3 RX11 4) (hrw : jrw E) (HR : jRI E cX11_turn 3 (wX (jg E) a0 (res.2)) (res.1)) : ∀ (v1 : Int32) (v2 : Int32) (s0 : XS), f_X11_turn v1 v2 s0 = some res → J E 3 (wX (jg E) a0 s0) 0 [(0, .ref (a0 0)), (1, .int v1), (2, .int v2)] [] := by
  intro v1 v2 s0 h
  unfold f_X11_turn at h
  refine j_iload_n (pc' := 1) K dX11_turn_0 rfl 1 rfl rfl ?_
  obtain ⟨r1, hr1, h⟩ := jbd_some h
  refine j_ro (pc' := 4) K (fun H hP => jrun_S K dX11_turn_1 (M_X11_isPolynomial (jl E) (jg E) v1 hr1) u_3_155 u_3_153 u_3_154 u_1_1 ⟨ok_X11_isPolynomial, by decide, by decide⟩ rfl (Nat.le_of_ble_eq_true rfl) H) [] rfl rfl ?_
  refine j_if_eq (pc' := 7) (tgt := 16) K dX11_turn_4 (by decide) rfl (fun hc => ?_) (fun hc => ?_)
  · have h := jit hc h
    refine j_iconst (pc' := 17) (v := (-1 : Int32)) K dX11_turn_16 (by decide) rfl ?_
    obtain rfl := Option.some.inj h
    exact HR _ _ dX11_turn_17
  · have h := jif hc h
    refine j_iload_n (pc' := 8) K dX11_turn_7 rfl 2 rfl rfl ?_
    refine j_iconst (pc' := 9) (v := (0 : Int32)) K dX11_turn_8 (by decide) rfl ?_
    refine j_iconst (pc' := 10) (v := (3 : Int32)) K dX11_turn_9 (by decide) rfl ?_
    obtain ⟨r10, hr10, h⟩ := jbd_some h
    refine j_ro (pc' := 13) K (fun H hP => jrun_S K dX11_turn_10 (M_X11_within (jl E) (jg E) v2 (0 : Int32) (3 : Int32) hr10) u_1_76 u_1_217 u_1_75 u_1_1 ⟨ok_X11_within, by decide, by decide⟩ rfl (Nat.le_of_ble_eq_true rfl) H) [] rfl rfl ?_
    refine j_if_ne (pc' := 16) (tgt := 18) K dX11_turn_13 (by decide) rfl (fun hc => ?_) (fun hc => ?_)
    · have h := jif hc h
      refine j_aload_n (pc' := 19) K dX11_turn_18 rfl 0 rfl rfl ?_
      refine j_get (pc' := 22) K dX11_turn_19 inX11 0 rfl rfl 4 (by decide) u_1_201 rfl rfl rfl ?_
      refine j_iload_n (pc' := 23) K dX11_turn_22 rfl 1 rfl rfl ?_
      obtain ⟨hg, h⟩ := jgd_some h
      by_cases hc : v1 = 0
      · have h := jit hc h
        refine j_aald (pc' := 24) K dX11_turn_23 43 6 rfl rfl hg (by rw [hc]; rfl) rfl ?_
        refine j_iload_n (pc' := 25) K dX11_turn_24 rfl 2 rfl rfl ?_
        obtain ⟨r25, hr25, h⟩ := jbd_some h
        refine j_rw (pc' := 28) (ws' := (wX (jg E) a0 (X_poly0_s s0 (r25.2)))) K (fun H hP => jrun_V K dX11_turn_25 (M_X8_turnInto (jl E) (jg E) (a0 44) (a0 45) (a0 46) v2 (X_poly0 s0) hr25) u_3_201 u_3_198 u_3_199 u_3_200 u_1_12 ⟨ok_X8_turnInto, by decide, by decide⟩ rfl (Nat.le_of_ble_eq_true rfl) 44 rfl rfl H hP) hrw [44, 45, 46] rfl rfl rfl rfl rfl rfl ?_
        refine j_if_eq (pc' := 31) (tgt := 43) K dX11_turn_28 (by decide) rfl (fun hc => ?_) (fun hc => ?_)
        · have h := jit hc h
          refine j_bipush (pc' := 45) (v := (-2 : Int32)) K dX11_turn_43 (by decide) rfl ?_
          obtain rfl := Option.some.inj h
          exact HR _ _ dX11_turn_45
        · have h := jif hc h
          refine j_aload_n (pc' := 32) K dX11_turn_31 rfl 0 rfl rfl ?_
          refine j_get (pc' := 35) K dX11_turn_32 inX11 0 rfl rfl 4 (by decide) u_1_201 rfl rfl rfl ?_
          refine j_iload_n (pc' := 36) K dX11_turn_35 rfl 1 rfl rfl ?_
          obtain ⟨hg, h⟩ := jgd_some h
          by_cases hc : v1 = 0
          · have h := jit hc h
            refine j_aald (pc' := 37) K dX11_turn_36 43 6 rfl rfl hg (by rw [hc]; rfl) rfl ?_
            obtain ⟨r37, hr37, h⟩ := jbd_some h
            refine j_ro (pc' := 40) K (fun H hP => jrun_V K dX11_turn_37 (M_X8_degree (jl E) (jg E) (a0 44) (a0 45) (a0 46) (X_poly0 (X_poly0_s s0 (r25.2))) hr37) u_3_193 u_3_190 u_3_191 u_3_192 u_1_12 ⟨ok_X8_degree, by decide, by decide⟩ rfl (Nat.le_of_ble_eq_true rfl) 44 rfl rfl H hP) [44, 45, 46] rfl rfl ?_
            refine j_goto (tgt := 45) K dX11_turn_40 (by decide) ?_
            obtain rfl := Option.some.inj h
            exact HR _ _ dX11_turn_45
          have hc0 := hc
          have h := jif hc h
          by_cases hc : v1 = 1
          · have h := jit hc h
            refine j_aald (pc' := 37) K dX11_turn_36 43 6 rfl rfl hg (by rw [hc]; rfl) rfl ?_
            obtain ⟨r37, hr37, h⟩ := jbd_some h
            refine j_ro (pc' := 40) K (fun H hP => jrun_V K dX11_turn_37 (M_X8_degree (jl E) (jg E) (a0 47) (a0 48) (a0 49) (X_poly1 (X_poly0_s s0 (r25.2))) hr37) u_3_193 u_3_190 u_3_191 u_3_192 u_1_12 ⟨ok_X8_degree, by decide, by decide⟩ rfl (Nat.le_of_ble_eq_true rfl) 47 rfl rfl H hP) [47, 48, 49] rfl rfl ?_
            refine j_goto (tgt := 45) K dX11_turn_40 (by decide) ?_
            obtain rfl := Option.some.inj h
            exact HR _ _ dX11_turn_45
          have hc1 := hc
          have h := jif hc h
          by_cases hc : v1 = 2
          · have h := jit hc h
            refine j_aald (pc' := 37) K dX11_turn_36 43 6 rfl rfl hg (by rw [hc]; rfl) rfl ?_
            obtain ⟨r37, hr37, h⟩ := jbd_some h
            refine j_ro (pc' := 40) K (fun H hP => jrun_V K dX11_turn_37 (M_X8_degree (jl E) (jg E) (a0 50) (a0 51) (a0 52) (X_poly2 (X_poly0_s s0 (r25.2))) hr37) u_3_193 u_3_190 u_3_191 u_3_192 u_1_12 ⟨ok_X8_degree, by decide, by decide⟩ rfl (Nat.le_of_ble_eq_true rfl) 50 rfl rfl H hP) [50, 51, 52] rfl rfl ?_
            refine j_goto (tgt := 45) K dX11_turn_40 (by decide) ?_
            obtain rfl := Option.some.inj h
            exact HR _ _ dX11_turn_45
          have hc2 := hc
          have h := jif hc h
          have hc : v1 = 3 := jin4 hg hc0 hc1 hc2
          refine j_aald (pc' := 37) K dX11_turn_36 43 6 rfl rfl hg (by rw [hc]; rfl) rfl ?_
          obtain ⟨r37, hr37, h⟩ := jbd_some h
          refine j_ro (pc' := 40) K (fun H hP => jrun_V K dX11_turn_37 (M_X8_degree (jl E) (jg E) (a0 53) (a0 54) (a0 55) (X_poly3 (X_poly0_s s0 (r25.2))) hr37) u_3_193 u_3_190 u_3_191 u_3_192 u_1_12 ⟨ok_X8_degree, by decide, by decide⟩ rfl (Nat.le_of_ble_eq_true rfl) 53 rfl rfl H hP) [53, 54, 55] rfl rfl ?_
          refine j_goto (tgt := 45) K dX11_turn_40 (by decide) ?_
          obtain rfl := Option.some.inj h
          exact HR _ _ dX11_turn_45
      have hc0 := hc
      have h := jif hc h
      by_cases hc : v1 = 1
      · have h := jit hc h
        refine j_aald (pc' := 24) K dX11_turn_23 43 6 rfl rfl hg (by rw [hc]; rfl) rfl ?_
        refine j_iload_n (pc' := 25) K dX11_turn_24 rfl 2 rfl rfl ?_
        obtain ⟨r25, hr25, h⟩ := jbd_some h
        refine j_rw (pc' := 28) (ws' := (wX (jg E) a0 (X_poly1_s s0 (r25.2)))) K (fun H hP => jrun_V K dX11_turn_25 (M_X8_turnInto (jl E) (jg E) (a0 47) (a0 48) (a0 49) v2 (X_poly1 s0) hr25) u_3_201 u_3_198 u_3_199 u_3_200 u_1_12 ⟨ok_X8_turnInto, by decide, by decide⟩ rfl (Nat.le_of_ble_eq_true rfl) 47 rfl rfl H hP) hrw [47, 48, 49] rfl rfl rfl rfl rfl rfl ?_
        refine j_if_eq (pc' := 31) (tgt := 43) K dX11_turn_28 (by decide) rfl (fun hc => ?_) (fun hc => ?_)
        · have h := jit hc h
          refine j_bipush (pc' := 45) (v := (-2 : Int32)) K dX11_turn_43 (by decide) rfl ?_
          obtain rfl := Option.some.inj h
          exact HR _ _ dX11_turn_45
        · have h := jif hc h
          refine j_aload_n (pc' := 32) K dX11_turn_31 rfl 0 rfl rfl ?_
          refine j_get (pc' := 35) K dX11_turn_32 inX11 0 rfl rfl 4 (by decide) u_1_201 rfl rfl rfl ?_
          refine j_iload_n (pc' := 36) K dX11_turn_35 rfl 1 rfl rfl ?_
          obtain ⟨hg, h⟩ := jgd_some h
          by_cases hc : v1 = 0
          · have h := jit hc h
            refine j_aald (pc' := 37) K dX11_turn_36 43 6 rfl rfl hg (by rw [hc]; rfl) rfl ?_
            obtain ⟨r37, hr37, h⟩ := jbd_some h
            refine j_ro (pc' := 40) K (fun H hP => jrun_V K dX11_turn_37 (M_X8_degree (jl E) (jg E) (a0 44) (a0 45) (a0 46) (X_poly0 (X_poly1_s s0 (r25.2))) hr37) u_3_193 u_3_190 u_3_191 u_3_192 u_1_12 ⟨ok_X8_degree, by decide, by decide⟩ rfl (Nat.le_of_ble_eq_true rfl) 44 rfl rfl H hP) [44, 45, 46] rfl rfl ?_
            refine j_goto (tgt := 45) K dX11_turn_40 (by decide) ?_
            obtain rfl := Option.some.inj h
            exact HR _ _ dX11_turn_45
          have hc0 := hc
          have h := jif hc h
          by_cases hc : v1 = 1
          · have h := jit hc h
            refine j_aald (pc' := 37) K dX11_turn_36 43 6 rfl rfl hg (by rw [hc]; rfl) rfl ?_
            obtain ⟨r37, hr37, h⟩ := jbd_some h
            refine j_ro (pc' := 40) K (fun H hP => jrun_V K dX11_turn_37 (M_X8_degree (jl E) (jg E) (a0 47) (a0 48) (a0 49) (X_poly1 (X_poly1_s s0 (r25.2))) hr37) u_3_193 u_3_190 u_3_191 u_3_192 u_1_12 ⟨ok_X8_degree, by decide, by decide⟩ rfl (Nat.le_of_ble_eq_true rfl) 47 rfl rfl H hP) [47, 48, 49] rfl rfl ?_
            refine j_goto (tgt := 45) K dX11_turn_40 (by decide) ?_
            obtain rfl := Option.some.inj h
            exact HR _ _ dX11_turn_45
          have hc1 := hc
          have h := jif hc h
          by_cases hc : v1 = 2
          · have h := jit hc h
            refine j_aald (pc' := 37) K dX11_turn_36 43 6 rfl rfl hg (by rw [hc]; rfl) rfl ?_
            obtain ⟨r37, hr37, h⟩ := jbd_some h
            refine j_ro (pc' := 40) K (fun H hP => jrun_V K dX11_turn_37 (M_X8_degree (jl E) (jg E) (a0 50) (a0 51) (a0 52) (X_poly2 (X_poly1_s s0 (r25.2))) hr37) u_3_193 u_3_190 u_3_191 u_3_192 u_1_12 ⟨ok_X8_degree, by decide, by decide⟩ rfl (Nat.le_of_ble_eq_true rfl) 50 rfl rfl H hP) [50, 51, 52] rfl rfl ?_
            refine j_goto (tgt := 45) K dX11_turn_40 (by decide) ?_
            obtain rfl := Option.some.inj h
            exact HR _ _ dX11_turn_45
          have hc2 := hc
          have h := jif hc h
          have hc : v1 = 3 := jin4 hg hc0 hc1 hc2
          refine j_aald (pc' := 37) K dX11_turn_36 43 6 rfl rfl hg (by rw [hc]; rfl) rfl ?_
          obtain ⟨r37, hr37, h⟩ := jbd_some h
          refine j_ro (pc' := 40) K (fun H hP => jrun_V K dX11_turn_37 (M_X8_degree (jl E) (jg E) (a0 53) (a0 54) (a0 55) (X_poly3 (X_poly1_s s0 (r25.2))) hr37) u_3_193 u_3_190 u_3_191 u_3_192 u_1_12 ⟨ok_X8_degree, by decide, by decide⟩ rfl (Nat.le_of_ble_eq_true rfl) 53 rfl rfl H hP) [53, 54, 55] rfl rfl ?_
          refine j_goto (tgt := 45) K dX11_turn_40 (by decide) ?_
          obtain rfl := Option.some.inj h
          exact HR _ _ dX11_turn_45
      have hc1 := hc
      have h := jif hc h
      by_cases hc : v1 = 2
      · have h := jit hc h
        refine j_aald (pc' := 24) K dX11_turn_23 43 6 rfl rfl hg (by rw [hc]; rfl) rfl ?_
        refine j_iload_n (pc' := 25) K dX11_turn_24 rfl 2 rfl rfl ?_
        obtain ⟨r25, hr25, h⟩ := jbd_some h
        refine j_rw (pc' := 28) (ws' := (wX (jg E) a0 (X_poly2_s s0 (r25.2)))) K (fun H hP => jrun_V K dX11_turn_25 (M_X8_turnInto (jl E) (jg E) (a0 50) (a0 51) (a0 52) v2 (X_poly2 s0) hr25) u_3_201 u_3_198 u_3_199 u_3_200 u_1_12 ⟨ok_X8_turnInto, by decide, by decide⟩ rfl (Nat.le_of_ble_eq_true rfl) 50 rfl rfl H hP) hrw [50, 51, 52] rfl rfl rfl rfl rfl rfl ?_
        refine j_if_eq (pc' := 31) (tgt := 43) K dX11_turn_28 (by decide) rfl (fun hc => ?_) (fun hc => ?_)
        · have h := jit hc h
          refine j_bipush (pc' := 45) (v := (-2 : Int32)) K dX11_turn_43 (by decide) rfl ?_
          obtain rfl := Option.some.inj h
          exact HR _ _ dX11_turn_45
        · have h := jif hc h
          refine j_aload_n (pc' := 32) K dX11_turn_31 rfl 0 rfl rfl ?_
          refine j_get (pc' := 35) K dX11_turn_32 inX11 0 rfl rfl 4 (by decide) u_1_201 rfl rfl rfl ?_
          refine j_iload_n (pc' := 36) K dX11_turn_35 rfl 1 rfl rfl ?_
          obtain ⟨hg, h⟩ := jgd_some h
          by_cases hc : v1 = 0
          · have h := jit hc h
            refine j_aald (pc' := 37) K dX11_turn_36 43 6 rfl rfl hg (by rw [hc]; rfl) rfl ?_
            obtain ⟨r37, hr37, h⟩ := jbd_some h
            refine j_ro (pc' := 40) K (fun H hP => jrun_V K dX11_turn_37 (M_X8_degree (jl E) (jg E) (a0 44) (a0 45) (a0 46) (X_poly0 (X_poly2_s s0 (r25.2))) hr37) u_3_193 u_3_190 u_3_191 u_3_192 u_1_12 ⟨ok_X8_degree, by decide, by decide⟩ rfl (Nat.le_of_ble_eq_true rfl) 44 rfl rfl H hP) [44, 45, 46] rfl rfl ?_
            refine j_goto (tgt := 45) K dX11_turn_40 (by decide) ?_
            obtain rfl := Option.some.inj h
            exact HR _ _ dX11_turn_45
          have hc0 := hc
          have h := jif hc h
          by_cases hc : v1 = 1
          · have h := jit hc h
            refine j_aald (pc' := 37) K dX11_turn_36 43 6 rfl rfl hg (by rw [hc]; rfl) rfl ?_
            obtain ⟨r37, hr37, h⟩ := jbd_some h
            refine j_ro (pc' := 40) K (fun H hP => jrun_V K dX11_turn_37 (M_X8_degree (jl E) (jg E) (a0 47) (a0 48) (a0 49) (X_poly1 (X_poly2_s s0 (r25.2))) hr37) u_3_193 u_3_190 u_3_191 u_3_192 u_1_12 ⟨ok_X8_degree, by decide, by decide⟩ rfl (Nat.le_of_ble_eq_true rfl) 47 rfl rfl H hP) [47, 48, 49] rfl rfl ?_
            refine j_goto (tgt := 45) K dX11_turn_40 (by decide) ?_
            obtain rfl := Option.some.inj h
            exact HR _ _ dX11_turn_45
          have hc1 := hc
          have h := jif hc h
          by_cases hc : v1 = 2
          · have h := jit hc h
            refine j_aald (pc' := 37) K dX11_turn_36 43 6 rfl rfl hg (by rw [hc]; rfl) rfl ?_
            obtain ⟨r37, hr37, h⟩ := jbd_some h
            refine j_ro (pc' := 40) K (fun H hP => jrun_V K dX11_turn_37 (M_X8_degree (jl E) (jg E) (a0 50) (a0 51) (a0 52) (X_poly2 (X_poly2_s s0 (r25.2))) hr37) u_3_193 u_3_190 u_3_191 u_3_192 u_1_12 ⟨ok_X8_degree, by decide, by decide⟩ rfl (Nat.le_of_ble_eq_true rfl) 50 rfl rfl H hP) [50, 51, 52] rfl rfl ?_
            refine j_goto (tgt := 45) K dX11_turn_40 (by decide) ?_
            obtain rfl := Option.some.inj h
            exact HR _ _ dX11_turn_45
          have hc2 := hc
          have h := jif hc h
          have hc : v1 = 3 := jin4 hg hc0 hc1 hc2
          refine j_aald (pc' := 37) K dX11_turn_36 43 6 rfl rfl hg (by rw [hc]; rfl) rfl ?_
          obtain ⟨r37, hr37, h⟩ := jbd_some h
          refine j_ro (pc' := 40) K (fun H hP => jrun_V K dX11_turn_37 (M_X8_degree (jl E) (jg E) (a0 53) (a0 54) (a0 55) (X_poly3 (X_poly2_s s0 (r25.2))) hr37) u_3_193 u_3_190 u_3_191 u_3_192 u_1_12 ⟨ok_X8_degree, by decide, by decide⟩ rfl (Nat.le_of_ble_eq_true rfl) 53 rfl rfl H hP) [53, 54, 55] rfl rfl ?_
          refine j_goto (tgt := 45) K dX11_turn_40 (by decide) ?_
          obtain rfl := Option.some.inj h
          exact HR _ _ dX11_turn_45
      have hc2 := hc
      have h := jif hc h
      have hc : v1 = 3 := jin4 hg hc0 hc1 hc2
      refine j_aald (pc' := 24) K dX11_turn_23 43 6 rfl rfl hg (by rw [hc]; rfl) rfl ?_
      refine j_iload_n (pc' := 25) K dX11_turn_24 rfl 2 rfl rfl ?_
      obtain ⟨r25, hr25, h⟩ := jbd_some h
      refine j_rw (pc' := 28) (ws' := (wX (jg E) a0 (X_poly3_s s0 (r25.2)))) K (fun H hP => jrun_V K dX11_turn_25 (M_X8_turnInto (jl E) (jg E) (a0 53) (a0 54) (a0 55) v2 (X_poly3 s0) hr25) u_3_201 u_3_198 u_3_199 u_3_200 u_1_12 ⟨ok_X8_turnInto, by decide, by decide⟩ rfl (Nat.le_of_ble_eq_true rfl) 53 rfl rfl H hP) hrw [53, 54, 55] rfl rfl rfl rfl rfl rfl ?_
      refine j_if_eq (pc' := 31) (tgt := 43) K dX11_turn_28 (by decide) rfl (fun hc => ?_) (fun hc => ?_)
      · have h := jit hc h
        refine j_bipush (pc' := 45) (v := (-2 : Int32)) K dX11_turn_43 (by decide) rfl ?_
        obtain rfl := Option.some.inj h
        exact HR _ _ dX11_turn_45
      · have h := jif hc h
        refine j_aload_n (pc' := 32) K dX11_turn_31 rfl 0 rfl rfl ?_
        refine j_get (pc' := 35) K dX11_turn_32 inX11 0 rfl rfl 4 (by decide) u_1_201 rfl rfl rfl ?_
        refine j_iload_n (pc' := 36) K dX11_turn_35 rfl 1 rfl rfl ?_
        obtain ⟨hg, h⟩ := jgd_some h
        by_cases hc : v1 = 0
        · have h := jit hc h
          refine j_aald (pc' := 37) K dX11_turn_36 43 6 rfl rfl hg (by rw [hc]; rfl) rfl ?_
          obtain ⟨r37, hr37, h⟩ := jbd_some h
          refine j_ro (pc' := 40) K (fun H hP => jrun_V K dX11_turn_37 (M_X8_degree (jl E) (jg E) (a0 44) (a0 45) (a0 46) (X_poly0 (X_poly3_s s0 (r25.2))) hr37) u_3_193 u_3_190 u_3_191 u_3_192 u_1_12 ⟨ok_X8_degree, by decide, by decide⟩ rfl (Nat.le_of_ble_eq_true rfl) 44 rfl rfl H hP) [44, 45, 46] rfl rfl ?_
          refine j_goto (tgt := 45) K dX11_turn_40 (by decide) ?_
          obtain rfl := Option.some.inj h
          exact HR _ _ dX11_turn_45
        have hc0 := hc
        have h := jif hc h
        by_cases hc : v1 = 1
        · have h := jit hc h
          refine j_aald (pc' := 37) K dX11_turn_36 43 6 rfl rfl hg (by rw [hc]; rfl) rfl ?_
          obtain ⟨r37, hr37, h⟩ := jbd_some h
          refine j_ro (pc' := 40) K (fun H hP => jrun_V K dX11_turn_37 (M_X8_degree (jl E) (jg E) (a0 47) (a0 48) (a0 49) (X_poly1 (X_poly3_s s0 (r25.2))) hr37) u_3_193 u_3_190 u_3_191 u_3_192 u_1_12 ⟨ok_X8_degree, by decide, by decide⟩ rfl (Nat.le_of_ble_eq_true rfl) 47 rfl rfl H hP) [47, 48, 49] rfl rfl ?_
          refine j_goto (tgt := 45) K dX11_turn_40 (by decide) ?_
          obtain rfl := Option.some.inj h
          exact HR _ _ dX11_turn_45
        have hc1 := hc
        have h := jif hc h
        by_cases hc : v1 = 2
        · have h := jit hc h
          refine j_aald (pc' := 37) K dX11_turn_36 43 6 rfl rfl hg (by rw [hc]; rfl) rfl ?_
          obtain ⟨r37, hr37, h⟩ := jbd_some h
          refine j_ro (pc' := 40) K (fun H hP => jrun_V K dX11_turn_37 (M_X8_degree (jl E) (jg E) (a0 50) (a0 51) (a0 52) (X_poly2 (X_poly3_s s0 (r25.2))) hr37) u_3_193 u_3_190 u_3_191 u_3_192 u_1_12 ⟨ok_X8_degree, by decide, by decide⟩ rfl (Nat.le_of_ble_eq_true rfl) 50 rfl rfl H hP) [50, 51, 52] rfl rfl ?_
          refine j_goto (tgt := 45) K dX11_turn_40 (by decide) ?_
          obtain rfl := Option.some.inj h
          exact HR _ _ dX11_turn_45
        have hc2 := hc
        have h := jif hc h
        have hc : v1 = 3 := jin4 hg hc0 hc1 hc2
        refine j_aald (pc' := 37) K dX11_turn_36 43 6 rfl rfl hg (by rw [hc]; rfl) rfl ?_
        obtain ⟨r37, hr37, h⟩ := jbd_some h
        refine j_ro (pc' := 40) K (fun H hP => jrun_V K dX11_turn_37 (M_X8_degree (jl E) (jg E) (a0 53) (a0 54) (a0 55) (X_poly3 (X_poly3_s s0 (r25.2))) hr37) u_3_193 u_3_190 u_3_191 u_3_192 u_1_12 ⟨ok_X8_degree, by decide, by decide⟩ rfl (Nat.le_of_ble_eq_true rfl) 53 rfl rfl H hP) [53, 54, 55] rfl rfl ?_
        refine j_goto (tgt := 45) K dX11_turn_40 (by decide) ?_
        obtain rfl := Option.some.inj h
        exact HR _ _ dX11_turn_45
    · have h := jit hc h
      refine j_iconst (pc' := 17) (v := (-1 : Int32)) K dX11_turn_16 (by decide) rfl ?_
      obtain rfl := Option.some.inj h
      exact HR _ _ dX11_turn_17
set_option maxRecDepth 100000 in
set_option maxHeartbeats 4000000 in
theorem M_X11_turn (l : Launch) (G : jG) (a0 : Nat → Nat) (v1 : Int32) (v2 : Int32) (s0 : XS) {r : Int32 × XS} (h : f_X11_turn v1 v2 s0 = some r) : MC l yX11_turn cX11_turn 3 (some .int) 4 G (jad (wX G a0 s0)) True (wX G a0 s0) (wX G a0 (r.2)) [.ref (a0 0), .int v1, .int v2] (some (.int (r.1))) := by
  refine mc_int (by decide +kernel) (Nat.le_of_ble_eq_true rfl) fun E hl hg hA hrw K HR => ?_
  subst hl
  subst hg
  have hrw : jrw E := by rw [hrw]; trivial
  exact b_X11_turn a0 K hrw HR v1 v2 s0 h
theorem ok_X11_value : yX11_value.cls ≠ "java/lang/invoke/MethodHandle" ∧ yX11_value.cls ≠ "java/lang/invoke/VarHandle" ∧ (parseMethodDescriptor yX11_value.desc).map (fun d => d.parameters.length) = some 3 := ⟨by decide, by decide, by decide +kernel⟩
def f_X11_value (v1 : Int32) (v2 : Int32) (v3 : Int32) (s0 : XS) : Option (Int64 × XS) :=
   jbd (f_X11_isPolynomial v1) (fun r1 =>
   if r1 = 0 then
    some ((-1000000000000000001 : Int64), s0)
   else
    jbd (f_X11_within v2 (-20 : Int32) (20 : Int32)) (fun r12 =>
     if r12 = 0 then
      some ((-1000000000000000001 : Int64), s0)
     else
      jbd (f_X11_within v3 (0 : Int32) (8 : Int32)) (fun r22 =>
       if r22 = 0 then
        some ((-1000000000000000001 : Int64), s0)
       else
        jgd v1 4 (
         if v1 = 0 then (
          jbd (f_X8_difference v2 v3 (X_poly0 s0)) (fun r40 =>
           some ((r40.1), (X_poly0_s s0 (r40.2))))) else if v1 = 1 then (
          jbd (f_X8_difference v2 v3 (X_poly1 s0)) (fun r40 =>
           some ((r40.1), (X_poly1_s s0 (r40.2))))) else if v1 = 2 then (
          jbd (f_X8_difference v2 v3 (X_poly2 s0)) (fun r40 =>
           some ((r40.1), (X_poly2_s s0 (r40.2))))) else (
          jbd (f_X8_difference v2 v3 (X_poly3 s0)) (fun r40 =>
           some ((r40.1), (X_poly3_s s0 (r40.2)))))))))
set_option maxRecDepth 100000 in
set_option maxHeartbeats 4000000 in
theorem b_X11_value {E : jE} (a0 : Nat → Nat) {res : Int64 × XS} (K : jC E cX11_value 4 RX11 3) (hrw : jrw E) (HR : jRL E cX11_value 4 (wX (jg E) a0 (res.2)) (res.1)) : ∀ (v1 : Int32) (v2 : Int32) (v3 : Int32) (s0 : XS), f_X11_value v1 v2 v3 s0 = some res → J E 4 (wX (jg E) a0 s0) 0 [(0, .ref (a0 0)), (1, .int v1), (2, .int v2), (3, .int v3)] [] := by
  intro v1 v2 v3 s0 h
  unfold f_X11_value at h
  refine j_iload_n (pc' := 1) K dX11_value_0 rfl 1 rfl rfl ?_
  obtain ⟨r1, hr1, h⟩ := jbd_some h
  refine j_ro (pc' := 4) K (fun H hP => jrun_S K dX11_value_1 (M_X11_isPolynomial (jl E) (jg E) v1 hr1) u_3_155 u_3_153 u_3_154 u_1_1 ⟨ok_X11_isPolynomial, by decide, by decide⟩ rfl (Nat.le_of_ble_eq_true rfl) H) [] rfl rfl ?_
  refine j_if_eq (pc' := 7) (tgt := 28) K dX11_value_4 (by decide) rfl (fun hc => ?_) (fun hc => ?_)
  · have h := jit hc h
    refine j_ldc2 (pc' := 31) K dX11_value_28 u_2_90 rfl ?_
    obtain rfl := Option.some.inj h
    exact HR _ _ dX11_value_31
  · have h := jif hc h
    refine j_iload_n (pc' := 8) K dX11_value_7 rfl 2 rfl rfl ?_
    refine j_bipush (pc' := 10) (v := (-20 : Int32)) K dX11_value_8 (by decide) rfl ?_
    refine j_bipush (pc' := 12) (v := (20 : Int32)) K dX11_value_10 (by decide) rfl ?_
    obtain ⟨r12, hr12, h⟩ := jbd_some h
    refine j_ro (pc' := 15) K (fun H hP => jrun_S K dX11_value_12 (M_X11_within (jl E) (jg E) v2 (-20 : Int32) (20 : Int32) hr12) u_1_76 u_1_217 u_1_75 u_1_1 ⟨ok_X11_within, by decide, by decide⟩ rfl (Nat.le_of_ble_eq_true rfl) H) [] rfl rfl ?_
    refine j_if_eq (pc' := 18) (tgt := 28) K dX11_value_15 (by decide) rfl (fun hc => ?_) (fun hc => ?_)
    · have h := jit hc h
      refine j_ldc2 (pc' := 31) K dX11_value_28 u_2_90 rfl ?_
      obtain rfl := Option.some.inj h
      exact HR _ _ dX11_value_31
    · have h := jif hc h
      refine j_iload_n (pc' := 19) K dX11_value_18 rfl 3 rfl rfl ?_
      refine j_iconst (pc' := 20) (v := (0 : Int32)) K dX11_value_19 (by decide) rfl ?_
      refine j_bipush (pc' := 22) (v := (8 : Int32)) K dX11_value_20 (by decide) rfl ?_
      obtain ⟨r22, hr22, h⟩ := jbd_some h
      refine j_ro (pc' := 25) K (fun H hP => jrun_S K dX11_value_22 (M_X11_within (jl E) (jg E) v3 (0 : Int32) (8 : Int32) hr22) u_1_76 u_1_217 u_1_75 u_1_1 ⟨ok_X11_within, by decide, by decide⟩ rfl (Nat.le_of_ble_eq_true rfl) H) [] rfl rfl ?_
      refine j_if_ne (pc' := 28) (tgt := 32) K dX11_value_25 (by decide) rfl (fun hc => ?_) (fun hc => ?_)
      · have h := jif hc h
        refine j_aload_n (pc' := 33) K dX11_value_32 rfl 0 rfl rfl ?_
        refine j_get (pc' := 36) K dX11_value_33 inX11 0 rfl rfl 4 (by decide) u_1_201 rfl rfl rfl ?_
        refine j_iload_n (pc' := 37) K dX11_value_36 rfl 1 rfl rfl ?_
        obtain ⟨hg, h⟩ := jgd_some h
        by_cases hc : v1 = 0
        · have h := jit hc h
          refine j_aald (pc' := 38) K dX11_value_37 43 6 rfl rfl hg (by rw [hc]; rfl) rfl ?_
          refine j_iload_n (pc' := 39) K dX11_value_38 rfl 2 rfl rfl ?_
          refine j_iload_n (pc' := 40) K dX11_value_39 rfl 3 rfl rfl ?_
          obtain ⟨r40, hr40, h⟩ := jbd_some h
          refine j_rw (pc' := 43) (ws' := (wX (jg E) a0 (X_poly0_s s0 (r40.2)))) K (fun H hP => jrun_V K dX11_value_40 (M_X8_difference (jl E) (jg E) (a0 44) (a0 45) (a0 46) v2 v3 (X_poly0 s0) hr40) u_3_234 u_3_231 u_3_232 u_3_233 u_1_12 ⟨ok_X8_difference, by decide, by decide⟩ rfl (Nat.le_of_ble_eq_true rfl) 44 rfl rfl H hP) hrw [44, 45, 46] rfl rfl rfl rfl rfl rfl ?_
          obtain rfl := Option.some.inj h
          exact HR _ _ dX11_value_43
        have hc0 := hc
        have h := jif hc h
        by_cases hc : v1 = 1
        · have h := jit hc h
          refine j_aald (pc' := 38) K dX11_value_37 43 6 rfl rfl hg (by rw [hc]; rfl) rfl ?_
          refine j_iload_n (pc' := 39) K dX11_value_38 rfl 2 rfl rfl ?_
          refine j_iload_n (pc' := 40) K dX11_value_39 rfl 3 rfl rfl ?_
          obtain ⟨r40, hr40, h⟩ := jbd_some h
          refine j_rw (pc' := 43) (ws' := (wX (jg E) a0 (X_poly1_s s0 (r40.2)))) K (fun H hP => jrun_V K dX11_value_40 (M_X8_difference (jl E) (jg E) (a0 47) (a0 48) (a0 49) v2 v3 (X_poly1 s0) hr40) u_3_234 u_3_231 u_3_232 u_3_233 u_1_12 ⟨ok_X8_difference, by decide, by decide⟩ rfl (Nat.le_of_ble_eq_true rfl) 47 rfl rfl H hP) hrw [47, 48, 49] rfl rfl rfl rfl rfl rfl ?_
          obtain rfl := Option.some.inj h
          exact HR _ _ dX11_value_43
        have hc1 := hc
        have h := jif hc h
        by_cases hc : v1 = 2
        · have h := jit hc h
          refine j_aald (pc' := 38) K dX11_value_37 43 6 rfl rfl hg (by rw [hc]; rfl) rfl ?_
          refine j_iload_n (pc' := 39) K dX11_value_38 rfl 2 rfl rfl ?_
          refine j_iload_n (pc' := 40) K dX11_value_39 rfl 3 rfl rfl ?_
          obtain ⟨r40, hr40, h⟩ := jbd_some h
          refine j_rw (pc' := 43) (ws' := (wX (jg E) a0 (X_poly2_s s0 (r40.2)))) K (fun H hP => jrun_V K dX11_value_40 (M_X8_difference (jl E) (jg E) (a0 50) (a0 51) (a0 52) v2 v3 (X_poly2 s0) hr40) u_3_234 u_3_231 u_3_232 u_3_233 u_1_12 ⟨ok_X8_difference, by decide, by decide⟩ rfl (Nat.le_of_ble_eq_true rfl) 50 rfl rfl H hP) hrw [50, 51, 52] rfl rfl rfl rfl rfl rfl ?_
          obtain rfl := Option.some.inj h
          exact HR _ _ dX11_value_43
        have hc2 := hc
        have h := jif hc h
        have hc : v1 = 3 := jin4 hg hc0 hc1 hc2
        refine j_aald (pc' := 38) K dX11_value_37 43 6 rfl rfl hg (by rw [hc]; rfl) rfl ?_
        refine j_iload_n (pc' := 39) K dX11_value_38 rfl 2 rfl rfl ?_
        refine j_iload_n (pc' := 40) K dX11_value_39 rfl 3 rfl rfl ?_
        obtain ⟨r40, hr40, h⟩ := jbd_some h
        refine j_rw (pc' := 43) (ws' := (wX (jg E) a0 (X_poly3_s s0 (r40.2)))) K (fun H hP => jrun_V K dX11_value_40 (M_X8_difference (jl E) (jg E) (a0 53) (a0 54) (a0 55) v2 v3 (X_poly3 s0) hr40) u_3_234 u_3_231 u_3_232 u_3_233 u_1_12 ⟨ok_X8_difference, by decide, by decide⟩ rfl (Nat.le_of_ble_eq_true rfl) 53 rfl rfl H hP) hrw [53, 54, 55] rfl rfl rfl rfl rfl rfl ?_
        obtain rfl := Option.some.inj h
        exact HR _ _ dX11_value_43
      · have h := jit hc h
        refine j_ldc2 (pc' := 31) K dX11_value_28 u_2_90 rfl ?_
        obtain rfl := Option.some.inj h
        exact HR _ _ dX11_value_31
set_option maxRecDepth 100000 in
set_option maxHeartbeats 4000000 in
theorem M_X11_value (l : Launch) (G : jG) (a0 : Nat → Nat) (v1 : Int32) (v2 : Int32) (v3 : Int32) (s0 : XS) {r : Int64 × XS} (h : f_X11_value v1 v2 v3 s0 = some r) : MC l yX11_value cX11_value 4 (some .long) 3 G (jad (wX G a0 s0)) True (wX G a0 s0) (wX G a0 (r.2)) [.ref (a0 0), .int v1, .int v2, .int v3] (some (.long (r.1))) := by
  refine mc_long (by decide +kernel) (Nat.le_of_ble_eq_true rfl) fun E hl hg hA hrw K HR => ?_
  subst hl
  subst hg
  have hrw : jrw E := by rw [hrw]; trivial
  exact b_X11_value a0 K hrw HR v1 v2 v3 s0 h
theorem ok_X11_sumUp : yX11_sumUp.cls ≠ "java/lang/invoke/MethodHandle" ∧ yX11_sumUp.cls ≠ "java/lang/invoke/VarHandle" ∧ (parseMethodDescriptor yX11_sumUp.desc).map (fun d => d.parameters.length) = some 1 := ⟨by decide, by decide, by decide +kernel⟩
def f_X11_sumUp (v1 : Int32) (s0 : XS) : Option (Int32 × XS) :=
   jbd (f_X11_isPolynomial v1) (fun r1 =>
   if r1 = 0 then
    some ((-1 : Int32), s0)
   else
    jgd v1 4 (
     if v1 = 0 then (
      jbd (f_X8_becomeSum (X_poly0 s0)) (fun r15 =>
       if (r15.1) = 0 then
        some ((-2 : Int32), (X_poly0_s s0 (r15.2)))
       else
        jgd v1 4 (
         if v1 = 0 then (
          jbd (f_X8_degree (X_poly0 (X_poly0_s s0 (r15.2)))) (fun r27 =>
           some (r27, (X_poly0_s s0 (r15.2))))) else if v1 = 1 then (
          jbd (f_X8_degree (X_poly1 (X_poly0_s s0 (r15.2)))) (fun r27 =>
           some (r27, (X_poly0_s s0 (r15.2))))) else if v1 = 2 then (
          jbd (f_X8_degree (X_poly2 (X_poly0_s s0 (r15.2)))) (fun r27 =>
           some (r27, (X_poly0_s s0 (r15.2))))) else (
          jbd (f_X8_degree (X_poly3 (X_poly0_s s0 (r15.2)))) (fun r27 =>
           some (r27, (X_poly0_s s0 (r15.2)))))))) else if v1 = 1 then (
      jbd (f_X8_becomeSum (X_poly1 s0)) (fun r15 =>
       if (r15.1) = 0 then
        some ((-2 : Int32), (X_poly1_s s0 (r15.2)))
       else
        jgd v1 4 (
         if v1 = 0 then (
          jbd (f_X8_degree (X_poly0 (X_poly1_s s0 (r15.2)))) (fun r27 =>
           some (r27, (X_poly1_s s0 (r15.2))))) else if v1 = 1 then (
          jbd (f_X8_degree (X_poly1 (X_poly1_s s0 (r15.2)))) (fun r27 =>
           some (r27, (X_poly1_s s0 (r15.2))))) else if v1 = 2 then (
          jbd (f_X8_degree (X_poly2 (X_poly1_s s0 (r15.2)))) (fun r27 =>
           some (r27, (X_poly1_s s0 (r15.2))))) else (
          jbd (f_X8_degree (X_poly3 (X_poly1_s s0 (r15.2)))) (fun r27 =>
           some (r27, (X_poly1_s s0 (r15.2)))))))) else if v1 = 2 then (
      jbd (f_X8_becomeSum (X_poly2 s0)) (fun r15 =>
       if (r15.1) = 0 then
        some ((-2 : Int32), (X_poly2_s s0 (r15.2)))
       else
        jgd v1 4 (
         if v1 = 0 then (
          jbd (f_X8_degree (X_poly0 (X_poly2_s s0 (r15.2)))) (fun r27 =>
           some (r27, (X_poly2_s s0 (r15.2))))) else if v1 = 1 then (
          jbd (f_X8_degree (X_poly1 (X_poly2_s s0 (r15.2)))) (fun r27 =>
           some (r27, (X_poly2_s s0 (r15.2))))) else if v1 = 2 then (
          jbd (f_X8_degree (X_poly2 (X_poly2_s s0 (r15.2)))) (fun r27 =>
           some (r27, (X_poly2_s s0 (r15.2))))) else (
          jbd (f_X8_degree (X_poly3 (X_poly2_s s0 (r15.2)))) (fun r27 =>
           some (r27, (X_poly2_s s0 (r15.2)))))))) else (
      jbd (f_X8_becomeSum (X_poly3 s0)) (fun r15 =>
       if (r15.1) = 0 then
        some ((-2 : Int32), (X_poly3_s s0 (r15.2)))
       else
        jgd v1 4 (
         if v1 = 0 then (
          jbd (f_X8_degree (X_poly0 (X_poly3_s s0 (r15.2)))) (fun r27 =>
           some (r27, (X_poly3_s s0 (r15.2))))) else if v1 = 1 then (
          jbd (f_X8_degree (X_poly1 (X_poly3_s s0 (r15.2)))) (fun r27 =>
           some (r27, (X_poly3_s s0 (r15.2))))) else if v1 = 2 then (
          jbd (f_X8_degree (X_poly2 (X_poly3_s s0 (r15.2)))) (fun r27 =>
           some (r27, (X_poly3_s s0 (r15.2))))) else (
          jbd (f_X8_degree (X_poly3 (X_poly3_s s0 (r15.2)))) (fun r27 =>
           some (r27, (X_poly3_s s0 (r15.2))))))))))
set_option maxRecDepth 100000 in
set_option maxHeartbeats 4000000 in
theorem b_X11_sumUp {E : jE} (a0 : Nat → Nat) {res : Int32 × XS} (K : jC E cX11_sumUp 2 RX11 4) (hrw : jrw E) (HR : jRI E cX11_sumUp 2 (wX (jg E) a0 (res.2)) (res.1)) : ∀ (v1 : Int32) (s0 : XS), f_X11_sumUp v1 s0 = some res → J E 2 (wX (jg E) a0 s0) 0 [(0, .ref (a0 0)), (1, .int v1)] [] := by
  intro v1 s0 h
  unfold f_X11_sumUp at h
  refine j_iload_n (pc' := 1) K dX11_sumUp_0 rfl 1 rfl rfl ?_
  obtain ⟨r1, hr1, h⟩ := jbd_some h
  refine j_ro (pc' := 4) K (fun H hP => jrun_S K dX11_sumUp_1 (M_X11_isPolynomial (jl E) (jg E) v1 hr1) u_3_155 u_3_153 u_3_154 u_1_1 ⟨ok_X11_isPolynomial, by decide, by decide⟩ rfl (Nat.le_of_ble_eq_true rfl) H) [] rfl rfl ?_
  refine j_if_ne (pc' := 7) (tgt := 9) K dX11_sumUp_4 (by decide) rfl (fun hc => ?_) (fun hc => ?_)
  · have h := jif hc h
    refine j_aload_n (pc' := 10) K dX11_sumUp_9 rfl 0 rfl rfl ?_
    refine j_get (pc' := 13) K dX11_sumUp_10 inX11 0 rfl rfl 4 (by decide) u_1_201 rfl rfl rfl ?_
    refine j_iload_n (pc' := 14) K dX11_sumUp_13 rfl 1 rfl rfl ?_
    obtain ⟨hg, h⟩ := jgd_some h
    by_cases hc : v1 = 0
    · have h := jit hc h
      refine j_aald (pc' := 15) K dX11_sumUp_14 43 6 rfl rfl hg (by rw [hc]; rfl) rfl ?_
      obtain ⟨r15, hr15, h⟩ := jbd_some h
      refine j_rw (pc' := 18) (ws' := (wX (jg E) a0 (X_poly0_s s0 (r15.2)))) K (fun H hP => jrun_V K dX11_sumUp_15 (M_X8_becomeSum (jl E) (jg E) (a0 44) (a0 45) (a0 46) (X_poly0 s0) hr15) u_4_6 u_4_3 u_4_4 u_4_5 u_1_12 ⟨ok_X8_becomeSum, by decide, by decide⟩ rfl (Nat.le_of_ble_eq_true rfl) 44 rfl rfl H hP) hrw [44, 45, 46] rfl rfl rfl rfl rfl rfl ?_
      refine j_if_eq (pc' := 21) (tgt := 33) K dX11_sumUp_18 (by decide) rfl (fun hc => ?_) (fun hc => ?_)
      · have h := jit hc h
        refine j_bipush (pc' := 35) (v := (-2 : Int32)) K dX11_sumUp_33 (by decide) rfl ?_
        obtain rfl := Option.some.inj h
        exact HR _ _ dX11_sumUp_35
      · have h := jif hc h
        refine j_aload_n (pc' := 22) K dX11_sumUp_21 rfl 0 rfl rfl ?_
        refine j_get (pc' := 25) K dX11_sumUp_22 inX11 0 rfl rfl 4 (by decide) u_1_201 rfl rfl rfl ?_
        refine j_iload_n (pc' := 26) K dX11_sumUp_25 rfl 1 rfl rfl ?_
        obtain ⟨hg, h⟩ := jgd_some h
        by_cases hc : v1 = 0
        · have h := jit hc h
          refine j_aald (pc' := 27) K dX11_sumUp_26 43 6 rfl rfl hg (by rw [hc]; rfl) rfl ?_
          obtain ⟨r27, hr27, h⟩ := jbd_some h
          refine j_ro (pc' := 30) K (fun H hP => jrun_V K dX11_sumUp_27 (M_X8_degree (jl E) (jg E) (a0 44) (a0 45) (a0 46) (X_poly0 (X_poly0_s s0 (r15.2))) hr27) u_3_193 u_3_190 u_3_191 u_3_192 u_1_12 ⟨ok_X8_degree, by decide, by decide⟩ rfl (Nat.le_of_ble_eq_true rfl) 44 rfl rfl H hP) [44, 45, 46] rfl rfl ?_
          refine j_goto (tgt := 35) K dX11_sumUp_30 (by decide) ?_
          obtain rfl := Option.some.inj h
          exact HR _ _ dX11_sumUp_35
        have hc0 := hc
        have h := jif hc h
        by_cases hc : v1 = 1
        · have h := jit hc h
          refine j_aald (pc' := 27) K dX11_sumUp_26 43 6 rfl rfl hg (by rw [hc]; rfl) rfl ?_
          obtain ⟨r27, hr27, h⟩ := jbd_some h
          refine j_ro (pc' := 30) K (fun H hP => jrun_V K dX11_sumUp_27 (M_X8_degree (jl E) (jg E) (a0 47) (a0 48) (a0 49) (X_poly1 (X_poly0_s s0 (r15.2))) hr27) u_3_193 u_3_190 u_3_191 u_3_192 u_1_12 ⟨ok_X8_degree, by decide, by decide⟩ rfl (Nat.le_of_ble_eq_true rfl) 47 rfl rfl H hP) [47, 48, 49] rfl rfl ?_
          refine j_goto (tgt := 35) K dX11_sumUp_30 (by decide) ?_
          obtain rfl := Option.some.inj h
          exact HR _ _ dX11_sumUp_35
        have hc1 := hc
        have h := jif hc h
        by_cases hc : v1 = 2
        · have h := jit hc h
          refine j_aald (pc' := 27) K dX11_sumUp_26 43 6 rfl rfl hg (by rw [hc]; rfl) rfl ?_
          obtain ⟨r27, hr27, h⟩ := jbd_some h
          refine j_ro (pc' := 30) K (fun H hP => jrun_V K dX11_sumUp_27 (M_X8_degree (jl E) (jg E) (a0 50) (a0 51) (a0 52) (X_poly2 (X_poly0_s s0 (r15.2))) hr27) u_3_193 u_3_190 u_3_191 u_3_192 u_1_12 ⟨ok_X8_degree, by decide, by decide⟩ rfl (Nat.le_of_ble_eq_true rfl) 50 rfl rfl H hP) [50, 51, 52] rfl rfl ?_
          refine j_goto (tgt := 35) K dX11_sumUp_30 (by decide) ?_
          obtain rfl := Option.some.inj h
          exact HR _ _ dX11_sumUp_35
        have hc2 := hc
        have h := jif hc h
        have hc : v1 = 3 := jin4 hg hc0 hc1 hc2
        refine j_aald (pc' := 27) K dX11_sumUp_26 43 6 rfl rfl hg (by rw [hc]; rfl) rfl ?_
        obtain ⟨r27, hr27, h⟩ := jbd_some h
        refine j_ro (pc' := 30) K (fun H hP => jrun_V K dX11_sumUp_27 (M_X8_degree (jl E) (jg E) (a0 53) (a0 54) (a0 55) (X_poly3 (X_poly0_s s0 (r15.2))) hr27) u_3_193 u_3_190 u_3_191 u_3_192 u_1_12 ⟨ok_X8_degree, by decide, by decide⟩ rfl (Nat.le_of_ble_eq_true rfl) 53 rfl rfl H hP) [53, 54, 55] rfl rfl ?_
        refine j_goto (tgt := 35) K dX11_sumUp_30 (by decide) ?_
        obtain rfl := Option.some.inj h
        exact HR _ _ dX11_sumUp_35
    have hc0 := hc
    have h := jif hc h
    by_cases hc : v1 = 1
    · have h := jit hc h
      refine j_aald (pc' := 15) K dX11_sumUp_14 43 6 rfl rfl hg (by rw [hc]; rfl) rfl ?_
      obtain ⟨r15, hr15, h⟩ := jbd_some h
      refine j_rw (pc' := 18) (ws' := (wX (jg E) a0 (X_poly1_s s0 (r15.2)))) K (fun H hP => jrun_V K dX11_sumUp_15 (M_X8_becomeSum (jl E) (jg E) (a0 47) (a0 48) (a0 49) (X_poly1 s0) hr15) u_4_6 u_4_3 u_4_4 u_4_5 u_1_12 ⟨ok_X8_becomeSum, by decide, by decide⟩ rfl (Nat.le_of_ble_eq_true rfl) 47 rfl rfl H hP) hrw [47, 48, 49] rfl rfl rfl rfl rfl rfl ?_
      refine j_if_eq (pc' := 21) (tgt := 33) K dX11_sumUp_18 (by decide) rfl (fun hc => ?_) (fun hc => ?_)
      · have h := jit hc h
        refine j_bipush (pc' := 35) (v := (-2 : Int32)) K dX11_sumUp_33 (by decide) rfl ?_
        obtain rfl := Option.some.inj h
        exact HR _ _ dX11_sumUp_35
      · have h := jif hc h
        refine j_aload_n (pc' := 22) K dX11_sumUp_21 rfl 0 rfl rfl ?_
        refine j_get (pc' := 25) K dX11_sumUp_22 inX11 0 rfl rfl 4 (by decide) u_1_201 rfl rfl rfl ?_
        refine j_iload_n (pc' := 26) K dX11_sumUp_25 rfl 1 rfl rfl ?_
        obtain ⟨hg, h⟩ := jgd_some h
        by_cases hc : v1 = 0
        · have h := jit hc h
          refine j_aald (pc' := 27) K dX11_sumUp_26 43 6 rfl rfl hg (by rw [hc]; rfl) rfl ?_
          obtain ⟨r27, hr27, h⟩ := jbd_some h
          refine j_ro (pc' := 30) K (fun H hP => jrun_V K dX11_sumUp_27 (M_X8_degree (jl E) (jg E) (a0 44) (a0 45) (a0 46) (X_poly0 (X_poly1_s s0 (r15.2))) hr27) u_3_193 u_3_190 u_3_191 u_3_192 u_1_12 ⟨ok_X8_degree, by decide, by decide⟩ rfl (Nat.le_of_ble_eq_true rfl) 44 rfl rfl H hP) [44, 45, 46] rfl rfl ?_
          refine j_goto (tgt := 35) K dX11_sumUp_30 (by decide) ?_
          obtain rfl := Option.some.inj h
          exact HR _ _ dX11_sumUp_35
        have hc0 := hc
        have h := jif hc h
        by_cases hc : v1 = 1
        · have h := jit hc h
          refine j_aald (pc' := 27) K dX11_sumUp_26 43 6 rfl rfl hg (by rw [hc]; rfl) rfl ?_
          obtain ⟨r27, hr27, h⟩ := jbd_some h
          refine j_ro (pc' := 30) K (fun H hP => jrun_V K dX11_sumUp_27 (M_X8_degree (jl E) (jg E) (a0 47) (a0 48) (a0 49) (X_poly1 (X_poly1_s s0 (r15.2))) hr27) u_3_193 u_3_190 u_3_191 u_3_192 u_1_12 ⟨ok_X8_degree, by decide, by decide⟩ rfl (Nat.le_of_ble_eq_true rfl) 47 rfl rfl H hP) [47, 48, 49] rfl rfl ?_
          refine j_goto (tgt := 35) K dX11_sumUp_30 (by decide) ?_
          obtain rfl := Option.some.inj h
          exact HR _ _ dX11_sumUp_35
        have hc1 := hc
        have h := jif hc h
        by_cases hc : v1 = 2
        · have h := jit hc h
          refine j_aald (pc' := 27) K dX11_sumUp_26 43 6 rfl rfl hg (by rw [hc]; rfl) rfl ?_
          obtain ⟨r27, hr27, h⟩ := jbd_some h
          refine j_ro (pc' := 30) K (fun H hP => jrun_V K dX11_sumUp_27 (M_X8_degree (jl E) (jg E) (a0 50) (a0 51) (a0 52) (X_poly2 (X_poly1_s s0 (r15.2))) hr27) u_3_193 u_3_190 u_3_191 u_3_192 u_1_12 ⟨ok_X8_degree, by decide, by decide⟩ rfl (Nat.le_of_ble_eq_true rfl) 50 rfl rfl H hP) [50, 51, 52] rfl rfl ?_
          refine j_goto (tgt := 35) K dX11_sumUp_30 (by decide) ?_
          obtain rfl := Option.some.inj h
          exact HR _ _ dX11_sumUp_35
        have hc2 := hc
        have h := jif hc h
        have hc : v1 = 3 := jin4 hg hc0 hc1 hc2
        refine j_aald (pc' := 27) K dX11_sumUp_26 43 6 rfl rfl hg (by rw [hc]; rfl) rfl ?_
        obtain ⟨r27, hr27, h⟩ := jbd_some h
        refine j_ro (pc' := 30) K (fun H hP => jrun_V K dX11_sumUp_27 (M_X8_degree (jl E) (jg E) (a0 53) (a0 54) (a0 55) (X_poly3 (X_poly1_s s0 (r15.2))) hr27) u_3_193 u_3_190 u_3_191 u_3_192 u_1_12 ⟨ok_X8_degree, by decide, by decide⟩ rfl (Nat.le_of_ble_eq_true rfl) 53 rfl rfl H hP) [53, 54, 55] rfl rfl ?_
        refine j_goto (tgt := 35) K dX11_sumUp_30 (by decide) ?_
        obtain rfl := Option.some.inj h
        exact HR _ _ dX11_sumUp_35
    have hc1 := hc
    have h := jif hc h
    by_cases hc : v1 = 2
    · have h := jit hc h
      refine j_aald (pc' := 15) K dX11_sumUp_14 43 6 rfl rfl hg (by rw [hc]; rfl) rfl ?_
      obtain ⟨r15, hr15, h⟩ := jbd_some h
      refine j_rw (pc' := 18) (ws' := (wX (jg E) a0 (X_poly2_s s0 (r15.2)))) K (fun H hP => jrun_V K dX11_sumUp_15 (M_X8_becomeSum (jl E) (jg E) (a0 50) (a0 51) (a0 52) (X_poly2 s0) hr15) u_4_6 u_4_3 u_4_4 u_4_5 u_1_12 ⟨ok_X8_becomeSum, by decide, by decide⟩ rfl (Nat.le_of_ble_eq_true rfl) 50 rfl rfl H hP) hrw [50, 51, 52] rfl rfl rfl rfl rfl rfl ?_
      refine j_if_eq (pc' := 21) (tgt := 33) K dX11_sumUp_18 (by decide) rfl (fun hc => ?_) (fun hc => ?_)
      · have h := jit hc h
        refine j_bipush (pc' := 35) (v := (-2 : Int32)) K dX11_sumUp_33 (by decide) rfl ?_
        obtain rfl := Option.some.inj h
        exact HR _ _ dX11_sumUp_35
      · have h := jif hc h
        refine j_aload_n (pc' := 22) K dX11_sumUp_21 rfl 0 rfl rfl ?_
        refine j_get (pc' := 25) K dX11_sumUp_22 inX11 0 rfl rfl 4 (by decide) u_1_201 rfl rfl rfl ?_
        refine j_iload_n (pc' := 26) K dX11_sumUp_25 rfl 1 rfl rfl ?_
        obtain ⟨hg, h⟩ := jgd_some h
        by_cases hc : v1 = 0
        · have h := jit hc h
          refine j_aald (pc' := 27) K dX11_sumUp_26 43 6 rfl rfl hg (by rw [hc]; rfl) rfl ?_
          obtain ⟨r27, hr27, h⟩ := jbd_some h
          refine j_ro (pc' := 30) K (fun H hP => jrun_V K dX11_sumUp_27 (M_X8_degree (jl E) (jg E) (a0 44) (a0 45) (a0 46) (X_poly0 (X_poly2_s s0 (r15.2))) hr27) u_3_193 u_3_190 u_3_191 u_3_192 u_1_12 ⟨ok_X8_degree, by decide, by decide⟩ rfl (Nat.le_of_ble_eq_true rfl) 44 rfl rfl H hP) [44, 45, 46] rfl rfl ?_
          refine j_goto (tgt := 35) K dX11_sumUp_30 (by decide) ?_
          obtain rfl := Option.some.inj h
          exact HR _ _ dX11_sumUp_35
        have hc0 := hc
        have h := jif hc h
        by_cases hc : v1 = 1
        · have h := jit hc h
          refine j_aald (pc' := 27) K dX11_sumUp_26 43 6 rfl rfl hg (by rw [hc]; rfl) rfl ?_
          obtain ⟨r27, hr27, h⟩ := jbd_some h
          refine j_ro (pc' := 30) K (fun H hP => jrun_V K dX11_sumUp_27 (M_X8_degree (jl E) (jg E) (a0 47) (a0 48) (a0 49) (X_poly1 (X_poly2_s s0 (r15.2))) hr27) u_3_193 u_3_190 u_3_191 u_3_192 u_1_12 ⟨ok_X8_degree, by decide, by decide⟩ rfl (Nat.le_of_ble_eq_true rfl) 47 rfl rfl H hP) [47, 48, 49] rfl rfl ?_
          refine j_goto (tgt := 35) K dX11_sumUp_30 (by decide) ?_
          obtain rfl := Option.some.inj h
          exact HR _ _ dX11_sumUp_35
        have hc1 := hc
        have h := jif hc h
        by_cases hc : v1 = 2
        · have h := jit hc h
          refine j_aald (pc' := 27) K dX11_sumUp_26 43 6 rfl rfl hg (by rw [hc]; rfl) rfl ?_
          obtain ⟨r27, hr27, h⟩ := jbd_some h
          refine j_ro (pc' := 30) K (fun H hP => jrun_V K dX11_sumUp_27 (M_X8_degree (jl E) (jg E) (a0 50) (a0 51) (a0 52) (X_poly2 (X_poly2_s s0 (r15.2))) hr27) u_3_193 u_3_190 u_3_191 u_3_192 u_1_12 ⟨ok_X8_degree, by decide, by decide⟩ rfl (Nat.le_of_ble_eq_true rfl) 50 rfl rfl H hP) [50, 51, 52] rfl rfl ?_
          refine j_goto (tgt := 35) K dX11_sumUp_30 (by decide) ?_
          obtain rfl := Option.some.inj h
          exact HR _ _ dX11_sumUp_35
        have hc2 := hc
        have h := jif hc h
        have hc : v1 = 3 := jin4 hg hc0 hc1 hc2
        refine j_aald (pc' := 27) K dX11_sumUp_26 43 6 rfl rfl hg (by rw [hc]; rfl) rfl ?_
        obtain ⟨r27, hr27, h⟩ := jbd_some h
        refine j_ro (pc' := 30) K (fun H hP => jrun_V K dX11_sumUp_27 (M_X8_degree (jl E) (jg E) (a0 53) (a0 54) (a0 55) (X_poly3 (X_poly2_s s0 (r15.2))) hr27) u_3_193 u_3_190 u_3_191 u_3_192 u_1_12 ⟨ok_X8_degree, by decide, by decide⟩ rfl (Nat.le_of_ble_eq_true rfl) 53 rfl rfl H hP) [53, 54, 55] rfl rfl ?_
        refine j_goto (tgt := 35) K dX11_sumUp_30 (by decide) ?_
        obtain rfl := Option.some.inj h
        exact HR _ _ dX11_sumUp_35
    have hc2 := hc
    have h := jif hc h
    have hc : v1 = 3 := jin4 hg hc0 hc1 hc2
    refine j_aald (pc' := 15) K dX11_sumUp_14 43 6 rfl rfl hg (by rw [hc]; rfl) rfl ?_
    obtain ⟨r15, hr15, h⟩ := jbd_some h
    refine j_rw (pc' := 18) (ws' := (wX (jg E) a0 (X_poly3_s s0 (r15.2)))) K (fun H hP => jrun_V K dX11_sumUp_15 (M_X8_becomeSum (jl E) (jg E) (a0 53) (a0 54) (a0 55) (X_poly3 s0) hr15) u_4_6 u_4_3 u_4_4 u_4_5 u_1_12 ⟨ok_X8_becomeSum, by decide, by decide⟩ rfl (Nat.le_of_ble_eq_true rfl) 53 rfl rfl H hP) hrw [53, 54, 55] rfl rfl rfl rfl rfl rfl ?_
    refine j_if_eq (pc' := 21) (tgt := 33) K dX11_sumUp_18 (by decide) rfl (fun hc => ?_) (fun hc => ?_)
    · have h := jit hc h
      refine j_bipush (pc' := 35) (v := (-2 : Int32)) K dX11_sumUp_33 (by decide) rfl ?_
      obtain rfl := Option.some.inj h
      exact HR _ _ dX11_sumUp_35
    · have h := jif hc h
      refine j_aload_n (pc' := 22) K dX11_sumUp_21 rfl 0 rfl rfl ?_
      refine j_get (pc' := 25) K dX11_sumUp_22 inX11 0 rfl rfl 4 (by decide) u_1_201 rfl rfl rfl ?_
      refine j_iload_n (pc' := 26) K dX11_sumUp_25 rfl 1 rfl rfl ?_
      obtain ⟨hg, h⟩ := jgd_some h
      by_cases hc : v1 = 0
      · have h := jit hc h
        refine j_aald (pc' := 27) K dX11_sumUp_26 43 6 rfl rfl hg (by rw [hc]; rfl) rfl ?_
        obtain ⟨r27, hr27, h⟩ := jbd_some h
        refine j_ro (pc' := 30) K (fun H hP => jrun_V K dX11_sumUp_27 (M_X8_degree (jl E) (jg E) (a0 44) (a0 45) (a0 46) (X_poly0 (X_poly3_s s0 (r15.2))) hr27) u_3_193 u_3_190 u_3_191 u_3_192 u_1_12 ⟨ok_X8_degree, by decide, by decide⟩ rfl (Nat.le_of_ble_eq_true rfl) 44 rfl rfl H hP) [44, 45, 46] rfl rfl ?_
        refine j_goto (tgt := 35) K dX11_sumUp_30 (by decide) ?_
        obtain rfl := Option.some.inj h
        exact HR _ _ dX11_sumUp_35
      have hc0 := hc
      have h := jif hc h
      by_cases hc : v1 = 1
      · have h := jit hc h
        refine j_aald (pc' := 27) K dX11_sumUp_26 43 6 rfl rfl hg (by rw [hc]; rfl) rfl ?_
        obtain ⟨r27, hr27, h⟩ := jbd_some h
        refine j_ro (pc' := 30) K (fun H hP => jrun_V K dX11_sumUp_27 (M_X8_degree (jl E) (jg E) (a0 47) (a0 48) (a0 49) (X_poly1 (X_poly3_s s0 (r15.2))) hr27) u_3_193 u_3_190 u_3_191 u_3_192 u_1_12 ⟨ok_X8_degree, by decide, by decide⟩ rfl (Nat.le_of_ble_eq_true rfl) 47 rfl rfl H hP) [47, 48, 49] rfl rfl ?_
        refine j_goto (tgt := 35) K dX11_sumUp_30 (by decide) ?_
        obtain rfl := Option.some.inj h
        exact HR _ _ dX11_sumUp_35
      have hc1 := hc
      have h := jif hc h
      by_cases hc : v1 = 2
      · have h := jit hc h
        refine j_aald (pc' := 27) K dX11_sumUp_26 43 6 rfl rfl hg (by rw [hc]; rfl) rfl ?_
        obtain ⟨r27, hr27, h⟩ := jbd_some h
        refine j_ro (pc' := 30) K (fun H hP => jrun_V K dX11_sumUp_27 (M_X8_degree (jl E) (jg E) (a0 50) (a0 51) (a0 52) (X_poly2 (X_poly3_s s0 (r15.2))) hr27) u_3_193 u_3_190 u_3_191 u_3_192 u_1_12 ⟨ok_X8_degree, by decide, by decide⟩ rfl (Nat.le_of_ble_eq_true rfl) 50 rfl rfl H hP) [50, 51, 52] rfl rfl ?_
        refine j_goto (tgt := 35) K dX11_sumUp_30 (by decide) ?_
        obtain rfl := Option.some.inj h
        exact HR _ _ dX11_sumUp_35
      have hc2 := hc
      have h := jif hc h
      have hc : v1 = 3 := jin4 hg hc0 hc1 hc2
      refine j_aald (pc' := 27) K dX11_sumUp_26 43 6 rfl rfl hg (by rw [hc]; rfl) rfl ?_
      obtain ⟨r27, hr27, h⟩ := jbd_some h
      refine j_ro (pc' := 30) K (fun H hP => jrun_V K dX11_sumUp_27 (M_X8_degree (jl E) (jg E) (a0 53) (a0 54) (a0 55) (X_poly3 (X_poly3_s s0 (r15.2))) hr27) u_3_193 u_3_190 u_3_191 u_3_192 u_1_12 ⟨ok_X8_degree, by decide, by decide⟩ rfl (Nat.le_of_ble_eq_true rfl) 53 rfl rfl H hP) [53, 54, 55] rfl rfl ?_
      refine j_goto (tgt := 35) K dX11_sumUp_30 (by decide) ?_
      obtain rfl := Option.some.inj h
      exact HR _ _ dX11_sumUp_35
  · have h := jit hc h
    refine j_iconst (pc' := 8) (v := (-1 : Int32)) K dX11_sumUp_7 (by decide) rfl ?_
    obtain rfl := Option.some.inj h
    exact HR _ _ dX11_sumUp_8
set_option maxRecDepth 100000 in
set_option maxHeartbeats 4000000 in
theorem M_X11_sumUp (l : Launch) (G : jG) (a0 : Nat → Nat) (v1 : Int32) (s0 : XS) {r : Int32 × XS} (h : f_X11_sumUp v1 s0 = some r) : MC l yX11_sumUp cX11_sumUp 2 (some .int) 4 G (jad (wX G a0 s0)) True (wX G a0 s0) (wX G a0 (r.2)) [.ref (a0 0), .int v1] (some (.int (r.1))) := by
  refine mc_int (by decide +kernel) (Nat.le_of_ble_eq_true rfl) fun E hl hg hA hrw K HR => ?_
  subst hl
  subst hg
  have hrw : jrw E := by rw [hrw]; trivial
  exact b_X11_sumUp a0 K hrw HR v1 s0 h
theorem ok_X11_root : yX11_root.cls ≠ "java/lang/invoke/MethodHandle" ∧ yX11_root.cls ≠ "java/lang/invoke/VarHandle" ∧ (parseMethodDescriptor yX11_root.desc).map (fun d => d.parameters.length) = some 2 := ⟨by decide, by decide, by decide +kernel⟩
def f_X11_root_62 (v2 : Int32) (v3 : Int32) (s0 : XS) : Option (Int32) :=
   if v2 = (-1 : Int32) then
   some v3
  else
   some (-1004 : Int32)
def f_X11_root_56 (k22 : Int32 → Int32 → Int32 → Int32 → XS → Option (Int32)) (v1 : Int32) (v2 : Int32) (v3 : Int32) (v4 : Int32) (s0 : XS) : Option (Int32) :=
   k22 v1 v2 v3 (v4 + (1 : Int32)) s0
def f_X11_root_22 : Nat → Int32 → Int32 → Int32 → Int32 → XS → Option (Int32)
  | 0, _, _, _, _, _ => none
  | n + 1, v1, v2, v3, v4, s0 =>
   if (20 : Int32) < v4 then
   f_X11_root_62 v2 v3 s0
  else
   jgd v1 4 (
    if v1 = 0 then (
     jbd (f_X8_valueAt v4 (X_poly0 s0)) (fun r37 =>
      if (lg_cmp r37 (0 : Int64)) = 0 then
       if v3 = v2 then
        some v4
       else
        f_X11_root_56 (f_X11_root_22 n) v1 v2 (v3 + (1 : Int32)) v4 s0
      else
       f_X11_root_56 (f_X11_root_22 n) v1 v2 v3 v4 s0)) else if v1 = 1 then (
     jbd (f_X8_valueAt v4 (X_poly1 s0)) (fun r37 =>
      if (lg_cmp r37 (0 : Int64)) = 0 then
       if v3 = v2 then
        some v4
       else
        f_X11_root_56 (f_X11_root_22 n) v1 v2 (v3 + (1 : Int32)) v4 s0
      else
       f_X11_root_56 (f_X11_root_22 n) v1 v2 v3 v4 s0)) else if v1 = 2 then (
     jbd (f_X8_valueAt v4 (X_poly2 s0)) (fun r37 =>
      if (lg_cmp r37 (0 : Int64)) = 0 then
       if v3 = v2 then
        some v4
       else
        f_X11_root_56 (f_X11_root_22 n) v1 v2 (v3 + (1 : Int32)) v4 s0
      else
       f_X11_root_56 (f_X11_root_22 n) v1 v2 v3 v4 s0)) else (
     jbd (f_X8_valueAt v4 (X_poly3 s0)) (fun r37 =>
      if (lg_cmp r37 (0 : Int64)) = 0 then
       if v3 = v2 then
        some v4
       else
        f_X11_root_56 (f_X11_root_22 n) v1 v2 (v3 + (1 : Int32)) v4 s0
      else
       f_X11_root_56 (f_X11_root_22 n) v1 v2 v3 v4 s0)))
def f_X11_root (v1 : Int32) (v2 : Int32) (s0 : XS) : Option (Int32) :=
   jbd (f_X11_isPolynomial v1) (fun r1 =>
   if r1 = 0 then
    some (-1001 : Int32)
   else
    if (-1 : Int32) ≤ v2 then
     f_X11_root_22 jFU v1 v2 (0 : Int32) (-20 : Int32) s0
    else
     some (-1001 : Int32))
set_option maxRecDepth 100000 in
set_option maxHeartbeats 4000000 in
theorem b_X11_root_62 {E : jE} (a0 : Nat → Nat) (s0 : XS) {res : Int32} (K : jC E cX11_root 5 RX11 2) (HR : jRI E cX11_root 5 (wX (jg E) a0 s0) res) : ∀ (v2 : Int32) (v3 : Int32), f_X11_root_62 v2 v3 s0 = some res → J E 5 (wX (jg E) a0 s0) 62 [(2, .int v2), (3, .int v3)] [] := by
  intro v2 v3 h
  unfold f_X11_root_62 at h
  refine j_iload_n (pc' := 63) K dX11_root_62 rfl 0 rfl rfl ?_
  refine j_iconst (pc' := 64) (v := (-1 : Int32)) K dX11_root_63 (by decide) rfl ?_
  refine j_icmp_ne (pc' := 67) (tgt := 71) K dX11_root_64 (by decide) rfl (fun hc => ?_) (fun hc => ?_)
  · have h := jif hc h
    refine j_sipush (pc' := 74) (v := (-1004 : Int32)) K dX11_root_71 (by decide) rfl ?_
    obtain rfl := Option.some.inj h
    exact HR _ _ dX11_root_74
  · have h := jit hc h
    refine j_iload_n (pc' := 68) K dX11_root_67 rfl 1 rfl rfl ?_
    refine j_goto (tgt := 74) K dX11_root_68 (by decide) ?_
    obtain rfl := Option.some.inj h
    exact HR _ _ dX11_root_74
set_option maxRecDepth 100000 in
set_option maxHeartbeats 4000000 in
theorem b_X11_root_56 {E : jE} (a0 : Nat → Nat) (s0 : XS) {res : Int32} (K : jC E cX11_root 5 RX11 2) (HR : jRI E cX11_root 5 (wX (jg E) a0 s0) res) (k22 : Int32 → Int32 → Int32 → Int32 → XS → Option (Int32)) (hk22 : ∀ (v1 : Int32) (v2 : Int32) (v3 : Int32) (v4 : Int32), k22 v1 v2 v3 v4 s0 = some res → J E 5 (wX (jg E) a0 s0) 22 [(0, .ref (a0 0)), (1, .int v1), (2, .int v2), (3, .int v3), (4, .int v4)] []) : ∀ (v1 : Int32) (v2 : Int32) (v3 : Int32) (v4 : Int32), f_X11_root_56 k22 v1 v2 v3 v4 s0 = some res → J E 5 (wX (jg E) a0 s0) 56 [(0, .ref (a0 0)), (1, .int v1), (2, .int v2), (3, .int v3), (4, .int v4)] [] := by
  intro v1 v2 v3 v4 h
  unfold f_X11_root_56 at h
  refine j_iinc (pc' := 59) (j := 4) (v := (v4 + (1 : Int32))) (lv' := [(4, .int (v4 + (1 : Int32))), (0, .ref (a0 0)), (1, .int v1), (2, .int v2), (3, .int v3)]) K dX11_root_56 rfl rfl (by decide) rfl rfl ?_
  refine j_goto (tgt := 22) K dX11_root_59 (by decide) ?_
  refine j_sub [1, 2, 3, 4, 0] rfl ?_
  exact hk22 v1 v2 v3 (v4 + (1 : Int32)) h
set_option maxRecDepth 100000 in
set_option maxHeartbeats 4000000 in
theorem b_X11_root_22 {E : jE} (a0 : Nat → Nat) (s0 : XS) {res : Int32} (K : jC E cX11_root 5 RX11 2) (HR : jRI E cX11_root 5 (wX (jg E) a0 s0) res) : ∀ (n : Nat) (v1 : Int32) (v2 : Int32) (v3 : Int32) (v4 : Int32), f_X11_root_22 n v1 v2 v3 v4 s0 = some res → J E 5 (wX (jg E) a0 s0) 22 [(0, .ref (a0 0)), (1, .int v1), (2, .int v2), (3, .int v3), (4, .int v4)] [] := by
  intro n
  induction n with
  | zero => intro _ _ _ _ h; cases h
  | succ n ih =>
    intro v1 v2 v3 v4 h
    rw [f_X11_root_22] at h
    refine j_iload (pc' := 24) K dX11_root_22 4 rfl rfl ?_
    refine j_bipush (pc' := 26) (v := (20 : Int32)) K dX11_root_24 (by decide) rfl ?_
    refine j_icmp_gt (pc' := 29) (tgt := 62) K dX11_root_26 (by decide) rfl (fun hc => ?_) (fun hc => ?_)
    · have h := jit hc h
      refine j_sub [2, 3] rfl ?_
      exact b_X11_root_62 a0 s0 K HR v2 v3 h
    · have h := jif hc h
      refine j_aload_n (pc' := 30) K dX11_root_29 rfl 0 rfl rfl ?_
      refine j_get (pc' := 33) K dX11_root_30 inX11 0 rfl rfl 4 (by decide) u_1_201 rfl rfl rfl ?_
      refine j_iload_n (pc' := 34) K dX11_root_33 rfl 1 rfl rfl ?_
      obtain ⟨hg, h⟩ := jgd_some h
      by_cases hc : v1 = 0
      · have h := jit hc h
        refine j_aald (pc' := 35) K dX11_root_34 43 6 rfl rfl hg (by rw [hc]; rfl) rfl ?_
        refine j_iload (pc' := 37) K dX11_root_35 4 rfl rfl ?_
        obtain ⟨r37, hr37, h⟩ := jbd_some h
        refine j_ro (pc' := 40) K (fun H hP => jrun_V K dX11_root_37 (M_X8_valueAt (jl E) (jg E) (a0 44) (a0 45) (a0 46) v4 (X_poly0 s0) hr37) u_3_238 u_4_12 u_3_236 u_3_237 u_1_12 ⟨ok_X8_valueAt, by decide, by decide⟩ rfl (Nat.le_of_ble_eq_true rfl) 44 rfl rfl H hP) [44, 45, 46] rfl rfl ?_
        refine j_lconst (pc' := 41) (v := (0 : Int64)) K dX11_root_40 (by decide) rfl ?_
        refine j_lcmp (pc' := 42) K dX11_root_41 rfl ?_
        refine j_if_ne (pc' := 45) (tgt := 56) K dX11_root_42 (by decide) rfl (fun hc => ?_) (fun hc => ?_)
        · have h := jif hc h
          refine j_sub [0, 1, 2, 3, 4] rfl ?_
          exact b_X11_root_56 a0 s0 K HR (f_X11_root_22 n) (ih) v1 v2 v3 v4 h
        · have h := jit hc h
          refine j_iload_n (pc' := 46) K dX11_root_45 rfl 3 rfl rfl ?_
          refine j_iload_n (pc' := 47) K dX11_root_46 rfl 2 rfl rfl ?_
          refine j_icmp_ne (pc' := 50) (tgt := 53) K dX11_root_47 (by decide) rfl (fun hc => ?_) (fun hc => ?_)
          · have h := jif hc h
            refine j_iinc (pc' := 56) (j := 3) (v := (v3 + (1 : Int32))) (lv' := [(3, .int (v3 + (1 : Int32))), (0, .ref (a0 0)), (1, .int v1), (2, .int v2), (4, .int v4)]) K dX11_root_53 rfl rfl (by decide) rfl rfl ?_
            refine j_sub [1, 2, 3, 0, 4] rfl ?_
            exact b_X11_root_56 a0 s0 K HR (f_X11_root_22 n) (ih) v1 v2 (v3 + (1 : Int32)) v4 h
          · have h := jit hc h
            refine j_iload (pc' := 52) K dX11_root_50 4 rfl rfl ?_
            obtain rfl := Option.some.inj h
            exact HR _ _ dX11_root_52
      have hc0 := hc
      have h := jif hc h
      by_cases hc : v1 = 1
      · have h := jit hc h
        refine j_aald (pc' := 35) K dX11_root_34 43 6 rfl rfl hg (by rw [hc]; rfl) rfl ?_
        refine j_iload (pc' := 37) K dX11_root_35 4 rfl rfl ?_
        obtain ⟨r37, hr37, h⟩ := jbd_some h
        refine j_ro (pc' := 40) K (fun H hP => jrun_V K dX11_root_37 (M_X8_valueAt (jl E) (jg E) (a0 47) (a0 48) (a0 49) v4 (X_poly1 s0) hr37) u_3_238 u_4_12 u_3_236 u_3_237 u_1_12 ⟨ok_X8_valueAt, by decide, by decide⟩ rfl (Nat.le_of_ble_eq_true rfl) 47 rfl rfl H hP) [47, 48, 49] rfl rfl ?_
        refine j_lconst (pc' := 41) (v := (0 : Int64)) K dX11_root_40 (by decide) rfl ?_
        refine j_lcmp (pc' := 42) K dX11_root_41 rfl ?_
        refine j_if_ne (pc' := 45) (tgt := 56) K dX11_root_42 (by decide) rfl (fun hc => ?_) (fun hc => ?_)
        · have h := jif hc h
          refine j_sub [0, 1, 2, 3, 4] rfl ?_
          exact b_X11_root_56 a0 s0 K HR (f_X11_root_22 n) (ih) v1 v2 v3 v4 h
        · have h := jit hc h
          refine j_iload_n (pc' := 46) K dX11_root_45 rfl 3 rfl rfl ?_
          refine j_iload_n (pc' := 47) K dX11_root_46 rfl 2 rfl rfl ?_
          refine j_icmp_ne (pc' := 50) (tgt := 53) K dX11_root_47 (by decide) rfl (fun hc => ?_) (fun hc => ?_)
          · have h := jif hc h
            refine j_iinc (pc' := 56) (j := 3) (v := (v3 + (1 : Int32))) (lv' := [(3, .int (v3 + (1 : Int32))), (0, .ref (a0 0)), (1, .int v1), (2, .int v2), (4, .int v4)]) K dX11_root_53 rfl rfl (by decide) rfl rfl ?_
            refine j_sub [1, 2, 3, 0, 4] rfl ?_
            exact b_X11_root_56 a0 s0 K HR (f_X11_root_22 n) (ih) v1 v2 (v3 + (1 : Int32)) v4 h
          · have h := jit hc h
            refine j_iload (pc' := 52) K dX11_root_50 4 rfl rfl ?_
            obtain rfl := Option.some.inj h
            exact HR _ _ dX11_root_52
      have hc1 := hc
      have h := jif hc h
      by_cases hc : v1 = 2
      · have h := jit hc h
        refine j_aald (pc' := 35) K dX11_root_34 43 6 rfl rfl hg (by rw [hc]; rfl) rfl ?_
        refine j_iload (pc' := 37) K dX11_root_35 4 rfl rfl ?_
        obtain ⟨r37, hr37, h⟩ := jbd_some h
        refine j_ro (pc' := 40) K (fun H hP => jrun_V K dX11_root_37 (M_X8_valueAt (jl E) (jg E) (a0 50) (a0 51) (a0 52) v4 (X_poly2 s0) hr37) u_3_238 u_4_12 u_3_236 u_3_237 u_1_12 ⟨ok_X8_valueAt, by decide, by decide⟩ rfl (Nat.le_of_ble_eq_true rfl) 50 rfl rfl H hP) [50, 51, 52] rfl rfl ?_
        refine j_lconst (pc' := 41) (v := (0 : Int64)) K dX11_root_40 (by decide) rfl ?_
        refine j_lcmp (pc' := 42) K dX11_root_41 rfl ?_
        refine j_if_ne (pc' := 45) (tgt := 56) K dX11_root_42 (by decide) rfl (fun hc => ?_) (fun hc => ?_)
        · have h := jif hc h
          refine j_sub [0, 1, 2, 3, 4] rfl ?_
          exact b_X11_root_56 a0 s0 K HR (f_X11_root_22 n) (ih) v1 v2 v3 v4 h
        · have h := jit hc h
          refine j_iload_n (pc' := 46) K dX11_root_45 rfl 3 rfl rfl ?_
          refine j_iload_n (pc' := 47) K dX11_root_46 rfl 2 rfl rfl ?_
          refine j_icmp_ne (pc' := 50) (tgt := 53) K dX11_root_47 (by decide) rfl (fun hc => ?_) (fun hc => ?_)
          · have h := jif hc h
            refine j_iinc (pc' := 56) (j := 3) (v := (v3 + (1 : Int32))) (lv' := [(3, .int (v3 + (1 : Int32))), (0, .ref (a0 0)), (1, .int v1), (2, .int v2), (4, .int v4)]) K dX11_root_53 rfl rfl (by decide) rfl rfl ?_
            refine j_sub [1, 2, 3, 0, 4] rfl ?_
            exact b_X11_root_56 a0 s0 K HR (f_X11_root_22 n) (ih) v1 v2 (v3 + (1 : Int32)) v4 h
          · have h := jit hc h
            refine j_iload (pc' := 52) K dX11_root_50 4 rfl rfl ?_
            obtain rfl := Option.some.inj h
            exact HR _ _ dX11_root_52
      have hc2 := hc
      have h := jif hc h
      have hc : v1 = 3 := jin4 hg hc0 hc1 hc2
      refine j_aald (pc' := 35) K dX11_root_34 43 6 rfl rfl hg (by rw [hc]; rfl) rfl ?_
      refine j_iload (pc' := 37) K dX11_root_35 4 rfl rfl ?_
      obtain ⟨r37, hr37, h⟩ := jbd_some h
      refine j_ro (pc' := 40) K (fun H hP => jrun_V K dX11_root_37 (M_X8_valueAt (jl E) (jg E) (a0 53) (a0 54) (a0 55) v4 (X_poly3 s0) hr37) u_3_238 u_4_12 u_3_236 u_3_237 u_1_12 ⟨ok_X8_valueAt, by decide, by decide⟩ rfl (Nat.le_of_ble_eq_true rfl) 53 rfl rfl H hP) [53, 54, 55] rfl rfl ?_
      refine j_lconst (pc' := 41) (v := (0 : Int64)) K dX11_root_40 (by decide) rfl ?_
      refine j_lcmp (pc' := 42) K dX11_root_41 rfl ?_
      refine j_if_ne (pc' := 45) (tgt := 56) K dX11_root_42 (by decide) rfl (fun hc => ?_) (fun hc => ?_)
      · have h := jif hc h
        refine j_sub [0, 1, 2, 3, 4] rfl ?_
        exact b_X11_root_56 a0 s0 K HR (f_X11_root_22 n) (ih) v1 v2 v3 v4 h
      · have h := jit hc h
        refine j_iload_n (pc' := 46) K dX11_root_45 rfl 3 rfl rfl ?_
        refine j_iload_n (pc' := 47) K dX11_root_46 rfl 2 rfl rfl ?_
        refine j_icmp_ne (pc' := 50) (tgt := 53) K dX11_root_47 (by decide) rfl (fun hc => ?_) (fun hc => ?_)
        · have h := jif hc h
          refine j_iinc (pc' := 56) (j := 3) (v := (v3 + (1 : Int32))) (lv' := [(3, .int (v3 + (1 : Int32))), (0, .ref (a0 0)), (1, .int v1), (2, .int v2), (4, .int v4)]) K dX11_root_53 rfl rfl (by decide) rfl rfl ?_
          refine j_sub [1, 2, 3, 0, 4] rfl ?_
          exact b_X11_root_56 a0 s0 K HR (f_X11_root_22 n) (ih) v1 v2 (v3 + (1 : Int32)) v4 h
        · have h := jit hc h
          refine j_iload (pc' := 52) K dX11_root_50 4 rfl rfl ?_
          obtain rfl := Option.some.inj h
          exact HR _ _ dX11_root_52
set_option maxRecDepth 100000 in
set_option maxHeartbeats 4000000 in
theorem b_X11_root {E : jE} (a0 : Nat → Nat) (s0 : XS) {res : Int32} (K : jC E cX11_root 5 RX11 2) (HR : jRI E cX11_root 5 (wX (jg E) a0 s0) res) : ∀ (v1 : Int32) (v2 : Int32), f_X11_root v1 v2 s0 = some res → J E 5 (wX (jg E) a0 s0) 0 [(0, .ref (a0 0)), (1, .int v1), (2, .int v2)] [] := by
  intro v1 v2 h
  unfold f_X11_root at h
  refine j_iload_n (pc' := 1) K dX11_root_0 rfl 1 rfl rfl ?_
  obtain ⟨r1, hr1, h⟩ := jbd_some h
  refine j_ro (pc' := 4) K (fun H hP => jrun_S K dX11_root_1 (M_X11_isPolynomial (jl E) (jg E) v1 hr1) u_3_155 u_3_153 u_3_154 u_1_1 ⟨ok_X11_isPolynomial, by decide, by decide⟩ rfl (Nat.le_of_ble_eq_true rfl) H) [] rfl rfl ?_
  refine j_if_eq (pc' := 7) (tgt := 12) K dX11_root_4 (by decide) rfl (fun hc => ?_) (fun hc => ?_)
  · have h := jit hc h
    refine j_sipush (pc' := 15) (v := (-1001 : Int32)) K dX11_root_12 (by decide) rfl ?_
    obtain rfl := Option.some.inj h
    exact HR _ _ dX11_root_15
  · have h := jif hc h
    refine j_iload_n (pc' := 8) K dX11_root_7 rfl 2 rfl rfl ?_
    refine j_iconst (pc' := 9) (v := (-1 : Int32)) K dX11_root_8 (by decide) rfl ?_
    refine j_icmp_ge (pc' := 12) (tgt := 16) K dX11_root_9 (by decide) rfl (fun hc => ?_) (fun hc => ?_)
    · have h := jit hc h
      refine j_iconst (pc' := 17) (v := (0 : Int32)) K dX11_root_16 (by decide) rfl ?_
      refine j_istore_n (pc' := 18) (lv' := [(3, .int (0 : Int32)), (0, .ref (a0 0)), (1, .int v1), (2, .int v2)]) K dX11_root_17 rfl (by decide) rfl rfl ?_
      refine j_bipush (pc' := 20) (v := (-20 : Int32)) K dX11_root_18 (by decide) rfl ?_
      refine j_istore (pc' := 22) (lv' := [(4, .int (-20 : Int32)), (3, .int (0 : Int32)), (0, .ref (a0 0)), (1, .int v1), (2, .int v2)]) K dX11_root_20 (by decide) rfl rfl ?_
      refine j_sub [2, 3, 4, 1, 0] rfl ?_
      exact b_X11_root_22 a0 s0 K HR jFU v1 v2 (0 : Int32) (-20 : Int32) h
    · have h := jif hc h
      refine j_sipush (pc' := 15) (v := (-1001 : Int32)) K dX11_root_12 (by decide) rfl ?_
      obtain rfl := Option.some.inj h
      exact HR _ _ dX11_root_15
set_option maxRecDepth 100000 in
set_option maxHeartbeats 4000000 in
theorem M_X11_root (l : Launch) (G : jG) (a0 : Nat → Nat) (v1 : Int32) (v2 : Int32) (s0 : XS) {r : Int32} (h : f_X11_root v1 v2 s0 = some r) : MC l yX11_root cX11_root 5 (some .int) 2 G jNo False (wX G a0 s0) (wX G a0 s0) [.ref (a0 0), .int v1, .int v2] (some (.int r)) := by
  refine mc_int (by decide +kernel) (Nat.le_of_ble_eq_true rfl) fun E hl hg hA hrw K HR => ?_
  subst hl
  subst hg
  exact b_X11_root a0 s0 K HR v1 v2 h
theorem ok_X11_itemsOfLaws : yX11_itemsOfLaws.cls ≠ "java/lang/invoke/MethodHandle" ∧ yX11_itemsOfLaws.cls ≠ "java/lang/invoke/VarHandle" ∧ (parseMethodDescriptor yX11_itemsOfLaws.desc).map (fun d => d.parameters.length) = some 0 := ⟨by decide, by decide, by decide +kernel⟩
def f_X11_itemsOfLaws_4 : Nat → Int32 → Int32 → XS → Option (Int32)
  | 0, _, _, _ => none
  | n + 1, v1, v2, s0 =>
   if (4 : Int32) ≤ v2 then
   some v1
  else
   jgd v2 4 (
    if v2 = 0 then (
     jbd (f_X2_items (X_law0 s0)) (fun r16 =>
      (f_X11_itemsOfLaws_4 n) (v1 + r16) (v2 + (1 : Int32)) s0)) else if v2 = 1 then (
     jbd (f_X2_items (X_law1 s0)) (fun r16 =>
      (f_X11_itemsOfLaws_4 n) (v1 + r16) (v2 + (1 : Int32)) s0)) else if v2 = 2 then (
     jbd (f_X2_items (X_law2 s0)) (fun r16 =>
      (f_X11_itemsOfLaws_4 n) (v1 + r16) (v2 + (1 : Int32)) s0)) else (
     jbd (f_X2_items (X_law3 s0)) (fun r16 =>
      (f_X11_itemsOfLaws_4 n) (v1 + r16) (v2 + (1 : Int32)) s0)))
def f_X11_itemsOfLaws (s0 : XS) : Option (Int32) :=
   f_X11_itemsOfLaws_4 jFU (0 : Int32) (0 : Int32) s0
set_option maxRecDepth 100000 in
set_option maxHeartbeats 4000000 in
theorem b_X11_itemsOfLaws_4 {E : jE} (a0 : Nat → Nat) (s0 : XS) {res : Int32} (K : jC E cX11_itemsOfLaws 3 RX11 1) (HR : jRI E cX11_itemsOfLaws 3 (wX (jg E) a0 s0) res) : ∀ (n : Nat) (v1 : Int32) (v2 : Int32), f_X11_itemsOfLaws_4 n v1 v2 s0 = some res → J E 3 (wX (jg E) a0 s0) 4 [(0, .ref (a0 0)), (1, .int v1), (2, .int v2)] [] := by
  intro n
  induction n with
  | zero => intro _ _ h; cases h
  | succ n ih =>
    intro v1 v2 h
    rw [f_X11_itemsOfLaws_4] at h
    refine j_iload_n (pc' := 5) K dX11_itemsOfLaws_4 rfl 2 rfl rfl ?_
    refine j_iconst (pc' := 6) (v := (4 : Int32)) K dX11_itemsOfLaws_5 (by decide) rfl ?_
    refine j_icmp_ge (pc' := 9) (tgt := 27) K dX11_itemsOfLaws_6 (by decide) rfl (fun hc => ?_) (fun hc => ?_)
    · have h := jit hc h
      refine j_iload_n (pc' := 28) K dX11_itemsOfLaws_27 rfl 1 rfl rfl ?_
      obtain rfl := Option.some.inj h
      exact HR _ _ dX11_itemsOfLaws_28
    · have h := jif hc h
      refine j_iload_n (pc' := 10) K dX11_itemsOfLaws_9 rfl 1 rfl rfl ?_
      refine j_aload_n (pc' := 11) K dX11_itemsOfLaws_10 rfl 0 rfl rfl ?_
      refine j_get (pc' := 14) K dX11_itemsOfLaws_11 inX11 0 rfl rfl 1 (by decide) u_1_198 rfl rfl rfl ?_
      refine j_iload_n (pc' := 15) K dX11_itemsOfLaws_14 rfl 2 rfl rfl ?_
      obtain ⟨hg, h⟩ := jgd_some h
      by_cases hc : v2 = 0
      · have h := jit hc h
        refine j_aald (pc' := 16) K dX11_itemsOfLaws_15 3 4 rfl rfl hg (by rw [hc]; rfl) rfl ?_
        obtain ⟨r16, hr16, h⟩ := jbd_some h
        refine j_ro (pc' := 19) K (fun H hP => jrun_V K dX11_itemsOfLaws_16 (M_X2_items (jl E) (jg E) (a0 4) (a0 5) (a0 6) (a0 7) (a0 8) (a0 9) (X_law0 s0) hr16) u_2_84 u_2_81 u_2_82 u_2_83 u_1_11 ⟨ok_X2_items, by decide, by decide⟩ rfl (Nat.le_of_ble_eq_true rfl) 4 rfl rfl H hP) [4, 5, 6, 7, 8, 9] rfl rfl ?_
        refine j_iadd (pc' := 20) K dX11_itemsOfLaws_19 rfl ?_
        refine j_istore_n (pc' := 21) (lv' := [(1, .int (v1 + r16)), (0, .ref (a0 0)), (2, .int v2)]) K dX11_itemsOfLaws_20 rfl (by decide) rfl rfl ?_
        refine j_iinc (pc' := 24) (j := 2) (v := (v2 + (1 : Int32))) (lv' := [(2, .int (v2 + (1 : Int32))), (1, .int (v1 + r16)), (0, .ref (a0 0))]) K dX11_itemsOfLaws_21 rfl rfl (by decide) rfl rfl ?_
        refine j_goto (tgt := 4) K dX11_itemsOfLaws_24 (by decide) ?_
        refine j_sub [2, 1, 0] rfl ?_
        exact ih (v1 + r16) (v2 + (1 : Int32)) h
      have hc0 := hc
      have h := jif hc h
      by_cases hc : v2 = 1
      · have h := jit hc h
        refine j_aald (pc' := 16) K dX11_itemsOfLaws_15 3 4 rfl rfl hg (by rw [hc]; rfl) rfl ?_
        obtain ⟨r16, hr16, h⟩ := jbd_some h
        refine j_ro (pc' := 19) K (fun H hP => jrun_V K dX11_itemsOfLaws_16 (M_X2_items (jl E) (jg E) (a0 10) (a0 11) (a0 12) (a0 13) (a0 14) (a0 15) (X_law1 s0) hr16) u_2_84 u_2_81 u_2_82 u_2_83 u_1_11 ⟨ok_X2_items, by decide, by decide⟩ rfl (Nat.le_of_ble_eq_true rfl) 10 rfl rfl H hP) [10, 11, 12, 13, 14, 15] rfl rfl ?_
        refine j_iadd (pc' := 20) K dX11_itemsOfLaws_19 rfl ?_
        refine j_istore_n (pc' := 21) (lv' := [(1, .int (v1 + r16)), (0, .ref (a0 0)), (2, .int v2)]) K dX11_itemsOfLaws_20 rfl (by decide) rfl rfl ?_
        refine j_iinc (pc' := 24) (j := 2) (v := (v2 + (1 : Int32))) (lv' := [(2, .int (v2 + (1 : Int32))), (1, .int (v1 + r16)), (0, .ref (a0 0))]) K dX11_itemsOfLaws_21 rfl rfl (by decide) rfl rfl ?_
        refine j_goto (tgt := 4) K dX11_itemsOfLaws_24 (by decide) ?_
        refine j_sub [2, 1, 0] rfl ?_
        exact ih (v1 + r16) (v2 + (1 : Int32)) h
      have hc1 := hc
      have h := jif hc h
      by_cases hc : v2 = 2
      · have h := jit hc h
        refine j_aald (pc' := 16) K dX11_itemsOfLaws_15 3 4 rfl rfl hg (by rw [hc]; rfl) rfl ?_
        obtain ⟨r16, hr16, h⟩ := jbd_some h
        refine j_ro (pc' := 19) K (fun H hP => jrun_V K dX11_itemsOfLaws_16 (M_X2_items (jl E) (jg E) (a0 16) (a0 17) (a0 18) (a0 19) (a0 20) (a0 21) (X_law2 s0) hr16) u_2_84 u_2_81 u_2_82 u_2_83 u_1_11 ⟨ok_X2_items, by decide, by decide⟩ rfl (Nat.le_of_ble_eq_true rfl) 16 rfl rfl H hP) [16, 17, 18, 19, 20, 21] rfl rfl ?_
        refine j_iadd (pc' := 20) K dX11_itemsOfLaws_19 rfl ?_
        refine j_istore_n (pc' := 21) (lv' := [(1, .int (v1 + r16)), (0, .ref (a0 0)), (2, .int v2)]) K dX11_itemsOfLaws_20 rfl (by decide) rfl rfl ?_
        refine j_iinc (pc' := 24) (j := 2) (v := (v2 + (1 : Int32))) (lv' := [(2, .int (v2 + (1 : Int32))), (1, .int (v1 + r16)), (0, .ref (a0 0))]) K dX11_itemsOfLaws_21 rfl rfl (by decide) rfl rfl ?_
        refine j_goto (tgt := 4) K dX11_itemsOfLaws_24 (by decide) ?_
        refine j_sub [2, 1, 0] rfl ?_
        exact ih (v1 + r16) (v2 + (1 : Int32)) h
      have hc2 := hc
      have h := jif hc h
      have hc : v2 = 3 := jin4 hg hc0 hc1 hc2
      refine j_aald (pc' := 16) K dX11_itemsOfLaws_15 3 4 rfl rfl hg (by rw [hc]; rfl) rfl ?_
      obtain ⟨r16, hr16, h⟩ := jbd_some h
      refine j_ro (pc' := 19) K (fun H hP => jrun_V K dX11_itemsOfLaws_16 (M_X2_items (jl E) (jg E) (a0 22) (a0 23) (a0 24) (a0 25) (a0 26) (a0 27) (X_law3 s0) hr16) u_2_84 u_2_81 u_2_82 u_2_83 u_1_11 ⟨ok_X2_items, by decide, by decide⟩ rfl (Nat.le_of_ble_eq_true rfl) 22 rfl rfl H hP) [22, 23, 24, 25, 26, 27] rfl rfl ?_
      refine j_iadd (pc' := 20) K dX11_itemsOfLaws_19 rfl ?_
      refine j_istore_n (pc' := 21) (lv' := [(1, .int (v1 + r16)), (0, .ref (a0 0)), (2, .int v2)]) K dX11_itemsOfLaws_20 rfl (by decide) rfl rfl ?_
      refine j_iinc (pc' := 24) (j := 2) (v := (v2 + (1 : Int32))) (lv' := [(2, .int (v2 + (1 : Int32))), (1, .int (v1 + r16)), (0, .ref (a0 0))]) K dX11_itemsOfLaws_21 rfl rfl (by decide) rfl rfl ?_
      refine j_goto (tgt := 4) K dX11_itemsOfLaws_24 (by decide) ?_
      refine j_sub [2, 1, 0] rfl ?_
      exact ih (v1 + r16) (v2 + (1 : Int32)) h
set_option maxRecDepth 100000 in
set_option maxHeartbeats 4000000 in
theorem b_X11_itemsOfLaws {E : jE} (a0 : Nat → Nat) (s0 : XS) {res : Int32} (K : jC E cX11_itemsOfLaws 3 RX11 1) (HR : jRI E cX11_itemsOfLaws 3 (wX (jg E) a0 s0) res) : f_X11_itemsOfLaws s0 = some res → J E 3 (wX (jg E) a0 s0) 0 [(0, .ref (a0 0))] [] := by
  intro  h
  unfold f_X11_itemsOfLaws at h
  refine j_iconst (pc' := 1) (v := (0 : Int32)) K dX11_itemsOfLaws_0 (by decide) rfl ?_
  refine j_istore_n (pc' := 2) (lv' := [(1, .int (0 : Int32)), (0, .ref (a0 0))]) K dX11_itemsOfLaws_1 rfl (by decide) rfl rfl ?_
  refine j_iconst (pc' := 3) (v := (0 : Int32)) K dX11_itemsOfLaws_2 (by decide) rfl ?_
  refine j_istore_n (pc' := 4) (lv' := [(2, .int (0 : Int32)), (1, .int (0 : Int32)), (0, .ref (a0 0))]) K dX11_itemsOfLaws_3 rfl (by decide) rfl rfl ?_
  refine j_sub [2, 1, 0] rfl ?_
  exact b_X11_itemsOfLaws_4 a0 s0 K HR jFU (0 : Int32) (0 : Int32) h
set_option maxRecDepth 100000 in
set_option maxHeartbeats 4000000 in
theorem M_X11_itemsOfLaws (l : Launch) (G : jG) (a0 : Nat → Nat) (s0 : XS) {r : Int32} (h : f_X11_itemsOfLaws s0 = some r) : MC l yX11_itemsOfLaws cX11_itemsOfLaws 3 (some .int) 1 G jNo False (wX G a0 s0) (wX G a0 s0) [.ref (a0 0)] (some (.int r)) := by
  refine mc_int (by decide +kernel) (Nat.le_of_ble_eq_true rfl) fun E hl hg hA hrw K HR => ?_
  subst hl
  subst hg
  exact b_X11_itemsOfLaws a0 s0 K HR h
theorem ok_X11_coefficientsInUse : yX11_coefficientsInUse.cls ≠ "java/lang/invoke/MethodHandle" ∧ yX11_coefficientsInUse.cls ≠ "java/lang/invoke/VarHandle" ∧ (parseMethodDescriptor yX11_coefficientsInUse.desc).map (fun d => d.parameters.length) = some 0 := ⟨by decide, by decide, by decide +kernel⟩
def f_X11_coefficientsInUse_4 : Nat → Int32 → Int32 → XS → Option (Int32)
  | 0, _, _, _ => none
  | n + 1, v1, v2, s0 =>
   if (4 : Int32) ≤ v2 then
   some v1
  else
   jgd v2 4 (
    if v2 = 0 then (
     jbd (f_X8_inUse (X_poly0 s0)) (fun r16 =>
      (f_X11_coefficientsInUse_4 n) (v1 + r16) (v2 + (1 : Int32)) s0)) else if v2 = 1 then (
     jbd (f_X8_inUse (X_poly1 s0)) (fun r16 =>
      (f_X11_coefficientsInUse_4 n) (v1 + r16) (v2 + (1 : Int32)) s0)) else if v2 = 2 then (
     jbd (f_X8_inUse (X_poly2 s0)) (fun r16 =>
      (f_X11_coefficientsInUse_4 n) (v1 + r16) (v2 + (1 : Int32)) s0)) else (
     jbd (f_X8_inUse (X_poly3 s0)) (fun r16 =>
      (f_X11_coefficientsInUse_4 n) (v1 + r16) (v2 + (1 : Int32)) s0)))
def f_X11_coefficientsInUse (s0 : XS) : Option (Int32) :=
   f_X11_coefficientsInUse_4 jFU (0 : Int32) (0 : Int32) s0
set_option maxRecDepth 100000 in
set_option maxHeartbeats 4000000 in
theorem b_X11_coefficientsInUse_4 {E : jE} (a0 : Nat → Nat) (s0 : XS) {res : Int32} (K : jC E cX11_coefficientsInUse 3 RX11 1) (HR : jRI E cX11_coefficientsInUse 3 (wX (jg E) a0 s0) res) : ∀ (n : Nat) (v1 : Int32) (v2 : Int32), f_X11_coefficientsInUse_4 n v1 v2 s0 = some res → J E 3 (wX (jg E) a0 s0) 4 [(0, .ref (a0 0)), (1, .int v1), (2, .int v2)] [] := by
  intro n
  induction n with
  | zero => intro _ _ h; cases h
  | succ n ih =>
    intro v1 v2 h
    rw [f_X11_coefficientsInUse_4] at h
    refine j_iload_n (pc' := 5) K dX11_coefficientsInUse_4 rfl 2 rfl rfl ?_
    refine j_iconst (pc' := 6) (v := (4 : Int32)) K dX11_coefficientsInUse_5 (by decide) rfl ?_
    refine j_icmp_ge (pc' := 9) (tgt := 27) K dX11_coefficientsInUse_6 (by decide) rfl (fun hc => ?_) (fun hc => ?_)
    · have h := jit hc h
      refine j_iload_n (pc' := 28) K dX11_coefficientsInUse_27 rfl 1 rfl rfl ?_
      obtain rfl := Option.some.inj h
      exact HR _ _ dX11_coefficientsInUse_28
    · have h := jif hc h
      refine j_iload_n (pc' := 10) K dX11_coefficientsInUse_9 rfl 1 rfl rfl ?_
      refine j_aload_n (pc' := 11) K dX11_coefficientsInUse_10 rfl 0 rfl rfl ?_
      refine j_get (pc' := 14) K dX11_coefficientsInUse_11 inX11 0 rfl rfl 4 (by decide) u_1_201 rfl rfl rfl ?_
      refine j_iload_n (pc' := 15) K dX11_coefficientsInUse_14 rfl 2 rfl rfl ?_
      obtain ⟨hg, h⟩ := jgd_some h
      by_cases hc : v2 = 0
      · have h := jit hc h
        refine j_aald (pc' := 16) K dX11_coefficientsInUse_15 43 6 rfl rfl hg (by rw [hc]; rfl) rfl ?_
        obtain ⟨r16, hr16, h⟩ := jbd_some h
        refine j_ro (pc' := 19) K (fun H hP => jrun_V K dX11_coefficientsInUse_16 (M_X8_inUse (jl E) (jg E) (a0 44) (a0 45) (a0 46) (X_poly0 s0) hr16) u_4_28 u_4_25 u_4_26 u_4_27 u_1_12 ⟨ok_X8_inUse, by decide, by decide⟩ rfl (Nat.le_of_ble_eq_true rfl) 44 rfl rfl H hP) [44, 45, 46] rfl rfl ?_
        refine j_iadd (pc' := 20) K dX11_coefficientsInUse_19 rfl ?_
        refine j_istore_n (pc' := 21) (lv' := [(1, .int (v1 + r16)), (0, .ref (a0 0)), (2, .int v2)]) K dX11_coefficientsInUse_20 rfl (by decide) rfl rfl ?_
        refine j_iinc (pc' := 24) (j := 2) (v := (v2 + (1 : Int32))) (lv' := [(2, .int (v2 + (1 : Int32))), (1, .int (v1 + r16)), (0, .ref (a0 0))]) K dX11_coefficientsInUse_21 rfl rfl (by decide) rfl rfl ?_
        refine j_goto (tgt := 4) K dX11_coefficientsInUse_24 (by decide) ?_
        refine j_sub [2, 1, 0] rfl ?_
        exact ih (v1 + r16) (v2 + (1 : Int32)) h
      have hc0 := hc
      have h := jif hc h
      by_cases hc : v2 = 1
      · have h := jit hc h
        refine j_aald (pc' := 16) K dX11_coefficientsInUse_15 43 6 rfl rfl hg (by rw [hc]; rfl) rfl ?_
        obtain ⟨r16, hr16, h⟩ := jbd_some h
        refine j_ro (pc' := 19) K (fun H hP => jrun_V K dX11_coefficientsInUse_16 (M_X8_inUse (jl E) (jg E) (a0 47) (a0 48) (a0 49) (X_poly1 s0) hr16) u_4_28 u_4_25 u_4_26 u_4_27 u_1_12 ⟨ok_X8_inUse, by decide, by decide⟩ rfl (Nat.le_of_ble_eq_true rfl) 47 rfl rfl H hP) [47, 48, 49] rfl rfl ?_
        refine j_iadd (pc' := 20) K dX11_coefficientsInUse_19 rfl ?_
        refine j_istore_n (pc' := 21) (lv' := [(1, .int (v1 + r16)), (0, .ref (a0 0)), (2, .int v2)]) K dX11_coefficientsInUse_20 rfl (by decide) rfl rfl ?_
        refine j_iinc (pc' := 24) (j := 2) (v := (v2 + (1 : Int32))) (lv' := [(2, .int (v2 + (1 : Int32))), (1, .int (v1 + r16)), (0, .ref (a0 0))]) K dX11_coefficientsInUse_21 rfl rfl (by decide) rfl rfl ?_
        refine j_goto (tgt := 4) K dX11_coefficientsInUse_24 (by decide) ?_
        refine j_sub [2, 1, 0] rfl ?_
        exact ih (v1 + r16) (v2 + (1 : Int32)) h
      have hc1 := hc
      have h := jif hc h
      by_cases hc : v2 = 2
      · have h := jit hc h
        refine j_aald (pc' := 16) K dX11_coefficientsInUse_15 43 6 rfl rfl hg (by rw [hc]; rfl) rfl ?_
        obtain ⟨r16, hr16, h⟩ := jbd_some h
        refine j_ro (pc' := 19) K (fun H hP => jrun_V K dX11_coefficientsInUse_16 (M_X8_inUse (jl E) (jg E) (a0 50) (a0 51) (a0 52) (X_poly2 s0) hr16) u_4_28 u_4_25 u_4_26 u_4_27 u_1_12 ⟨ok_X8_inUse, by decide, by decide⟩ rfl (Nat.le_of_ble_eq_true rfl) 50 rfl rfl H hP) [50, 51, 52] rfl rfl ?_
        refine j_iadd (pc' := 20) K dX11_coefficientsInUse_19 rfl ?_
        refine j_istore_n (pc' := 21) (lv' := [(1, .int (v1 + r16)), (0, .ref (a0 0)), (2, .int v2)]) K dX11_coefficientsInUse_20 rfl (by decide) rfl rfl ?_
        refine j_iinc (pc' := 24) (j := 2) (v := (v2 + (1 : Int32))) (lv' := [(2, .int (v2 + (1 : Int32))), (1, .int (v1 + r16)), (0, .ref (a0 0))]) K dX11_coefficientsInUse_21 rfl rfl (by decide) rfl rfl ?_
        refine j_goto (tgt := 4) K dX11_coefficientsInUse_24 (by decide) ?_
        refine j_sub [2, 1, 0] rfl ?_
        exact ih (v1 + r16) (v2 + (1 : Int32)) h
      have hc2 := hc
      have h := jif hc h
      have hc : v2 = 3 := jin4 hg hc0 hc1 hc2
      refine j_aald (pc' := 16) K dX11_coefficientsInUse_15 43 6 rfl rfl hg (by rw [hc]; rfl) rfl ?_
      obtain ⟨r16, hr16, h⟩ := jbd_some h
      refine j_ro (pc' := 19) K (fun H hP => jrun_V K dX11_coefficientsInUse_16 (M_X8_inUse (jl E) (jg E) (a0 53) (a0 54) (a0 55) (X_poly3 s0) hr16) u_4_28 u_4_25 u_4_26 u_4_27 u_1_12 ⟨ok_X8_inUse, by decide, by decide⟩ rfl (Nat.le_of_ble_eq_true rfl) 53 rfl rfl H hP) [53, 54, 55] rfl rfl ?_
      refine j_iadd (pc' := 20) K dX11_coefficientsInUse_19 rfl ?_
      refine j_istore_n (pc' := 21) (lv' := [(1, .int (v1 + r16)), (0, .ref (a0 0)), (2, .int v2)]) K dX11_coefficientsInUse_20 rfl (by decide) rfl rfl ?_
      refine j_iinc (pc' := 24) (j := 2) (v := (v2 + (1 : Int32))) (lv' := [(2, .int (v2 + (1 : Int32))), (1, .int (v1 + r16)), (0, .ref (a0 0))]) K dX11_coefficientsInUse_21 rfl rfl (by decide) rfl rfl ?_
      refine j_goto (tgt := 4) K dX11_coefficientsInUse_24 (by decide) ?_
      refine j_sub [2, 1, 0] rfl ?_
      exact ih (v1 + r16) (v2 + (1 : Int32)) h
set_option maxRecDepth 100000 in
set_option maxHeartbeats 4000000 in
theorem b_X11_coefficientsInUse {E : jE} (a0 : Nat → Nat) (s0 : XS) {res : Int32} (K : jC E cX11_coefficientsInUse 3 RX11 1) (HR : jRI E cX11_coefficientsInUse 3 (wX (jg E) a0 s0) res) : f_X11_coefficientsInUse s0 = some res → J E 3 (wX (jg E) a0 s0) 0 [(0, .ref (a0 0))] [] := by
  intro  h
  unfold f_X11_coefficientsInUse at h
  refine j_iconst (pc' := 1) (v := (0 : Int32)) K dX11_coefficientsInUse_0 (by decide) rfl ?_
  refine j_istore_n (pc' := 2) (lv' := [(1, .int (0 : Int32)), (0, .ref (a0 0))]) K dX11_coefficientsInUse_1 rfl (by decide) rfl rfl ?_
  refine j_iconst (pc' := 3) (v := (0 : Int32)) K dX11_coefficientsInUse_2 (by decide) rfl ?_
  refine j_istore_n (pc' := 4) (lv' := [(2, .int (0 : Int32)), (1, .int (0 : Int32)), (0, .ref (a0 0))]) K dX11_coefficientsInUse_3 rfl (by decide) rfl rfl ?_
  refine j_sub [2, 1, 0] rfl ?_
  exact b_X11_coefficientsInUse_4 a0 s0 K HR jFU (0 : Int32) (0 : Int32) h
set_option maxRecDepth 100000 in
set_option maxHeartbeats 4000000 in
theorem M_X11_coefficientsInUse (l : Launch) (G : jG) (a0 : Nat → Nat) (s0 : XS) {r : Int32} (h : f_X11_coefficientsInUse s0 = some r) : MC l yX11_coefficientsInUse cX11_coefficientsInUse 3 (some .int) 1 G jNo False (wX G a0 s0) (wX G a0 s0) [.ref (a0 0)] (some (.int r)) := by
  refine mc_int (by decide +kernel) (Nat.le_of_ble_eq_true rfl) fun E hl hg hA hrw K HR => ?_
  subst hl
  subst hg
  exact b_X11_coefficientsInUse a0 s0 K HR h
theorem ok_X11_count : yX11_count.cls ≠ "java/lang/invoke/MethodHandle" ∧ yX11_count.cls ≠ "java/lang/invoke/VarHandle" ∧ (parseMethodDescriptor yX11_count.desc).map (fun d => d.parameters.length) = some 1 := ⟨by decide, by decide, by decide +kernel⟩
def f_X11_count (v1 : Int32) (s0 : XS) : Option (Int32) :=
   if v1 = 0 then (
   jbd (f_X10_length (X_text s0)) (fun r32 =>
    some r32)) else if v1 = 1 then (
   jbd (f_X11_itemsOfLaws s0) (fun r37 =>
    some r37)) else if v1 = 2 then (
   jbd (f_X11_coefficientsInUse s0) (fun r42 =>
    some r42)) else (
   some (-1 : Int32))
set_option maxRecDepth 100000 in
set_option maxHeartbeats 4000000 in
theorem b_X11_count {E : jE} (a0 : Nat → Nat) (s0 : XS) {res : Int32} (K : jC E cX11_count 2 RX11 2) (HR : jRI E cX11_count 2 (wX (jg E) a0 s0) res) : ∀ (v1 : Int32), f_X11_count v1 s0 = some res → J E 2 (wX (jg E) a0 s0) 0 [(0, .ref (a0 0)), (1, .int v1)] [] := by
  intro v1 h
  unfold f_X11_count at h
  refine j_iload_n (pc' := 1) K dX11_count_0 rfl 1 rfl rfl ?_
  by_cases hc : v1 = 0
  · have h := jit hc h
    refine j_tabIn (tgt := 28) K dX11_count_1 (by rw [hc]; decide) (by rw [hc]; decide) (by rw [hc]; rfl) (by decide) ?_
    refine j_aload_n (pc' := 29) K dX11_count_28 rfl 0 rfl rfl ?_
    refine j_get (pc' := 32) K dX11_count_29 inX11 0 rfl rfl 0 (by decide) u_1_197 rfl rfl rfl ?_
    obtain ⟨r32, hr32, h⟩ := jbd_some h
    refine j_ro (pc' := 35) K (fun H hP => jrun_V K dX11_count_32 (M_X10_length (jl E) (jg E) (a0 1) (a0 2) (X_text s0) hr32) u_1_225 u_1_222 u_1_223 u_1_224 u_1_2 ⟨ok_X10_length, by decide, by decide⟩ rfl (Nat.le_of_ble_eq_true rfl) 1 rfl rfl H hP) [1, 2] rfl rfl ?_
    obtain rfl := Option.some.inj h
    exact HR _ _ dX11_count_35
  have hc0 := hc
  have h := jif hc h
  by_cases hc : v1 = 1
  · have h := jit hc h
    refine j_tabIn (tgt := 36) K dX11_count_1 (by rw [hc]; decide) (by rw [hc]; decide) (by rw [hc]; rfl) (by decide) ?_
    refine j_aload_n (pc' := 37) K dX11_count_36 rfl 0 rfl rfl ?_
    obtain ⟨r37, hr37, h⟩ := jbd_some h
    refine j_ro (pc' := 40) K (fun H hP => jrun_V K dX11_count_37 (M_X11_itemsOfLaws (jl E) (jg E) a0 s0 hr37) u_4_20 u_4_17 u_4_19 u_p_18 u_1_1 ⟨ok_X11_itemsOfLaws, by decide, by decide⟩ rfl (Nat.le_of_ble_eq_true rfl) 0 rfl rfl H hP) [0, 1, 2, 3, 4, 5, 6, 7, 8, 9, 10, 11, 12, 13, 14, 15, 16, 17, 18, 19, 20, 21, 22, 23, 24, 25, 26, 27, 28, 29, 30, 31, 32, 33, 34, 35, 36, 37, 38, 39, 40, 41, 42, 43, 44, 45, 46, 47, 48, 49, 50, 51, 52, 53, 54, 55] rfl rfl ?_
    obtain rfl := Option.some.inj h
    exact HR _ _ dX11_count_40
  have hc1 := hc
  have h := jif hc h
  by_cases hc : v1 = 2
  · have h := jit hc h
    refine j_tabIn (tgt := 41) K dX11_count_1 (by rw [hc]; decide) (by rw [hc]; decide) (by rw [hc]; rfl) (by decide) ?_
    refine j_aload_n (pc' := 42) K dX11_count_41 rfl 0 rfl rfl ?_
    obtain ⟨r42, hr42, h⟩ := jbd_some h
    refine j_ro (pc' := 45) K (fun H hP => jrun_V K dX11_count_42 (M_X11_coefficientsInUse (jl E) (jg E) a0 s0 hr42) u_4_24 u_4_21 u_4_23 u_p_19 u_1_1 ⟨ok_X11_coefficientsInUse, by decide, by decide⟩ rfl (Nat.le_of_ble_eq_true rfl) 0 rfl rfl H hP) [0, 1, 2, 3, 4, 5, 6, 7, 8, 9, 10, 11, 12, 13, 14, 15, 16, 17, 18, 19, 20, 21, 22, 23, 24, 25, 26, 27, 28, 29, 30, 31, 32, 33, 34, 35, 36, 37, 38, 39, 40, 41, 42, 43, 44, 45, 46, 47, 48, 49, 50, 51, 52, 53, 54, 55] rfl rfl ?_
    obtain rfl := Option.some.inj h
    exact HR _ _ dX11_count_45
  have hc2 := hc
  have h := jif hc h
  refine j_tabOut (tgt := 46) K dX11_count_1 (jtab3 hc0 hc1 hc2) (by decide) ?_
  refine j_iconst (pc' := 47) (v := (-1 : Int32)) K dX11_count_46 (by decide) rfl ?_
  obtain rfl := Option.some.inj h
  exact HR _ _ dX11_count_47
set_option maxRecDepth 100000 in
set_option maxHeartbeats 4000000 in
theorem M_X11_count (l : Launch) (G : jG) (a0 : Nat → Nat) (v1 : Int32) (s0 : XS) {r : Int32} (h : f_X11_count v1 s0 = some r) : MC l yX11_count cX11_count 2 (some .int) 2 G jNo False (wX G a0 s0) (wX G a0 s0) [.ref (a0 0), .int v1] (some (.int r)) := by
  refine mc_int (by decide +kernel) (Nat.le_of_ble_eq_true rfl) fun E hl hg hA hrw K HR => ?_
  subst hl
  subst hg
  exact b_X11_count a0 s0 K HR v1 h
