theorem ok_X11_orders : yX11_orders.cls ≠ "java/lang/invoke/MethodHandle" ∧ yX11_orders.cls ≠ "java/lang/invoke/VarHandle" ∧ (parseMethodDescriptor yX11_orders.desc).map (fun d => d.parameters.length) = some 4 := ⟨by decide, by decide, by decide +kernel⟩
def f_X11_orders (v1 : Int32) (v2 : Int32) (v3 : Int32) (v4 : Int32) (s0 : XS) : Option (Int32 × XS) :=
   jbd (f_X11_within v1 (1 : Int32) (8 : Int32)) (fun r4 =>
   if r4 = 0 then
    some ((-1 : Int32), s0)
   else
    jbd (f_X11_within v2 (0 : Int32) (4 : Int32)) (fun r13 =>
     if r13 = 0 then
      some ((-1 : Int32), s0)
     else
      jbd (f_X11_within v3 (0 : Int32) (28 : Int32)) (fun r25 =>
       if r25 = 0 then
        some ((-1 : Int32), s0)
       else
        if (-1 : Int32) ≤ v4 then
         jbd (f_X6_howMany v1 v2 v3 (X_orders s0)) (fun r46 =>
          if v4 = (-1 : Int32) then
           some ((r46.1), (X_orders_s s0 (r46.2)))
          else
           if (r46.1) ≤ v4 then
            some ((-4 : Int32), (X_orders_s s0 (r46.2)))
           else
            jbd (f_X6_ith v1 v2 v3 v4 (X_orders (X_orders_s s0 (r46.2)))) (fun r76 =>
             some ((r76.1), (X_orders_s (X_orders_s s0 (r46.2)) (r76.2)))))
        else
         some ((-1 : Int32), s0))))
set_option maxRecDepth 100000 in
set_option maxHeartbeats 4000000 in
theorem b_X11_orders {E : jE} (a0 : Nat → Nat) {res : Int32 × XS} (K : jC E cX11_orders 6 RX11 5) (hrw : jrw E) (HR : jRI E cX11_orders 6 (wX (jg E) a0 (res.2)) (res.1)) : ∀ (v1 : Int32) (v2 : Int32) (v3 : Int32) (v4 : Int32) (s0 : XS), f_X11_orders v1 v2 v3 v4 s0 = some res → J E 6 (wX (jg E) a0 s0) 0 [(0, .ref (a0 0)), (1, .int v1), (2, .int v2), (3, .int v3), (4, .int v4)] [] := by
  intro v1 v2 v3 v4 s0 h
  unfold f_X11_orders at h
  refine j_iload_n (pc' := 1) K dX11_orders_0 rfl 1 rfl rfl ?_
  refine j_iconst (pc' := 2) (v := (1 : Int32)) K dX11_orders_1 (by decide) rfl ?_
  refine j_bipush (pc' := 4) (v := (8 : Int32)) K dX11_orders_2 (by decide) rfl ?_
  obtain ⟨r4, hr4, h⟩ := jbd_some h
  refine j_ro (pc' := 7) K (fun H hP => jrun_S K dX11_orders_4 (M_X11_within (jl E) (jg E) v1 (1 : Int32) (8 : Int32) hr4) u_1_76 u_1_217 u_1_75 u_1_1 ⟨ok_X11_within, by decide, by decide⟩ rfl (Nat.le_of_ble_eq_true rfl) H) [] rfl rfl ?_
  refine j_if_eq (pc' := 10) (tgt := 19) K dX11_orders_7 (by decide) rfl (fun hc => ?_) (fun hc => ?_)
  · have h := jit hc h
    refine j_iconst (pc' := 20) (v := (-1 : Int32)) K dX11_orders_19 (by decide) rfl ?_
    obtain rfl := Option.some.inj h
    exact HR _ _ dX11_orders_20
  · have h := jif hc h
    refine j_iload_n (pc' := 11) K dX11_orders_10 rfl 2 rfl rfl ?_
    refine j_iconst (pc' := 12) (v := (0 : Int32)) K dX11_orders_11 (by decide) rfl ?_
    refine j_iconst (pc' := 13) (v := (4 : Int32)) K dX11_orders_12 (by decide) rfl ?_
    obtain ⟨r13, hr13, h⟩ := jbd_some h
    refine j_ro (pc' := 16) K (fun H hP => jrun_S K dX11_orders_13 (M_X11_within (jl E) (jg E) v2 (0 : Int32) (4 : Int32) hr13) u_1_76 u_1_217 u_1_75 u_1_1 ⟨ok_X11_within, by decide, by decide⟩ rfl (Nat.le_of_ble_eq_true rfl) H) [] rfl rfl ?_
    refine j_if_ne (pc' := 19) (tgt := 21) K dX11_orders_16 (by decide) rfl (fun hc => ?_) (fun hc => ?_)
    · have h := jif hc h
      refine j_iload_n (pc' := 22) K dX11_orders_21 rfl 3 rfl rfl ?_
      refine j_iconst (pc' := 23) (v := (0 : Int32)) K dX11_orders_22 (by decide) rfl ?_
      refine j_bipush (pc' := 25) (v := (28 : Int32)) K dX11_orders_23 (by decide) rfl ?_
      obtain ⟨r25, hr25, h⟩ := jbd_some h
      refine j_ro (pc' := 28) K (fun H hP => jrun_S K dX11_orders_25 (M_X11_within (jl E) (jg E) v3 (0 : Int32) (28 : Int32) hr25) u_1_76 u_1_217 u_1_75 u_1_1 ⟨ok_X11_within, by decide, by decide⟩ rfl (Nat.le_of_ble_eq_true rfl) H) [] rfl rfl ?_
      refine j_if_eq (pc' := 31) (tgt := 37) K dX11_orders_28 (by decide) rfl (fun hc => ?_) (fun hc => ?_)
      · have h := jit hc h
        refine j_iconst (pc' := 38) (v := (-1 : Int32)) K dX11_orders_37 (by decide) rfl ?_
        obtain rfl := Option.some.inj h
        exact HR _ _ dX11_orders_38
      · have h := jif hc h
        refine j_iload (pc' := 33) K dX11_orders_31 4 rfl rfl ?_
        refine j_iconst (pc' := 34) (v := (-1 : Int32)) K dX11_orders_33 (by decide) rfl ?_
        refine j_icmp_ge (pc' := 37) (tgt := 39) K dX11_orders_34 (by decide) rfl (fun hc => ?_) (fun hc => ?_)
        · have h := jit hc h
          refine j_aload_n (pc' := 40) K dX11_orders_39 rfl 0 rfl rfl ?_
          refine j_get (pc' := 43) K dX11_orders_40 inX11 0 rfl rfl 3 (by decide) u_1_200 rfl rfl rfl ?_
          refine j_iload_n (pc' := 44) K dX11_orders_43 rfl 1 rfl rfl ?_
          refine j_iload_n (pc' := 45) K dX11_orders_44 rfl 2 rfl rfl ?_
          refine j_iload_n (pc' := 46) K dX11_orders_45 rfl 3 rfl rfl ?_
          obtain ⟨r46, hr46, h⟩ := jbd_some h
          refine j_rw (pc' := 49) (ws' := (wX (jg E) a0 (X_orders_s s0 (r46.2)))) K (fun H hP => jrun_V K dX11_orders_46 (M_X6_howMany (jl E) (jg E) (a0 30) (a0 31) (a0 32) (a0 33) (a0 34) (a0 35) (a0 36) (a0 37) (a0 38) (a0 39) (a0 40) (a0 41) (a0 42) v1 v2 v3 (X_orders s0) hr46) u_2_235 u_2_232 u_2_233 u_2_234 u_1_4 ⟨ok_X6_howMany, by decide, by decide⟩ rfl (Nat.le_of_ble_eq_true rfl) 30 rfl rfl H hP) hrw [30, 31, 32, 33, 34, 35, 36, 37, 38, 39, 40, 41, 42] rfl (cl_44_s ..) rfl (cl_44_m ..) (ad_X ..) rfl ?_
          refine j_istore (pc' := 51) (lv' := [(5, .int (r46.1)), (0, .ref (a0 0)), (1, .int v1), (2, .int v2), (3, .int v3), (4, .int v4)]) K dX11_orders_49 (by decide) rfl rfl ?_
          refine j_iload (pc' := 53) K dX11_orders_51 5 rfl rfl ?_
          refine j_iconst (pc' := 54) (v := (-1 : Int32)) K dX11_orders_53 (by decide) rfl ?_
          refine j_icmp_ne (pc' := 57) (tgt := 60) K dX11_orders_54 (by decide) rfl (fun hc => ?_) (fun hc => ?_)
          · have h := jif hc h
            refine j_iload (pc' := 62) K dX11_orders_60 5 rfl rfl ?_
            refine j_iload (pc' := 64) K dX11_orders_62 0 rfl rfl ?_
            refine j_icmp_ge (pc' := 67) (tgt := 82) K dX11_orders_64 (by decide) rfl (fun hc => ?_) (fun hc => ?_)
            · have h := jit hc h
              refine j_bipush (pc' := 84) (v := (-4 : Int32)) K dX11_orders_82 (by decide) rfl ?_
              obtain rfl := Option.some.inj h
              exact HR _ _ dX11_orders_84
            · have h := jif hc h
              refine j_aload_n (pc' := 68) K dX11_orders_67 rfl 1 rfl rfl ?_
              refine j_get (pc' := 71) K dX11_orders_68 inX11 0 rfl rfl 3 (by decide) u_1_200 rfl rfl rfl ?_
              refine j_iload_n (pc' := 72) K dX11_orders_71 rfl 2 rfl rfl ?_
              refine j_iload_n (pc' := 73) K dX11_orders_72 rfl 3 rfl rfl ?_
              refine j_iload_n (pc' := 74) K dX11_orders_73 rfl 4 rfl rfl ?_
              refine j_iload (pc' := 76) K dX11_orders_74 5 rfl rfl ?_
              obtain ⟨r76, hr76, h⟩ := jbd_some h
              refine j_rw (pc' := 79) (ws' := (wX (jg E) a0 (X_orders_s (X_orders_s s0 (r46.2)) (r76.2)))) K (fun H hP => jrun_V K dX11_orders_76 (M_X6_ith (jl E) (jg E) (a0 30) (a0 31) (a0 32) (a0 33) (a0 34) (a0 35) (a0 36) (a0 37) (a0 38) (a0 39) (a0 40) (a0 41) (a0 42) v1 v2 v3 v4 (X_orders (X_orders_s s0 (r46.2))) hr76) u_3_51 u_3_48 u_3_49 u_3_50 u_1_4 ⟨ok_X6_ith, by decide, by decide⟩ rfl (Nat.le_of_ble_eq_true rfl) 30 rfl rfl H hP) hrw [30, 31, 32, 33, 34, 35, 36, 37, 38, 39, 40, 41, 42] rfl (cl_44_s ..) rfl (cl_44_m ..) (ad_X ..) rfl ?_
              refine j_goto (tgt := 84) K dX11_orders_79 (by decide) ?_
              obtain rfl := Option.some.inj h
              exact HR _ _ dX11_orders_84
          · have h := jit hc h
            refine j_iload (pc' := 59) K dX11_orders_57 0 rfl rfl ?_
            obtain rfl := Option.some.inj h
            exact HR _ _ dX11_orders_59
        · have h := jif hc h
          refine j_iconst (pc' := 38) (v := (-1 : Int32)) K dX11_orders_37 (by decide) rfl ?_
          obtain rfl := Option.some.inj h
          exact HR _ _ dX11_orders_38
    · have h := jit hc h
      refine j_iconst (pc' := 20) (v := (-1 : Int32)) K dX11_orders_19 (by decide) rfl ?_
      obtain rfl := Option.some.inj h
      exact HR _ _ dX11_orders_20
set_option maxRecDepth 100000 in
set_option maxHeartbeats 4000000 in
theorem M_X11_orders (l : Launch) (G : jG) (a0 : Nat → Nat) (v1 : Int32) (v2 : Int32) (v3 : Int32) (v4 : Int32) (s0 : XS) {r : Int32 × XS} (h : f_X11_orders v1 v2 v3 v4 s0 = some r) : MC l yX11_orders cX11_orders 6 (some .int) 5 G (jad (wX G a0 s0)) True (wX G a0 s0) (wX G a0 (r.2)) [.ref (a0 0), .int v1, .int v2, .int v3, .int v4] (some (.int (r.1))) := by
  refine mc_int (by decide +kernel) (Nat.le_of_ble_eq_true rfl) fun E hl hg hA hrw K HR => ?_
  subst hl
  subst hg
  have hrw : jrw E := by rw [hrw]; trivial
  exact b_X11_orders a0 K hrw HR v1 v2 v3 v4 s0 h
