theorem ok_X11_mark : yX11_mark.cls ≠ "java/lang/invoke/MethodHandle" ∧ yX11_mark.cls ≠ "java/lang/invoke/VarHandle" ∧ (parseMethodDescriptor yX11_mark.desc).map (fun d => d.parameters.length) = some 3 := ⟨by decide, by decide, by decide +kernel⟩
def f_X11_mark (v1 : Int32) (v2 : Int32) (v3 : Int32) (s0 : XS) : Option (Int32 × XS) :=
   jbd (f_X11_isOrder v1 v2 s0) (fun r3 =>
   if r3 = 0 then
    some ((-1 : Int32), s0)
   else
    jbd (f_X11_within v3 (0 : Int32) (4 : Int32)) (fun r12 =>
     if r12 = 0 then
      some ((-1 : Int32), s0)
     else
      jbd (f_X6_markOf v1 v2 v3 (X_orders s0)) (fun r27 =>
       some ((r27.1), (X_orders_s s0 (r27.2))))))
set_option maxRecDepth 100000 in
set_option maxHeartbeats 4000000 in
theorem b_X11_mark {E : jE} (a0 : Nat → Nat) {res : Int32 × XS} (K : jC E cX11_mark 4 RX11 4) (hrw : jrw E) (HR : jRI E cX11_mark 4 (wX (jg E) a0 (res.2)) (res.1)) : ∀ (v1 : Int32) (v2 : Int32) (v3 : Int32) (s0 : XS), f_X11_mark v1 v2 v3 s0 = some res → J E 4 (wX (jg E) a0 s0) 0 [(0, .ref (a0 0)), (1, .int v1), (2, .int v2), (3, .int v3)] [] := by
  intro v1 v2 v3 s0 h
  unfold f_X11_mark at h
  refine j_aload_n (pc' := 1) K dX11_mark_0 rfl 0 rfl rfl ?_
  refine j_iload_n (pc' := 2) K dX11_mark_1 rfl 1 rfl rfl ?_
  refine j_iload_n (pc' := 3) K dX11_mark_2 rfl 2 rfl rfl ?_
  obtain ⟨r3, hr3, h⟩ := jbd_some h
  refine j_ro (pc' := 6) K (fun H hP => jrun_V K dX11_mark_3 (M_X11_isOrder (jl E) (jg E) a0 v1 v2 s0 hr3) u_3_106 u_3_103 u_3_105 u_p_12 u_1_1 ⟨ok_X11_isOrder, by decide, by decide⟩ rfl (Nat.le_of_ble_eq_true rfl) 0 rfl rfl H hP) [0, 1, 2, 3, 4, 5, 6, 7, 8, 9, 10, 11, 12, 13, 14, 15, 16, 17, 18, 19, 20, 21, 22, 23, 24, 25, 26, 27, 28, 29, 30, 31, 32, 33, 34, 35, 36, 37, 38, 39, 40, 41, 42, 43, 44, 45, 46, 47, 48, 49, 50, 51, 52, 53, 54, 55] (cl_45_f ..) rfl ?_
  refine j_if_eq (pc' := 9) (tgt := 18) K dX11_mark_6 (by decide) rfl (fun hc => ?_) (fun hc => ?_)
  · have h := jit hc h
    refine j_iconst (pc' := 19) (v := (-1 : Int32)) K dX11_mark_18 (by decide) rfl ?_
    obtain rfl := Option.some.inj h
    exact HR _ _ dX11_mark_19
  · have h := jif hc h
    refine j_iload_n (pc' := 10) K dX11_mark_9 rfl 3 rfl rfl ?_
    refine j_iconst (pc' := 11) (v := (0 : Int32)) K dX11_mark_10 (by decide) rfl ?_
    refine j_iconst (pc' := 12) (v := (4 : Int32)) K dX11_mark_11 (by decide) rfl ?_
    obtain ⟨r12, hr12, h⟩ := jbd_some h
    refine j_ro (pc' := 15) K (fun H hP => jrun_S K dX11_mark_12 (M_X11_within (jl E) (jg E) v3 (0 : Int32) (4 : Int32) hr12) u_1_76 u_1_217 u_1_75 u_1_1 ⟨ok_X11_within, by decide, by decide⟩ rfl (Nat.le_of_ble_eq_true rfl) H) [] rfl rfl ?_
    refine j_if_ne (pc' := 18) (tgt := 20) K dX11_mark_15 (by decide) rfl (fun hc => ?_) (fun hc => ?_)
    · have h := jif hc h
      refine j_aload_n (pc' := 21) K dX11_mark_20 rfl 0 rfl rfl ?_
      refine j_get (pc' := 24) K dX11_mark_21 inX11 0 rfl rfl 3 (by decide) u_1_200 rfl rfl rfl ?_
      refine j_iload_n (pc' := 25) K dX11_mark_24 rfl 1 rfl rfl ?_
      refine j_iload_n (pc' := 26) K dX11_mark_25 rfl 2 rfl rfl ?_
      refine j_iload_n (pc' := 27) K dX11_mark_26 rfl 3 rfl rfl ?_
      obtain ⟨r27, hr27, h⟩ := jbd_some h
      refine j_rw (pc' := 30) (ws' := (wX (jg E) a0 (X_orders_s s0 (r27.2)))) K (fun H hP => jrun_V K dX11_mark_27 (M_X6_markOf (jl E) (jg E) (a0 30) (a0 31) (a0 32) (a0 33) (a0 34) (a0 35) (a0 36) (a0 37) (a0 38) (a0 39) (a0 40) (a0 41) (a0 42) v1 v2 v3 (X_orders s0) hr27) u_3_116 u_3_113 u_3_114 u_3_115 u_1_4 ⟨ok_X6_markOf, by decide, by decide⟩ rfl (Nat.le_of_ble_eq_true rfl) 30 rfl rfl H hP) hrw [30, 31, 32, 33, 34, 35, 36, 37, 38, 39, 40, 41, 42] rfl (cl_44_s ..) rfl (cl_44_m ..) (ad_X ..) rfl ?_
      obtain rfl := Option.some.inj h
      exact HR _ _ dX11_mark_30
    · have h := jit hc h
      refine j_iconst (pc' := 19) (v := (-1 : Int32)) K dX11_mark_18 (by decide) rfl ?_
      obtain rfl := Option.some.inj h
      exact HR _ _ dX11_mark_19
set_option maxRecDepth 100000 in
set_option maxHeartbeats 4000000 in
theorem M_X11_mark (l : Launch) (G : jG) (a0 : Nat → Nat) (v1 : Int32) (v2 : Int32) (v3 : Int32) (s0 : XS) {r : Int32 × XS} (h : f_X11_mark v1 v2 v3 s0 = some r) : MC l yX11_mark cX11_mark 4 (some .int) 4 G (jad (wX G a0 s0)) True (wX G a0 s0) (wX G a0 (r.2)) [.ref (a0 0), .int v1, .int v2, .int v3] (some (.int (r.1))) := by
  refine mc_int (by decide +kernel) (Nat.le_of_ble_eq_true rfl) fun E hl hg hA hrw K HR => ?_
  subst hl
  subst hg
  have hrw : jrw E := by rw [hrw]; trivial
  exact b_X11_mark a0 K hrw HR v1 v2 v3 s0 h
theorem ok_X11_rank : yX11_rank.cls ≠ "java/lang/invoke/MethodHandle" ∧ yX11_rank.cls ≠ "java/lang/invoke/VarHandle" ∧ (parseMethodDescriptor yX11_rank.desc).map (fun d => d.parameters.length) = some 2 := ⟨by decide, by decide, by decide +kernel⟩
def f_X11_rank (v1 : Int32) (v2 : Int32) (s0 : XS) : Option (Int32 × XS) :=
   jbd (f_X11_isOrder v1 v2 s0) (fun r3 =>
   if r3 = 0 then
    some ((-1 : Int32), s0)
   else
    jbd (f_X6_rankOf v1 v2 (X_orders s0)) (fun r15 =>
     some ((r15.1), (X_orders_s s0 (r15.2)))))
set_option maxRecDepth 100000 in
set_option maxHeartbeats 4000000 in
theorem b_X11_rank {E : jE} (a0 : Nat → Nat) {res : Int32 × XS} (K : jC E cX11_rank 3 RX11 3) (hrw : jrw E) (HR : jRI E cX11_rank 3 (wX (jg E) a0 (res.2)) (res.1)) : ∀ (v1 : Int32) (v2 : Int32) (s0 : XS), f_X11_rank v1 v2 s0 = some res → J E 3 (wX (jg E) a0 s0) 0 [(0, .ref (a0 0)), (1, .int v1), (2, .int v2)] [] := by
  intro v1 v2 s0 h
  unfold f_X11_rank at h
  refine j_aload_n (pc' := 1) K dX11_rank_0 rfl 0 rfl rfl ?_
  refine j_iload_n (pc' := 2) K dX11_rank_1 rfl 1 rfl rfl ?_
  refine j_iload_n (pc' := 3) K dX11_rank_2 rfl 2 rfl rfl ?_
  obtain ⟨r3, hr3, h⟩ := jbd_some h
  refine j_ro (pc' := 6) K (fun H hP => jrun_V K dX11_rank_3 (M_X11_isOrder (jl E) (jg E) a0 v1 v2 s0 hr3) u_3_106 u_3_103 u_3_105 u_p_12 u_1_1 ⟨ok_X11_isOrder, by decide, by decide⟩ rfl (Nat.le_of_ble_eq_true rfl) 0 rfl rfl H hP) [0, 1, 2, 3, 4, 5, 6, 7, 8, 9, 10, 11, 12, 13, 14, 15, 16, 17, 18, 19, 20, 21, 22, 23, 24, 25, 26, 27, 28, 29, 30, 31, 32, 33, 34, 35, 36, 37, 38, 39, 40, 41, 42, 43, 44, 45, 46, 47, 48, 49, 50, 51, 52, 53, 54, 55] (cl_45_f ..) rfl ?_
  refine j_if_eq (pc' := 9) (tgt := 21) K dX11_rank_6 (by decide) rfl (fun hc => ?_) (fun hc => ?_)
  · have h := jit hc h
    refine j_iconst (pc' := 22) (v := (-1 : Int32)) K dX11_rank_21 (by decide) rfl ?_
    obtain rfl := Option.some.inj h
    exact HR _ _ dX11_rank_22
  · have h := jif hc h
    refine j_aload_n (pc' := 10) K dX11_rank_9 rfl 0 rfl rfl ?_
    refine j_get (pc' := 13) K dX11_rank_10 inX11 0 rfl rfl 3 (by decide) u_1_200 rfl rfl rfl ?_
    refine j_iload_n (pc' := 14) K dX11_rank_13 rfl 1 rfl rfl ?_
    refine j_iload_n (pc' := 15) K dX11_rank_14 rfl 2 rfl rfl ?_
    obtain ⟨r15, hr15, h⟩ := jbd_some h
    refine j_rw (pc' := 18) (ws' := (wX (jg E) a0 (X_orders_s s0 (r15.2)))) K (fun H hP => jrun_V K dX11_rank_15 (M_X6_rankOf (jl E) (jg E) (a0 30) (a0 31) (a0 32) (a0 33) (a0 34) (a0 35) (a0 36) (a0 37) (a0 38) (a0 39) (a0 40) (a0 41) (a0 42) v1 v2 (X_orders s0) hr15) u_3_131 u_3_128 u_3_129 u_3_130 u_1_4 ⟨ok_X6_rankOf, by decide, by decide⟩ rfl (Nat.le_of_ble_eq_true rfl) 30 rfl rfl H hP) hrw [30, 31, 32, 33, 34, 35, 36, 37, 38, 39, 40, 41, 42] rfl (cl_44_s ..) rfl (cl_44_m ..) (ad_X ..) rfl ?_
    refine j_goto (tgt := 22) K dX11_rank_18 (by decide) ?_
    obtain rfl := Option.some.inj h
    exact HR _ _ dX11_rank_22
set_option maxRecDepth 100000 in
set_option maxHeartbeats 4000000 in
theorem M_X11_rank (l : Launch) (G : jG) (a0 : Nat → Nat) (v1 : Int32) (v2 : Int32) (s0 : XS) {r : Int32 × XS} (h : f_X11_rank v1 v2 s0 = some r) : MC l yX11_rank cX11_rank 3 (some .int) 3 G (jad (wX G a0 s0)) True (wX G a0 s0) (wX G a0 (r.2)) [.ref (a0 0), .int v1, .int v2] (some (.int (r.1))) := by
  refine mc_int (by decide +kernel) (Nat.le_of_ble_eq_true rfl) fun E hl hg hA hrw K HR => ?_
  subst hl
  subst hg
  have hrw : jrw E := by rw [hrw]; trivial
  exact b_X11_rank a0 K hrw HR v1 v2 s0 h
theorem ok_X11_over : yX11_over.cls ≠ "java/lang/invoke/MethodHandle" ∧ yX11_over.cls ≠ "java/lang/invoke/VarHandle" ∧ (parseMethodDescriptor yX11_over.desc).map (fun d => d.parameters.length) = some 2 := ⟨by decide, by decide, by decide +kernel⟩
def f_X11_over (v1 : Int32) (v2 : Int32) (s0 : XS) : Option (Int32 × XS) :=
   jbd (f_X11_isOrder v1 v2 s0) (fun r3 =>
   if r3 = 0 then
    some ((-1 : Int32), s0)
   else
    jbd (f_X6_turnedOver v1 v2 (X_orders s0)) (fun r15 =>
     some ((r15.1), (X_orders_s s0 (r15.2)))))
set_option maxRecDepth 100000 in
set_option maxHeartbeats 4000000 in
theorem b_X11_over {E : jE} (a0 : Nat → Nat) {res : Int32 × XS} (K : jC E cX11_over 3 RX11 3) (hrw : jrw E) (HR : jRI E cX11_over 3 (wX (jg E) a0 (res.2)) (res.1)) : ∀ (v1 : Int32) (v2 : Int32) (s0 : XS), f_X11_over v1 v2 s0 = some res → J E 3 (wX (jg E) a0 s0) 0 [(0, .ref (a0 0)), (1, .int v1), (2, .int v2)] [] := by
  intro v1 v2 s0 h
  unfold f_X11_over at h
  refine j_aload_n (pc' := 1) K dX11_over_0 rfl 0 rfl rfl ?_
  refine j_iload_n (pc' := 2) K dX11_over_1 rfl 1 rfl rfl ?_
  refine j_iload_n (pc' := 3) K dX11_over_2 rfl 2 rfl rfl ?_
  obtain ⟨r3, hr3, h⟩ := jbd_some h
  refine j_ro (pc' := 6) K (fun H hP => jrun_V K dX11_over_3 (M_X11_isOrder (jl E) (jg E) a0 v1 v2 s0 hr3) u_3_106 u_3_103 u_3_105 u_p_12 u_1_1 ⟨ok_X11_isOrder, by decide, by decide⟩ rfl (Nat.le_of_ble_eq_true rfl) 0 rfl rfl H hP) [0, 1, 2, 3, 4, 5, 6, 7, 8, 9, 10, 11, 12, 13, 14, 15, 16, 17, 18, 19, 20, 21, 22, 23, 24, 25, 26, 27, 28, 29, 30, 31, 32, 33, 34, 35, 36, 37, 38, 39, 40, 41, 42, 43, 44, 45, 46, 47, 48, 49, 50, 51, 52, 53, 54, 55] (cl_45_f ..) rfl ?_
  refine j_if_eq (pc' := 9) (tgt := 21) K dX11_over_6 (by decide) rfl (fun hc => ?_) (fun hc => ?_)
  · have h := jit hc h
    refine j_iconst (pc' := 22) (v := (-1 : Int32)) K dX11_over_21 (by decide) rfl ?_
    obtain rfl := Option.some.inj h
    exact HR _ _ dX11_over_22
  · have h := jif hc h
    refine j_aload_n (pc' := 10) K dX11_over_9 rfl 0 rfl rfl ?_
    refine j_get (pc' := 13) K dX11_over_10 inX11 0 rfl rfl 3 (by decide) u_1_200 rfl rfl rfl ?_
    refine j_iload_n (pc' := 14) K dX11_over_13 rfl 1 rfl rfl ?_
    refine j_iload_n (pc' := 15) K dX11_over_14 rfl 2 rfl rfl ?_
    obtain ⟨r15, hr15, h⟩ := jbd_some h
    refine j_rw (pc' := 18) (ws' := (wX (jg E) a0 (X_orders_s s0 (r15.2)))) K (fun H hP => jrun_V K dX11_over_15 (M_X6_turnedOver (jl E) (jg E) (a0 30) (a0 31) (a0 32) (a0 33) (a0 34) (a0 35) (a0 36) (a0 37) (a0 38) (a0 39) (a0 40) (a0 41) (a0 42) v1 v2 (X_orders s0) hr15) u_3_140 u_3_137 u_3_138 u_3_139 u_1_4 ⟨ok_X6_turnedOver, by decide, by decide⟩ rfl (Nat.le_of_ble_eq_true rfl) 30 rfl rfl H hP) hrw [30, 31, 32, 33, 34, 35, 36, 37, 38, 39, 40, 41, 42] rfl (cl_44_s ..) rfl (cl_44_m ..) (ad_X ..) rfl ?_
    refine j_goto (tgt := 22) K dX11_over_18 (by decide) ?_
    obtain rfl := Option.some.inj h
    exact HR _ _ dX11_over_22
set_option maxRecDepth 100000 in
set_option maxHeartbeats 4000000 in
theorem M_X11_over (l : Launch) (G : jG) (a0 : Nat → Nat) (v1 : Int32) (v2 : Int32) (s0 : XS) {r : Int32 × XS} (h : f_X11_over v1 v2 s0 = some r) : MC l yX11_over cX11_over 3 (some .int) 3 G (jad (wX G a0 s0)) True (wX G a0 s0) (wX G a0 (r.2)) [.ref (a0 0), .int v1, .int v2] (some (.int (r.1))) := by
  refine mc_int (by decide +kernel) (Nat.le_of_ble_eq_true rfl) fun E hl hg hA hrw K HR => ?_
  subst hl
  subst hg
  have hrw : jrw E := by rw [hrw]; trivial
  exact b_X11_over a0 K hrw HR v1 v2 s0 h
theorem ok_X11_behind : yX11_behind.cls ≠ "java/lang/invoke/MethodHandle" ∧ yX11_behind.cls ≠ "java/lang/invoke/VarHandle" ∧ (parseMethodDescriptor yX11_behind.desc).map (fun d => d.parameters.length) = some 3 := ⟨by decide, by decide, by decide +kernel⟩
def f_X11_behind (v1 : Int32) (v2 : Int32) (v3 : Int32) (s0 : XS) : Option (Int32 × XS) :=
   jbd (f_X11_isOrder v1 v2 s0) (fun r3 =>
   if r3 = 0 then
    some ((-1 : Int32), s0)
   else
    jbd (f_X11_isOrder v1 v3 s0) (fun r12 =>
     if r12 = 0 then
      some ((-1 : Int32), s0)
     else
      jbd (f_X6_oneBehind v1 v2 v3 (X_orders s0)) (fun r25 =>
       some ((r25.1), (X_orders_s s0 (r25.2))))))
set_option maxRecDepth 100000 in
set_option maxHeartbeats 4000000 in
theorem b_X11_behind {E : jE} (a0 : Nat → Nat) {res : Int32 × XS} (K : jC E cX11_behind 4 RX11 3) (hrw : jrw E) (HR : jRI E cX11_behind 4 (wX (jg E) a0 (res.2)) (res.1)) : ∀ (v1 : Int32) (v2 : Int32) (v3 : Int32) (s0 : XS), f_X11_behind v1 v2 v3 s0 = some res → J E 4 (wX (jg E) a0 s0) 0 [(0, .ref (a0 0)), (1, .int v1), (2, .int v2), (3, .int v3)] [] := by
  intro v1 v2 v3 s0 h
  unfold f_X11_behind at h
  refine j_aload_n (pc' := 1) K dX11_behind_0 rfl 0 rfl rfl ?_
  refine j_iload_n (pc' := 2) K dX11_behind_1 rfl 1 rfl rfl ?_
  refine j_iload_n (pc' := 3) K dX11_behind_2 rfl 2 rfl rfl ?_
  obtain ⟨r3, hr3, h⟩ := jbd_some h
  refine j_ro (pc' := 6) K (fun H hP => jrun_V K dX11_behind_3 (M_X11_isOrder (jl E) (jg E) a0 v1 v2 s0 hr3) u_3_106 u_3_103 u_3_105 u_p_12 u_1_1 ⟨ok_X11_isOrder, by decide, by decide⟩ rfl (Nat.le_of_ble_eq_true rfl) 0 rfl rfl H hP) [0, 1, 2, 3, 4, 5, 6, 7, 8, 9, 10, 11, 12, 13, 14, 15, 16, 17, 18, 19, 20, 21, 22, 23, 24, 25, 26, 27, 28, 29, 30, 31, 32, 33, 34, 35, 36, 37, 38, 39, 40, 41, 42, 43, 44, 45, 46, 47, 48, 49, 50, 51, 52, 53, 54, 55] (cl_45_f ..) rfl ?_
  refine j_if_eq (pc' := 9) (tgt := 31) K dX11_behind_6 (by decide) rfl (fun hc => ?_) (fun hc => ?_)
  · have h := jit hc h
    refine j_iconst (pc' := 32) (v := (-1 : Int32)) K dX11_behind_31 (by decide) rfl ?_
    obtain rfl := Option.some.inj h
    exact HR _ _ dX11_behind_32
  · have h := jif hc h
    refine j_aload_n (pc' := 10) K dX11_behind_9 rfl 0 rfl rfl ?_
    refine j_iload_n (pc' := 11) K dX11_behind_10 rfl 1 rfl rfl ?_
    refine j_iload_n (pc' := 12) K dX11_behind_11 rfl 3 rfl rfl ?_
    obtain ⟨r12, hr12, h⟩ := jbd_some h
    refine j_ro (pc' := 15) K (fun H hP => jrun_V K dX11_behind_12 (M_X11_isOrder (jl E) (jg E) a0 v1 v3 s0 hr12) u_3_106 u_3_103 u_3_105 u_p_12 u_1_1 ⟨ok_X11_isOrder, by decide, by decide⟩ rfl (Nat.le_of_ble_eq_true rfl) 0 rfl rfl H hP) [0, 1, 2, 3, 4, 5, 6, 7, 8, 9, 10, 11, 12, 13, 14, 15, 16, 17, 18, 19, 20, 21, 22, 23, 24, 25, 26, 27, 28, 29, 30, 31, 32, 33, 34, 35, 36, 37, 38, 39, 40, 41, 42, 43, 44, 45, 46, 47, 48, 49, 50, 51, 52, 53, 54, 55] (cl_45_f ..) rfl ?_
    refine j_if_eq (pc' := 18) (tgt := 31) K dX11_behind_15 (by decide) rfl (fun hc => ?_) (fun hc => ?_)
    · have h := jit hc h
      refine j_iconst (pc' := 32) (v := (-1 : Int32)) K dX11_behind_31 (by decide) rfl ?_
      obtain rfl := Option.some.inj h
      exact HR _ _ dX11_behind_32
    · have h := jif hc h
      refine j_aload_n (pc' := 19) K dX11_behind_18 rfl 0 rfl rfl ?_
      refine j_get (pc' := 22) K dX11_behind_19 inX11 0 rfl rfl 3 (by decide) u_1_200 rfl rfl rfl ?_
      refine j_iload_n (pc' := 23) K dX11_behind_22 rfl 1 rfl rfl ?_
      refine j_iload_n (pc' := 24) K dX11_behind_23 rfl 2 rfl rfl ?_
      refine j_iload_n (pc' := 25) K dX11_behind_24 rfl 3 rfl rfl ?_
      obtain ⟨r25, hr25, h⟩ := jbd_some h
      refine j_rw (pc' := 28) (ws' := (wX (jg E) a0 (X_orders_s s0 (r25.2)))) K (fun H hP => jrun_V K dX11_behind_25 (M_X6_oneBehind (jl E) (jg E) (a0 30) (a0 31) (a0 32) (a0 33) (a0 34) (a0 35) (a0 36) (a0 37) (a0 38) (a0 39) (a0 40) (a0 41) (a0 42) v1 v2 v3 (X_orders s0) hr25) u_3_148 u_3_145 u_3_146 u_3_147 u_1_4 ⟨ok_X6_oneBehind, by decide, by decide⟩ rfl (Nat.le_of_ble_eq_true rfl) 30 rfl rfl H hP) hrw [30, 31, 32, 33, 34, 35, 36, 37, 38, 39, 40, 41, 42] rfl (cl_44_s ..) rfl (cl_44_m ..) (ad_X ..) rfl ?_
      refine j_goto (tgt := 32) K dX11_behind_28 (by decide) ?_
      obtain rfl := Option.some.inj h
      exact HR _ _ dX11_behind_32
set_option maxRecDepth 100000 in
set_option maxHeartbeats 4000000 in
theorem M_X11_behind (l : Launch) (G : jG) (a0 : Nat → Nat) (v1 : Int32) (v2 : Int32) (v3 : Int32) (s0 : XS) {r : Int32 × XS} (h : f_X11_behind v1 v2 v3 s0 = some r) : MC l yX11_behind cX11_behind 4 (some .int) 3 G (jad (wX G a0 s0)) True (wX G a0 s0) (wX G a0 (r.2)) [.ref (a0 0), .int v1, .int v2, .int v3] (some (.int (r.1))) := by
  refine mc_int (by decide +kernel) (Nat.le_of_ble_eq_true rfl) fun E hl hg hA hrw K HR => ?_
  subst hl
  subst hg
  have hrw : jrw E := by rw [hrw]; trivial
  exact b_X11_behind a0 K hrw HR v1 v2 v3 s0 h
