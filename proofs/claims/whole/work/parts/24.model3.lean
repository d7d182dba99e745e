theorem ok_X12_base : yX12_base.cls ≠ "java/lang/invoke/MethodHandle" ∧ yX12_base.cls ≠ "java/lang/invoke/VarHandle" ∧ (parseMethodDescriptor yX12_base.desc).map (fun d => d.parameters.length) = some 2 := ⟨by decide, by decide, by decide +kernel⟩
def f_X12_base_38 : Nat → Int32 → Int32 → Int32 → MS → Option (Int32 × MS)
  | 0, _, _, _, _ => none
  | n + 1, v1, v3, v4, s0 =>
   if (9 : Int32) ≤ v4 then
   some (v3, s0)
  else
   jgd (((9 : Int32) * v1) + v4) 36 (
    (f_X12_base_38 n) v1 v3 (v4 + (1 : Int32)) (M_factor_s s0 (vp_updL (M_factor s0) (Int32.toNatClampNeg (((9 : Int32) * v1) + v4)) (0 : Int64))))
def f_X12_base (v1 : Int32) (v2 : Int32) (s0 : MS) : Option (Int32 × MS) :=
   jbd (f_X12_isPolynomial v1) (fun r1 =>
   if r1 = 0 then
    some ((-1 : Int32), s0)
   else
    jbd (f_X12_in (Int32.toInt64 v2) (0 : Int64) (3 : Int64)) (fun r13 =>
     if r13 = 0 then
      some ((-1 : Int32), s0)
     else
      jgd v1 4 (
       jgd v1 4 (
        f_X12_base_38 jFU v1 ((M_base s0) (Int32.toNatClampNeg v1)) (0 : Int32) (M_base_s s0 (upd (M_base s0) (Int32.toNatClampNeg v1) v2))))))
set_option maxRecDepth 100000 in
set_option maxHeartbeats 4000000 in
theorem b_X12_base_38 {E : jE} (a0 : Nat → Nat) {res : Int32 × MS} (K : jC E cX12_base 5 RX12 2) (hrw : jrw E) (HR : jRI E cX12_base 5 (wM (jg E) a0 (res.2)) (res.1)) : ∀ (n : Nat) (v1 : Int32) (v3 : Int32) (v4 : Int32) (s0 : MS), f_X12_base_38 n v1 v3 v4 s0 = some res → J E 5 (wM (jg E) a0 s0) 38 [(0, .ref (a0 0)), (1, .int v1), (3, .int v3), (4, .int v4)] [] := by
  intro n
  induction n with
  | zero => intro _ _ _ _ h; cases h
  | succ n ih =>
    intro v1 v3 v4 s0 h
    rw [f_X12_base_38] at h
    refine j_iload (pc' := 40) K dX12_base_38 3 rfl rfl ?_
    refine j_bipush (pc' := 42) (v := (9 : Int32)) K dX12_base_40 (by decide) rfl ?_
    refine j_icmp_ge (pc' := 45) (tgt := 64) K dX12_base_42 (by decide) rfl (fun hc => ?_) (fun hc => ?_)
    · have h := jit hc h
      refine j_iload_n (pc' := 65) K dX12_base_64 rfl 2 rfl rfl ?_
      obtain rfl := Option.some.inj h
      exact HR _ _ dX12_base_65
    · have h := jif hc h
      refine j_aload_n (pc' := 46) K dX12_base_45 rfl 0 rfl rfl ?_
      refine j_get (pc' := 49) K dX12_base_46 inX12 0 rfl rfl 17 (by decide) u_4_52 rfl rfl rfl ?_
      refine j_bipush (pc' := 51) (v := (9 : Int32)) K dX12_base_49 (by decide) rfl ?_
      refine j_iload_n (pc' := 52) K dX12_base_51 rfl 1 rfl rfl ?_
      refine j_imul (pc' := 53) K dX12_base_52 rfl ?_
      refine j_iload (pc' := 55) K dX12_base_53 3 rfl rfl ?_
      refine j_iadd (pc' := 56) K dX12_base_55 rfl ?_
      refine j_lconst (pc' := 57) (v := (0 : Int64)) K dX12_base_56 (by decide) rfl ?_
      obtain ⟨hg, h⟩ := jgd_some h
      refine j_last (pc' := 58) (ws' := (wM (jg E) a0 (M_factor_s s0 (vp_updL (M_factor s0) (Int32.toNatClampNeg (((9 : Int32) * v1) + v4)) (0 : Int64))))) K dX12_base_57 hrw 13 rfl hg (st_M_13 ..) rfl ?_
      refine j_iinc (pc' := 61) (j := 3) (v := (v4 + (1 : Int32))) (lv' := [(4, .int (v4 + (1 : Int32))), (0, .ref (a0 0)), (1, .int v1), (3, .int v3)]) K dX12_base_58 rfl rfl (by decide) rfl rfl ?_
      refine j_goto (tgt := 38) K dX12_base_61 (by decide) ?_
      refine j_sub [1, 2, 3, 0] rfl ?_
      exact ih v1 v3 (v4 + (1 : Int32)) (M_factor_s s0 (vp_updL (M_factor s0) (Int32.toNatClampNeg (((9 : Int32) * v1) + v4)) (0 : Int64))) h
set_option maxRecDepth 100000 in
set_option maxHeartbeats 4000000 in
theorem b_X12_base {E : jE} (a0 : Nat → Nat) {res : Int32 × MS} (K : jC E cX12_base 5 RX12 2) (hrw : jrw E) (HR : jRI E cX12_base 5 (wM (jg E) a0 (res.2)) (res.1)) : ∀ (v1 : Int32) (v2 : Int32) (s0 : MS), f_X12_base v1 v2 s0 = some res → J E 5 (wM (jg E) a0 s0) 0 [(0, .ref (a0 0)), (1, .int v1), (2, .int v2)] [] := by
  intro v1 v2 s0 h
  unfold f_X12_base at h
  refine j_iload_n (pc' := 1) K dX12_base_0 rfl 1 rfl rfl ?_
  obtain ⟨r1, hr1, h⟩ := jbd_some h
  refine j_ro (pc' := 4) K (fun H hP => jrun_S K dX12_base_1 (M_X12_isPolynomial (jl E) (jg E) v1 hr1) u_5_42 u_5_40 u_5_41 u_1_13 ⟨ok_X12_isPolynomial, by decide, by decide⟩ rfl (Nat.le_of_ble_eq_true rfl) H) [] rfl rfl ?_
  refine j_if_eq (pc' := 7) (tgt := 19) K dX12_base_4 (by decide) rfl (fun hc => ?_) (fun hc => ?_)
  · have h := jit hc h
    refine j_iconst (pc' := 20) (v := (-1 : Int32)) K dX12_base_19 (by decide) rfl ?_
    obtain rfl := Option.some.inj h
    exact HR _ _ dX12_base_20
  · have h := jif hc h
    refine j_iload_n (pc' := 8) K dX12_base_7 rfl 2 rfl rfl ?_
    refine j_i2l (pc' := 9) K dX12_base_8 rfl ?_
    refine j_lconst (pc' := 10) (v := (0 : Int64)) K dX12_base_9 (by decide) rfl ?_
    refine j_ldc2 (pc' := 13) K dX12_base_10 u_4_141 rfl ?_
    obtain ⟨r13, hr13, h⟩ := jbd_some h
    refine j_ro (pc' := 16) K (fun H hP => jrun_S K dX12_base_13 (M_X12_in (jl E) (jg E) (Int32.toInt64 v2) (0 : Int64) (3 : Int64) hr13) u_4_107 u_4_105 u_4_106 u_1_13 ⟨ok_X12_in, by decide, by decide⟩ rfl (Nat.le_of_ble_eq_true rfl) H) [] rfl rfl ?_
    refine j_if_ne (pc' := 19) (tgt := 21) K dX12_base_16 (by decide) rfl (fun hc => ?_) (fun hc => ?_)
    · have h := jif hc h
      refine j_aload_n (pc' := 22) K dX12_base_21 rfl 0 rfl rfl ?_
      refine j_get (pc' := 25) K dX12_base_22 inX12 0 rfl rfl 16 (by decide) u_4_51 rfl rfl rfl ?_
      refine j_iload_n (pc' := 26) K dX12_base_25 rfl 1 rfl rfl ?_
      obtain ⟨hg, h⟩ := jgd_some h
      refine j_iald (pc' := 27) K dX12_base_26 12 rfl hg rfl ?_
      refine j_istore_n (pc' := 28) (lv' := [(3, .int ((M_base s0) (Int32.toNatClampNeg v1))), (0, .ref (a0 0)), (1, .int v1), (2, .int v2)]) K dX12_base_27 rfl (by decide) rfl rfl ?_
      refine j_aload_n (pc' := 29) K dX12_base_28 rfl 1 rfl rfl ?_
      refine j_get (pc' := 32) K dX12_base_29 inX12 0 rfl rfl 16 (by decide) u_4_51 rfl rfl rfl ?_
      refine j_iload_n (pc' := 33) K dX12_base_32 rfl 2 rfl rfl ?_
      refine j_iload_n (pc' := 34) K dX12_base_33 rfl 3 rfl rfl ?_
      obtain ⟨hg, h⟩ := jgd_some h
      refine j_iast (pc' := 35) (ws' := (wM (jg E) a0 (M_base_s s0 (upd (M_base s0) (Int32.toNatClampNeg v1) v2)))) K dX12_base_34 hrw 12 rfl hg (st_M_12 ..) rfl ?_
      refine j_iconst (pc' := 36) (v := (0 : Int32)) K dX12_base_35 (by decide) rfl ?_
      refine j_istore (pc' := 38) (lv' := [(4, .int (0 : Int32)), (3, .int ((M_base s0) (Int32.toNatClampNeg v1))), (0, .ref (a0 0)), (1, .int v1), (2, .int v2)]) K dX12_base_36 (by decide) rfl rfl ?_
      refine j_sub [2, 3, 1, 0] rfl ?_
      exact b_X12_base_38 a0 K hrw HR jFU v1 ((M_base s0) (Int32.toNatClampNeg v1)) (0 : Int32) (M_base_s s0 (upd (M_base s0) (Int32.toNatClampNeg v1) v2)) h
    · have h := jit hc h
      refine j_iconst (pc' := 20) (v := (-1 : Int32)) K dX12_base_19 (by decide) rfl ?_
      obtain rfl := Option.some.inj h
      exact HR _ _ dX12_base_20
set_option maxRecDepth 100000 in
set_option maxHeartbeats 4000000 in
theorem M_X12_base (l : Launch) (G : jG) (a0 : Nat → Nat) (v1 : Int32) (v2 : Int32) (s0 : MS) {r : Int32 × MS} (h : f_X12_base v1 v2 s0 = some r) : MC l yX12_base cX12_base 5 (some .int) 2 G (jad (wM G a0 s0)) True (wM G a0 s0) (wM G a0 (r.2)) [.ref (a0 0), .int v1, .int v2] (some (.int (r.1))) := by
  refine mc_int (by decide +kernel) (Nat.le_of_ble_eq_true rfl) fun E hl hg hA hrw K HR => ?_
  subst hl
  subst hg
  have hrw : jrw E := by rw [hrw]; trivial
  exact b_X12_base a0 K hrw HR v1 v2 s0 h
theorem ok_X12_set : yX12_set.cls ≠ "java/lang/invoke/MethodHandle" ∧ yX12_set.cls ≠ "java/lang/invoke/VarHandle" ∧ (parseMethodDescriptor yX12_set.desc).map (fun d => d.parameters.length) = some 3 := ⟨by decide, by decide, by decide +kernel⟩
def f_X12_set (v1 : Int32) (v2 : Int32) (v3 : Int64) (s0 : MS) : Option (Int64 × MS) :=
   jbd (f_X12_isPolynomial v1) (fun r1 =>
   if r1 = 0 then
    some ((-1000000000000000001 : Int64), s0)
   else
    jbd (f_X12_in (Int32.toInt64 v2) (0 : Int64) (8 : Int64)) (fun r13 =>
     if r13 = 0 then
      some ((-1000000000000000001 : Int64), s0)
     else
      jbd (f_X12_in v3 (-1000000 : Int64) (1000000 : Int64)) (fun r26 =>
       if r26 = 0 then
        some ((-1000000000000000001 : Int64), s0)
       else
        jgd (((9 : Int32) * v1) + v2) 36 (
         jgd (((9 : Int32) * v1) + v2) 36 (
          some (((M_factor s0) (Int32.toNatClampNeg (((9 : Int32) * v1) + v2))), (M_factor_s s0 (vp_updL (M_factor s0) (Int32.toNatClampNeg (((9 : Int32) * v1) + v2)) v3))))))))
set_option maxRecDepth 100000 in
set_option maxHeartbeats 4000000 in
theorem b_X12_set {E : jE} (a0 : Nat → Nat) {res : Int64 × MS} (K : jC E cX12_set 7 RX12 2) (hrw : jrw E) (HR : jRL E cX12_set 7 (wM (jg E) a0 (res.2)) (res.1)) : ∀ (v1 : Int32) (v2 : Int32) (v3 : Int64) (s0 : MS), f_X12_set v1 v2 v3 s0 = some res → J E 7 (wM (jg E) a0 s0) 0 [(0, .ref (a0 0)), (1, .int v1), (2, .int v2), (3, .long v3)] [] := by
  intro v1 v2 v3 s0 h
  unfold f_X12_set at h
  refine j_iload_n (pc' := 1) K dX12_set_0 rfl 1 rfl rfl ?_
  obtain ⟨r1, hr1, h⟩ := jbd_some h
  refine j_ro (pc' := 4) K (fun H hP => jrun_S K dX12_set_1 (M_X12_isPolynomial (jl E) (jg E) v1 hr1) u_5_42 u_5_40 u_5_41 u_1_13 ⟨ok_X12_isPolynomial, by decide, by decide⟩ rfl (Nat.le_of_ble_eq_true rfl) H) [] rfl rfl ?_
  refine j_if_eq (pc' := 7) (tgt := 32) K dX12_set_4 (by decide) rfl (fun hc => ?_) (fun hc => ?_)
  · have h := jit hc h
    refine j_ldc2 (pc' := 35) K dX12_set_32 u_4_147 rfl ?_
    obtain rfl := Option.some.inj h
    exact HR _ _ dX12_set_35
  · have h := jif hc h
    refine j_iload_n (pc' := 8) K dX12_set_7 rfl 2 rfl rfl ?_
    refine j_i2l (pc' := 9) K dX12_set_8 rfl ?_
    refine j_lconst (pc' := 10) (v := (0 : Int64)) K dX12_set_9 (by decide) rfl ?_
    refine j_ldc2 (pc' := 13) K dX12_set_10 u_4_104 rfl ?_
    obtain ⟨r13, hr13, h⟩ := jbd_some h
    refine j_ro (pc' := 16) K (fun H hP => jrun_S K dX12_set_13 (M_X12_in (jl E) (jg E) (Int32.toInt64 v2) (0 : Int64) (8 : Int64) hr13) u_4_107 u_4_105 u_4_106 u_1_13 ⟨ok_X12_in, by decide, by decide⟩ rfl (Nat.le_of_ble_eq_true rfl) H) [] rfl rfl ?_
    refine j_if_eq (pc' := 19) (tgt := 32) K dX12_set_16 (by decide) rfl (fun hc => ?_) (fun hc => ?_)
    · have h := jit hc h
      refine j_ldc2 (pc' := 35) K dX12_set_32 u_4_147 rfl ?_
      obtain rfl := Option.some.inj h
      exact HR _ _ dX12_set_35
    · have h := jif hc h
      refine j_lload_n (pc' := 20) K dX12_set_19 rfl 3 rfl rfl ?_
      refine j_ldc2 (pc' := 23) K dX12_set_20 u_5_47 rfl ?_
      refine j_ldc2 (pc' := 26) K dX12_set_23 u_5_48 rfl ?_
      obtain ⟨r26, hr26, h⟩ := jbd_some h
      refine j_ro (pc' := 29) K (fun H hP => jrun_S K dX12_set_26 (M_X12_in (jl E) (jg E) v3 (-1000000 : Int64) (1000000 : Int64) hr26) u_4_107 u_4_105 u_4_106 u_1_13 ⟨ok_X12_in, by decide, by decide⟩ rfl (Nat.le_of_ble_eq_true rfl) H) [] rfl rfl ?_
      refine j_if_ne (pc' := 32) (tgt := 36) K dX12_set_29 (by decide) rfl (fun hc => ?_) (fun hc => ?_)
      · have h := jif hc h
        refine j_aload_n (pc' := 37) K dX12_set_36 rfl 0 rfl rfl ?_
        refine j_get (pc' := 40) K dX12_set_37 inX12 0 rfl rfl 17 (by decide) u_4_52 rfl rfl rfl ?_
        refine j_bipush (pc' := 42) (v := (9 : Int32)) K dX12_set_40 (by decide) rfl ?_
        refine j_iload_n (pc' := 43) K dX12_set_42 rfl 1 rfl rfl ?_
        refine j_imul (pc' := 44) K dX12_set_43 rfl ?_
        refine j_iload_n (pc' := 45) K dX12_set_44 rfl 2 rfl rfl ?_
        refine j_iadd (pc' := 46) K dX12_set_45 rfl ?_
        obtain ⟨hg, h⟩ := jgd_some h
        refine j_lald (pc' := 47) K dX12_set_46 13 rfl hg rfl ?_
        refine j_lstore (pc' := 49) (lv' := [(5, .long ((M_factor s0) (Int32.toNatClampNeg (((9 : Int32) * v1) + v2)))), (0, .ref (a0 0)), (1, .int v1), (2, .int v2), (3, .long v3)]) K dX12_set_47 (by decide) rfl rfl ?_
        refine j_aload_n (pc' := 50) K dX12_set_49 rfl 1 rfl rfl ?_
        refine j_get (pc' := 53) K dX12_set_50 inX12 0 rfl rfl 17 (by decide) u_4_52 rfl rfl rfl ?_
        refine j_bipush (pc' := 55) (v := (9 : Int32)) K dX12_set_53 (by decide) rfl ?_
        refine j_iload_n (pc' := 56) K dX12_set_55 rfl 2 rfl rfl ?_
        refine j_imul (pc' := 57) K dX12_set_56 rfl ?_
        refine j_iload_n (pc' := 58) K dX12_set_57 rfl 3 rfl rfl ?_
        refine j_iadd (pc' := 59) K dX12_set_58 rfl ?_
        refine j_lload_n (pc' := 60) K dX12_set_59 rfl 4 rfl rfl ?_
        obtain ⟨hg, h⟩ := jgd_some h
        refine j_last (pc' := 61) (ws' := (wM (jg E) a0 (M_factor_s s0 (vp_updL (M_factor s0) (Int32.toNatClampNeg (((9 : Int32) * v1) + v2)) v3)))) K dX12_set_60 hrw 13 rfl hg (st_M_13 ..) rfl ?_
        refine j_lload (pc' := 63) K dX12_set_61 0 rfl rfl ?_
        obtain rfl := Option.some.inj h
        exact HR _ _ dX12_set_63
      · have h := jit hc h
        refine j_ldc2 (pc' := 35) K dX12_set_32 u_4_147 rfl ?_
        obtain rfl := Option.some.inj h
        exact HR _ _ dX12_set_35
set_option maxRecDepth 100000 in
set_option maxHeartbeats 4000000 in
theorem M_X12_set (l : Launch) (G : jG) (a0 : Nat → Nat) (v1 : Int32) (v2 : Int32) (v3 : Int64) (s0 : MS) {r : Int64 × MS} (h : f_X12_set v1 v2 v3 s0 = some r) : MC l yX12_set cX12_set 7 (some .long) 2 G (jad (wM G a0 s0)) True (wM G a0 s0) (wM G a0 (r.2)) [.ref (a0 0), .int v1, .int v2, .long v3] (some (.long (r.1))) := by
  refine mc_long (by decide +kernel) (Nat.le_of_ble_eq_true rfl) fun E hl hg hA hrw K HR => ?_
  subst hl
  subst hg
  have hrw : jrw E := by rw [hrw]; trivial
  exact b_X12_set a0 K hrw HR v1 v2 v3 s0 h
theorem ok_X12_coefficient : yX12_coefficient.cls ≠ "java/lang/invoke/MethodHandle" ∧ yX12_coefficient.cls ≠ "java/lang/invoke/VarHandle" ∧ (parseMethodDescriptor yX12_coefficient.desc).map (fun d => d.parameters.length) = some 2 := ⟨by decide, by decide, by decide +kernel⟩
def f_X12_coefficient (v1 : Int32) (v2 : Int32) (s0 : MS) : Option (Int64) :=
   jbd (f_X12_isPolynomial v1) (fun r1 =>
   if r1 = 0 then
    some (-1000000000000000001 : Int64)
   else
    jbd (f_X12_in (Int32.toInt64 v2) (0 : Int64) (8 : Int64)) (fun r13 =>
     if r13 = 0 then
      some (-1000000000000000001 : Int64)
     else
      jgd (((9 : Int32) * v1) + v2) 36 (
       some ((M_factor s0) (Int32.toNatClampNeg (((9 : Int32) * v1) + v2))))))
set_option maxRecDepth 100000 in
set_option maxHeartbeats 4000000 in
theorem b_X12_coefficient {E : jE} (a0 : Nat → Nat) (s0 : MS) {res : Int64} (K : jC E cX12_coefficient 3 RX12 2) (HR : jRL E cX12_coefficient 3 (wM (jg E) a0 s0) res) : ∀ (v1 : Int32) (v2 : Int32), f_X12_coefficient v1 v2 s0 = some res → J E 3 (wM (jg E) a0 s0) 0 [(0, .ref (a0 0)), (1, .int v1), (2, .int v2)] [] := by
  intro v1 v2 h
  unfold f_X12_coefficient at h
  refine j_iload_n (pc' := 1) K dX12_coefficient_0 rfl 1 rfl rfl ?_
  obtain ⟨r1, hr1, h⟩ := jbd_some h
  refine j_ro (pc' := 4) K (fun H hP => jrun_S K dX12_coefficient_1 (M_X12_isPolynomial (jl E) (jg E) v1 hr1) u_5_42 u_5_40 u_5_41 u_1_13 ⟨ok_X12_isPolynomial, by decide, by decide⟩ rfl (Nat.le_of_ble_eq_true rfl) H) [] rfl rfl ?_
  refine j_if_eq (pc' := 7) (tgt := 33) K dX12_coefficient_4 (by decide) rfl (fun hc => ?_) (fun hc => ?_)
  · have h := jit hc h
    refine j_ldc2 (pc' := 36) K dX12_coefficient_33 u_4_147 rfl ?_
    obtain rfl := Option.some.inj h
    exact HR _ _ dX12_coefficient_36
  · have h := jif hc h
    refine j_iload_n (pc' := 8) K dX12_coefficient_7 rfl 2 rfl rfl ?_
    refine j_i2l (pc' := 9) K dX12_coefficient_8 rfl ?_
    refine j_lconst (pc' := 10) (v := (0 : Int64)) K dX12_coefficient_9 (by decide) rfl ?_
    refine j_ldc2 (pc' := 13) K dX12_coefficient_10 u_4_104 rfl ?_
    obtain ⟨r13, hr13, h⟩ := jbd_some h
    refine j_ro (pc' := 16) K (fun H hP => jrun_S K dX12_coefficient_13 (M_X12_in (jl E) (jg E) (Int32.toInt64 v2) (0 : Int64) (8 : Int64) hr13) u_4_107 u_4_105 u_4_106 u_1_13 ⟨ok_X12_in, by decide, by decide⟩ rfl (Nat.le_of_ble_eq_true rfl) H) [] rfl rfl ?_
    refine j_if_eq (pc' := 19) (tgt := 33) K dX12_coefficient_16 (by decide) rfl (fun hc => ?_) (fun hc => ?_)
    · have h := jit hc h
      refine j_ldc2 (pc' := 36) K dX12_coefficient_33 u_4_147 rfl ?_
      obtain rfl := Option.some.inj h
      exact HR _ _ dX12_coefficient_36
    · have h := jif hc h
      refine j_aload_n (pc' := 20) K dX12_coefficient_19 rfl 0 rfl rfl ?_
      refine j_get (pc' := 23) K dX12_coefficient_20 inX12 0 rfl rfl 17 (by decide) u_4_52 rfl rfl rfl ?_
      refine j_bipush (pc' := 25) (v := (9 : Int32)) K dX12_coefficient_23 (by decide) rfl ?_
      refine j_iload_n (pc' := 26) K dX12_coefficient_25 rfl 1 rfl rfl ?_
      refine j_imul (pc' := 27) K dX12_coefficient_26 rfl ?_
      refine j_iload_n (pc' := 28) K dX12_coefficient_27 rfl 2 rfl rfl ?_
      refine j_iadd (pc' := 29) K dX12_coefficient_28 rfl ?_
      obtain ⟨hg, h⟩ := jgd_some h
      refine j_lald (pc' := 30) K dX12_coefficient_29 13 rfl hg rfl ?_
      refine j_goto (tgt := 36) K dX12_coefficient_30 (by decide) ?_
      obtain rfl := Option.some.inj h
      exact HR _ _ dX12_coefficient_36
set_option maxRecDepth 100000 in
set_option maxHeartbeats 4000000 in
theorem M_X12_coefficient (l : Launch) (G : jG) (a0 : Nat → Nat) (v1 : Int32) (v2 : Int32) (s0 : MS) {r : Int64} (h : f_X12_coefficient v1 v2 s0 = some r) : MC l yX12_coefficient cX12_coefficient 3 (some .long) 2 G jNo False (wM G a0 s0) (wM G a0 s0) [.ref (a0 0), .int v1, .int v2] (some (.long r)) := by
  refine mc_long (by decide +kernel) (Nat.le_of_ble_eq_true rfl) fun E hl hg hA hrw K HR => ?_
  subst hl
  subst hg
  exact b_X12_coefficient a0 s0 K HR v1 v2 h
theorem ok_X12_degree : yX12_degree.cls ≠ "java/lang/invoke/MethodHandle" ∧ yX12_degree.cls ≠ "java/lang/invoke/VarHandle" ∧ (parseMethodDescriptor yX12_degree.desc).map (fun d => d.parameters.length) = some 1 := ⟨by decide, by decide, by decide +kernel⟩
def f_X12_degree_32 (k5 : Int32 → Int32 → Int32 → MS → Option (Int32)) (v1 : Int32) (v3 : Int32) (t0 : Int32) (s0 : MS) : Option (Int32) :=
   k5 v1 t0 (v3 + (1 : Int32)) s0
def f_X12_degree_5 : Nat → Int32 → Int32 → Int32 → MS → Option (Int32)
  | 0, _, _, _, _ => none
  | n + 1, v1, v2, v3, s0 =>
   if (9 : Int32) ≤ v3 then
   some v2
  else
   jgd (((9 : Int32) * v1) + v3) 36 (
    if (lg_cmp ((M_factor s0) (Int32.toNatClampNeg (((9 : Int32) * v1) + v3))) (0 : Int64)) = 0 then
     f_X12_degree_32 (f_X12_degree_5 n) v1 v3 v2 s0
    else
     f_X12_degree_32 (f_X12_degree_5 n) v1 v3 v3 s0)
def f_X12_degree (v1 : Int32) (s0 : MS) : Option (Int32) :=
   f_X12_degree_5 jFU v1 (-4 : Int32) (0 : Int32) s0
set_option maxRecDepth 100000 in
set_option maxHeartbeats 4000000 in
theorem b_X12_degree_32 {E : jE} (a0 : Nat → Nat) (s0 : MS) {res : Int32} (K : jC E cX12_degree 4 RX12 0) (HR : jRI E cX12_degree 4 (wM (jg E) a0 s0) res) (k5 : Int32 → Int32 → Int32 → MS → Option (Int32)) (hk5 : ∀ (v1 : Int32) (v2 : Int32) (v3 : Int32), k5 v1 v2 v3 s0 = some res → J E 4 (wM (jg E) a0 s0) 5 [(0, .ref (a0 0)), (1, .int v1), (2, .int v2), (3, .int v3)] []) : ∀ (v1 : Int32) (v3 : Int32) (t0 : Int32), f_X12_degree_32 k5 v1 v3 t0 s0 = some res → J E 4 (wM (jg E) a0 s0) 32 [(0, .ref (a0 0)), (1, .int v1), (3, .int v3)] [.int t0] := by
  intro v1 v3 t0 h
  unfold f_X12_degree_32 at h
  refine j_istore_n (pc' := 33) (lv' := [(2, .int t0), (0, .ref (a0 0)), (1, .int v1), (3, .int v3)]) K dX12_degree_32 rfl (by decide) rfl rfl ?_
  refine j_iinc (pc' := 36) (j := 3) (v := (v3 + (1 : Int32))) (lv' := [(3, .int (v3 + (1 : Int32))), (2, .int t0), (0, .ref (a0 0)), (1, .int v1)]) K dX12_degree_33 rfl rfl (by decide) rfl rfl ?_
  refine j_goto (tgt := 5) K dX12_degree_36 (by decide) ?_
  refine j_sub [2, 3, 1, 0] rfl ?_
  exact hk5 v1 t0 (v3 + (1 : Int32)) h
set_option maxRecDepth 100000 in
set_option maxHeartbeats 4000000 in
theorem b_X12_degree_5 {E : jE} (a0 : Nat → Nat) (s0 : MS) {res : Int32} (K : jC E cX12_degree 4 RX12 0) (HR : jRI E cX12_degree 4 (wM (jg E) a0 s0) res) : ∀ (n : Nat) (v1 : Int32) (v2 : Int32) (v3 : Int32), f_X12_degree_5 n v1 v2 v3 s0 = some res → J E 4 (wM (jg E) a0 s0) 5 [(0, .ref (a0 0)), (1, .int v1), (2, .int v2), (3, .int v3)] [] := by
  intro n
  induction n with
  | zero => intro _ _ _ h; cases h
  | succ n ih =>
    intro v1 v2 v3 h
    rw [f_X12_degree_5] at h
    refine j_iload_n (pc' := 6) K dX12_degree_5 rfl 3 rfl rfl ?_
    refine j_bipush (pc' := 8) (v := (9 : Int32)) K dX12_degree_6 (by decide) rfl ?_
    refine j_icmp_ge (pc' := 11) (tgt := 39) K dX12_degree_8 (by decide) rfl (fun hc => ?_) (fun hc => ?_)
    · have h := jit hc h
      refine j_iload_n (pc' := 40) K dX12_degree_39 rfl 2 rfl rfl ?_
      obtain rfl := Option.some.inj h
      exact HR _ _ dX12_degree_40
    · have h := jif hc h
      refine j_aload_n (pc' := 12) K dX12_degree_11 rfl 0 rfl rfl ?_
      refine j_get (pc' := 15) K dX12_degree_12 inX12 0 rfl rfl 17 (by decide) u_4_52 rfl rfl rfl ?_
      refine j_bipush (pc' := 17) (v := (9 : Int32)) K dX12_degree_15 (by decide) rfl ?_
      refine j_iload_n (pc' := 18) K dX12_degree_17 rfl 1 rfl rfl ?_
      refine j_imul (pc' := 19) K dX12_degree_18 rfl ?_
      refine j_iload_n (pc' := 20) K dX12_degree_19 rfl 3 rfl rfl ?_
      refine j_iadd (pc' := 21) K dX12_degree_20 rfl ?_
      obtain ⟨hg, h⟩ := jgd_some h
      refine j_lald (pc' := 22) K dX12_degree_21 13 rfl hg rfl ?_
      refine j_lconst (pc' := 23) (v := (0 : Int64)) K dX12_degree_22 (by decide) rfl ?_
      refine j_lcmp (pc' := 24) K dX12_degree_23 rfl ?_
      refine j_if_eq (pc' := 27) (tgt := 31) K dX12_degree_24 (by decide) rfl (fun hc => ?_) (fun hc => ?_)
      · have h := jit hc h
        refine j_iload_n (pc' := 32) K dX12_degree_31 rfl 2 rfl rfl ?_
        refine j_sub [0, 1, 3] rfl ?_
        exact b_X12_degree_32 a0 s0 K HR (f_X12_degree_5 n) (ih) v1 v3 v2 h
      · have h := jif hc h
        refine j_iload_n (pc' := 28) K dX12_degree_27 rfl 3 rfl rfl ?_
        refine j_goto (tgt := 32) K dX12_degree_28 (by decide) ?_
        refine j_sub [0, 1, 3] rfl ?_
        exact b_X12_degree_32 a0 s0 K HR (f_X12_degree_5 n) (ih) v1 v3 v3 h
set_option maxRecDepth 100000 in
set_option maxHeartbeats 4000000 in
theorem b_X12_degree {E : jE} (a0 : Nat → Nat) (s0 : MS) {res : Int32} (K : jC E cX12_degree 4 RX12 0) (HR : jRI E cX12_degree 4 (wM (jg E) a0 s0) res) : ∀ (v1 : Int32), f_X12_degree v1 s0 = some res → J E 4 (wM (jg E) a0 s0) 0 [(0, .ref (a0 0)), (1, .int v1)] [] := by
  intro v1 h
  unfold f_X12_degree at h
  refine j_bipush (pc' := 2) (v := (-4 : Int32)) K dX12_degree_0 (by decide) rfl ?_
  refine j_istore_n (pc' := 3) (lv' := [(2, .int (-4 : Int32)), (0, .ref (a0 0)), (1, .int v1)]) K dX12_degree_2 rfl (by decide) rfl rfl ?_
  refine j_iconst (pc' := 4) (v := (0 : Int32)) K dX12_degree_3 (by decide) rfl ?_
  refine j_istore_n (pc' := 5) (lv' := [(3, .int (0 : Int32)), (2, .int (-4 : Int32)), (0, .ref (a0 0)), (1, .int v1)]) K dX12_degree_4 rfl (by decide) rfl rfl ?_
  refine j_sub [2, 3, 1, 0] rfl ?_
  exact b_X12_degree_5 a0 s0 K HR jFU v1 (-4 : Int32) (0 : Int32) h
set_option maxRecDepth 100000 in
set_option maxHeartbeats 4000000 in
theorem M_X12_degree (l : Launch) (G : jG) (a0 : Nat → Nat) (v1 : Int32) (s0 : MS) {r : Int32} (h : f_X12_degree v1 s0 = some r) : MC l yX12_degree cX12_degree 4 (some .int) 0 G jNo False (wM G a0 s0) (wM G a0 s0) [.ref (a0 0), .int v1] (some (.int r)) := by
  refine mc_int (by decide +kernel) (Nat.le_of_ble_eq_true rfl) fun E hl hg hA hrw K HR => ?_
  subst hl
  subst hg
  exact b_X12_degree a0 s0 K HR v1 h
theorem ok_X12_told : yX12_told.cls ≠ "java/lang/invoke/MethodHandle" ∧ yX12_told.cls ≠ "java/lang/invoke/VarHandle" ∧ (parseMethodDescriptor yX12_told.desc).map (fun d => d.parameters.length) = some 2 := ⟨by decide, by decide, by decide +kernel⟩
def f_X12_told (v1 : Int32) (v2 : Int32) (s0 : MS) : Option (Int32) :=
   jbd (f_X12_isPolynomial v1) (fun r1 =>
   if r1 = 0 then
    some (-1 : Int32)
   else
    jbd (f_X12_in (Int32.toInt64 v2) (0 : Int64) (1 : Int64)) (fun r11 =>
     if r11 = 0 then
      some (-1 : Int32)
     else
      if v2 = 0 then
       jgd v1 4 (
        some ((M_base s0) (Int32.toNatClampNeg v1)))
      else
       jbd (f_X12_degree v1 s0) (fun r34 =>
        some r34)))
set_option maxRecDepth 100000 in
set_option maxHeartbeats 4000000 in
theorem b_X12_told {E : jE} (a0 : Nat → Nat) (s0 : MS) {res : Int32} (K : jC E cX12_told 3 RX12 2) (HR : jRI E cX12_told 3 (wM (jg E) a0 s0) res) : ∀ (v1 : Int32) (v2 : Int32), f_X12_told v1 v2 s0 = some res → J E 3 (wM (jg E) a0 s0) 0 [(0, .ref (a0 0)), (1, .int v1), (2, .int v2)] [] := by
  intro v1 v2 h
  unfold f_X12_told at h
  refine j_iload_n (pc' := 1) K dX12_told_0 rfl 1 rfl rfl ?_
  obtain ⟨r1, hr1, h⟩ := jbd_some h
  refine j_ro (pc' := 4) K (fun H hP => jrun_S K dX12_told_1 (M_X12_isPolynomial (jl E) (jg E) v1 hr1) u_5_42 u_5_40 u_5_41 u_1_13 ⟨ok_X12_isPolynomial, by decide, by decide⟩ rfl (Nat.le_of_ble_eq_true rfl) H) [] rfl rfl ?_
  refine j_if_eq (pc' := 7) (tgt := 17) K dX12_told_4 (by decide) rfl (fun hc => ?_) (fun hc => ?_)
  · have h := jit hc h
    refine j_iconst (pc' := 18) (v := (-1 : Int32)) K dX12_told_17 (by decide) rfl ?_
    obtain rfl := Option.some.inj h
    exact HR _ _ dX12_told_18
  · have h := jif hc h
    refine j_iload_n (pc' := 8) K dX12_told_7 rfl 2 rfl rfl ?_
    refine j_i2l (pc' := 9) K dX12_told_8 rfl ?_
    refine j_lconst (pc' := 10) (v := (0 : Int64)) K dX12_told_9 (by decide) rfl ?_
    refine j_lconst (pc' := 11) (v := (1 : Int64)) K dX12_told_10 (by decide) rfl ?_
    obtain ⟨r11, hr11, h⟩ := jbd_some h
    refine j_ro (pc' := 14) K (fun H hP => jrun_S K dX12_told_11 (M_X12_in (jl E) (jg E) (Int32.toInt64 v2) (0 : Int64) (1 : Int64) hr11) u_4_107 u_4_105 u_4_106 u_1_13 ⟨ok_X12_in, by decide, by decide⟩ rfl (Nat.le_of_ble_eq_true rfl) H) [] rfl rfl ?_
    refine j_if_ne (pc' := 17) (tgt := 19) K dX12_told_14 (by decide) rfl (fun hc => ?_) (fun hc => ?_)
    · have h := jif hc h
      refine j_iload_n (pc' := 20) K dX12_told_19 rfl 2 rfl rfl ?_
      refine j_if_ne (pc' := 23) (tgt := 32) K dX12_told_20 (by decide) rfl (fun hc => ?_) (fun hc => ?_)
      · have h := jif hc h
        refine j_aload_n (pc' := 33) K dX12_told_32 rfl 0 rfl rfl ?_
        refine j_iload_n (pc' := 34) K dX12_told_33 rfl 1 rfl rfl ?_
        obtain ⟨r34, hr34, h⟩ := jbd_some h
        refine j_ro (pc' := 37) K (fun H hP => jrun_V K dX12_told_34 (M_X12_degree (jl E) (jg E) a0 v1 s0 hr34) u_5_60 u_5_57 u_5_59 u_p_37 u_1_13 ⟨ok_X12_degree, by decide, by decide⟩ rfl (Nat.le_of_ble_eq_true rfl) 0 rfl rfl H hP) [0, 1, 2, 3, 4, 5, 6, 7, 8, 9, 10, 11, 12, 13, 14, 15, 16] (cl_55_f ..) rfl ?_
        obtain rfl := Option.some.inj h
        exact HR _ _ dX12_told_37
      · have h := jit hc h
        refine j_aload_n (pc' := 24) K dX12_told_23 rfl 0 rfl rfl ?_
        refine j_get (pc' := 27) K dX12_told_24 inX12 0 rfl rfl 16 (by decide) u_4_51 rfl rfl rfl ?_
        refine j_iload_n (pc' := 28) K dX12_told_27 rfl 1 rfl rfl ?_
        obtain ⟨hg, h⟩ := jgd_some h
        refine j_iald (pc' := 29) K dX12_told_28 12 rfl hg rfl ?_
        refine j_goto (tgt := 37) K dX12_told_29 (by decide) ?_
        obtain rfl := Option.some.inj h
        exact HR _ _ dX12_told_37
    · have h := jit hc h
      refine j_iconst (pc' := 18) (v := (-1 : Int32)) K dX12_told_17 (by decide) rfl ?_
      obtain rfl := Option.some.inj h
      exact HR _ _ dX12_told_18
set_option maxRecDepth 100000 in
set_option maxHeartbeats 4000000 in
theorem M_X12_told (l : Launch) (G : jG) (a0 : Nat → Nat) (v1 : Int32) (v2 : Int32) (s0 : MS) {r : Int32} (h : f_X12_told v1 v2 s0 = some r) : MC l yX12_told cX12_told 3 (some .int) 2 G jNo False (wM G a0 s0) (wM G a0 s0) [.ref (a0 0), .int v1, .int v2] (some (.int r)) := by
  refine mc_int (by decide +kernel) (Nat.le_of_ble_eq_true rfl) fun E hl hg hA hrw K HR => ?_
  subst hl
  subst hg
  exact b_X12_told a0 s0 K HR v1 v2 h
theorem ok_X12_timesInFalling : yX12_timesInFalling.cls ≠ "java/lang/invoke/MethodHandle" ∧ yX12_timesInFalling.cls ≠ "java/lang/invoke/VarHandle" ∧ (parseMethodDescriptor yX12_timesInFalling.desc).map (fun d => d.parameters.length) = some 1 := ⟨by decide, by decide, by decide +kernel⟩
def f_X12_timesInFalling_39 (k3 : Int64 → Int32 → MS → Option (MS)) (v1 : Int64) (v3 : Int32) (t1 : Int32) (t2 : Int64) (t3 : Int64) (s0 : MS) : Option (MS) :=
   jgd t1 9 (
   k3 v1 (v3 + (-1 : Int32)) (M_made_s s0 (vp_updL (M_made s0) (Int32.toNatClampNeg t1) (t2 + t3))))
def f_X12_timesInFalling_3 : Nat → Int64 → Int32 → MS → Option (MS)
  | 0, _, _, _ => none
  | n + 1, v1, v3, s0 =>
   if v3 < 0 then
   some s0
  else
   jgd v3 9 (
    if v3 ≤ 0 then
     f_X12_timesInFalling_39 (f_X12_timesInFalling_3 n) v1 v3 v3 (((M_made s0) (Int32.toNatClampNeg v3)) * ((Int32.toInt64 v3) - v1)) (0 : Int64) s0
    else
     jgd (v3 - (1 : Int32)) 9 (
      f_X12_timesInFalling_39 (f_X12_timesInFalling_3 n) v1 v3 v3 (((M_made s0) (Int32.toNatClampNeg v3)) * ((Int32.toInt64 v3) - v1)) ((M_made s0) (Int32.toNatClampNeg (v3 - (1 : Int32)))) s0))
def f_X12_timesInFalling (v1 : Int64) (s0 : MS) : Option (MS) :=
   f_X12_timesInFalling_3 jFU v1 (8 : Int32) s0
set_option maxRecDepth 100000 in
set_option maxHeartbeats 4000000 in
theorem b_X12_timesInFalling_39 {E : jE} (a0 : Nat → Nat) {res : MS} (K : jC E cX12_timesInFalling 4 RX12 0) (hrw : jrw E) (HR : jRV E cX12_timesInFalling 4 (wM (jg E) a0 res)) (k3 : Int64 → Int32 → MS → Option (MS)) (hk3 : ∀ (v1 : Int64) (v3 : Int32) (s0 : MS), k3 v1 v3 s0 = some res → J E 4 (wM (jg E) a0 s0) 3 [(0, .ref (a0 0)), (1, .long v1), (3, .int v3)] []) : ∀ (v1 : Int64) (v3 : Int32) (t1 : Int32) (t2 : Int64) (t3 : Int64) (s0 : MS), f_X12_timesInFalling_39 k3 v1 v3 t1 t2 t3 s0 = some res → J E 4 (wM (jg E) a0 s0) 39 [(0, .ref (a0 0)), (1, .long v1), (3, .int v3)] [.long t3, .long t2, .int t1, .ref (a0 15)] := by
  intro v1 v3 t1 t2 t3 s0 h
  unfold f_X12_timesInFalling_39 at h
  refine j_ladd (pc' := 40) K dX12_timesInFalling_39 rfl ?_
  obtain ⟨hg, h⟩ := jgd_some h
  refine j_last (pc' := 41) (ws' := (wM (jg E) a0 (M_made_s s0 (vp_updL (M_made s0) (Int32.toNatClampNeg t1) (t2 + t3))))) K dX12_timesInFalling_40 hrw 15 rfl hg (st_M_15 ..) rfl ?_
  refine j_iinc (pc' := 44) (j := 2) (v := (v3 + (-1 : Int32))) (lv' := [(3, .int (v3 + (-1 : Int32))), (0, .ref (a0 0)), (1, .long v1)]) K dX12_timesInFalling_41 rfl rfl (by decide) rfl rfl ?_
  refine j_goto (tgt := 3) K dX12_timesInFalling_44 (by decide) ?_
  refine j_sub [1, 2, 0] rfl ?_
  exact hk3 v1 (v3 + (-1 : Int32)) (M_made_s s0 (vp_updL (M_made s0) (Int32.toNatClampNeg t1) (t2 + t3))) h
set_option maxRecDepth 100000 in
set_option maxHeartbeats 4000000 in
theorem b_X12_timesInFalling_3 {E : jE} (a0 : Nat → Nat) {res : MS} (K : jC E cX12_timesInFalling 4 RX12 0) (hrw : jrw E) (HR : jRV E cX12_timesInFalling 4 (wM (jg E) a0 res)) : ∀ (n : Nat) (v1 : Int64) (v3 : Int32) (s0 : MS), f_X12_timesInFalling_3 n v1 v3 s0 = some res → J E 4 (wM (jg E) a0 s0) 3 [(0, .ref (a0 0)), (1, .long v1), (3, .int v3)] [] := by
  intro n
  induction n with
  | zero => intro _ _ _ h; cases h
  | succ n ih =>
    intro v1 v3 s0 h
    rw [f_X12_timesInFalling_3] at h
    refine j_iload_n (pc' := 4) K dX12_timesInFalling_3 rfl 2 rfl rfl ?_
    refine j_if_lt (pc' := 7) (tgt := 47) K dX12_timesInFalling_4 (by decide) rfl (fun hc => ?_) (fun hc => ?_)
    · have h := jit hc h
      obtain rfl := Option.some.inj h
      exact HR _ _ dX12_timesInFalling_47
    · have h := jif hc h
      refine j_aload_n (pc' := 8) K dX12_timesInFalling_7 rfl 0 rfl rfl ?_
      refine j_get (pc' := 11) K dX12_timesInFalling_8 inX12 0 rfl rfl 19 (by decide) u_4_54 rfl rfl rfl ?_
      refine j_iload_n (pc' := 12) K dX12_timesInFalling_11 rfl 2 rfl rfl ?_
      refine j_aload_n (pc' := 13) K dX12_timesInFalling_12 rfl 0 rfl rfl ?_
      refine j_get (pc' := 16) K dX12_timesInFalling_13 inX12 0 rfl rfl 19 (by decide) u_4_54 rfl rfl rfl ?_
      refine j_iload_n (pc' := 17) K dX12_timesInFalling_16 rfl 2 rfl rfl ?_
      obtain ⟨hg, h⟩ := jgd_some h
      refine j_lald (pc' := 18) K dX12_timesInFalling_17 15 rfl hg rfl ?_
      refine j_iload_n (pc' := 19) K dX12_timesInFalling_18 rfl 2 rfl rfl ?_
      refine j_i2l (pc' := 20) K dX12_timesInFalling_19 rfl ?_
      refine j_lload_n (pc' := 21) K dX12_timesInFalling_20 rfl 1 rfl rfl ?_
      refine j_lsub (pc' := 22) K dX12_timesInFalling_21 rfl ?_
      refine j_lmul (pc' := 23) K dX12_timesInFalling_22 rfl ?_
      refine j_iload_n (pc' := 24) K dX12_timesInFalling_23 rfl 2 rfl rfl ?_
      refine j_if_le (pc' := 27) (tgt := 38) K dX12_timesInFalling_24 (by decide) rfl (fun hc => ?_) (fun hc => ?_)
      · have h := jit hc h
        refine j_lconst (pc' := 39) (v := (0 : Int64)) K dX12_timesInFalling_38 (by decide) rfl ?_
        refine j_sub [0, 1, 2] rfl ?_
        exact b_X12_timesInFalling_39 a0 K hrw HR (f_X12_timesInFalling_3 n) (ih) v1 v3 v3 (((M_made s0) (Int32.toNatClampNeg v3)) * ((Int32.toInt64 v3) - v1)) (0 : Int64) s0 h
      · have h := jif hc h
        refine j_aload_n (pc' := 28) K dX12_timesInFalling_27 rfl 0 rfl rfl ?_
        refine j_get (pc' := 31) K dX12_timesInFalling_28 inX12 0 rfl rfl 19 (by decide) u_4_54 rfl rfl rfl ?_
        refine j_iload_n (pc' := 32) K dX12_timesInFalling_31 rfl 2 rfl rfl ?_
        refine j_iconst (pc' := 33) (v := (1 : Int32)) K dX12_timesInFalling_32 (by decide) rfl ?_
        refine j_isub (pc' := 34) K dX12_timesInFalling_33 rfl ?_
        obtain ⟨hg, h⟩ := jgd_some h
        refine j_lald (pc' := 35) K dX12_timesInFalling_34 15 rfl hg rfl ?_
        refine j_goto (tgt := 39) K dX12_timesInFalling_35 (by decide) ?_
        refine j_sub [0, 1, 2] rfl ?_
        exact b_X12_timesInFalling_39 a0 K hrw HR (f_X12_timesInFalling_3 n) (ih) v1 v3 v3 (((M_made s0) (Int32.toNatClampNeg v3)) * ((Int32.toInt64 v3) - v1)) ((M_made s0) (Int32.toNatClampNeg (v3 - (1 : Int32)))) s0 h
set_option maxRecDepth 100000 in
set_option maxHeartbeats 4000000 in
theorem b_X12_timesInFalling {E : jE} (a0 : Nat → Nat) {res : MS} (K : jC E cX12_timesInFalling 4 RX12 0) (hrw : jrw E) (HR : jRV E cX12_timesInFalling 4 (wM (jg E) a0 res)) : ∀ (v1 : Int64) (s0 : MS), f_X12_timesInFalling v1 s0 = some res → J E 4 (wM (jg E) a0 s0) 0 [(0, .ref (a0 0)), (1, .long v1)] [] := by
  intro v1 s0 h
  unfold f_X12_timesInFalling at h
  refine j_bipush (pc' := 2) (v := (8 : Int32)) K dX12_timesInFalling_0 (by decide) rfl ?_
  refine j_istore_n (pc' := 3) (lv' := [(3, .int (8 : Int32)), (0, .ref (a0 0)), (1, .long v1)]) K dX12_timesInFalling_2 rfl (by decide) rfl rfl ?_
  refine j_sub [1, 2, 0] rfl ?_
  exact b_X12_timesInFalling_3 a0 K hrw HR jFU v1 (8 : Int32) s0 h
set_option maxRecDepth 100000 in
set_option maxHeartbeats 4000000 in
theorem M_X12_timesInFalling (l : Launch) (G : jG) (a0 : Nat → Nat) (v1 : Int64) (s0 : MS) {r : MS} (h : f_X12_timesInFalling v1 s0 = some r) : MC l yX12_timesInFalling cX12_timesInFalling 4 none 0 G (jad (wM G a0 s0)) True (wM G a0 s0) (wM G a0 r) [.ref (a0 0), .long v1] none := by
  refine mc_void (by decide +kernel) (Nat.le_of_ble_eq_true rfl) fun E hl hg hA hrw K HR => ?_
  subst hl
  subst hg
  have hrw : jrw E := by rw [hrw]; trivial
  exact b_X12_timesInFalling a0 K hrw HR v1 s0 h
theorem ok_X12_timesIn : yX12_timesIn.cls ≠ "java/lang/invoke/MethodHandle" ∧ yX12_timesIn.cls ≠ "java/lang/invoke/VarHandle" ∧ (parseMethodDescriptor yX12_timesIn.desc).map (fun d => d.parameters.length) = some 2 := ⟨by decide, by decide, by decide +kernel⟩
def f_X12_timesIn_60 (k4 : Int32 → Int64 → Int32 → MS → Option (MS)) (v1 : Int32) (v2 : Int64) (v4 : Int32) (t1 : Int32) (t2 : Int64) (t3 : Int64) (s0 : MS) : Option (MS) :=
   jgd t1 9 (
   k4 v1 v2 (v4 + (-1 : Int32)) (M_made_s s0 (vp_updL (M_made s0) (Int32.toNatClampNeg t1) (t2 + t3))))
def f_X12_timesIn_24 (k4 : Int32 → Int64 → Int32 → MS → Option (MS)) (v1 : Int32) (v2 : Int64) (v4 : Int32) (t0 : Int64) (s0 : MS) : Option (MS) :=
   jgd v4 9 (
   if v4 ≤ 0 then
    f_X12_timesIn_60 k4 v1 v2 v4 v4 (((M_made s0) (Int32.toNatClampNeg v4)) * t0) (0 : Int64) s0
   else
    jgd (v4 - (1 : Int32)) 9 (
     f_X12_timesIn_60 k4 v1 v2 v4 v4 (((M_made s0) (Int32.toNatClampNeg v4)) * t0) ((M_made s0) (Int32.toNatClampNeg (v4 - (1 : Int32)))) s0))
def f_X12_timesIn_4 : Nat → Int32 → Int64 → Int32 → MS → Option (MS)
  | 0, _, _, _, _ => none
  | n + 1, v1, v2, v4, s0 =>
   if v4 < 0 then
   some s0
  else
   if v1 = 0 then
    f_X12_timesIn_24 (f_X12_timesIn_4 n) v1 v2 v4 (-v2) s0
   else
    f_X12_timesIn_24 (f_X12_timesIn_4 n) v1 v2 v4 ((Int32.toInt64 (-v4)) - v2) s0
def f_X12_timesIn (v1 : Int32) (v2 : Int64) (s0 : MS) : Option (MS) :=
   f_X12_timesIn_4 jFU v1 v2 (8 : Int32) s0
set_option maxRecDepth 100000 in
set_option maxHeartbeats 4000000 in
theorem b_X12_timesIn_60 {E : jE} (a0 : Nat → Nat) {res : MS} (K : jC E cX12_timesIn 7 RX12 0) (hrw : jrw E) (HR : jRV E cX12_timesIn 7 (wM (jg E) a0 res)) (k4 : Int32 → Int64 → Int32 → MS → Option (MS)) (hk4 : ∀ (v1 : Int32) (v2 : Int64) (v4 : Int32) (s0 : MS), k4 v1 v2 v4 s0 = some res → J E 7 (wM (jg E) a0 s0) 4 [(0, .ref (a0 0)), (1, .int v1), (2, .long v2), (4, .int v4)] []) : ∀ (v1 : Int32) (v2 : Int64) (v4 : Int32) (t1 : Int32) (t2 : Int64) (t3 : Int64) (s0 : MS), f_X12_timesIn_60 k4 v1 v2 v4 t1 t2 t3 s0 = some res → J E 7 (wM (jg E) a0 s0) 60 [(0, .ref (a0 0)), (1, .int v1), (2, .long v2), (4, .int v4)] [.long t3, .long t2, .int t1, .ref (a0 15)] := by
  intro v1 v2 v4 t1 t2 t3 s0 h
  unfold f_X12_timesIn_60 at h
  refine j_ladd (pc' := 61) K dX12_timesIn_60 rfl ?_
  obtain ⟨hg, h⟩ := jgd_some h
  refine j_last (pc' := 62) (ws' := (wM (jg E) a0 (M_made_s s0 (vp_updL (M_made s0) (Int32.toNatClampNeg t1) (t2 + t3))))) K dX12_timesIn_61 hrw 15 rfl hg (st_M_15 ..) rfl ?_
  refine j_iinc (pc' := 65) (j := 3) (v := (v4 + (-1 : Int32))) (lv' := [(4, .int (v4 + (-1 : Int32))), (0, .ref (a0 0)), (1, .int v1), (2, .long v2)]) K dX12_timesIn_62 rfl rfl (by decide) rfl rfl ?_
  refine j_goto (tgt := 4) K dX12_timesIn_65 (by decide) ?_
  refine j_sub [1, 2, 3, 0] rfl ?_
  exact hk4 v1 v2 (v4 + (-1 : Int32)) (M_made_s s0 (vp_updL (M_made s0) (Int32.toNatClampNeg t1) (t2 + t3))) h
set_option maxRecDepth 100000 in
set_option maxHeartbeats 4000000 in
theorem b_X12_timesIn_24 {E : jE} (a0 : Nat → Nat) {res : MS} (K : jC E cX12_timesIn 7 RX12 0) (hrw : jrw E) (HR : jRV E cX12_timesIn 7 (wM (jg E) a0 res)) (k4 : Int32 → Int64 → Int32 → MS → Option (MS)) (hk4 : ∀ (v1 : Int32) (v2 : Int64) (v4 : Int32) (s0 : MS), k4 v1 v2 v4 s0 = some res → J E 7 (wM (jg E) a0 s0) 4 [(0, .ref (a0 0)), (1, .int v1), (2, .long v2), (4, .int v4)] []) : ∀ (v1 : Int32) (v2 : Int64) (v4 : Int32) (t0 : Int64) (s0 : MS), f_X12_timesIn_24 k4 v1 v2 v4 t0 s0 = some res → J E 7 (wM (jg E) a0 s0) 24 [(0, .ref (a0 0)), (1, .int v1), (2, .long v2), (4, .int v4)] [.long t0] := by
  intro v1 v2 v4 t0 s0 h
  unfold f_X12_timesIn_24 at h
  refine j_lstore (pc' := 26) (lv' := [(5, .long t0), (0, .ref (a0 0)), (1, .int v1), (2, .long v2), (4, .int v4)]) K dX12_timesIn_24 (by decide) rfl rfl ?_
  refine j_aload_n (pc' := 27) K dX12_timesIn_26 rfl 1 rfl rfl ?_
  refine j_get (pc' := 30) K dX12_timesIn_27 inX12 0 rfl rfl 19 (by decide) u_4_54 rfl rfl rfl ?_
  refine j_iload (pc' := 32) K dX12_timesIn_30 4 rfl rfl ?_
  refine j_aload_n (pc' := 33) K dX12_timesIn_32 rfl 1 rfl rfl ?_
  refine j_get (pc' := 36) K dX12_timesIn_33 inX12 0 rfl rfl 19 (by decide) u_4_54 rfl rfl rfl ?_
  refine j_iload (pc' := 38) K dX12_timesIn_36 4 rfl rfl ?_
  obtain ⟨hg, h⟩ := jgd_some h
  refine j_lald (pc' := 39) K dX12_timesIn_38 15 rfl hg rfl ?_
  refine j_lload (pc' := 41) K dX12_timesIn_39 0 rfl rfl ?_
  refine j_lmul (pc' := 42) K dX12_timesIn_41 rfl ?_
  refine j_iload (pc' := 44) K dX12_timesIn_42 4 rfl rfl ?_
  refine j_if_le (pc' := 47) (tgt := 59) K dX12_timesIn_44 (by decide) rfl (fun hc => ?_) (fun hc => ?_)
  · have h := jit hc h
    refine j_lconst (pc' := 60) (v := (0 : Int64)) K dX12_timesIn_59 (by decide) rfl ?_
    refine j_sub [1, 2, 3, 4] rfl ?_
    exact b_X12_timesIn_60 a0 K hrw HR k4 hk4 v1 v2 v4 v4 (((M_made s0) (Int32.toNatClampNeg v4)) * t0) (0 : Int64) s0 h
  · have h := jif hc h
    refine j_aload_n (pc' := 48) K dX12_timesIn_47 rfl 1 rfl rfl ?_
    refine j_get (pc' := 51) K dX12_timesIn_48 inX12 0 rfl rfl 19 (by decide) u_4_54 rfl rfl rfl ?_
    refine j_iload (pc' := 53) K dX12_timesIn_51 4 rfl rfl ?_
    refine j_iconst (pc' := 54) (v := (1 : Int32)) K dX12_timesIn_53 (by decide) rfl ?_
    refine j_isub (pc' := 55) K dX12_timesIn_54 rfl ?_
    obtain ⟨hg, h⟩ := jgd_some h
    refine j_lald (pc' := 56) K dX12_timesIn_55 15 rfl hg rfl ?_
    refine j_goto (tgt := 60) K dX12_timesIn_56 (by decide) ?_
    refine j_sub [1, 2, 3, 4] rfl ?_
    exact b_X12_timesIn_60 a0 K hrw HR k4 hk4 v1 v2 v4 v4 (((M_made s0) (Int32.toNatClampNeg v4)) * t0) ((M_made s0) (Int32.toNatClampNeg (v4 - (1 : Int32)))) s0 h
set_option maxRecDepth 100000 in
set_option maxHeartbeats 4000000 in
theorem b_X12_timesIn_4 {E : jE} (a0 : Nat → Nat) {res : MS} (K : jC E cX12_timesIn 7 RX12 0) (hrw : jrw E) (HR : jRV E cX12_timesIn 7 (wM (jg E) a0 res)) : ∀ (n : Nat) (v1 : Int32) (v2 : Int64) (v4 : Int32) (s0 : MS), f_X12_timesIn_4 n v1 v2 v4 s0 = some res → J E 7 (wM (jg E) a0 s0) 4 [(0, .ref (a0 0)), (1, .int v1), (2, .long v2), (4, .int v4)] [] := by
  intro n
  induction n with
  | zero => intro _ _ _ _ h; cases h
  | succ n ih =>
    intro v1 v2 v4 s0 h
    rw [f_X12_timesIn_4] at h
    refine j_iload (pc' := 6) K dX12_timesIn_4 3 rfl rfl ?_
    refine j_if_lt (pc' := 9) (tgt := 68) K dX12_timesIn_6 (by decide) rfl (fun hc => ?_) (fun hc => ?_)
    · have h := jit hc h
      obtain rfl := Option.some.inj h
      exact HR _ _ dX12_timesIn_68
    · have h := jif hc h
      refine j_iload_n (pc' := 10) K dX12_timesIn_9 rfl 1 rfl rfl ?_
      refine j_if_ne (pc' := 13) (tgt := 18) K dX12_timesIn_10 (by decide) rfl (fun hc => ?_) (fun hc => ?_)
      · have h := jif hc h
        refine j_iload (pc' := 20) K dX12_timesIn_18 3 rfl rfl ?_
        refine j_ineg (pc' := 21) K dX12_timesIn_20 rfl ?_
        refine j_i2l (pc' := 22) K dX12_timesIn_21 rfl ?_
        refine j_lload_n (pc' := 23) K dX12_timesIn_22 rfl 2 rfl rfl ?_
        refine j_lsub (pc' := 24) K dX12_timesIn_23 rfl ?_
        refine j_sub [0, 1, 2, 3] rfl ?_
        exact b_X12_timesIn_24 a0 K hrw HR (f_X12_timesIn_4 n) (ih) v1 v2 v4 ((Int32.toInt64 (-v4)) - v2) s0 h
      · have h := jit hc h
        refine j_lload_n (pc' := 14) K dX12_timesIn_13 rfl 2 rfl rfl ?_
        refine j_lneg (pc' := 15) K dX12_timesIn_14 rfl ?_
        refine j_goto (tgt := 24) K dX12_timesIn_15 (by decide) ?_
        refine j_sub [0, 1, 2, 3] rfl ?_
        exact b_X12_timesIn_24 a0 K hrw HR (f_X12_timesIn_4 n) (ih) v1 v2 v4 (-v2) s0 h
set_option maxRecDepth 100000 in
set_option maxHeartbeats 4000000 in
theorem b_X12_timesIn {E : jE} (a0 : Nat → Nat) {res : MS} (K : jC E cX12_timesIn 7 RX12 0) (hrw : jrw E) (HR : jRV E cX12_timesIn 7 (wM (jg E) a0 res)) : ∀ (v1 : Int32) (v2 : Int64) (s0 : MS), f_X12_timesIn v1 v2 s0 = some res → J E 7 (wM (jg E) a0 s0) 0 [(0, .ref (a0 0)), (1, .int v1), (2, .long v2)] [] := by
  intro v1 v2 s0 h
  unfold f_X12_timesIn at h
  refine j_bipush (pc' := 2) (v := (8 : Int32)) K dX12_timesIn_0 (by decide) rfl ?_
  refine j_istore (pc' := 4) (lv' := [(4, .int (8 : Int32)), (0, .ref (a0 0)), (1, .int v1), (2, .long v2)]) K dX12_timesIn_2 (by decide) rfl rfl ?_
  refine j_sub [1, 2, 3, 0] rfl ?_
  exact b_X12_timesIn_4 a0 K hrw HR jFU v1 v2 (8 : Int32) s0 h
set_option maxRecDepth 100000 in
set_option maxHeartbeats 4000000 in
theorem M_X12_timesIn (l : Launch) (G : jG) (a0 : Nat → Nat) (v1 : Int32) (v2 : Int64) (s0 : MS) {r : MS} (h : f_X12_timesIn v1 v2 s0 = some r) : MC l yX12_timesIn cX12_timesIn 7 none 0 G (jad (wM G a0 s0)) True (wM G a0 s0) (wM G a0 r) [.ref (a0 0), .int v1, .long v2] none := by
  refine mc_void (by decide +kernel) (Nat.le_of_ble_eq_true rfl) fun E hl hg hA hrw K HR => ?_
  subst hl
  subst hg
  have hrw : jrw E := by rw [hrw]; trivial
  exact b_X12_timesIn a0 K hrw HR v1 v2 s0 h
theorem ok_X12_clearMade : yX12_clearMade.cls ≠ "java/lang/invoke/MethodHandle" ∧ yX12_clearMade.cls ≠ "java/lang/invoke/VarHandle" ∧ (parseMethodDescriptor yX12_clearMade.desc).map (fun d => d.parameters.length) = some 0 := ⟨by decide, by decide, by decide +kernel⟩
def f_X12_clearMade_2 : Nat → Int32 → MS → Option (MS)
  | 0, _, _ => none
  | n + 1, v1, s0 =>
   if (9 : Int32) ≤ v1 then
   some s0
  else
   jgd v1 9 (
    (f_X12_clearMade_2 n) (v1 + (1 : Int32)) (M_made_s s0 (vp_updL (M_made s0) (Int32.toNatClampNeg v1) (0 : Int64))))
def f_X12_clearMade (s0 : MS) : Option (MS) :=
   f_X12_clearMade_2 jFU (0 : Int32) s0
set_option maxRecDepth 100000 in
set_option maxHeartbeats 4000000 in
theorem b_X12_clearMade_2 {E : jE} (a0 : Nat → Nat) {res : MS} (K : jC E cX12_clearMade 2 RX12 0) (hrw : jrw E) (HR : jRV E cX12_clearMade 2 (wM (jg E) a0 res)) : ∀ (n : Nat) (v1 : Int32) (s0 : MS), f_X12_clearMade_2 n v1 s0 = some res → J E 2 (wM (jg E) a0 s0) 2 [(0, .ref (a0 0)), (1, .int v1)] [] := by
  intro n
  induction n with
  | zero => intro _ _ h; cases h
  | succ n ih =>
    intro v1 s0 h
    rw [f_X12_clearMade_2] at h
    refine j_iload_n (pc' := 3) K dX12_clearMade_2 rfl 1 rfl rfl ?_
    refine j_bipush (pc' := 5) (v := (9 : Int32)) K dX12_clearMade_3 (by decide) rfl ?_
    refine j_icmp_ge (pc' := 8) (tgt := 21) K dX12_clearMade_5 (by decide) rfl (fun hc => ?_) (fun hc => ?_)
    · have h := jit hc h
      obtain rfl := Option.some.inj h
      exact HR _ _ dX12_clearMade_21
    · have h := jif hc h
      refine j_aload_n (pc' := 9) K dX12_clearMade_8 rfl 0 rfl rfl ?_
      refine j_get (pc' := 12) K dX12_clearMade_9 inX12 0 rfl rfl 19 (by decide) u_4_54 rfl rfl rfl ?_
      refine j_iload_n (pc' := 13) K dX12_clearMade_12 rfl 1 rfl rfl ?_
      refine j_lconst (pc' := 14) (v := (0 : Int64)) K dX12_clearMade_13 (by decide) rfl ?_
      obtain ⟨hg, h⟩ := jgd_some h
      refine j_last (pc' := 15) (ws' := (wM (jg E) a0 (M_made_s s0 (vp_updL (M_made s0) (Int32.toNatClampNeg v1) (0 : Int64))))) K dX12_clearMade_14 hrw 15 rfl hg (st_M_15 ..) rfl ?_
      refine j_iinc (pc' := 18) (j := 1) (v := (v1 + (1 : Int32))) (lv' := [(1, .int (v1 + (1 : Int32))), (0, .ref (a0 0))]) K dX12_clearMade_15 rfl rfl (by decide) rfl rfl ?_
      refine j_goto (tgt := 2) K dX12_clearMade_18 (by decide) ?_
      refine j_sub [1, 0] rfl ?_
      exact ih (v1 + (1 : Int32)) (M_made_s s0 (vp_updL (M_made s0) (Int32.toNatClampNeg v1) (0 : Int64))) h
set_option maxRecDepth 100000 in
set_option maxHeartbeats 4000000 in
theorem b_X12_clearMade {E : jE} (a0 : Nat → Nat) {res : MS} (K : jC E cX12_clearMade 2 RX12 0) (hrw : jrw E) (HR : jRV E cX12_clearMade 2 (wM (jg E) a0 res)) : ∀ (s0 : MS), f_X12_clearMade s0 = some res → J E 2 (wM (jg E) a0 s0) 0 [(0, .ref (a0 0))] [] := by
  intro s0 h
  unfold f_X12_clearMade at h
  refine j_iconst (pc' := 1) (v := (0 : Int32)) K dX12_clearMade_0 (by decide) rfl ?_
  refine j_istore_n (pc' := 2) (lv' := [(1, .int (0 : Int32)), (0, .ref (a0 0))]) K dX12_clearMade_1 rfl (by decide) rfl rfl ?_
  refine j_sub [1, 0] rfl ?_
  exact b_X12_clearMade_2 a0 K hrw HR jFU (0 : Int32) s0 h
set_option maxRecDepth 100000 in
set_option maxHeartbeats 4000000 in
theorem M_X12_clearMade (l : Launch) (G : jG) (a0 : Nat → Nat) (s0 : MS) {r : MS} (h : f_X12_clearMade s0 = some r) : MC l yX12_clearMade cX12_clearMade 2 none 0 G (jad (wM G a0 s0)) True (wM G a0 s0) (wM G a0 r) [.ref (a0 0)] none := by
  refine mc_void (by decide +kernel) (Nat.le_of_ble_eq_true rfl) fun E hl hg hA hrw K HR => ?_
  subst hl
  subst hg
  have hrw : jrw E := by rw [hrw]; trivial
  exact b_X12_clearMade a0 K hrw HR s0 h
theorem ok_X12_findFalling : yX12_findFalling.cls ≠ "java/lang/invoke/MethodHandle" ∧ yX12_findFalling.cls ≠ "java/lang/invoke/VarHandle" ∧ (parseMethodDescriptor yX12_findFalling.desc).map (fun d => d.parameters.length) = some 1 := ⟨by decide, by decide, by decide +kernel⟩
def f_X12_findFalling_89 (k43 : Int32 → Int32 → MS → Option (MS)) (v1 : Int32) (v2 : Int32) (t1 : Int32) (t2 : Int64) (t3 : Int64) (s0 : MS) : Option (MS) :=
   jgd t1 9 (
   k43 v1 (v2 + (1 : Int32)) (M_falling_s s0 (vp_updL (M_falling s0) (Int32.toNatClampNeg t1) (t2 * t3))))
def f_X12_findFalling_43 : Nat → Int32 → Int32 → MS → Option (MS)
  | 0, _, _, _ => none
  | n + 1, v1, v2, s0 =>
   if (9 : Int32) ≤ v2 then
   some s0
  else
   jgd (((9 : Int32) * v1) + v2) 36 (
    jgd v1 4 (
     if ((M_base s0) (Int32.toNatClampNeg v1)) = (1 : Int32) then
      f_X12_findFalling_89 (f_X12_findFalling_43 n) v1 v2 v2 ((M_factor s0) (Int32.toNatClampNeg (((9 : Int32) * v1) + v2))) (40320 : Int64) s0
     else
      jbd (f_X12_steps v2) (fun r85 =>
       jnzl r85 (
        f_X12_findFalling_89 (f_X12_findFalling_43 n) v1 v2 v2 ((M_factor s0) (Int32.toNatClampNeg (((9 : Int32) * v1) + v2))) ((40320 : Int64) / r85) s0))))
def f_X12_findFalling_41 (v1 : Int32) (s0 : MS) : Option (MS) :=
   f_X12_findFalling_43 jFU v1 (0 : Int32) s0
def f_X12_findFalling_157 : Nat → Int32 → MS → Option (MS)
  | 0, _, _ => none
  | n + 1, v2, s0 =>
   if (9 : Int32) ≤ v2 then
   some s0
  else
   jgd v2 9 (
    jgd v2 9 (
     (f_X12_findFalling_157 n) (v2 + (1 : Int32)) (M_falling_s s0 (vp_updL (M_falling s0) (Int32.toNatClampNeg v2) (((M_made s0) (Int32.toNatClampNeg v2)) * (40320 : Int64))))))
def f_X12_findFalling_155 (s0 : MS) : Option (MS) :=
   f_X12_findFalling_157 jFU (0 : Int32) s0
def f_X12_findFalling_126 (k105 : Int32 → Int32 → MS → Option (MS)) (v1 : Int32) (v2 : Int32) (t1 : Int64) (s0 : MS) : Option (MS) :=
   jbd (f_X12_timesInFalling t1 s0) (fun r126 =>
   jgd (0 : Int32) 9 (
    jgd (((9 : Int32) * v1) + v2) 36 (
     jgd (0 : Int32) 9 (
      k105 v1 (v2 + (-1 : Int32)) (M_made_s r126 (vp_updL (M_made r126) (Int32.toNatClampNeg (0 : Int32)) (((M_made r126) (Int32.toNatClampNeg (0 : Int32))) + ((M_factor r126) (Int32.toNatClampNeg (((9 : Int32) * v1) + v2))))))))))
def f_X12_findFalling_105 : Nat → Int32 → Int32 → MS → Option (MS)
  | 0, _, _, _ => none
  | n + 1, v1, v2, s0 =>
   if v2 < 0 then
   f_X12_findFalling_155 s0
  else
   jgd v1 4 (
    if ((M_base s0) (Int32.toNatClampNeg v1)) = 0 then
     f_X12_findFalling_126 (f_X12_findFalling_105 n) v1 v2 (0 : Int64) s0
    else
     f_X12_findFalling_126 (f_X12_findFalling_105 n) v1 v2 (Int32.toInt64 (-v2)) s0)
def f_X12_findFalling_21 (v1 : Int32) (s0 : MS) : Option (MS) :=
   jgd v1 4 (
   if ((M_base s0) (Int32.toNatClampNeg v1)) = (1 : Int32) then
    f_X12_findFalling_41 v1 s0
   else
    jgd v1 4 (
     if ((M_base s0) (Int32.toNatClampNeg v1)) = (3 : Int32) then
      f_X12_findFalling_41 v1 s0
     else
      jbd (f_X12_clearMade s0) (fun r99 =>
       f_X12_findFalling_105 jFU v1 (8 : Int32) r99)))
def f_X12_findFalling_2 : Nat → Int32 → Int32 → MS → Option (MS)
  | 0, _, _, _ => none
  | n + 1, v1, v2, s0 =>
   if (9 : Int32) ≤ v2 then
   f_X12_findFalling_21 v1 s0
  else
   jgd v2 9 (
    (f_X12_findFalling_2 n) v1 (v2 + (1 : Int32)) (M_falling_s s0 (vp_updL (M_falling s0) (Int32.toNatClampNeg v2) (0 : Int64))))
def f_X12_findFalling (v1 : Int32) (s0 : MS) : Option (MS) :=
   f_X12_findFalling_2 jFU v1 (0 : Int32) s0
set_option maxRecDepth 100000 in
set_option maxHeartbeats 4000000 in
theorem b_X12_findFalling_89 {E : jE} (a0 : Nat → Nat) {res : MS} (K : jC E cX12_findFalling 3 RX12 1) (hrw : jrw E) (HR : jRV E cX12_findFalling 3 (wM (jg E) a0 res)) (k43 : Int32 → Int32 → MS → Option (MS)) (hk43 : ∀ (v1 : Int32) (v2 : Int32) (s0 : MS), k43 v1 v2 s0 = some res → J E 3 (wM (jg E) a0 s0) 43 [(0, .ref (a0 0)), (1, .int v1), (2, .int v2)] []) : ∀ (v1 : Int32) (v2 : Int32) (t1 : Int32) (t2 : Int64) (t3 : Int64) (s0 : MS), f_X12_findFalling_89 k43 v1 v2 t1 t2 t3 s0 = some res → J E 3 (wM (jg E) a0 s0) 89 [(0, .ref (a0 0)), (1, .int v1), (2, .int v2)] [.long t3, .long t2, .int t1, .ref (a0 14)] := by
  intro v1 v2 t1 t2 t3 s0 h
  unfold f_X12_findFalling_89 at h
  refine j_lmul (pc' := 90) K dX12_findFalling_89 rfl ?_
  obtain ⟨hg, h⟩ := jgd_some h
  refine j_last (pc' := 91) (ws' := (wM (jg E) a0 (M_falling_s s0 (vp_updL (M_falling s0) (Int32.toNatClampNeg t1) (t2 * t3))))) K dX12_findFalling_90 hrw 14 rfl hg (st_M_14 ..) rfl ?_
  refine j_iinc (pc' := 94) (j := 2) (v := (v2 + (1 : Int32))) (lv' := [(2, .int (v2 + (1 : Int32))), (0, .ref (a0 0)), (1, .int v1)]) K dX12_findFalling_91 rfl rfl (by decide) rfl rfl ?_
  refine j_goto (tgt := 43) K dX12_findFalling_94 (by decide) ?_
  refine j_sub [1, 2, 0] rfl ?_
  exact hk43 v1 (v2 + (1 : Int32)) (M_falling_s s0 (vp_updL (M_falling s0) (Int32.toNatClampNeg t1) (t2 * t3))) h
set_option maxRecDepth 100000 in
set_option maxHeartbeats 4000000 in
theorem b_X12_findFalling_43 {E : jE} (a0 : Nat → Nat) {res : MS} (K : jC E cX12_findFalling 3 RX12 1) (hrw : jrw E) (HR : jRV E cX12_findFalling 3 (wM (jg E) a0 res)) : ∀ (n : Nat) (v1 : Int32) (v2 : Int32) (s0 : MS), f_X12_findFalling_43 n v1 v2 s0 = some res → J E 3 (wM (jg E) a0 s0) 43 [(0, .ref (a0 0)), (1, .int v1), (2, .int v2)] [] := by
  intro n
  induction n with
  | zero => intro _ _ _ h; cases h
  | succ n ih =>
    intro v1 v2 s0 h
    rw [f_X12_findFalling_43] at h
    refine j_iload_n (pc' := 44) K dX12_findFalling_43 rfl 2 rfl rfl ?_
    refine j_bipush (pc' := 46) (v := (9 : Int32)) K dX12_findFalling_44 (by decide) rfl ?_
    refine j_icmp_ge (pc' := 49) (tgt := 97) K dX12_findFalling_46 (by decide) rfl (fun hc => ?_) (fun hc => ?_)
    · have h := jit hc h
      obtain rfl := Option.some.inj h
      exact HR _ _ dX12_findFalling_97
    · have h := jif hc h
      refine j_aload_n (pc' := 50) K dX12_findFalling_49 rfl 0 rfl rfl ?_
      refine j_get (pc' := 53) K dX12_findFalling_50 inX12 0 rfl rfl 18 (by decide) u_4_53 rfl rfl rfl ?_
      refine j_iload_n (pc' := 54) K dX12_findFalling_53 rfl 2 rfl rfl ?_
      refine j_aload_n (pc' := 55) K dX12_findFalling_54 rfl 0 rfl rfl ?_
      refine j_get (pc' := 58) K dX12_findFalling_55 inX12 0 rfl rfl 17 (by decide) u_4_52 rfl rfl rfl ?_
      refine j_bipush (pc' := 60) (v := (9 : Int32)) K dX12_findFalling_58 (by decide) rfl ?_
      refine j_iload_n (pc' := 61) K dX12_findFalling_60 rfl 1 rfl rfl ?_
      refine j_imul (pc' := 62) K dX12_findFalling_61 rfl ?_
      refine j_iload_n (pc' := 63) K dX12_findFalling_62 rfl 2 rfl rfl ?_
      refine j_iadd (pc' := 64) K dX12_findFalling_63 rfl ?_
      obtain ⟨hg, h⟩ := jgd_some h
      refine j_lald (pc' := 65) K dX12_findFalling_64 13 rfl hg rfl ?_
      refine j_aload_n (pc' := 66) K dX12_findFalling_65 rfl 0 rfl rfl ?_
      refine j_get (pc' := 69) K dX12_findFalling_66 inX12 0 rfl rfl 16 (by decide) u_4_51 rfl rfl rfl ?_
      refine j_iload_n (pc' := 70) K dX12_findFalling_69 rfl 1 rfl rfl ?_
      obtain ⟨hg, h⟩ := jgd_some h
      refine j_iald (pc' := 71) K dX12_findFalling_70 12 rfl hg rfl ?_
      refine j_iconst (pc' := 72) (v := (1 : Int32)) K dX12_findFalling_71 (by decide) rfl ?_
      refine j_icmp_ne (pc' := 75) (tgt := 81) K dX12_findFalling_72 (by decide) rfl (fun hc => ?_) (fun hc => ?_)
      · have h := jif hc h
        refine j_ldc2 (pc' := 84) K dX12_findFalling_81 u_5_73 rfl ?_
        refine j_iload_n (pc' := 85) K dX12_findFalling_84 rfl 2 rfl rfl ?_
        obtain ⟨r85, hr85, h⟩ := jbd_some h
        refine j_ro (pc' := 88) K (fun H hP => jrun_S K dX12_findFalling_85 (M_X12_steps (jl E) (jg E) v2 hr85) u_5_76 u_5_74 u_5_75 u_1_13 ⟨ok_X12_steps, by decide, by decide⟩ rfl (Nat.le_of_ble_eq_true rfl) H) [] rfl rfl ?_
        obtain ⟨hg, h⟩ := jnzl_some h
        refine j_ldiv (pc' := 89) K dX12_findFalling_88 hg rfl ?_
        refine j_sub [0, 1, 2] rfl ?_
        exact b_X12_findFalling_89 a0 K hrw HR (f_X12_findFalling_43 n) (ih) v1 v2 v2 ((M_factor s0) (Int32.toNatClampNeg (((9 : Int32) * v1) + v2))) ((40320 : Int64) / r85) s0 h
      · have h := jit hc h
        refine j_ldc2 (pc' := 78) K dX12_findFalling_75 u_5_73 rfl ?_
        refine j_goto (tgt := 89) K dX12_findFalling_78 (by decide) ?_
        refine j_sub [0, 1, 2] rfl ?_
        exact b_X12_findFalling_89 a0 K hrw HR (f_X12_findFalling_43 n) (ih) v1 v2 v2 ((M_factor s0) (Int32.toNatClampNeg (((9 : Int32) * v1) + v2))) (40320 : Int64) s0 h
set_option maxRecDepth 100000 in
set_option maxHeartbeats 4000000 in
theorem b_X12_findFalling_41 {E : jE} (a0 : Nat → Nat) {res : MS} (K : jC E cX12_findFalling 3 RX12 1) (hrw : jrw E) (HR : jRV E cX12_findFalling 3 (wM (jg E) a0 res)) : ∀ (v1 : Int32) (s0 : MS), f_X12_findFalling_41 v1 s0 = some res → J E 3 (wM (jg E) a0 s0) 41 [(0, .ref (a0 0)), (1, .int v1)] [] := by
  intro v1 s0 h
  unfold f_X12_findFalling_41 at h
  refine j_iconst (pc' := 42) (v := (0 : Int32)) K dX12_findFalling_41 (by decide) rfl ?_
  refine j_istore_n (pc' := 43) (lv' := [(2, .int (0 : Int32)), (0, .ref (a0 0)), (1, .int v1)]) K dX12_findFalling_42 rfl (by decide) rfl rfl ?_
  refine j_sub [1, 2, 0] rfl ?_
  exact b_X12_findFalling_43 a0 K hrw HR jFU v1 (0 : Int32) s0 h
set_option maxRecDepth 100000 in
set_option maxHeartbeats 4000000 in
theorem b_X12_findFalling_157 {E : jE} (a0 : Nat → Nat) {res : MS} (K : jC E cX12_findFalling 3 RX12 1) (hrw : jrw E) (HR : jRV E cX12_findFalling 3 (wM (jg E) a0 res)) : ∀ (n : Nat) (v2 : Int32) (s0 : MS), f_X12_findFalling_157 n v2 s0 = some res → J E 3 (wM (jg E) a0 s0) 157 [(0, .ref (a0 0)), (2, .int v2)] [] := by
  intro n
  induction n with
  | zero => intro _ _ h; cases h
  | succ n ih =>
    intro v2 s0 h
    rw [f_X12_findFalling_157] at h
    refine j_iload_n (pc' := 158) K dX12_findFalling_157 rfl 1 rfl rfl ?_
    refine j_bipush (pc' := 160) (v := (9 : Int32)) K dX12_findFalling_158 (by decide) rfl ?_
    refine j_icmp_ge (pc' := 163) (tgt := 185) K dX12_findFalling_160 (by decide) rfl (fun hc => ?_) (fun hc => ?_)
    · have h := jit hc h
      obtain rfl := Option.some.inj h
      exact HR _ _ dX12_findFalling_185
    · have h := jif hc h
      refine j_aload_n (pc' := 164) K dX12_findFalling_163 rfl 0 rfl rfl ?_
      refine j_get (pc' := 167) K dX12_findFalling_164 inX12 0 rfl rfl 18 (by decide) u_4_53 rfl rfl rfl ?_
      refine j_iload_n (pc' := 168) K dX12_findFalling_167 rfl 1 rfl rfl ?_
      refine j_aload_n (pc' := 169) K dX12_findFalling_168 rfl 0 rfl rfl ?_
      refine j_get (pc' := 172) K dX12_findFalling_169 inX12 0 rfl rfl 19 (by decide) u_4_54 rfl rfl rfl ?_
      refine j_iload_n (pc' := 173) K dX12_findFalling_172 rfl 1 rfl rfl ?_
      obtain ⟨hg, h⟩ := jgd_some h
      refine j_lald (pc' := 174) K dX12_findFalling_173 15 rfl hg rfl ?_
      refine j_ldc2 (pc' := 177) K dX12_findFalling_174 u_5_73 rfl ?_
      refine j_lmul (pc' := 178) K dX12_findFalling_177 rfl ?_
      obtain ⟨hg, h⟩ := jgd_some h
      refine j_last (pc' := 179) (ws' := (wM (jg E) a0 (M_falling_s s0 (vp_updL (M_falling s0) (Int32.toNatClampNeg v2) (((M_made s0) (Int32.toNatClampNeg v2)) * (40320 : Int64)))))) K dX12_findFalling_178 hrw 14 rfl hg (st_M_14 ..) rfl ?_
      refine j_iinc (pc' := 182) (j := 1) (v := (v2 + (1 : Int32))) (lv' := [(2, .int (v2 + (1 : Int32))), (0, .ref (a0 0))]) K dX12_findFalling_179 rfl rfl (by decide) rfl rfl ?_
      refine j_goto (tgt := 157) K dX12_findFalling_182 (by decide) ?_
      refine j_sub [1, 0] rfl ?_
      exact ih (v2 + (1 : Int32)) (M_falling_s s0 (vp_updL (M_falling s0) (Int32.toNatClampNeg v2) (((M_made s0) (Int32.toNatClampNeg v2)) * (40320 : Int64)))) h
set_option maxRecDepth 100000 in
set_option maxHeartbeats 4000000 in
theorem b_X12_findFalling_155 {E : jE} (a0 : Nat → Nat) {res : MS} (K : jC E cX12_findFalling 3 RX12 1) (hrw : jrw E) (HR : jRV E cX12_findFalling 3 (wM (jg E) a0 res)) : ∀ (s0 : MS), f_X12_findFalling_155 s0 = some res → J E 3 (wM (jg E) a0 s0) 155 [(0, .ref (a0 0))] [] := by
  intro s0 h
  unfold f_X12_findFalling_155 at h
  refine j_iconst (pc' := 156) (v := (0 : Int32)) K dX12_findFalling_155 (by decide) rfl ?_
  refine j_istore_n (pc' := 157) (lv' := [(2, .int (0 : Int32)), (0, .ref (a0 0))]) K dX12_findFalling_156 rfl (by decide) rfl rfl ?_
  refine j_sub [1, 0] rfl ?_
  exact b_X12_findFalling_157 a0 K hrw HR jFU (0 : Int32) s0 h
set_option maxRecDepth 100000 in
set_option maxHeartbeats 4000000 in
theorem b_X12_findFalling_126 {E : jE} (a0 : Nat → Nat) {res : MS} (K : jC E cX12_findFalling 3 RX12 1) (hrw : jrw E) (HR : jRV E cX12_findFalling 3 (wM (jg E) a0 res)) (k105 : Int32 → Int32 → MS → Option (MS)) (hk105 : ∀ (v1 : Int32) (v2 : Int32) (s0 : MS), k105 v1 v2 s0 = some res → J E 3 (wM (jg E) a0 s0) 105 [(0, .ref (a0 0)), (1, .int v1), (2, .int v2)] []) : ∀ (v1 : Int32) (v2 : Int32) (t1 : Int64) (s0 : MS), f_X12_findFalling_126 k105 v1 v2 t1 s0 = some res → J E 3 (wM (jg E) a0 s0) 126 [(0, .ref (a0 0)), (1, .int v1), (2, .int v2)] [.long t1, .ref (a0 0)] := by
  intro v1 v2 t1 s0 h
  unfold f_X12_findFalling_126 at h
  obtain ⟨r126, hr126, h⟩ := jbd_some h
  refine j_rw (pc' := 129) (ws' := (wM (jg E) a0 r126)) K (fun H hP => jrun_V K dX12_findFalling_126 (M_X12_timesInFalling (jl E) (jg E) a0 t1 s0 hr126) u_5_84 u_5_81 u_5_83 u_p_41 u_1_13 ⟨ok_X12_timesInFalling, by decide, by decide⟩ rfl (Nat.le_of_ble_eq_true rfl) 0 rfl rfl H hP) hrw [0, 1, 2, 3, 4, 5, 6, 7, 8, 9, 10, 11, 12, 13, 14, 15, 16] rfl (cl_56_s ..) rfl (cl_56_m ..) (ad_M ..) rfl ?_
  refine j_aload_n (pc' := 130) K dX12_findFalling_129 rfl 0 rfl rfl ?_
  refine j_get (pc' := 133) K dX12_findFalling_130 inX12 0 rfl rfl 19 (by decide) u_4_54 rfl rfl rfl ?_
  refine j_iconst (pc' := 134) (v := (0 : Int32)) K dX12_findFalling_133 (by decide) rfl ?_
  refine j_dup2_11 (pc' := 135) K dX12_findFalling_134 rfl rfl rfl ?_
  obtain ⟨hg, h⟩ := jgd_some h
  refine j_lald (pc' := 136) K dX12_findFalling_135 15 rfl hg rfl ?_
  refine j_aload_n (pc' := 137) K dX12_findFalling_136 rfl 0 rfl rfl ?_
  refine j_get (pc' := 140) K dX12_findFalling_137 inX12 0 rfl rfl 17 (by decide) u_4_52 rfl rfl rfl ?_
  refine j_bipush (pc' := 142) (v := (9 : Int32)) K dX12_findFalling_140 (by decide) rfl ?_
  refine j_iload_n (pc' := 143) K dX12_findFalling_142 rfl 1 rfl rfl ?_
  refine j_imul (pc' := 144) K dX12_findFalling_143 rfl ?_
  refine j_iload_n (pc' := 145) K dX12_findFalling_144 rfl 2 rfl rfl ?_
  refine j_iadd (pc' := 146) K dX12_findFalling_145 rfl ?_
  obtain ⟨hg, h⟩ := jgd_some h
  refine j_lald (pc' := 147) K dX12_findFalling_146 13 rfl hg rfl ?_
  refine j_ladd (pc' := 148) K dX12_findFalling_147 rfl ?_
  obtain ⟨hg, h⟩ := jgd_some h
  refine j_last (pc' := 149) (ws' := (wM (jg E) a0 (M_made_s r126 (vp_updL (M_made r126) (Int32.toNatClampNeg (0 : Int32)) (((M_made r126) (Int32.toNatClampNeg (0 : Int32))) + ((M_factor r126) (Int32.toNatClampNeg (((9 : Int32) * v1) + v2)))))))) K dX12_findFalling_148 hrw 15 rfl hg (st_M_15 ..) rfl ?_
  refine j_iinc (pc' := 152) (j := 2) (v := (v2 + (-1 : Int32))) (lv' := [(2, .int (v2 + (-1 : Int32))), (0, .ref (a0 0)), (1, .int v1)]) K dX12_findFalling_149 rfl rfl (by decide) rfl rfl ?_
  refine j_goto (tgt := 105) K dX12_findFalling_152 (by decide) ?_
  refine j_sub [1, 2, 0] rfl ?_
  exact hk105 v1 (v2 + (-1 : Int32)) (M_made_s r126 (vp_updL (M_made r126) (Int32.toNatClampNeg (0 : Int32)) (((M_made r126) (Int32.toNatClampNeg (0 : Int32))) + ((M_factor r126) (Int32.toNatClampNeg (((9 : Int32) * v1) + v2)))))) h
set_option maxRecDepth 100000 in
set_option maxHeartbeats 4000000 in
theorem b_X12_findFalling_105 {E : jE} (a0 : Nat → Nat) {res : MS} (K : jC E cX12_findFalling 3 RX12 1) (hrw : jrw E) (HR : jRV E cX12_findFalling 3 (wM (jg E) a0 res)) : ∀ (n : Nat) (v1 : Int32) (v2 : Int32) (s0 : MS), f_X12_findFalling_105 n v1 v2 s0 = some res → J E 3 (wM (jg E) a0 s0) 105 [(0, .ref (a0 0)), (1, .int v1), (2, .int v2)] [] := by
  intro n
  induction n with
  | zero => intro _ _ _ h; cases h
  | succ n ih =>
    intro v1 v2 s0 h
    rw [f_X12_findFalling_105] at h
    refine j_iload_n (pc' := 106) K dX12_findFalling_105 rfl 2 rfl rfl ?_
    refine j_if_lt (pc' := 109) (tgt := 155) K dX12_findFalling_106 (by decide) rfl (fun hc => ?_) (fun hc => ?_)
    · have h := jit hc h
      refine j_sub [0] rfl ?_
      exact b_X12_findFalling_155 a0 K hrw HR s0 h
    · have h := jif hc h
      refine j_aload_n (pc' := 110) K dX12_findFalling_109 rfl 0 rfl rfl ?_
      refine j_aload_n (pc' := 111) K dX12_findFalling_110 rfl 0 rfl rfl ?_
      refine j_get (pc' := 114) K dX12_findFalling_111 inX12 0 rfl rfl 16 (by decide) u_4_51 rfl rfl rfl ?_
      refine j_iload_n (pc' := 115) K dX12_findFalling_114 rfl 1 rfl rfl ?_
      obtain ⟨hg, h⟩ := jgd_some h
      refine j_iald (pc' := 116) K dX12_findFalling_115 12 rfl hg rfl ?_
      refine j_if_ne (pc' := 119) (tgt := 123) K dX12_findFalling_116 (by decide) rfl (fun hc => ?_) (fun hc => ?_)
      · have h := jif hc h
        refine j_iload_n (pc' := 124) K dX12_findFalling_123 rfl 2 rfl rfl ?_
        refine j_ineg (pc' := 125) K dX12_findFalling_124 rfl ?_
        refine j_i2l (pc' := 126) K dX12_findFalling_125 rfl ?_
        refine j_sub [0, 1, 2] rfl ?_
        exact b_X12_findFalling_126 a0 K hrw HR (f_X12_findFalling_105 n) (ih) v1 v2 (Int32.toInt64 (-v2)) s0 h
      · have h := jit hc h
        refine j_lconst (pc' := 120) (v := (0 : Int64)) K dX12_findFalling_119 (by decide) rfl ?_
        refine j_goto (tgt := 126) K dX12_findFalling_120 (by decide) ?_
        refine j_sub [0, 1, 2] rfl ?_
        exact b_X12_findFalling_126 a0 K hrw HR (f_X12_findFalling_105 n) (ih) v1 v2 (0 : Int64) s0 h
set_option maxRecDepth 100000 in
set_option maxHeartbeats 4000000 in
theorem b_X12_findFalling_21 {E : jE} (a0 : Nat → Nat) {res : MS} (K : jC E cX12_findFalling 3 RX12 1) (hrw : jrw E) (HR : jRV E cX12_findFalling 3 (wM (jg E) a0 res)) : ∀ (v1 : Int32) (s0 : MS), f_X12_findFalling_21 v1 s0 = some res → J E 3 (wM (jg E) a0 s0) 21 [(0, .ref (a0 0)), (1, .int v1)] [] := by
  intro v1 s0 h
  unfold f_X12_findFalling_21 at h
  refine j_aload_n (pc' := 22) K dX12_findFalling_21 rfl 0 rfl rfl ?_
  refine j_get (pc' := 25) K dX12_findFalling_22 inX12 0 rfl rfl 16 (by decide) u_4_51 rfl rfl rfl ?_
  refine j_iload_n (pc' := 26) K dX12_findFalling_25 rfl 1 rfl rfl ?_
  obtain ⟨hg, h⟩ := jgd_some h
  refine j_iald (pc' := 27) K dX12_findFalling_26 12 rfl hg rfl ?_
  refine j_iconst (pc' := 28) (v := (1 : Int32)) K dX12_findFalling_27 (by decide) rfl ?_
  refine j_icmp_eq (pc' := 31) (tgt := 41) K dX12_findFalling_28 (by decide) rfl (fun hc => ?_) (fun hc => ?_)
  · have h := jit hc h
    refine j_sub [0, 1] rfl ?_
    exact b_X12_findFalling_41 a0 K hrw HR v1 s0 h
  · have h := jif hc h
    refine j_aload_n (pc' := 32) K dX12_findFalling_31 rfl 0 rfl rfl ?_
    refine j_get (pc' := 35) K dX12_findFalling_32 inX12 0 rfl rfl 16 (by decide) u_4_51 rfl rfl rfl ?_
    refine j_iload_n (pc' := 36) K dX12_findFalling_35 rfl 1 rfl rfl ?_
    obtain ⟨hg, h⟩ := jgd_some h
    refine j_iald (pc' := 37) K dX12_findFalling_36 12 rfl hg rfl ?_
    refine j_iconst (pc' := 38) (v := (3 : Int32)) K dX12_findFalling_37 (by decide) rfl ?_
    refine j_icmp_ne (pc' := 41) (tgt := 98) K dX12_findFalling_38 (by decide) rfl (fun hc => ?_) (fun hc => ?_)
    · have h := jif hc h
      refine j_aload_n (pc' := 99) K dX12_findFalling_98 rfl 0 rfl rfl ?_
      obtain ⟨r99, hr99, h⟩ := jbd_some h
      refine j_rw (pc' := 102) (ws' := (wM (jg E) a0 r99)) K (fun H hP => jrun_V K dX12_findFalling_99 (M_X12_clearMade (jl E) (jg E) a0 s0 hr99) u_5_80 u_5_77 u_5_79 u_p_40 u_1_13 ⟨ok_X12_clearMade, by decide, by decide⟩ rfl (Nat.le_of_ble_eq_true rfl) 0 rfl rfl H hP) hrw [0, 1, 2, 3, 4, 5, 6, 7, 8, 9, 10, 11, 12, 13, 14, 15, 16] rfl (cl_56_s ..) rfl (cl_56_m ..) (ad_M ..) rfl ?_
      refine j_bipush (pc' := 104) (v := (8 : Int32)) K dX12_findFalling_102 (by decide) rfl ?_
      refine j_istore_n (pc' := 105) (lv' := [(2, .int (8 : Int32)), (0, .ref (a0 0)), (1, .int v1)]) K dX12_findFalling_104 rfl (by decide) rfl rfl ?_
      refine j_sub [1, 2, 0] rfl ?_
      exact b_X12_findFalling_105 a0 K hrw HR jFU v1 (8 : Int32) r99 h
    · have h := jit hc h
      refine j_sub [0, 1] rfl ?_
      exact b_X12_findFalling_41 a0 K hrw HR v1 s0 h
set_option maxRecDepth 100000 in
set_option maxHeartbeats 4000000 in
theorem b_X12_findFalling_2 {E : jE} (a0 : Nat → Nat) {res : MS} (K : jC E cX12_findFalling 3 RX12 1) (hrw : jrw E) (HR : jRV E cX12_findFalling 3 (wM (jg E) a0 res)) : ∀ (n : Nat) (v1 : Int32) (v2 : Int32) (s0 : MS), f_X12_findFalling_2 n v1 v2 s0 = some res → J E 3 (wM (jg E) a0 s0) 2 [(0, .ref (a0 0)), (1, .int v1), (2, .int v2)] [] := by
  intro n
  induction n with
  | zero => intro _ _ _ h; cases h
  | succ n ih =>
    intro v1 v2 s0 h
    rw [f_X12_findFalling_2] at h
    refine j_iload_n (pc' := 3) K dX12_findFalling_2 rfl 2 rfl rfl ?_
    refine j_bipush (pc' := 5) (v := (9 : Int32)) K dX12_findFalling_3 (by decide) rfl ?_
    refine j_icmp_ge (pc' := 8) (tgt := 21) K dX12_findFalling_5 (by decide) rfl (fun hc => ?_) (fun hc => ?_)
    · have h := jit hc h
      refine j_sub [0, 1] rfl ?_
      exact b_X12_findFalling_21 a0 K hrw HR v1 s0 h
    · have h := jif hc h
      refine j_aload_n (pc' := 9) K dX12_findFalling_8 rfl 0 rfl rfl ?_
      refine j_get (pc' := 12) K dX12_findFalling_9 inX12 0 rfl rfl 18 (by decide) u_4_53 rfl rfl rfl ?_
      refine j_iload_n (pc' := 13) K dX12_findFalling_12 rfl 2 rfl rfl ?_
      refine j_lconst (pc' := 14) (v := (0 : Int64)) K dX12_findFalling_13 (by decide) rfl ?_
      obtain ⟨hg, h⟩ := jgd_some h
      refine j_last (pc' := 15) (ws' := (wM (jg E) a0 (M_falling_s s0 (vp_updL (M_falling s0) (Int32.toNatClampNeg v2) (0 : Int64))))) K dX12_findFalling_14 hrw 14 rfl hg (st_M_14 ..) rfl ?_
      refine j_iinc (pc' := 18) (j := 2) (v := (v2 + (1 : Int32))) (lv' := [(2, .int (v2 + (1 : Int32))), (0, .ref (a0 0)), (1, .int v1)]) K dX12_findFalling_15 rfl rfl (by decide) rfl rfl ?_
      refine j_goto (tgt := 2) K dX12_findFalling_18 (by decide) ?_
      refine j_sub [1, 2, 0] rfl ?_
      exact ih v1 (v2 + (1 : Int32)) (M_falling_s s0 (vp_updL (M_falling s0) (Int32.toNatClampNeg v2) (0 : Int64))) h
set_option maxRecDepth 100000 in
set_option maxHeartbeats 4000000 in
theorem b_X12_findFalling {E : jE} (a0 : Nat → Nat) {res : MS} (K : jC E cX12_findFalling 3 RX12 1) (hrw : jrw E) (HR : jRV E cX12_findFalling 3 (wM (jg E) a0 res)) : ∀ (v1 : Int32) (s0 : MS), f_X12_findFalling v1 s0 = some res → J E 3 (wM (jg E) a0 s0) 0 [(0, .ref (a0 0)), (1, .int v1)] [] := by
  intro v1 s0 h
  unfold f_X12_findFalling at h
  refine j_iconst (pc' := 1) (v := (0 : Int32)) K dX12_findFalling_0 (by decide) rfl ?_
  refine j_istore_n (pc' := 2) (lv' := [(2, .int (0 : Int32)), (0, .ref (a0 0)), (1, .int v1)]) K dX12_findFalling_1 rfl (by decide) rfl rfl ?_
  refine j_sub [1, 2, 0] rfl ?_
  exact b_X12_findFalling_2 a0 K hrw HR jFU v1 (0 : Int32) s0 h
set_option maxRecDepth 100000 in
set_option maxHeartbeats 4000000 in
theorem M_X12_findFalling (l : Launch) (G : jG) (a0 : Nat → Nat) (v1 : Int32) (s0 : MS) {r : MS} (h : f_X12_findFalling v1 s0 = some r) : MC l yX12_findFalling cX12_findFalling 3 none 1 G (jad (wM G a0 s0)) True (wM G a0 s0) (wM G a0 r) [.ref (a0 0), .int v1] none := by
  refine mc_void (by decide +kernel) (Nat.le_of_ble_eq_true rfl) fun E hl hg hA hrw K HR => ?_
  subst hl
  subst hg
  have hrw : jrw E := by rw [hrw]; trivial
  exact b_X12_findFalling a0 K hrw HR v1 s0 h
theorem ok_X12_areMade : yX12_areMade.cls ≠ "java/lang/invoke/MethodHandle" ∧ yX12_areMade.cls ≠ "java/lang/invoke/VarHandle" ∧ (parseMethodDescriptor yX12_areMade.desc).map (fun d => d.parameters.length) = some 2 := ⟨by decide, by decide, by decide +kernel⟩
def f_X12_areMade_187 (k88 : Int32 → Int32 → Int32 → MS → Option (Int32 × MS)) (v2 : Int32) (v4 : Int32) (t0 : Int32) (s0 : MS) : Option (Int32 × MS) :=
   k88 v2 t0 (v4 + (1 : Int32)) s0
def f_X12_areMade_186 (k88 : Int32 → Int32 → Int32 → MS → Option (Int32 × MS)) (v2 : Int32) (v4 : Int32) (s0 : MS) : Option (Int32 × MS) :=
   f_X12_areMade_187 k88 v2 v4 (0 : Int32) s0
def f_X12_areMade_141 (k88 : Int32 → Int32 → Int32 → MS → Option (Int32 × MS)) (v2 : Int32) (v4 : Int32) (v5 : Int64) (t0 : Int32) (s0 : MS) : Option (Int32 × MS) :=
   jgd v4 9 (
   jnzl v5 (
    jgd v4 9 (
     if t0 = 0 then
      f_X12_areMade_186 k88 v2 v4 (M_made_s s0 (vp_updL (M_made s0) (Int32.toNatClampNeg v4) (((M_made s0) (Int32.toNatClampNeg v4)) / v5)))
     else
      jgd v4 9 (
       jbd (f_X12_in ((M_made (M_made_s s0 (vp_updL (M_made s0) (Int32.toNatClampNeg v4) (((M_made s0) (Int32.toNatClampNeg v4)) / v5)))) (Int32.toNatClampNeg v4)) (-1000000 : Int64) (1000000 : Int64)) (fun r176 =>
        if r176 = 0 then
         f_X12_areMade_186 k88 v2 v4 (M_made_s s0 (vp_updL (M_made s0) (Int32.toNatClampNeg v4) (((M_made s0) (Int32.toNatClampNeg v4)) / v5)))
        else
         f_X12_areMade_187 k88 v2 v4 (1 : Int32) (M_made_s s0 (vp_updL (M_made s0) (Int32.toNatClampNeg v4) (((M_made s0) (Int32.toNatClampNeg v4)) / v5))))))))
def f_X12_areMade_140 (k88 : Int32 → Int32 → Int32 → MS → Option (Int32 × MS)) (v2 : Int32) (v4 : Int32) (v5 : Int64) (s0 : MS) : Option (Int32 × MS) :=
   f_X12_areMade_141 k88 v2 v4 v5 (0 : Int32) s0
def f_X12_areMade_115 (k88 : Int32 → Int32 → Int32 → MS → Option (Int32 × MS)) (v2 : Int32) (v3 : Int32) (v4 : Int32) (t0 : Int64) (s0 : MS) : Option (Int32 × MS) :=
   if v3 = 0 then
   f_X12_areMade_140 k88 v2 v4 t0 s0
  else
   jgd v4 9 (
    jnzl t0 (
     if (lg_cmp (((M_made s0) (Int32.toNatClampNeg v4)) - ((M_made s0) (Int32.toNatClampNeg v4)) / t0 * t0) (0 : Int64)) = 0 then
      f_X12_areMade_141 k88 v2 v4 t0 (1 : Int32) s0
     else
      f_X12_areMade_140 k88 v2 v4 t0 s0))
def f_X12_areMade_88 : Nat → Int32 → Int32 → Int32 → MS → Option (Int32 × MS)
  | 0, _, _, _, _ => none
  | n + 1, v2, v3, v4, s0 =>
   if (9 : Int32) ≤ v4 then
   jzb v3 (
    some (v3, s0))
  else
   if v2 = (3 : Int32) then
    jbd (f_X12_steps v4) (fun r105 =>
     jnzl r105 (
      f_X12_areMade_115 (f_X12_areMade_88 n) v2 v3 v4 ((40320 : Int64) / r105) s0))
   else
    f_X12_areMade_115 (f_X12_areMade_88 n) v2 v3 v4 (40320 : Int64) s0
def f_X12_areMade_83 (v2 : Int32) (s0 : MS) : Option (Int32 × MS) :=
   f_X12_areMade_88 jFU v2 (1 : Int32) (0 : Int32) s0
def f_X12_areMade_45 (v2 : Int32) (s0 : MS) : Option (Int32 × MS) :=
   f_X12_areMade_83 v2 s0
def f_X12_areMade_21 : Nat → Int32 → Int32 → MS → Option (Int32 × MS)
  | 0, _, _, _ => none
  | n + 1, v2, v3, s0 =>
   if (9 : Int32) ≤ v3 then
   f_X12_areMade_45 v2 s0
  else
   jgd v3 9 (
    jgd v3 9 (
     (f_X12_areMade_21 n) v2 (v3 + (1 : Int32)) (M_made_s s0 (vp_updL (M_made s0) (Int32.toNatClampNeg v3) ((M_falling s0) (Int32.toNatClampNeg v3))))))
def f_X12_areMade_19 (v2 : Int32) (s0 : MS) : Option (Int32 × MS) :=
   f_X12_areMade_21 jFU v2 (0 : Int32) s0
def f_X12_areMade_51 : Nat → Int32 → Int32 → MS → Option (Int32 × MS)
  | 0, _, _, _ => none
  | n + 1, v2, v3, s0 =>
   if v3 < 0 then
   f_X12_areMade_83 v2 s0
  else
   jbd (f_X12_timesIn v2 (Int32.toInt64 v3) s0) (fun r59 =>
    jgd (0 : Int32) 9 (
     jgd v3 9 (
      jgd (0 : Int32) 9 (
       (f_X12_areMade_51 n) v2 (v3 + (-1 : Int32)) (M_made_s r59 (vp_updL (M_made r59) (Int32.toNatClampNeg (0 : Int32)) (((M_made r59) (Int32.toNatClampNeg (0 : Int32))) + ((M_falling r59) (Int32.toNatClampNeg v3)))))))))
def f_X12_areMade (v1 : Int32) (v2 : Int32) (s0 : MS) : Option (Int32 × MS) :=
   jbd (f_X12_findFalling v1 s0) (fun r2 =>
   jbd (f_X12_clearMade r2) (fun r6 =>
    if v2 = (1 : Int32) then
     f_X12_areMade_19 v2 r6
    else
     if v2 = (3 : Int32) then
      f_X12_areMade_19 v2 r6
     else
      f_X12_areMade_51 jFU v2 (8 : Int32) r6))
set_option maxRecDepth 100000 in
set_option maxHeartbeats 4000000 in
theorem b_X12_areMade_187 {E : jE} (a0 : Nat → Nat) {res : Int32 × MS} (K : jC E cX12_areMade 7 RX12 2) (hrw : jrw E) (HR : jRZ E cX12_areMade 7 (wM (jg E) a0 (res.2)) (res.1)) (k88 : Int32 → Int32 → Int32 → MS → Option (Int32 × MS)) (hk88 : ∀ (v2 : Int32) (v3 : Int32) (v4 : Int32) (s0 : MS), k88 v2 v3 v4 s0 = some res → J E 7 (wM (jg E) a0 s0) 88 [(0, .ref (a0 0)), (2, .int v2), (3, .int v3), (4, .int v4)] []) : ∀ (v2 : Int32) (v4 : Int32) (t0 : Int32) (s0 : MS), f_X12_areMade_187 k88 v2 v4 t0 s0 = some res → J E 7 (wM (jg E) a0 s0) 187 [(0, .ref (a0 0)), (2, .int v2), (4, .int v4)] [.int t0] := by
  intro v2 v4 t0 s0 h
  unfold f_X12_areMade_187 at h
  refine j_istore_n (pc' := 188) (lv' := [(3, .int t0), (0, .ref (a0 0)), (2, .int v2), (4, .int v4)]) K dX12_areMade_187 rfl (by decide) rfl rfl ?_
  refine j_iinc (pc' := 191) (j := 3) (v := (v4 + (1 : Int32))) (lv' := [(4, .int (v4 + (1 : Int32))), (3, .int t0), (0, .ref (a0 0)), (2, .int v2)]) K dX12_areMade_188 rfl rfl (by decide) rfl rfl ?_
  refine j_goto (tgt := 88) K dX12_areMade_191 (by decide) ?_
  refine j_sub [2, 3, 1, 0] rfl ?_
  exact hk88 v2 t0 (v4 + (1 : Int32)) s0 h
set_option maxRecDepth 100000 in
set_option maxHeartbeats 4000000 in
theorem b_X12_areMade_186 {E : jE} (a0 : Nat → Nat) {res : Int32 × MS} (K : jC E cX12_areMade 7 RX12 2) (hrw : jrw E) (HR : jRZ E cX12_areMade 7 (wM (jg E) a0 (res.2)) (res.1)) (k88 : Int32 → Int32 → Int32 → MS → Option (Int32 × MS)) (hk88 : ∀ (v2 : Int32) (v3 : Int32) (v4 : Int32) (s0 : MS), k88 v2 v3 v4 s0 = some res → J E 7 (wM (jg E) a0 s0) 88 [(0, .ref (a0 0)), (2, .int v2), (3, .int v3), (4, .int v4)] []) : ∀ (v2 : Int32) (v4 : Int32) (s0 : MS), f_X12_areMade_186 k88 v2 v4 s0 = some res → J E 7 (wM (jg E) a0 s0) 186 [(0, .ref (a0 0)), (2, .int v2), (4, .int v4)] [] := by
  intro v2 v4 s0 h
  unfold f_X12_areMade_186 at h
  refine j_iconst (pc' := 187) (v := (0 : Int32)) K dX12_areMade_186 (by decide) rfl ?_
  refine j_sub [0, 1, 2] rfl ?_
  exact b_X12_areMade_187 a0 K hrw HR k88 hk88 v2 v4 (0 : Int32) s0 h
set_option maxRecDepth 100000 in
set_option maxHeartbeats 4000000 in
theorem b_X12_areMade_141 {E : jE} (a0 : Nat → Nat) {res : Int32 × MS} (K : jC E cX12_areMade 7 RX12 2) (hrw : jrw E) (HR : jRZ E cX12_areMade 7 (wM (jg E) a0 (res.2)) (res.1)) (k88 : Int32 → Int32 → Int32 → MS → Option (Int32 × MS)) (hk88 : ∀ (v2 : Int32) (v3 : Int32) (v4 : Int32) (s0 : MS), k88 v2 v3 v4 s0 = some res → J E 7 (wM (jg E) a0 s0) 88 [(0, .ref (a0 0)), (2, .int v2), (3, .int v3), (4, .int v4)] []) : ∀ (v2 : Int32) (v4 : Int32) (v5 : Int64) (t0 : Int32) (s0 : MS), f_X12_areMade_141 k88 v2 v4 v5 t0 s0 = some res → J E 7 (wM (jg E) a0 s0) 141 [(0, .ref (a0 0)), (2, .int v2), (4, .int v4), (5, .long v5)] [.int t0] := by
  intro v2 v4 v5 t0 s0 h
  unfold f_X12_areMade_141 at h
  refine j_istore_n (pc' := 142) (lv' := [(3, .int t0), (0, .ref (a0 0)), (2, .int v2), (4, .int v4), (5, .long v5)]) K dX12_areMade_141 rfl (by decide) rfl rfl ?_
  refine j_aload_n (pc' := 143) K dX12_areMade_142 rfl 1 rfl rfl ?_
  refine j_get (pc' := 146) K dX12_areMade_143 inX12 0 rfl rfl 19 (by decide) u_4_54 rfl rfl rfl ?_
  refine j_iload (pc' := 148) K dX12_areMade_146 3 rfl rfl ?_
  refine j_aload_n (pc' := 149) K dX12_areMade_148 rfl 1 rfl rfl ?_
  refine j_get (pc' := 152) K dX12_areMade_149 inX12 0 rfl rfl 19 (by decide) u_4_54 rfl rfl rfl ?_
  refine j_iload (pc' := 154) K dX12_areMade_152 3 rfl rfl ?_
  obtain ⟨hg, h⟩ := jgd_some h
  refine j_lald (pc' := 155) K dX12_areMade_154 15 rfl hg rfl ?_
  refine j_lload (pc' := 157) K dX12_areMade_155 4 rfl rfl ?_
  obtain ⟨hg, h⟩ := jnzl_some h
  refine j_ldiv (pc' := 158) K dX12_areMade_157 hg rfl ?_
  obtain ⟨hg, h⟩ := jgd_some h
  refine j_last (pc' := 159) (ws' := (wM (jg E) a0 (M_made_s s0 (vp_updL (M_made s0) (Int32.toNatClampNeg v4) (((M_made s0) (Int32.toNatClampNeg v4)) / v5))))) K dX12_areMade_158 hrw 15 rfl hg (st_M_15 ..) rfl ?_
  refine j_iload_n (pc' := 160) K dX12_areMade_159 rfl 0 rfl rfl ?_
  refine j_if_eq (pc' := 163) (tgt := 186) K dX12_areMade_160 (by decide) rfl (fun hc => ?_) (fun hc => ?_)
  · have h := jit hc h
    refine j_sub [1, 2, 3] rfl ?_
    exact b_X12_areMade_186 a0 K hrw HR k88 hk88 v2 v4 (M_made_s s0 (vp_updL (M_made s0) (Int32.toNatClampNeg v4) (((M_made s0) (Int32.toNatClampNeg v4)) / v5))) h
  · have h := jif hc h
    refine j_aload_n (pc' := 164) K dX12_areMade_163 rfl 1 rfl rfl ?_
    refine j_get (pc' := 167) K dX12_areMade_164 inX12 0 rfl rfl 19 (by decide) u_4_54 rfl rfl rfl ?_
    refine j_iload (pc' := 169) K dX12_areMade_167 3 rfl rfl ?_
    obtain ⟨hg, h⟩ := jgd_some h
    refine j_lald (pc' := 170) K dX12_areMade_169 15 rfl hg rfl ?_
    refine j_ldc2 (pc' := 173) K dX12_areMade_170 u_5_47 rfl ?_
    refine j_ldc2 (pc' := 176) K dX12_areMade_173 u_5_48 rfl ?_
    obtain ⟨r176, hr176, h⟩ := jbd_some h
    refine j_ro (pc' := 179) K (fun H hP => jrun_S K dX12_areMade_176 (M_X12_in (jl E) (jg E) ((M_made (M_made_s s0 (vp_updL (M_made s0) (Int32.toNatClampNeg v4) (((M_made s0) (Int32.toNatClampNeg v4)) / v5)))) (Int32.toNatClampNeg v4)) (-1000000 : Int64) (1000000 : Int64) hr176) u_4_107 u_4_105 u_4_106 u_1_13 ⟨ok_X12_in, by decide, by decide⟩ rfl (Nat.le_of_ble_eq_true rfl) H) [] rfl rfl ?_
    refine j_if_eq (pc' := 182) (tgt := 186) K dX12_areMade_179 (by decide) rfl (fun hc => ?_) (fun hc => ?_)
    · have h := jit hc h
      refine j_sub [1, 2, 3] rfl ?_
      exact b_X12_areMade_186 a0 K hrw HR k88 hk88 v2 v4 (M_made_s s0 (vp_updL (M_made s0) (Int32.toNatClampNeg v4) (((M_made s0) (Int32.toNatClampNeg v4)) / v5))) h
    · have h := jif hc h
      refine j_iconst (pc' := 183) (v := (1 : Int32)) K dX12_areMade_182 (by decide) rfl ?_
      refine j_goto (tgt := 187) K dX12_areMade_183 (by decide) ?_
      refine j_sub [1, 2, 3] rfl ?_
      exact b_X12_areMade_187 a0 K hrw HR k88 hk88 v2 v4 (1 : Int32) (M_made_s s0 (vp_updL (M_made s0) (Int32.toNatClampNeg v4) (((M_made s0) (Int32.toNatClampNeg v4)) / v5))) h
set_option maxRecDepth 100000 in
set_option maxHeartbeats 4000000 in
theorem b_X12_areMade_140 {E : jE} (a0 : Nat → Nat) {res : Int32 × MS} (K : jC E cX12_areMade 7 RX12 2) (hrw : jrw E) (HR : jRZ E cX12_areMade 7 (wM (jg E) a0 (res.2)) (res.1)) (k88 : Int32 → Int32 → Int32 → MS → Option (Int32 × MS)) (hk88 : ∀ (v2 : Int32) (v3 : Int32) (v4 : Int32) (s0 : MS), k88 v2 v3 v4 s0 = some res → J E 7 (wM (jg E) a0 s0) 88 [(0, .ref (a0 0)), (2, .int v2), (3, .int v3), (4, .int v4)] []) : ∀ (v2 : Int32) (v4 : Int32) (v5 : Int64) (s0 : MS), f_X12_areMade_140 k88 v2 v4 v5 s0 = some res → J E 7 (wM (jg E) a0 s0) 140 [(0, .ref (a0 0)), (2, .int v2), (4, .int v4), (5, .long v5)] [] := by
  intro v2 v4 v5 s0 h
  unfold f_X12_areMade_140 at h
  refine j_iconst (pc' := 141) (v := (0 : Int32)) K dX12_areMade_140 (by decide) rfl ?_
  refine j_sub [0, 1, 2, 3] rfl ?_
  exact b_X12_areMade_141 a0 K hrw HR k88 hk88 v2 v4 v5 (0 : Int32) s0 h
set_option maxRecDepth 100000 in
set_option maxHeartbeats 4000000 in
theorem b_X12_areMade_115 {E : jE} (a0 : Nat → Nat) {res : Int32 × MS} (K : jC E cX12_areMade 7 RX12 2) (hrw : jrw E) (HR : jRZ E cX12_areMade 7 (wM (jg E) a0 (res.2)) (res.1)) (k88 : Int32 → Int32 → Int32 → MS → Option (Int32 × MS)) (hk88 : ∀ (v2 : Int32) (v3 : Int32) (v4 : Int32) (s0 : MS), k88 v2 v3 v4 s0 = some res → J E 7 (wM (jg E) a0 s0) 88 [(0, .ref (a0 0)), (2, .int v2), (3, .int v3), (4, .int v4)] []) : ∀ (v2 : Int32) (v3 : Int32) (v4 : Int32) (t0 : Int64) (s0 : MS), f_X12_areMade_115 k88 v2 v3 v4 t0 s0 = some res → J E 7 (wM (jg E) a0 s0) 115 [(0, .ref (a0 0)), (2, .int v2), (3, .int v3), (4, .int v4)] [.long t0] := by
  intro v2 v3 v4 t0 s0 h
  unfold f_X12_areMade_115 at h
  refine j_lstore (pc' := 117) (lv' := [(5, .long t0), (0, .ref (a0 0)), (2, .int v2), (3, .int v3), (4, .int v4)]) K dX12_areMade_115 (by decide) rfl rfl ?_
  refine j_iload_n (pc' := 118) K dX12_areMade_117 rfl 3 rfl rfl ?_
  refine j_if_eq (pc' := 121) (tgt := 140) K dX12_areMade_118 (by decide) rfl (fun hc => ?_) (fun hc => ?_)
  · have h := jit hc h
    refine j_sub [1, 2, 4, 0] rfl ?_
    exact b_X12_areMade_140 a0 K hrw HR k88 hk88 v2 v4 t0 s0 h
  · have h := jif hc h
    refine j_aload_n (pc' := 122) K dX12_areMade_121 rfl 1 rfl rfl ?_
    refine j_get (pc' := 125) K dX12_areMade_122 inX12 0 rfl rfl 19 (by decide) u_4_54 rfl rfl rfl ?_
    refine j_iload (pc' := 127) K dX12_areMade_125 4 rfl rfl ?_
    obtain ⟨hg, h⟩ := jgd_some h
    refine j_lald (pc' := 128) K dX12_areMade_127 15 rfl hg rfl ?_
    refine j_lload (pc' := 130) K dX12_areMade_128 0 rfl rfl ?_
    obtain ⟨hg, h⟩ := jnzl_some h
    refine j_lrem (pc' := 131) K dX12_areMade_130 hg rfl ?_
    refine j_lconst (pc' := 132) (v := (0 : Int64)) K dX12_areMade_131 (by decide) rfl ?_
    refine j_lcmp (pc' := 133) K dX12_areMade_132 rfl ?_
    refine j_if_ne (pc' := 136) (tgt := 140) K dX12_areMade_133 (by decide) rfl (fun hc => ?_) (fun hc => ?_)
    · have h := jif hc h
      refine j_sub [1, 2, 4, 0] rfl ?_
      exact b_X12_areMade_140 a0 K hrw HR k88 hk88 v2 v4 t0 s0 h
    · have h := jit hc h
      refine j_iconst (pc' := 137) (v := (1 : Int32)) K dX12_areMade_136 (by decide) rfl ?_
      refine j_goto (tgt := 141) K dX12_areMade_137 (by decide) ?_
      refine j_sub [1, 2, 4, 0] rfl ?_
      exact b_X12_areMade_141 a0 K hrw HR k88 hk88 v2 v4 t0 (1 : Int32) s0 h
set_option maxRecDepth 100000 in
set_option maxHeartbeats 4000000 in
theorem b_X12_areMade_88 {E : jE} (a0 : Nat → Nat) {res : Int32 × MS} (K : jC E cX12_areMade 7 RX12 2) (hrw : jrw E) (HR : jRZ E cX12_areMade 7 (wM (jg E) a0 (res.2)) (res.1)) : ∀ (n : Nat) (v2 : Int32) (v3 : Int32) (v4 : Int32) (s0 : MS), f_X12_areMade_88 n v2 v3 v4 s0 = some res → J E 7 (wM (jg E) a0 s0) 88 [(0, .ref (a0 0)), (2, .int v2), (3, .int v3), (4, .int v4)] [] := by
  intro n
  induction n with
  | zero => intro _ _ _ _ h; cases h
  | succ n ih =>
    intro v2 v3 v4 s0 h
    rw [f_X12_areMade_88] at h
    refine j_iload (pc' := 90) K dX12_areMade_88 3 rfl rfl ?_
    refine j_bipush (pc' := 92) (v := (9 : Int32)) K dX12_areMade_90 (by decide) rfl ?_
    refine j_icmp_ge (pc' := 95) (tgt := 194) K dX12_areMade_92 (by decide) rfl (fun hc => ?_) (fun hc => ?_)
    · have h := jit hc h
      refine j_iload_n (pc' := 195) K dX12_areMade_194 rfl 2 rfl rfl ?_
      obtain ⟨hg, h⟩ := jzb_some h
      obtain rfl := Option.some.inj h
      exact HR _ _ hg dX12_areMade_195
    · have h := jif hc h
      refine j_iload_n (pc' := 96) K dX12_areMade_95 rfl 1 rfl rfl ?_
      refine j_iconst (pc' := 97) (v := (3 : Int32)) K dX12_areMade_96 (by decide) rfl ?_
      refine j_icmp_ne (pc' := 100) (tgt := 112) K dX12_areMade_97 (by decide) rfl (fun hc => ?_) (fun hc => ?_)
      · have h := jif hc h
        refine j_ldc2 (pc' := 115) K dX12_areMade_112 u_5_73 rfl ?_
        refine j_sub [0, 1, 2, 3] rfl ?_
        exact b_X12_areMade_115 a0 K hrw HR (f_X12_areMade_88 n) (ih) v2 v3 v4 (40320 : Int64) s0 h
      · have h := jit hc h
        refine j_ldc2 (pc' := 103) K dX12_areMade_100 u_5_73 rfl ?_
        refine j_iload (pc' := 105) K dX12_areMade_103 3 rfl rfl ?_
        obtain ⟨r105, hr105, h⟩ := jbd_some h
        refine j_ro (pc' := 108) K (fun H hP => jrun_S K dX12_areMade_105 (M_X12_steps (jl E) (jg E) v4 hr105) u_5_76 u_5_74 u_5_75 u_1_13 ⟨ok_X12_steps, by decide, by decide⟩ rfl (Nat.le_of_ble_eq_true rfl) H) [] rfl rfl ?_
        obtain ⟨hg, h⟩ := jnzl_some h
        refine j_ldiv (pc' := 109) K dX12_areMade_108 hg rfl ?_
        refine j_goto (tgt := 115) K dX12_areMade_109 (by decide) ?_
        refine j_sub [0, 1, 2, 3] rfl ?_
        exact b_X12_areMade_115 a0 K hrw HR (f_X12_areMade_88 n) (ih) v2 v3 v4 ((40320 : Int64) / r105) s0 h
set_option maxRecDepth 100000 in
set_option maxHeartbeats 4000000 in
theorem b_X12_areMade_83 {E : jE} (a0 : Nat → Nat) {res : Int32 × MS} (K : jC E cX12_areMade 7 RX12 2) (hrw : jrw E) (HR : jRZ E cX12_areMade 7 (wM (jg E) a0 (res.2)) (res.1)) : ∀ (v2 : Int32) (s0 : MS), f_X12_areMade_83 v2 s0 = some res → J E 7 (wM (jg E) a0 s0) 83 [(0, .ref (a0 0)), (2, .int v2)] [] := by
  intro v2 s0 h
  unfold f_X12_areMade_83 at h
  refine j_iconst (pc' := 84) (v := (1 : Int32)) K dX12_areMade_83 (by decide) rfl ?_
  refine j_istore_n (pc' := 85) (lv' := [(3, .int (1 : Int32)), (0, .ref (a0 0)), (2, .int v2)]) K dX12_areMade_84 rfl (by decide) rfl rfl ?_
  refine j_iconst (pc' := 86) (v := (0 : Int32)) K dX12_areMade_85 (by decide) rfl ?_
  refine j_istore (pc' := 88) (lv' := [(4, .int (0 : Int32)), (3, .int (1 : Int32)), (0, .ref (a0 0)), (2, .int v2)]) K dX12_areMade_86 (by decide) rfl rfl ?_
  refine j_sub [2, 3, 1, 0] rfl ?_
  exact b_X12_areMade_88 a0 K hrw HR jFU v2 (1 : Int32) (0 : Int32) s0 h
set_option maxRecDepth 100000 in
set_option maxHeartbeats 4000000 in
theorem b_X12_areMade_45 {E : jE} (a0 : Nat → Nat) {res : Int32 × MS} (K : jC E cX12_areMade 7 RX12 2) (hrw : jrw E) (HR : jRZ E cX12_areMade 7 (wM (jg E) a0 (res.2)) (res.1)) : ∀ (v2 : Int32) (s0 : MS), f_X12_areMade_45 v2 s0 = some res → J E 7 (wM (jg E) a0 s0) 45 [(0, .ref (a0 0)), (2, .int v2)] [] := by
  intro v2 s0 h
  unfold f_X12_areMade_45 at h
  refine j_goto (tgt := 83) K dX12_areMade_45 (by decide) ?_
  refine j_sub [0, 1] rfl ?_
  exact b_X12_areMade_83 a0 K hrw HR v2 s0 h
set_option maxRecDepth 100000 in
set_option maxHeartbeats 4000000 in
theorem b_X12_areMade_21 {E : jE} (a0 : Nat → Nat) {res : Int32 × MS} (K : jC E cX12_areMade 7 RX12 2) (hrw : jrw E) (HR : jRZ E cX12_areMade 7 (wM (jg E) a0 (res.2)) (res.1)) : ∀ (n : Nat) (v2 : Int32) (v3 : Int32) (s0 : MS), f_X12_areMade_21 n v2 v3 s0 = some res → J E 7 (wM (jg E) a0 s0) 21 [(0, .ref (a0 0)), (2, .int v2), (3, .int v3)] [] := by
  intro n
  induction n with
  | zero => intro _ _ _ h; cases h
  | succ n ih =>
    intro v2 v3 s0 h
    rw [f_X12_areMade_21] at h
    refine j_iload_n (pc' := 22) K dX12_areMade_21 rfl 2 rfl rfl ?_
    refine j_bipush (pc' := 24) (v := (9 : Int32)) K dX12_areMade_22 (by decide) rfl ?_
    refine j_icmp_ge (pc' := 27) (tgt := 45) K dX12_areMade_24 (by decide) rfl (fun hc => ?_) (fun hc => ?_)
    · have h := jit hc h
      refine j_sub [0, 1] rfl ?_
      exact b_X12_areMade_45 a0 K hrw HR v2 s0 h
    · have h := jif hc h
      refine j_aload_n (pc' := 28) K dX12_areMade_27 rfl 0 rfl rfl ?_
      refine j_get (pc' := 31) K dX12_areMade_28 inX12 0 rfl rfl 19 (by decide) u_4_54 rfl rfl rfl ?_
      refine j_iload_n (pc' := 32) K dX12_areMade_31 rfl 2 rfl rfl ?_
      refine j_aload_n (pc' := 33) K dX12_areMade_32 rfl 0 rfl rfl ?_
      refine j_get (pc' := 36) K dX12_areMade_33 inX12 0 rfl rfl 18 (by decide) u_4_53 rfl rfl rfl ?_
      refine j_iload_n (pc' := 37) K dX12_areMade_36 rfl 2 rfl rfl ?_
      obtain ⟨hg, h⟩ := jgd_some h
      refine j_lald (pc' := 38) K dX12_areMade_37 14 rfl hg rfl ?_
      obtain ⟨hg, h⟩ := jgd_some h
      refine j_last (pc' := 39) (ws' := (wM (jg E) a0 (M_made_s s0 (vp_updL (M_made s0) (Int32.toNatClampNeg v3) ((M_falling s0) (Int32.toNatClampNeg v3)))))) K dX12_areMade_38 hrw 15 rfl hg (st_M_15 ..) rfl ?_
      refine j_iinc (pc' := 42) (j := 2) (v := (v3 + (1 : Int32))) (lv' := [(3, .int (v3 + (1 : Int32))), (0, .ref (a0 0)), (2, .int v2)]) K dX12_areMade_39 rfl rfl (by decide) rfl rfl ?_
      refine j_goto (tgt := 21) K dX12_areMade_42 (by decide) ?_
      refine j_sub [1, 2, 0] rfl ?_
      exact ih v2 (v3 + (1 : Int32)) (M_made_s s0 (vp_updL (M_made s0) (Int32.toNatClampNeg v3) ((M_falling s0) (Int32.toNatClampNeg v3)))) h
set_option maxRecDepth 100000 in
set_option maxHeartbeats 4000000 in
theorem b_X12_areMade_19 {E : jE} (a0 : Nat → Nat) {res : Int32 × MS} (K : jC E cX12_areMade 7 RX12 2) (hrw : jrw E) (HR : jRZ E cX12_areMade 7 (wM (jg E) a0 (res.2)) (res.1)) : ∀ (v2 : Int32) (s0 : MS), f_X12_areMade_19 v2 s0 = some res → J E 7 (wM (jg E) a0 s0) 19 [(0, .ref (a0 0)), (2, .int v2)] [] := by
  intro v2 s0 h
  unfold f_X12_areMade_19 at h
  refine j_iconst (pc' := 20) (v := (0 : Int32)) K dX12_areMade_19 (by decide) rfl ?_
  refine j_istore_n (pc' := 21) (lv' := [(3, .int (0 : Int32)), (0, .ref (a0 0)), (2, .int v2)]) K dX12_areMade_20 rfl (by decide) rfl rfl ?_
  refine j_sub [1, 2, 0] rfl ?_
  exact b_X12_areMade_21 a0 K hrw HR jFU v2 (0 : Int32) s0 h
set_option maxRecDepth 100000 in
set_option maxHeartbeats 4000000 in
theorem b_X12_areMade_51 {E : jE} (a0 : Nat → Nat) {res : Int32 × MS} (K : jC E cX12_areMade 7 RX12 2) (hrw : jrw E) (HR : jRZ E cX12_areMade 7 (wM (jg E) a0 (res.2)) (res.1)) : ∀ (n : Nat) (v2 : Int32) (v3 : Int32) (s0 : MS), f_X12_areMade_51 n v2 v3 s0 = some res → J E 7 (wM (jg E) a0 s0) 51 [(0, .ref (a0 0)), (2, .int v2), (3, .int v3)] [] := by
  intro n
  induction n with
  | zero => intro _ _ _ h; cases h
  | succ n ih =>
    intro v2 v3 s0 h
    rw [f_X12_areMade_51] at h
    refine j_iload_n (pc' := 52) K dX12_areMade_51 rfl 2 rfl rfl ?_
    refine j_if_lt (pc' := 55) (tgt := 83) K dX12_areMade_52 (by decide) rfl (fun hc => ?_) (fun hc => ?_)
    · have h := jit hc h
      refine j_sub [0, 1] rfl ?_
      exact b_X12_areMade_83 a0 K hrw HR v2 s0 h
    · have h := jif hc h
      refine j_aload_n (pc' := 56) K dX12_areMade_55 rfl 0 rfl rfl ?_
      refine j_iload_n (pc' := 57) K dX12_areMade_56 rfl 1 rfl rfl ?_
      refine j_iload_n (pc' := 58) K dX12_areMade_57 rfl 2 rfl rfl ?_
      refine j_i2l (pc' := 59) K dX12_areMade_58 rfl ?_
      obtain ⟨r59, hr59, h⟩ := jbd_some h
      refine j_rw (pc' := 62) (ws' := (wM (jg E) a0 r59)) K (fun H hP => jrun_V K dX12_areMade_59 (M_X12_timesIn (jl E) (jg E) a0 v2 (Int32.toInt64 v3) s0 hr59) u_5_88 u_5_85 u_5_87 u_p_42 u_1_13 ⟨ok_X12_timesIn, by decide, by decide⟩ rfl (Nat.le_of_ble_eq_true rfl) 0 rfl rfl H hP) hrw [0, 1, 2, 3, 4, 5, 6, 7, 8, 9, 10, 11, 12, 13, 14, 15, 16] rfl (cl_56_s ..) rfl (cl_56_m ..) (ad_M ..) rfl ?_
      refine j_aload_n (pc' := 63) K dX12_areMade_62 rfl 0 rfl rfl ?_
      refine j_get (pc' := 66) K dX12_areMade_63 inX12 0 rfl rfl 19 (by decide) u_4_54 rfl rfl rfl ?_
      refine j_iconst (pc' := 67) (v := (0 : Int32)) K dX12_areMade_66 (by decide) rfl ?_
      refine j_dup2_11 (pc' := 68) K dX12_areMade_67 rfl rfl rfl ?_
      obtain ⟨hg, h⟩ := jgd_some h
      refine j_lald (pc' := 69) K dX12_areMade_68 15 rfl hg rfl ?_
      refine j_aload_n (pc' := 70) K dX12_areMade_69 rfl 0 rfl rfl ?_
      refine j_get (pc' := 73) K dX12_areMade_70 inX12 0 rfl rfl 18 (by decide) u_4_53 rfl rfl rfl ?_
      refine j_iload_n (pc' := 74) K dX12_areMade_73 rfl 2 rfl rfl ?_
      obtain ⟨hg, h⟩ := jgd_some h
      refine j_lald (pc' := 75) K dX12_areMade_74 14 rfl hg rfl ?_
      refine j_ladd (pc' := 76) K dX12_areMade_75 rfl ?_
      obtain ⟨hg, h⟩ := jgd_some h
      refine j_last (pc' := 77) (ws' := (wM (jg E) a0 (M_made_s r59 (vp_updL (M_made r59) (Int32.toNatClampNeg (0 : Int32)) (((M_made r59) (Int32.toNatClampNeg (0 : Int32))) + ((M_falling r59) (Int32.toNatClampNeg v3))))))) K dX12_areMade_76 hrw 15 rfl hg (st_M_15 ..) rfl ?_
      refine j_iinc (pc' := 80) (j := 2) (v := (v3 + (-1 : Int32))) (lv' := [(3, .int (v3 + (-1 : Int32))), (0, .ref (a0 0)), (2, .int v2)]) K dX12_areMade_77 rfl rfl (by decide) rfl rfl ?_
      refine j_goto (tgt := 51) K dX12_areMade_80 (by decide) ?_
      refine j_sub [1, 2, 0] rfl ?_
      exact ih v2 (v3 + (-1 : Int32)) (M_made_s r59 (vp_updL (M_made r59) (Int32.toNatClampNeg (0 : Int32)) (((M_made r59) (Int32.toNatClampNeg (0 : Int32))) + ((M_falling r59) (Int32.toNatClampNeg v3))))) h
set_option maxRecDepth 100000 in
set_option maxHeartbeats 4000000 in
theorem b_X12_areMade {E : jE} (a0 : Nat → Nat) {res : Int32 × MS} (K : jC E cX12_areMade 7 RX12 2) (hrw : jrw E) (HR : jRZ E cX12_areMade 7 (wM (jg E) a0 (res.2)) (res.1)) : ∀ (v1 : Int32) (v2 : Int32) (s0 : MS), f_X12_areMade v1 v2 s0 = some res → J E 7 (wM (jg E) a0 s0) 0 [(0, .ref (a0 0)), (1, .int v1), (2, .int v2)] [] := by
  intro v1 v2 s0 h
  unfold f_X12_areMade at h
  refine j_aload_n (pc' := 1) K dX12_areMade_0 rfl 0 rfl rfl ?_
  refine j_iload_n (pc' := 2) K dX12_areMade_1 rfl 1 rfl rfl ?_
  obtain ⟨r2, hr2, h⟩ := jbd_some h
  refine j_rw (pc' := 5) (ws' := (wM (jg E) a0 r2)) K (fun H hP => jrun_V K dX12_areMade_2 (M_X12_findFalling (jl E) (jg E) a0 v1 s0 hr2) u_5_72 u_5_69 u_5_71 u_p_39 u_1_13 ⟨ok_X12_findFalling, by decide, by decide⟩ rfl (Nat.le_of_ble_eq_true rfl) 0 rfl rfl H hP) hrw [0, 1, 2, 3, 4, 5, 6, 7, 8, 9, 10, 11, 12, 13, 14, 15, 16] rfl (cl_56_s ..) rfl (cl_56_m ..) (ad_M ..) rfl ?_
  refine j_aload_n (pc' := 6) K dX12_areMade_5 rfl 0 rfl rfl ?_
  obtain ⟨r6, hr6, h⟩ := jbd_some h
  refine j_rw (pc' := 9) (ws' := (wM (jg E) a0 r6)) K (fun H hP => jrun_V K dX12_areMade_6 (M_X12_clearMade (jl E) (jg E) a0 r2 hr6) u_5_80 u_5_77 u_5_79 u_p_40 u_1_13 ⟨ok_X12_clearMade, by decide, by decide⟩ rfl (Nat.le_of_ble_eq_true rfl) 0 rfl rfl H hP) hrw [0, 1, 2, 3, 4, 5, 6, 7, 8, 9, 10, 11, 12, 13, 14, 15, 16] rfl (cl_56_s ..) rfl (cl_56_m ..) (ad_M ..) rfl ?_
  refine j_iload_n (pc' := 10) K dX12_areMade_9 rfl 2 rfl rfl ?_
  refine j_iconst (pc' := 11) (v := (1 : Int32)) K dX12_areMade_10 (by decide) rfl ?_
  refine j_icmp_eq (pc' := 14) (tgt := 19) K dX12_areMade_11 (by decide) rfl (fun hc => ?_) (fun hc => ?_)
  · have h := jit hc h
    refine j_sub [0, 2] rfl ?_
    exact b_X12_areMade_19 a0 K hrw HR v2 r6 h
  · have h := jif hc h
    refine j_iload_n (pc' := 15) K dX12_areMade_14 rfl 2 rfl rfl ?_
    refine j_iconst (pc' := 16) (v := (3 : Int32)) K dX12_areMade_15 (by decide) rfl ?_
    refine j_icmp_ne (pc' := 19) (tgt := 48) K dX12_areMade_16 (by decide) rfl (fun hc => ?_) (fun hc => ?_)
    · have h := jif hc h
      refine j_bipush (pc' := 50) (v := (8 : Int32)) K dX12_areMade_48 (by decide) rfl ?_
      refine j_istore_n (pc' := 51) (lv' := [(3, .int (8 : Int32)), (0, .ref (a0 0)), (1, .int v1), (2, .int v2)]) K dX12_areMade_50 rfl (by decide) rfl rfl ?_
      refine j_sub [1, 3, 0] rfl ?_
      exact b_X12_areMade_51 a0 K hrw HR jFU v2 (8 : Int32) r6 h
    · have h := jit hc h
      refine j_sub [0, 2] rfl ?_
      exact b_X12_areMade_19 a0 K hrw HR v2 r6 h
set_option maxRecDepth 100000 in
set_option maxHeartbeats 4000000 in
theorem M_X12_areMade (l : Launch) (G : jG) (a0 : Nat → Nat) (v1 : Int32) (v2 : Int32) (s0 : MS) {r : Int32 × MS} (h : f_X12_areMade v1 v2 s0 = some r) : MC l yX12_areMade cX12_areMade 7 (some .boolean) 2 G (jad (wM G a0 s0)) True (wM G a0 s0) (wM G a0 (r.2)) [.ref (a0 0), .int v1, .int v2] (some (.int (r.1))) := by
  refine mc_bool (by decide +kernel) (Nat.le_of_ble_eq_true rfl) fun E hl hg hA hrw K HR => ?_
  subst hl
  subst hg
  have hrw : jrw E := by rw [hrw]; trivial
  exact b_X12_areMade a0 K hrw HR v1 v2 s0 h
theorem ok_X12_turn : yX12_turn.cls ≠ "java/lang/invoke/MethodHandle" ∧ yX12_turn.cls ≠ "java/lang/invoke/VarHandle" ∧ (parseMethodDescriptor yX12_turn.desc).map (fun d => d.parameters.length) = some 2 := ⟨by decide, by decide, by decide +kernel⟩
def f_X12_turn_81 (v1 : Int32) (s0 : MS) : Option (Int32 × MS) :=
   jbd (f_X12_degree v1 s0) (fun r83 =>
   some (r83, s0))
def f_X12_turn_52 : Nat → Int32 → Int32 → MS → Option (Int32 × MS)
  | 0, _, _, _ => none
  | n + 1, v1, v3, s0 =>
   if (9 : Int32) ≤ v3 then
   f_X12_turn_81 v1 s0
  else
   jgd v3 9 (
    jgd (((9 : Int32) * v1) + v3) 36 (
     (f_X12_turn_52 n) v1 (v3 + (1 : Int32)) (M_factor_s s0 (vp_updL (M_factor s0) (Int32.toNatClampNeg (((9 : Int32) * v1) + v3)) ((M_made s0) (Int32.toNatClampNeg v3))))))
def f_X12_turn (v1 : Int32) (v2 : Int32) (s0 : MS) : Option (Int32 × MS) :=
   jbd (f_X12_isPolynomial v1) (fun r1 =>
   if r1 = 0 then
    some ((-1 : Int32), s0)
   else
    jbd (f_X12_in (Int32.toInt64 v2) (0 : Int64) (3 : Int64)) (fun r13 =>
     if r13 = 0 then
      some ((-1 : Int32), s0)
     else
      jgd v1 4 (
       if v2 = ((M_base s0) (Int32.toNatClampNeg v1)) then
        f_X12_turn_81 v1 s0
       else
        jbd (f_X12_areMade v1 v2 s0) (fun r34 =>
         if (r34.1) = 0 then
          some ((-2 : Int32), (r34.2))
         else
          jgd v1 4 (
           f_X12_turn_52 jFU v1 (0 : Int32) (M_base_s (r34.2) (upd (M_base (r34.2)) (Int32.toNatClampNeg v1) v2)))))))
set_option maxRecDepth 100000 in
set_option maxHeartbeats 4000000 in
theorem b_X12_turn_81 {E : jE} (a0 : Nat → Nat) {res : Int32 × MS} (K : jC E cX12_turn 4 RX12 3) (hrw : jrw E) (HR : jRI E cX12_turn 4 (wM (jg E) a0 (res.2)) (res.1)) : ∀ (v1 : Int32) (s0 : MS), f_X12_turn_81 v1 s0 = some res → J E 4 (wM (jg E) a0 s0) 81 [(0, .ref (a0 0)), (1, .int v1)] [] := by
  intro v1 s0 h
  unfold f_X12_turn_81 at h
  refine j_aload_n (pc' := 82) K dX12_turn_81 rfl 0 rfl rfl ?_
  refine j_iload_n (pc' := 83) K dX12_turn_82 rfl 1 rfl rfl ?_
  obtain ⟨r83, hr83, h⟩ := jbd_some h
  refine j_ro (pc' := 86) K (fun H hP => jrun_V K dX12_turn_83 (M_X12_degree (jl E) (jg E) a0 v1 s0 hr83) u_5_60 u_5_57 u_5_59 u_p_37 u_1_13 ⟨ok_X12_degree, by decide, by decide⟩ rfl (Nat.le_of_ble_eq_true rfl) 0 rfl rfl H hP) [0, 1, 2, 3, 4, 5, 6, 7, 8, 9, 10, 11, 12, 13, 14, 15, 16] (cl_55_f ..) rfl ?_
  obtain rfl := Option.some.inj h
  exact HR _ _ dX12_turn_86
set_option maxRecDepth 100000 in
set_option maxHeartbeats 4000000 in
theorem b_X12_turn_52 {E : jE} (a0 : Nat → Nat) {res : Int32 × MS} (K : jC E cX12_turn 4 RX12 3) (hrw : jrw E) (HR : jRI E cX12_turn 4 (wM (jg E) a0 (res.2)) (res.1)) : ∀ (n : Nat) (v1 : Int32) (v3 : Int32) (s0 : MS), f_X12_turn_52 n v1 v3 s0 = some res → J E 4 (wM (jg E) a0 s0) 52 [(0, .ref (a0 0)), (1, .int v1), (3, .int v3)] [] := by
  intro n
  induction n with
  | zero => intro _ _ _ h; cases h
  | succ n ih =>
    intro v1 v3 s0 h
    rw [f_X12_turn_52] at h
    refine j_iload_n (pc' := 53) K dX12_turn_52 rfl 2 rfl rfl ?_
    refine j_bipush (pc' := 55) (v := (9 : Int32)) K dX12_turn_53 (by decide) rfl ?_
    refine j_icmp_ge (pc' := 58) (tgt := 81) K dX12_turn_55 (by decide) rfl (fun hc => ?_) (fun hc => ?_)
    · have h := jit hc h
      refine j_sub [0, 1] rfl ?_
      exact b_X12_turn_81 a0 K hrw HR v1 s0 h
    · have h := jif hc h
      refine j_aload_n (pc' := 59) K dX12_turn_58 rfl 0 rfl rfl ?_
      refine j_get (pc' := 62) K dX12_turn_59 inX12 0 rfl rfl 17 (by decide) u_4_52 rfl rfl rfl ?_
      refine j_bipush (pc' := 64) (v := (9 : Int32)) K dX12_turn_62 (by decide) rfl ?_
      refine j_iload_n (pc' := 65) K dX12_turn_64 rfl 1 rfl rfl ?_
      refine j_imul (pc' := 66) K dX12_turn_65 rfl ?_
      refine j_iload_n (pc' := 67) K dX12_turn_66 rfl 2 rfl rfl ?_
      refine j_iadd (pc' := 68) K dX12_turn_67 rfl ?_
      refine j_aload_n (pc' := 69) K dX12_turn_68 rfl 0 rfl rfl ?_
      refine j_get (pc' := 72) K dX12_turn_69 inX12 0 rfl rfl 19 (by decide) u_4_54 rfl rfl rfl ?_
      refine j_iload_n (pc' := 73) K dX12_turn_72 rfl 2 rfl rfl ?_
      obtain ⟨hg, h⟩ := jgd_some h
      refine j_lald (pc' := 74) K dX12_turn_73 15 rfl hg rfl ?_
      obtain ⟨hg, h⟩ := jgd_some h
      refine j_last (pc' := 75) (ws' := (wM (jg E) a0 (M_factor_s s0 (vp_updL (M_factor s0) (Int32.toNatClampNeg (((9 : Int32) * v1) + v3)) ((M_made s0) (Int32.toNatClampNeg v3)))))) K dX12_turn_74 hrw 13 rfl hg (st_M_13 ..) rfl ?_
      refine j_iinc (pc' := 78) (j := 2) (v := (v3 + (1 : Int32))) (lv' := [(3, .int (v3 + (1 : Int32))), (0, .ref (a0 0)), (1, .int v1)]) K dX12_turn_75 rfl rfl (by decide) rfl rfl ?_
      refine j_goto (tgt := 52) K dX12_turn_78 (by decide) ?_
      refine j_sub [1, 2, 0] rfl ?_
      exact ih v1 (v3 + (1 : Int32)) (M_factor_s s0 (vp_updL (M_factor s0) (Int32.toNatClampNeg (((9 : Int32) * v1) + v3)) ((M_made s0) (Int32.toNatClampNeg v3)))) h
set_option maxRecDepth 100000 in
set_option maxHeartbeats 4000000 in
theorem b_X12_turn {E : jE} (a0 : Nat → Nat) {res : Int32 × MS} (K : jC E cX12_turn 4 RX12 3) (hrw : jrw E) (HR : jRI E cX12_turn 4 (wM (jg E) a0 (res.2)) (res.1)) : ∀ (v1 : Int32) (v2 : Int32) (s0 : MS), f_X12_turn v1 v2 s0 = some res → J E 4 (wM (jg E) a0 s0) 0 [(0, .ref (a0 0)), (1, .int v1), (2, .int v2)] [] := by
  intro v1 v2 s0 h
  unfold f_X12_turn at h
  refine j_iload_n (pc' := 1) K dX12_turn_0 rfl 1 rfl rfl ?_
  obtain ⟨r1, hr1, h⟩ := jbd_some h
  refine j_ro (pc' := 4) K (fun H hP => jrun_S K dX12_turn_1 (M_X12_isPolynomial (jl E) (jg E) v1 hr1) u_5_42 u_5_40 u_5_41 u_1_13 ⟨ok_X12_isPolynomial, by decide, by decide⟩ rfl (Nat.le_of_ble_eq_true rfl) H) [] rfl rfl ?_
  refine j_if_eq (pc' := 7) (tgt := 19) K dX12_turn_4 (by decide) rfl (fun hc => ?_) (fun hc => ?_)
  · have h := jit hc h
    refine j_iconst (pc' := 20) (v := (-1 : Int32)) K dX12_turn_19 (by decide) rfl ?_
    obtain rfl := Option.some.inj h
    exact HR _ _ dX12_turn_20
  · have h := jif hc h
    refine j_iload_n (pc' := 8) K dX12_turn_7 rfl 2 rfl rfl ?_
    refine j_i2l (pc' := 9) K dX12_turn_8 rfl ?_
    refine j_lconst (pc' := 10) (v := (0 : Int64)) K dX12_turn_9 (by decide) rfl ?_
    refine j_ldc2 (pc' := 13) K dX12_turn_10 u_4_141 rfl ?_
    obtain ⟨r13, hr13, h⟩ := jbd_some h
    refine j_ro (pc' := 16) K (fun H hP => jrun_S K dX12_turn_13 (M_X12_in (jl E) (jg E) (Int32.toInt64 v2) (0 : Int64) (3 : Int64) hr13) u_4_107 u_4_105 u_4_106 u_1_13 ⟨ok_X12_in, by decide, by decide⟩ rfl (Nat.le_of_ble_eq_true rfl) H) [] rfl rfl ?_
    refine j_if_ne (pc' := 19) (tgt := 21) K dX12_turn_16 (by decide) rfl (fun hc => ?_) (fun hc => ?_)
    · have h := jif hc h
      refine j_iload_n (pc' := 22) K dX12_turn_21 rfl 2 rfl rfl ?_
      refine j_aload_n (pc' := 23) K dX12_turn_22 rfl 0 rfl rfl ?_
      refine j_get (pc' := 26) K dX12_turn_23 inX12 0 rfl rfl 16 (by decide) u_4_51 rfl rfl rfl ?_
      refine j_iload_n (pc' := 27) K dX12_turn_26 rfl 1 rfl rfl ?_
      obtain ⟨hg, h⟩ := jgd_some h
      refine j_iald (pc' := 28) K dX12_turn_27 12 rfl hg rfl ?_
      refine j_icmp_eq (pc' := 31) (tgt := 81) K dX12_turn_28 (by decide) rfl (fun hc => ?_) (fun hc => ?_)
      · have h := jit hc h
        refine j_sub [0, 1] rfl ?_
        exact b_X12_turn_81 a0 K hrw HR v1 s0 h
      · have h := jif hc h
        refine j_aload_n (pc' := 32) K dX12_turn_31 rfl 0 rfl rfl ?_
        refine j_iload_n (pc' := 33) K dX12_turn_32 rfl 1 rfl rfl ?_
        refine j_iload_n (pc' := 34) K dX12_turn_33 rfl 2 rfl rfl ?_
        obtain ⟨r34, hr34, h⟩ := jbd_some h
        refine j_rw (pc' := 37) (ws' := (wM (jg E) a0 (r34.2))) K (fun H hP => jrun_V K dX12_turn_34 (M_X12_areMade (jl E) (jg E) a0 v1 v2 s0 hr34) u_5_68 u_5_65 u_5_67 u_p_38 u_1_13 ⟨ok_X12_areMade, by decide, by decide⟩ rfl (Nat.le_of_ble_eq_true rfl) 0 rfl rfl H hP) hrw [0, 1, 2, 3, 4, 5, 6, 7, 8, 9, 10, 11, 12, 13, 14, 15, 16] rfl (cl_56_s ..) rfl (cl_56_m ..) (ad_M ..) rfl ?_
        refine j_if_ne (pc' := 40) (tgt := 43) K dX12_turn_37 (by decide) rfl (fun hc => ?_) (fun hc => ?_)
        · have h := jif hc h
          refine j_aload_n (pc' := 44) K dX12_turn_43 rfl 0 rfl rfl ?_
          refine j_get (pc' := 47) K dX12_turn_44 inX12 0 rfl rfl 16 (by decide) u_4_51 rfl rfl rfl ?_
          refine j_iload_n (pc' := 48) K dX12_turn_47 rfl 1 rfl rfl ?_
          refine j_iload_n (pc' := 49) K dX12_turn_48 rfl 2 rfl rfl ?_
          obtain ⟨hg, h⟩ := jgd_some h
          refine j_iast (pc' := 50) (ws' := (wM (jg E) a0 (M_base_s (r34.2) (upd (M_base (r34.2)) (Int32.toNatClampNeg v1) v2)))) K dX12_turn_49 hrw 12 rfl hg (st_M_12 ..) rfl ?_
          refine j_iconst (pc' := 51) (v := (0 : Int32)) K dX12_turn_50 (by decide) rfl ?_
          refine j_istore_n (pc' := 52) (lv' := [(3, .int (0 : Int32)), (0, .ref (a0 0)), (1, .int v1), (2, .int v2)]) K dX12_turn_51 rfl (by decide) rfl rfl ?_
          refine j_sub [1, 2, 0] rfl ?_
          exact b_X12_turn_52 a0 K hrw HR jFU v1 (0 : Int32) (M_base_s (r34.2) (upd (M_base (r34.2)) (Int32.toNatClampNeg v1) v2)) h
        · have h := jit hc h
          refine j_bipush (pc' := 42) (v := (-2 : Int32)) K dX12_turn_40 (by decide) rfl ?_
          obtain rfl := Option.some.inj h
          exact HR _ _ dX12_turn_42
    · have h := jit hc h
      refine j_iconst (pc' := 20) (v := (-1 : Int32)) K dX12_turn_19 (by decide) rfl ?_
      obtain rfl := Option.some.inj h
      exact HR _ _ dX12_turn_20
set_option maxRecDepth 100000 in
set_option maxHeartbeats 4000000 in
theorem M_X12_turn (l : Launch) (G : jG) (a0 : Nat → Nat) (v1 : Int32) (v2 : Int32) (s0 : MS) {r : Int32 × MS} (h : f_X12_turn v1 v2 s0 = some r) : MC l yX12_turn cX12_turn 4 (some .int) 3 G (jad (wM G a0 s0)) True (wM G a0 s0) (wM G a0 (r.2)) [.ref (a0 0), .int v1, .int v2] (some (.int (r.1))) := by
  refine mc_int (by decide +kernel) (Nat.le_of_ble_eq_true rfl) fun E hl hg hA hrw K HR => ?_
  subst hl
  subst hg
  have hrw : jrw E := by rw [hrw]; trivial
  exact b_X12_turn a0 K hrw HR v1 v2 s0 h
theorem ok_X12_valueAt : yX12_valueAt.cls ≠ "java/lang/invoke/MethodHandle" ∧ yX12_valueAt.cls ≠ "java/lang/invoke/VarHandle" ∧ (parseMethodDescriptor yX12_valueAt.desc).map (fun d => d.parameters.length) = some 2 := ⟨by decide, by decide, by decide +kernel⟩
def f_X12_valueAt_108 (k9 : Int32 → Int64 → Int64 → Int64 → Int32 → MS → Option (Int64)) (v1 : Int32) (v2 : Int64) (v4 : Int64) (v8 : Int32) (t0 : Int64) (s0 : MS) : Option (Int64) :=
   k9 v1 v2 v4 t0 (v8 + (1 : Int32)) s0
def f_X12_valueAt_9 : Nat → Int32 → Int64 → Int64 → Int64 → Int32 → MS → Option (Int64)
  | 0, _, _, _, _, _, _ => none
  | n + 1, v1, v2, v4, v6, v8, s0 =>
   if (9 : Int32) ≤ v8 then
   some v4
  else
   jgd (((9 : Int32) * v1) + v8) 36 (
    jgd v1 4 (
     if ((M_base s0) (Int32.toNatClampNeg v1)) = 0 then
      f_X12_valueAt_108 (f_X12_valueAt_9 n) v1 v2 (v4 + (((M_factor s0) (Int32.toNatClampNeg (((9 : Int32) * v1) + v8))) * v6)) v8 (v6 * v2) s0
     else
      jgd v1 4 (
       if ((M_base s0) (Int32.toNatClampNeg v1)) = (1 : Int32) then
        f_X12_valueAt_108 (f_X12_valueAt_9 n) v1 v2 (v4 + (((M_factor s0) (Int32.toNatClampNeg (((9 : Int32) * v1) + v8))) * v6)) v8 (v6 * (v2 - (Int32.toInt64 v8))) s0
       else
        jgd v1 4 (
         if ((M_base s0) (Int32.toNatClampNeg v1)) = (2 : Int32) then
          f_X12_valueAt_108 (f_X12_valueAt_9 n) v1 v2 (v4 + (((M_factor s0) (Int32.toNatClampNeg (((9 : Int32) * v1) + v8))) * v6)) v8 (v6 * (v2 + (Int32.toInt64 v8))) s0
         else
          jnzl (Int32.toInt64 (v8 + (1 : Int32))) (
           f_X12_valueAt_108 (f_X12_valueAt_9 n) v1 v2 (v4 + (((M_factor s0) (Int32.toNatClampNeg (((9 : Int32) * v1) + v8))) * v6)) v8 ((v6 * (v2 - (Int32.toInt64 v8))) / (Int32.toInt64 (v8 + (1 : Int32)))) s0)))))
def f_X12_valueAt (v1 : Int32) (v2 : Int64) (s0 : MS) : Option (Int64) :=
   f_X12_valueAt_9 jFU v1 v2 (0 : Int64) (1 : Int64) (0 : Int32) s0
set_option maxRecDepth 100000 in
set_option maxHeartbeats 4000000 in
theorem b_X12_valueAt_108 {E : jE} (a0 : Nat → Nat) (s0 : MS) {res : Int64} (K : jC E cX12_valueAt 9 RX12 0) (HR : jRL E cX12_valueAt 9 (wM (jg E) a0 s0) res) (k9 : Int32 → Int64 → Int64 → Int64 → Int32 → MS → Option (Int64)) (hk9 : ∀ (v1 : Int32) (v2 : Int64) (v4 : Int64) (v6 : Int64) (v8 : Int32), k9 v1 v2 v4 v6 v8 s0 = some res → J E 9 (wM (jg E) a0 s0) 9 [(0, .ref (a0 0)), (1, .int v1), (2, .long v2), (4, .long v4), (6, .long v6), (8, .int v8)] []) : ∀ (v1 : Int32) (v2 : Int64) (v4 : Int64) (v8 : Int32) (t0 : Int64), f_X12_valueAt_108 k9 v1 v2 v4 v8 t0 s0 = some res → J E 9 (wM (jg E) a0 s0) 108 [(0, .ref (a0 0)), (1, .int v1), (2, .long v2), (4, .long v4), (8, .int v8)] [.long t0] := by
  intro v1 v2 v4 v8 t0 h
  unfold f_X12_valueAt_108 at h
  refine j_lstore (pc' := 110) (lv' := [(6, .long t0), (0, .ref (a0 0)), (1, .int v1), (2, .long v2), (4, .long v4), (8, .int v8)]) K dX12_valueAt_108 (by decide) rfl rfl ?_
  refine j_iinc (pc' := 113) (j := 5) (v := (v8 + (1 : Int32))) (lv' := [(8, .int (v8 + (1 : Int32))), (6, .long t0), (0, .ref (a0 0)), (1, .int v1), (2, .long v2), (4, .long v4)]) K dX12_valueAt_110 rfl rfl (by decide) rfl rfl ?_
  refine j_goto (tgt := 9) K dX12_valueAt_113 (by decide) ?_
  refine j_sub [2, 3, 4, 5, 1, 0] rfl ?_
  exact hk9 v1 v2 v4 t0 (v8 + (1 : Int32)) h
set_option maxRecDepth 100000 in
set_option maxHeartbeats 4000000 in
theorem b_X12_valueAt_9 {E : jE} (a0 : Nat → Nat) (s0 : MS) {res : Int64} (K : jC E cX12_valueAt 9 RX12 0) (HR : jRL E cX12_valueAt 9 (wM (jg E) a0 s0) res) : ∀ (n : Nat) (v1 : Int32) (v2 : Int64) (v4 : Int64) (v6 : Int64) (v8 : Int32), f_X12_valueAt_9 n v1 v2 v4 v6 v8 s0 = some res → J E 9 (wM (jg E) a0 s0) 9 [(0, .ref (a0 0)), (1, .int v1), (2, .long v2), (4, .long v4), (6, .long v6), (8, .int v8)] [] := by
  intro n
  induction n with
  | zero => intro _ _ _ _ _ h; cases h
  | succ n ih =>
    intro v1 v2 v4 v6 v8 h
    rw [f_X12_valueAt_9] at h
    refine j_iload (pc' := 11) K dX12_valueAt_9 5 rfl rfl ?_
    refine j_bipush (pc' := 13) (v := (9 : Int32)) K dX12_valueAt_11 (by decide) rfl ?_
    refine j_icmp_ge (pc' := 16) (tgt := 116) K dX12_valueAt_13 (by decide) rfl (fun hc => ?_) (fun hc => ?_)
    · have h := jit hc h
      refine j_lload (pc' := 118) K dX12_valueAt_116 3 rfl rfl ?_
      obtain rfl := Option.some.inj h
      exact HR _ _ dX12_valueAt_118
    · have h := jif hc h
      refine j_lload (pc' := 18) K dX12_valueAt_16 3 rfl rfl ?_
      refine j_aload_n (pc' := 19) K dX12_valueAt_18 rfl 0 rfl rfl ?_
      refine j_get (pc' := 22) K dX12_valueAt_19 inX12 0 rfl rfl 17 (by decide) u_4_52 rfl rfl rfl ?_
      refine j_bipush (pc' := 24) (v := (9 : Int32)) K dX12_valueAt_22 (by decide) rfl ?_
      refine j_iload_n (pc' := 25) K dX12_valueAt_24 rfl 1 rfl rfl ?_
      refine j_imul (pc' := 26) K dX12_valueAt_25 rfl ?_
      refine j_iload (pc' := 28) K dX12_valueAt_26 5 rfl rfl ?_
      refine j_iadd (pc' := 29) K dX12_valueAt_28 rfl ?_
      obtain ⟨hg, h⟩ := jgd_some h
      refine j_lald (pc' := 30) K dX12_valueAt_29 13 rfl hg rfl ?_
      refine j_lload (pc' := 32) K dX12_valueAt_30 4 rfl rfl ?_
      refine j_lmul (pc' := 33) K dX12_valueAt_32 rfl ?_
      refine j_ladd (pc' := 34) K dX12_valueAt_33 rfl ?_
      refine j_lstore (pc' := 36) (lv' := [(4, .long (v4 + (((M_factor s0) (Int32.toNatClampNeg (((9 : Int32) * v1) + v8))) * v6))), (0, .ref (a0 0)), (1, .int v1), (2, .long v2), (6, .long v6), (8, .int v8)]) K dX12_valueAt_34 (by decide) rfl rfl ?_
      refine j_aload_n (pc' := 37) K dX12_valueAt_36 rfl 1 rfl rfl ?_
      refine j_get (pc' := 40) K dX12_valueAt_37 inX12 0 rfl rfl 16 (by decide) u_4_51 rfl rfl rfl ?_
      refine j_iload_n (pc' := 41) K dX12_valueAt_40 rfl 2 rfl rfl ?_
      obtain ⟨hg, h⟩ := jgd_some h
      refine j_iald (pc' := 42) K dX12_valueAt_41 12 rfl hg rfl ?_
      refine j_if_ne (pc' := 45) (tgt := 52) K dX12_valueAt_42 (by decide) rfl (fun hc => ?_) (fun hc => ?_)
      · have h := jif hc h
        refine j_aload_n (pc' := 53) K dX12_valueAt_52 rfl 1 rfl rfl ?_
        refine j_get (pc' := 56) K dX12_valueAt_53 inX12 0 rfl rfl 16 (by decide) u_4_51 rfl rfl rfl ?_
        refine j_iload_n (pc' := 57) K dX12_valueAt_56 rfl 2 rfl rfl ?_
        obtain ⟨hg, h⟩ := jgd_some h
        refine j_iald (pc' := 58) K dX12_valueAt_57 12 rfl hg rfl ?_
        refine j_iconst (pc' := 59) (v := (1 : Int32)) K dX12_valueAt_58 (by decide) rfl ?_
        refine j_icmp_ne (pc' := 62) (tgt := 73) K dX12_valueAt_59 (by decide) rfl (fun hc => ?_) (fun hc => ?_)
        · have h := jif hc h
          refine j_aload_n (pc' := 74) K dX12_valueAt_73 rfl 1 rfl rfl ?_
          refine j_get (pc' := 77) K dX12_valueAt_74 inX12 0 rfl rfl 16 (by decide) u_4_51 rfl rfl rfl ?_
          refine j_iload_n (pc' := 78) K dX12_valueAt_77 rfl 2 rfl rfl ?_
          obtain ⟨hg, h⟩ := jgd_some h
          refine j_iald (pc' := 79) K dX12_valueAt_78 12 rfl hg rfl ?_
          refine j_iconst (pc' := 80) (v := (2 : Int32)) K dX12_valueAt_79 (by decide) rfl ?_
          refine j_icmp_ne (pc' := 83) (tgt := 94) K dX12_valueAt_80 (by decide) rfl (fun hc => ?_) (fun hc => ?_)
          · have h := jif hc h
            refine j_lload (pc' := 96) K dX12_valueAt_94 4 rfl rfl ?_
            refine j_lload_n (pc' := 97) K dX12_valueAt_96 rfl 3 rfl rfl ?_
            refine j_iload (pc' := 99) K dX12_valueAt_97 5 rfl rfl ?_
            refine j_i2l (pc' := 100) K dX12_valueAt_99 rfl ?_
            refine j_lsub (pc' := 101) K dX12_valueAt_100 rfl ?_
            refine j_lmul (pc' := 102) K dX12_valueAt_101 rfl ?_
            refine j_iload (pc' := 104) K dX12_valueAt_102 5 rfl rfl ?_
            refine j_iconst (pc' := 105) (v := (1 : Int32)) K dX12_valueAt_104 (by decide) rfl ?_
            refine j_iadd (pc' := 106) K dX12_valueAt_105 rfl ?_
            refine j_i2l (pc' := 107) K dX12_valueAt_106 rfl ?_
            obtain ⟨hg, h⟩ := jnzl_some h
            refine j_ldiv (pc' := 108) K dX12_valueAt_107 hg rfl ?_
            refine j_sub [1, 2, 3, 0, 5] rfl ?_
            exact b_X12_valueAt_108 a0 s0 K HR (f_X12_valueAt_9 n) (ih) v1 v2 (v4 + (((M_factor s0) (Int32.toNatClampNeg (((9 : Int32) * v1) + v8))) * v6)) v8 ((v6 * (v2 - (Int32.toInt64 v8))) / (Int32.toInt64 (v8 + (1 : Int32)))) h
          · have h := jit hc h
            refine j_lload (pc' := 85) K dX12_valueAt_83 4 rfl rfl ?_
            refine j_lload_n (pc' := 86) K dX12_valueAt_85 rfl 3 rfl rfl ?_
            refine j_iload (pc' := 88) K dX12_valueAt_86 5 rfl rfl ?_
            refine j_i2l (pc' := 89) K dX12_valueAt_88 rfl ?_
            refine j_ladd (pc' := 90) K dX12_valueAt_89 rfl ?_
            refine j_lmul (pc' := 91) K dX12_valueAt_90 rfl ?_
            refine j_goto (tgt := 108) K dX12_valueAt_91 (by decide) ?_
            refine j_sub [1, 2, 3, 0, 5] rfl ?_
            exact b_X12_valueAt_108 a0 s0 K HR (f_X12_valueAt_9 n) (ih) v1 v2 (v4 + (((M_factor s0) (Int32.toNatClampNeg (((9 : Int32) * v1) + v8))) * v6)) v8 (v6 * (v2 + (Int32.toInt64 v8))) h
        · have h := jit hc h
          refine j_lload (pc' := 64) K dX12_valueAt_62 4 rfl rfl ?_
          refine j_lload_n (pc' := 65) K dX12_valueAt_64 rfl 3 rfl rfl ?_
          refine j_iload (pc' := 67) K dX12_valueAt_65 5 rfl rfl ?_
          refine j_i2l (pc' := 68) K dX12_valueAt_67 rfl ?_
          refine j_lsub (pc' := 69) K dX12_valueAt_68 rfl ?_
          refine j_lmul (pc' := 70) K dX12_valueAt_69 rfl ?_
          refine j_goto (tgt := 108) K dX12_valueAt_70 (by decide) ?_
          refine j_sub [1, 2, 3, 0, 5] rfl ?_
          exact b_X12_valueAt_108 a0 s0 K HR (f_X12_valueAt_9 n) (ih) v1 v2 (v4 + (((M_factor s0) (Int32.toNatClampNeg (((9 : Int32) * v1) + v8))) * v6)) v8 (v6 * (v2 - (Int32.toInt64 v8))) h
      · have h := jit hc h
        refine j_lload (pc' := 47) K dX12_valueAt_45 4 rfl rfl ?_
        refine j_lload_n (pc' := 48) K dX12_valueAt_47 rfl 3 rfl rfl ?_
        refine j_lmul (pc' := 49) K dX12_valueAt_48 rfl ?_
        refine j_goto (tgt := 108) K dX12_valueAt_49 (by decide) ?_
        refine j_sub [1, 2, 3, 0, 5] rfl ?_
        exact b_X12_valueAt_108 a0 s0 K HR (f_X12_valueAt_9 n) (ih) v1 v2 (v4 + (((M_factor s0) (Int32.toNatClampNeg (((9 : Int32) * v1) + v8))) * v6)) v8 (v6 * v2) h
set_option maxRecDepth 100000 in
set_option maxHeartbeats 4000000 in
theorem b_X12_valueAt {E : jE} (a0 : Nat → Nat) (s0 : MS) {res : Int64} (K : jC E cX12_valueAt 9 RX12 0) (HR : jRL E cX12_valueAt 9 (wM (jg E) a0 s0) res) : ∀ (v1 : Int32) (v2 : Int64), f_X12_valueAt v1 v2 s0 = some res → J E 9 (wM (jg E) a0 s0) 0 [(0, .ref (a0 0)), (1, .int v1), (2, .long v2)] [] := by
  intro v1 v2 h
  unfold f_X12_valueAt at h
  refine j_lconst (pc' := 1) (v := (0 : Int64)) K dX12_valueAt_0 (by decide) rfl ?_
  refine j_lstore (pc' := 3) (lv' := [(4, .long (0 : Int64)), (0, .ref (a0 0)), (1, .int v1), (2, .long v2)]) K dX12_valueAt_1 (by decide) rfl rfl ?_
  refine j_lconst (pc' := 4) (v := (1 : Int64)) K dX12_valueAt_3 (by decide) rfl ?_
  refine j_lstore (pc' := 6) (lv' := [(6, .long (1 : Int64)), (4, .long (0 : Int64)), (0, .ref (a0 0)), (1, .int v1), (2, .long v2)]) K dX12_valueAt_4 (by decide) rfl rfl ?_
  refine j_iconst (pc' := 7) (v := (0 : Int32)) K dX12_valueAt_6 (by decide) rfl ?_
  refine j_istore (pc' := 9) (lv' := [(8, .int (0 : Int32)), (6, .long (1 : Int64)), (4, .long (0 : Int64)), (0, .ref (a0 0)), (1, .int v1), (2, .long v2)]) K dX12_valueAt_7 (by decide) rfl rfl ?_
  refine j_sub [3, 4, 5, 2, 1, 0] rfl ?_
  exact b_X12_valueAt_9 a0 s0 K HR jFU v1 v2 (0 : Int64) (1 : Int64) (0 : Int32) h
set_option maxRecDepth 100000 in
set_option maxHeartbeats 4000000 in
theorem M_X12_valueAt (l : Launch) (G : jG) (a0 : Nat → Nat) (v1 : Int32) (v2 : Int64) (s0 : MS) {r : Int64} (h : f_X12_valueAt v1 v2 s0 = some r) : MC l yX12_valueAt cX12_valueAt 9 (some .long) 0 G jNo False (wM G a0 s0) (wM G a0 s0) [.ref (a0 0), .int v1, .long v2] (some (.long r)) := by
  refine mc_long (by decide +kernel) (Nat.le_of_ble_eq_true rfl) fun E hl hg hA hrw K HR => ?_
  subst hl
  subst hg
  exact b_X12_valueAt a0 s0 K HR v1 v2 h
theorem ok_X12_value : yX12_value.cls ≠ "java/lang/invoke/MethodHandle" ∧ yX12_value.cls ≠ "java/lang/invoke/VarHandle" ∧ (parseMethodDescriptor yX12_value.desc).map (fun d => d.parameters.length) = some 3 := ⟨by decide, by decide, by decide +kernel⟩
def f_X12_value_126 (s0 : MS) : Option (Int64 × MS) :=
   jgd (0 : Int32) 9 (
   some (((M_table s0) (Int32.toNatClampNeg (0 : Int32))), s0))
def f_X12_value_120 (k72 : Int32 → Int32 → MS → Option (Int64 × MS)) (v3 : Int32) (v4 : Int32) (s0 : MS) : Option (Int64 × MS) :=
   k72 v3 (v4 + (1 : Int32)) s0
def f_X12_value_81 (k72 : Int32 → Int32 → MS → Option (Int64 × MS)) : Nat → Int32 → Int32 → Int32 → MS → Option (Int64 × MS)
  | 0, _, _, _, _ => none
  | n + 1, v3, v4, v5, s0 =>
   if (v3 - v4) ≤ v5 then
   f_X12_value_120 k72 v3 v4 s0
  else
   jgd (v5 + (1 : Int32)) 9 (
    jgd v5 9 (
     jgd v5 9 (
      (f_X12_value_81 k72 n) v3 v4 (v5 + (1 : Int32)) (M_table_s s0 (vp_updL (M_table s0) (Int32.toNatClampNeg v5) (((M_table s0) (Int32.toNatClampNeg (v5 + (1 : Int32)))) - ((M_table s0) (Int32.toNatClampNeg v5))))))))
def f_X12_value_72 : Nat → Int32 → Int32 → MS → Option (Int64 × MS)
  | 0, _, _, _ => none
  | n + 1, v3, v4, s0 =>
   if v3 ≤ v4 then
   f_X12_value_126 s0
  else
   f_X12_value_81 (f_X12_value_72 n) jFU v3 v4 (0 : Int32) s0
def f_X12_value_69 (v3 : Int32) (s0 : MS) : Option (Int64 × MS) :=
   f_X12_value_72 jFU v3 (0 : Int32) s0
def f_X12_value_40 : Nat → Int32 → Int32 → Int32 → Int32 → MS → Option (Int64 × MS)
  | 0, _, _, _, _, _ => none
  | n + 1, v1, v2, v3, v4, s0 =>
   if v3 < v4 then
   f_X12_value_69 v3 s0
  else
   jbd (f_X12_valueAt v1 (Int32.toInt64 (v2 + v4)) s0) (fun r59 =>
    jgd v4 9 (
     (f_X12_value_40 n) v1 v2 v3 (v4 + (1 : Int32)) (M_table_s s0 (vp_updL (M_table s0) (Int32.toNatClampNeg v4) r59))))
def f_X12_value (v1 : Int32) (v2 : Int32) (v3 : Int32) (s0 : MS) : Option (Int64 × MS) :=
   jbd (f_X12_isPolynomial v1) (fun r1 =>
   if r1 = 0 then
    some ((-1000000000000000001 : Int64), s0)
   else
    jbd (f_X12_in (Int32.toInt64 v2) (-20 : Int64) (20 : Int64)) (fun r15 =>
     if r15 = 0 then
      some ((-1000000000000000001 : Int64), s0)
     else
      jbd (f_X12_in (Int32.toInt64 v3) (0 : Int64) (8 : Int64)) (fun r27 =>
       if r27 = 0 then
        some ((-1000000000000000001 : Int64), s0)
       else
        f_X12_value_40 jFU v1 v2 v3 (0 : Int32) s0)))
set_option maxRecDepth 100000 in
set_option maxHeartbeats 4000000 in
theorem b_X12_value_126 {E : jE} (a0 : Nat → Nat) {res : Int64 × MS} (K : jC E cX12_value 6 RX12 2) (hrw : jrw E) (HR : jRL E cX12_value 6 (wM (jg E) a0 (res.2)) (res.1)) : ∀ (s0 : MS), f_X12_value_126 s0 = some res → J E 6 (wM (jg E) a0 s0) 126 [(0, .ref (a0 0))] [] := by
  intro s0 h
  unfold f_X12_value_126 at h
  refine j_aload_n (pc' := 127) K dX12_value_126 rfl 0 rfl rfl ?_
  refine j_get (pc' := 130) K dX12_value_127 inX12 0 rfl rfl 20 (by decide) u_4_55 rfl rfl rfl ?_
  refine j_iconst (pc' := 131) (v := (0 : Int32)) K dX12_value_130 (by decide) rfl ?_
  obtain ⟨hg, h⟩ := jgd_some h
  refine j_lald (pc' := 132) K dX12_value_131 16 rfl hg rfl ?_
  obtain rfl := Option.some.inj h
  exact HR _ _ dX12_value_132
set_option maxRecDepth 100000 in
set_option maxHeartbeats 4000000 in
theorem b_X12_value_120 {E : jE} (a0 : Nat → Nat) {res : Int64 × MS} (K : jC E cX12_value 6 RX12 2) (hrw : jrw E) (HR : jRL E cX12_value 6 (wM (jg E) a0 (res.2)) (res.1)) (k72 : Int32 → Int32 → MS → Option (Int64 × MS)) (hk72 : ∀ (v3 : Int32) (v4 : Int32) (s0 : MS), k72 v3 v4 s0 = some res → J E 6 (wM (jg E) a0 s0) 72 [(0, .ref (a0 0)), (3, .int v3), (4, .int v4)] []) : ∀ (v3 : Int32) (v4 : Int32) (s0 : MS), f_X12_value_120 k72 v3 v4 s0 = some res → J E 6 (wM (jg E) a0 s0) 120 [(0, .ref (a0 0)), (3, .int v3), (4, .int v4)] [] := by
  intro v3 v4 s0 h
  unfold f_X12_value_120 at h
  refine j_iinc (pc' := 123) (j := 2) (v := (v4 + (1 : Int32))) (lv' := [(4, .int (v4 + (1 : Int32))), (0, .ref (a0 0)), (3, .int v3)]) K dX12_value_120 rfl rfl (by decide) rfl rfl ?_
  refine j_goto (tgt := 72) K dX12_value_123 (by decide) ?_
  refine j_sub [1, 2, 0] rfl ?_
  exact hk72 v3 (v4 + (1 : Int32)) s0 h
set_option maxRecDepth 100000 in
set_option maxHeartbeats 4000000 in
theorem b_X12_value_81 {E : jE} (a0 : Nat → Nat) {res : Int64 × MS} (K : jC E cX12_value 6 RX12 2) (hrw : jrw E) (HR : jRL E cX12_value 6 (wM (jg E) a0 (res.2)) (res.1)) (k72 : Int32 → Int32 → MS → Option (Int64 × MS)) (hk72 : ∀ (v3 : Int32) (v4 : Int32) (s0 : MS), k72 v3 v4 s0 = some res → J E 6 (wM (jg E) a0 s0) 72 [(0, .ref (a0 0)), (3, .int v3), (4, .int v4)] []) : ∀ (n : Nat) (v3 : Int32) (v4 : Int32) (v5 : Int32) (s0 : MS), f_X12_value_81 k72 n v3 v4 v5 s0 = some res → J E 6 (wM (jg E) a0 s0) 81 [(0, .ref (a0 0)), (3, .int v3), (4, .int v4), (5, .int v5)] [] := by
  intro n
  induction n with
  | zero => intro _ _ _ _ h; cases h
  | succ n ih =>
    intro v3 v4 v5 s0 h
    rw [f_X12_value_81] at h
    refine j_iload (pc' := 83) K dX12_value_81 3 rfl rfl ?_
    refine j_iload_n (pc' := 84) K dX12_value_83 rfl 1 rfl rfl ?_
    refine j_iload (pc' := 86) K dX12_value_84 2 rfl rfl ?_
    refine j_isub (pc' := 87) K dX12_value_86 rfl ?_
    refine j_icmp_ge (pc' := 90) (tgt := 120) K dX12_value_87 (by decide) rfl (fun hc => ?_) (fun hc => ?_)
    · have h := jit hc h
      refine j_sub [0, 1, 2] rfl ?_
      exact b_X12_value_120 a0 K hrw HR k72 hk72 v3 v4 s0 h
    · have h := jif hc h
      refine j_aload_n (pc' := 91) K dX12_value_90 rfl 0 rfl rfl ?_
      refine j_get (pc' := 94) K dX12_value_91 inX12 0 rfl rfl 20 (by decide) u_4_55 rfl rfl rfl ?_
      refine j_iload (pc' := 96) K dX12_value_94 3 rfl rfl ?_
      refine j_aload_n (pc' := 97) K dX12_value_96 rfl 0 rfl rfl ?_
      refine j_get (pc' := 100) K dX12_value_97 inX12 0 rfl rfl 20 (by decide) u_4_55 rfl rfl rfl ?_
      refine j_iload (pc' := 102) K dX12_value_100 3 rfl rfl ?_
      refine j_iconst (pc' := 103) (v := (1 : Int32)) K dX12_value_102 (by decide) rfl ?_
      refine j_iadd (pc' := 104) K dX12_value_103 rfl ?_
      obtain ⟨hg, h⟩ := jgd_some h
      refine j_lald (pc' := 105) K dX12_value_104 16 rfl hg rfl ?_
      refine j_aload_n (pc' := 106) K dX12_value_105 rfl 0 rfl rfl ?_
      refine j_get (pc' := 109) K dX12_value_106 inX12 0 rfl rfl 20 (by decide) u_4_55 rfl rfl rfl ?_
      refine j_iload (pc' := 111) K dX12_value_109 3 rfl rfl ?_
      obtain ⟨hg, h⟩ := jgd_some h
      refine j_lald (pc' := 112) K dX12_value_111 16 rfl hg rfl ?_
      refine j_lsub (pc' := 113) K dX12_value_112 rfl ?_
      obtain ⟨hg, h⟩ := jgd_some h
      refine j_last (pc' := 114) (ws' := (wM (jg E) a0 (M_table_s s0 (vp_updL (M_table s0) (Int32.toNatClampNeg v5) (((M_table s0) (Int32.toNatClampNeg (v5 + (1 : Int32)))) - ((M_table s0) (Int32.toNatClampNeg v5))))))) K dX12_value_113 hrw 16 rfl hg (st_M_16 ..) rfl ?_
      refine j_iinc (pc' := 117) (j := 3) (v := (v5 + (1 : Int32))) (lv' := [(5, .int (v5 + (1 : Int32))), (0, .ref (a0 0)), (3, .int v3), (4, .int v4)]) K dX12_value_114 rfl rfl (by decide) rfl rfl ?_
      refine j_goto (tgt := 81) K dX12_value_117 (by decide) ?_
      refine j_sub [1, 2, 3, 0] rfl ?_
      exact ih v3 v4 (v5 + (1 : Int32)) (M_table_s s0 (vp_updL (M_table s0) (Int32.toNatClampNeg v5) (((M_table s0) (Int32.toNatClampNeg (v5 + (1 : Int32)))) - ((M_table s0) (Int32.toNatClampNeg v5))))) h
set_option maxRecDepth 100000 in
set_option maxHeartbeats 4000000 in
theorem b_X12_value_72 {E : jE} (a0 : Nat → Nat) {res : Int64 × MS} (K : jC E cX12_value 6 RX12 2) (hrw : jrw E) (HR : jRL E cX12_value 6 (wM (jg E) a0 (res.2)) (res.1)) : ∀ (n : Nat) (v3 : Int32) (v4 : Int32) (s0 : MS), f_X12_value_72 n v3 v4 s0 = some res → J E 6 (wM (jg E) a0 s0) 72 [(0, .ref (a0 0)), (3, .int v3), (4, .int v4)] [] := by
  intro n
  induction n with
  | zero => intro _ _ _ h; cases h
  | succ n ih =>
    intro v3 v4 s0 h
    rw [f_X12_value_72] at h
    refine j_iload (pc' := 74) K dX12_value_72 2 rfl rfl ?_
    refine j_iload_n (pc' := 75) K dX12_value_74 rfl 1 rfl rfl ?_
    refine j_icmp_ge (pc' := 78) (tgt := 126) K dX12_value_75 (by decide) rfl (fun hc => ?_) (fun hc => ?_)
    · have h := jit hc h
      refine j_sub [0] rfl ?_
      exact b_X12_value_126 a0 K hrw HR s0 h
    · have h := jif hc h
      refine j_iconst (pc' := 79) (v := (0 : Int32)) K dX12_value_78 (by decide) rfl ?_
      refine j_istore (pc' := 81) (lv' := [(5, .int (0 : Int32)), (0, .ref (a0 0)), (3, .int v3), (4, .int v4)]) K dX12_value_79 (by decide) rfl rfl ?_
      refine j_sub [1, 2, 3, 0] rfl ?_
      exact b_X12_value_81 a0 K hrw HR (f_X12_value_72 n) (ih) jFU v3 v4 (0 : Int32) s0 h
set_option maxRecDepth 100000 in
set_option maxHeartbeats 4000000 in
theorem b_X12_value_69 {E : jE} (a0 : Nat → Nat) {res : Int64 × MS} (K : jC E cX12_value 6 RX12 2) (hrw : jrw E) (HR : jRL E cX12_value 6 (wM (jg E) a0 (res.2)) (res.1)) : ∀ (v3 : Int32) (s0 : MS), f_X12_value_69 v3 s0 = some res → J E 6 (wM (jg E) a0 s0) 69 [(0, .ref (a0 0)), (3, .int v3)] [] := by
  intro v3 s0 h
  unfold f_X12_value_69 at h
  refine j_iconst (pc' := 70) (v := (0 : Int32)) K dX12_value_69 (by decide) rfl ?_
  refine j_istore (pc' := 72) (lv' := [(4, .int (0 : Int32)), (0, .ref (a0 0)), (3, .int v3)]) K dX12_value_70 (by decide) rfl rfl ?_
  refine j_sub [1, 2, 0] rfl ?_
  exact b_X12_value_72 a0 K hrw HR jFU v3 (0 : Int32) s0 h
set_option maxRecDepth 100000 in
set_option maxHeartbeats 4000000 in
theorem b_X12_value_40 {E : jE} (a0 : Nat → Nat) {res : Int64 × MS} (K : jC E cX12_value 6 RX12 2) (hrw : jrw E) (HR : jRL E cX12_value 6 (wM (jg E) a0 (res.2)) (res.1)) : ∀ (n : Nat) (v1 : Int32) (v2 : Int32) (v3 : Int32) (v4 : Int32) (s0 : MS), f_X12_value_40 n v1 v2 v3 v4 s0 = some res → J E 6 (wM (jg E) a0 s0) 40 [(0, .ref (a0 0)), (1, .int v1), (2, .int v2), (3, .int v3), (4, .int v4)] [] := by
  intro n
  induction n with
  | zero => intro _ _ _ _ _ h; cases h
  | succ n ih =>
    intro v1 v2 v3 v4 s0 h
    rw [f_X12_value_40] at h
    refine j_iload (pc' := 42) K dX12_value_40 4 rfl rfl ?_
    refine j_iload_n (pc' := 43) K dX12_value_42 rfl 3 rfl rfl ?_
    refine j_icmp_gt (pc' := 46) (tgt := 69) K dX12_value_43 (by decide) rfl (fun hc => ?_) (fun hc => ?_)
    · have h := jit hc h
      refine j_sub [0, 3] rfl ?_
      exact b_X12_value_69 a0 K hrw HR v3 s0 h
    · have h := jif hc h
      refine j_aload_n (pc' := 47) K dX12_value_46 rfl 0 rfl rfl ?_
      refine j_get (pc' := 50) K dX12_value_47 inX12 0 rfl rfl 20 (by decide) u_4_55 rfl rfl rfl ?_
      refine j_iload (pc' := 52) K dX12_value_50 4 rfl rfl ?_
      refine j_aload_n (pc' := 53) K dX12_value_52 rfl 0 rfl rfl ?_
      refine j_iload_n (pc' := 54) K dX12_value_53 rfl 1 rfl rfl ?_
      refine j_iload_n (pc' := 55) K dX12_value_54 rfl 2 rfl rfl ?_
      refine j_iload (pc' := 57) K dX12_value_55 4 rfl rfl ?_
      refine j_iadd (pc' := 58) K dX12_value_57 rfl ?_
      refine j_i2l (pc' := 59) K dX12_value_58 rfl ?_
      obtain ⟨r59, hr59, h⟩ := jbd_some h
      refine j_ro (pc' := 62) K (fun H hP => jrun_V K dX12_value_59 (M_X12_valueAt (jl E) (jg E) a0 v1 (Int32.toInt64 (v2 + v4)) s0 hr59) u_5_98 u_5_95 u_5_97 u_p_43 u_1_13 ⟨ok_X12_valueAt, by decide, by decide⟩ rfl (Nat.le_of_ble_eq_true rfl) 0 rfl rfl H hP) [0, 1, 2, 3, 4, 5, 6, 7, 8, 9, 10, 11, 12, 13, 14, 15, 16] (cl_55_f ..) rfl ?_
      obtain ⟨hg, h⟩ := jgd_some h
      refine j_last (pc' := 63) (ws' := (wM (jg E) a0 (M_table_s s0 (vp_updL (M_table s0) (Int32.toNatClampNeg v4) r59)))) K dX12_value_62 hrw 16 rfl hg (st_M_16 ..) rfl ?_
      refine j_iinc (pc' := 66) (j := 4) (v := (v4 + (1 : Int32))) (lv' := [(4, .int (v4 + (1 : Int32))), (0, .ref (a0 0)), (1, .int v1), (2, .int v2), (3, .int v3)]) K dX12_value_63 rfl rfl (by decide) rfl rfl ?_
      refine j_goto (tgt := 40) K dX12_value_66 (by decide) ?_
      refine j_sub [1, 2, 3, 4, 0] rfl ?_
      exact ih v1 v2 v3 (v4 + (1 : Int32)) (M_table_s s0 (vp_updL (M_table s0) (Int32.toNatClampNeg v4) r59)) h
set_option maxRecDepth 100000 in
set_option maxHeartbeats 4000000 in
theorem b_X12_value {E : jE} (a0 : Nat → Nat) {res : Int64 × MS} (K : jC E cX12_value 6 RX12 2) (hrw : jrw E) (HR : jRL E cX12_value 6 (wM (jg E) a0 (res.2)) (res.1)) : ∀ (v1 : Int32) (v2 : Int32) (v3 : Int32) (s0 : MS), f_X12_value v1 v2 v3 s0 = some res → J E 6 (wM (jg E) a0 s0) 0 [(0, .ref (a0 0)), (1, .int v1), (2, .int v2), (3, .int v3)] [] := by
  intro v1 v2 v3 s0 h
  unfold f_X12_value at h
  refine j_iload_n (pc' := 1) K dX12_value_0 rfl 1 rfl rfl ?_
  obtain ⟨r1, hr1, h⟩ := jbd_some h
  refine j_ro (pc' := 4) K (fun H hP => jrun_S K dX12_value_1 (M_X12_isPolynomial (jl E) (jg E) v1 hr1) u_5_42 u_5_40 u_5_41 u_1_13 ⟨ok_X12_isPolynomial, by decide, by decide⟩ rfl (Nat.le_of_ble_eq_true rfl) H) [] rfl rfl ?_
  refine j_if_eq (pc' := 7) (tgt := 33) K dX12_value_4 (by decide) rfl (fun hc => ?_) (fun hc => ?_)
  · have h := jit hc h
    refine j_ldc2 (pc' := 36) K dX12_value_33 u_4_147 rfl ?_
    obtain rfl := Option.some.inj h
    exact HR _ _ dX12_value_36
  · have h := jif hc h
    refine j_iload_n (pc' := 8) K dX12_value_7 rfl 2 rfl rfl ?_
    refine j_i2l (pc' := 9) K dX12_value_8 rfl ?_
    refine j_ldc2 (pc' := 12) K dX12_value_9 u_5_93 rfl ?_
    refine j_ldc2 (pc' := 15) K dX12_value_12 u_5_94 rfl ?_
    obtain ⟨r15, hr15, h⟩ := jbd_some h
    refine j_ro (pc' := 18) K (fun H hP => jrun_S K dX12_value_15 (M_X12_in (jl E) (jg E) (Int32.toInt64 v2) (-20 : Int64) (20 : Int64) hr15) u_4_107 u_4_105 u_4_106 u_1_13 ⟨ok_X12_in, by decide, by decide⟩ rfl (Nat.le_of_ble_eq_true rfl) H) [] rfl rfl ?_
    refine j_if_eq (pc' := 21) (tgt := 33) K dX12_value_18 (by decide) rfl (fun hc => ?_) (fun hc => ?_)
    · have h := jit hc h
      refine j_ldc2 (pc' := 36) K dX12_value_33 u_4_147 rfl ?_
      obtain rfl := Option.some.inj h
      exact HR _ _ dX12_value_36
    · have h := jif hc h
      refine j_iload_n (pc' := 22) K dX12_value_21 rfl 3 rfl rfl ?_
      refine j_i2l (pc' := 23) K dX12_value_22 rfl ?_
      refine j_lconst (pc' := 24) (v := (0 : Int64)) K dX12_value_23 (by decide) rfl ?_
      refine j_ldc2 (pc' := 27) K dX12_value_24 u_4_104 rfl ?_
      obtain ⟨r27, hr27, h⟩ := jbd_some h
      refine j_ro (pc' := 30) K (fun H hP => jrun_S K dX12_value_27 (M_X12_in (jl E) (jg E) (Int32.toInt64 v3) (0 : Int64) (8 : Int64) hr27) u_4_107 u_4_105 u_4_106 u_1_13 ⟨ok_X12_in, by decide, by decide⟩ rfl (Nat.le_of_ble_eq_true rfl) H) [] rfl rfl ?_
      refine j_if_ne (pc' := 33) (tgt := 37) K dX12_value_30 (by decide) rfl (fun hc => ?_) (fun hc => ?_)
      · have h := jif hc h
        refine j_iconst (pc' := 38) (v := (0 : Int32)) K dX12_value_37 (by decide) rfl ?_
        refine j_istore (pc' := 40) (lv' := [(4, .int (0 : Int32)), (0, .ref (a0 0)), (1, .int v1), (2, .int v2), (3, .int v3)]) K dX12_value_38 (by decide) rfl rfl ?_
        refine j_sub [1, 2, 3, 4, 0] rfl ?_
        exact b_X12_value_40 a0 K hrw HR jFU v1 v2 v3 (0 : Int32) s0 h
      · have h := jit hc h
        refine j_ldc2 (pc' := 36) K dX12_value_33 u_4_147 rfl ?_
        obtain rfl := Option.some.inj h
        exact HR _ _ dX12_value_36
set_option maxRecDepth 100000 in
set_option maxHeartbeats 4000000 in
theorem M_X12_value (l : Launch) (G : jG) (a0 : Nat → Nat) (v1 : Int32) (v2 : Int32) (v3 : Int32) (s0 : MS) {r : Int64 × MS} (h : f_X12_value v1 v2 v3 s0 = some r) : MC l yX12_value cX12_value 6 (some .long) 2 G (jad (wM G a0 s0)) True (wM G a0 s0) (wM G a0 (r.2)) [.ref (a0 0), .int v1, .int v2, .int v3] (some (.long (r.1))) := by
  refine mc_long (by decide +kernel) (Nat.le_of_ble_eq_true rfl) fun E hl hg hA hrw K HR => ?_
  subst hl
  subst hg
  have hrw : jrw E := by rw [hrw]; trivial
  exact b_X12_value a0 K hrw HR v1 v2 v3 s0 h
theorem ok_X12_sumUp : yX12_sumUp.cls ≠ "java/lang/invoke/MethodHandle" ∧ yX12_sumUp.cls ≠ "java/lang/invoke/VarHandle" ∧ (parseMethodDescriptor yX12_sumUp.desc).map (fun d => d.parameters.length) = some 1 := ⟨by decide, by decide, by decide +kernel⟩
def f_X12_sumUp_127 (v1 : Int32) (s0 : MS) : Option (Int32 × MS) :=
   jbd (f_X12_degree v1 s0) (fun r129 =>
   some (r129, s0))
def f_X12_sumUp_120 (k90 : Int32 → Int32 → MS → Option (Int32 × MS)) (v1 : Int32) (v2 : Int32) (t1 : Int32) (t2 : Int64) (s0 : MS) : Option (Int32 × MS) :=
   jgd t1 36 (
   k90 v1 (v2 + (-1 : Int32)) (M_factor_s s0 (vp_updL (M_factor s0) (Int32.toNatClampNeg t1) t2)))
def f_X12_sumUp_90 : Nat → Int32 → Int32 → MS → Option (Int32 × MS)
  | 0, _, _, _ => none
  | n + 1, v1, v2, s0 =>
   if v2 < 0 then
   f_X12_sumUp_127 v1 s0
  else
   if v2 ≤ 0 then
    f_X12_sumUp_120 (f_X12_sumUp_90 n) v1 v2 (((9 : Int32) * v1) + v2) (0 : Int64) s0
   else
    jgd (v2 - (1 : Int32)) 9 (
     f_X12_sumUp_120 (f_X12_sumUp_90 n) v1 v2 (((9 : Int32) * v1) + v2) ((M_made s0) (Int32.toNatClampNeg (v2 - (1 : Int32)))) s0)
def f_X12_sumUp_65 (v1 : Int32) (s0 : MS) : Option (Int32 × MS) :=
   jgd (8 : Int32) 9 (
   if (lg_cmp ((M_made s0) (Int32.toNatClampNeg (8 : Int32))) (0 : Int64)) = 0 then
    jgd v1 4 (
     f_X12_sumUp_90 jFU v1 (8 : Int32) (M_base_s s0 (upd (M_base s0) (Int32.toNatClampNeg v1) (3 : Int32))))
   else
    some ((-2 : Int32), s0))
def f_X12_sumUp_50 (v1 : Int32) (s0 : MS) : Option (Int32 × MS) :=
   f_X12_sumUp_65 v1 s0
def f_X12_sumUp_21 : Nat → Int32 → Int32 → MS → Option (Int32 × MS)
  | 0, _, _, _ => none
  | n + 1, v1, v2, s0 =>
   if (9 : Int32) ≤ v2 then
   f_X12_sumUp_50 v1 s0
  else
   jgd (((9 : Int32) * v1) + v2) 36 (
    jgd v2 9 (
     (f_X12_sumUp_21 n) v1 (v2 + (1 : Int32)) (M_made_s s0 (vp_updL (M_made s0) (Int32.toNatClampNeg v2) ((M_factor s0) (Int32.toNatClampNeg (((9 : Int32) * v1) + v2)))))))
def f_X12_sumUp (v1 : Int32) (s0 : MS) : Option (Int32 × MS) :=
   jbd (f_X12_isPolynomial v1) (fun r1 =>
   if r1 = 0 then
    some ((-1 : Int32), s0)
   else
    jgd v1 4 (
     if ((M_base s0) (Int32.toNatClampNeg v1)) = (3 : Int32) then
      f_X12_sumUp_21 jFU v1 (0 : Int32) s0
     else
      jbd (f_X12_areMade v1 (3 : Int32) s0) (fun r56 =>
       if (r56.1) = 0 then
        some ((-2 : Int32), (r56.2))
       else
        f_X12_sumUp_65 v1 (r56.2))))
set_option maxRecDepth 100000 in
set_option maxHeartbeats 4000000 in
theorem b_X12_sumUp_127 {E : jE} (a0 : Nat → Nat) {res : Int32 × MS} (K : jC E cX12_sumUp 3 RX12 3) (hrw : jrw E) (HR : jRI E cX12_sumUp 3 (wM (jg E) a0 (res.2)) (res.1)) : ∀ (v1 : Int32) (s0 : MS), f_X12_sumUp_127 v1 s0 = some res → J E 3 (wM (jg E) a0 s0) 127 [(0, .ref (a0 0)), (1, .int v1)] [] := by
  intro v1 s0 h
  unfold f_X12_sumUp_127 at h
  refine j_aload_n (pc' := 128) K dX12_sumUp_127 rfl 0 rfl rfl ?_
  refine j_iload_n (pc' := 129) K dX12_sumUp_128 rfl 1 rfl rfl ?_
  obtain ⟨r129, hr129, h⟩ := jbd_some h
  refine j_ro (pc' := 132) K (fun H hP => jrun_V K dX12_sumUp_129 (M_X12_degree (jl E) (jg E) a0 v1 s0 hr129) u_5_60 u_5_57 u_5_59 u_p_37 u_1_13 ⟨ok_X12_degree, by decide, by decide⟩ rfl (Nat.le_of_ble_eq_true rfl) 0 rfl rfl H hP) [0, 1, 2, 3, 4, 5, 6, 7, 8, 9, 10, 11, 12, 13, 14, 15, 16] (cl_55_f ..) rfl ?_
  obtain rfl := Option.some.inj h
  exact HR _ _ dX12_sumUp_132
set_option maxRecDepth 100000 in
set_option maxHeartbeats 4000000 in
theorem b_X12_sumUp_120 {E : jE} (a0 : Nat → Nat) {res : Int32 × MS} (K : jC E cX12_sumUp 3 RX12 3) (hrw : jrw E) (HR : jRI E cX12_sumUp 3 (wM (jg E) a0 (res.2)) (res.1)) (k90 : Int32 → Int32 → MS → Option (Int32 × MS)) (hk90 : ∀ (v1 : Int32) (v2 : Int32) (s0 : MS), k90 v1 v2 s0 = some res → J E 3 (wM (jg E) a0 s0) 90 [(0, .ref (a0 0)), (1, .int v1), (2, .int v2)] []) : ∀ (v1 : Int32) (v2 : Int32) (t1 : Int32) (t2 : Int64) (s0 : MS), f_X12_sumUp_120 k90 v1 v2 t1 t2 s0 = some res → J E 3 (wM (jg E) a0 s0) 120 [(0, .ref (a0 0)), (1, .int v1), (2, .int v2)] [.long t2, .int t1, .ref (a0 13)] := by
  intro v1 v2 t1 t2 s0 h
  unfold f_X12_sumUp_120 at h
  obtain ⟨hg, h⟩ := jgd_some h
  refine j_last (pc' := 121) (ws' := (wM (jg E) a0 (M_factor_s s0 (vp_updL (M_factor s0) (Int32.toNatClampNeg t1) t2)))) K dX12_sumUp_120 hrw 13 rfl hg (st_M_13 ..) rfl ?_
  refine j_iinc (pc' := 124) (j := 2) (v := (v2 + (-1 : Int32))) (lv' := [(2, .int (v2 + (-1 : Int32))), (0, .ref (a0 0)), (1, .int v1)]) K dX12_sumUp_121 rfl rfl (by decide) rfl rfl ?_
  refine j_goto (tgt := 90) K dX12_sumUp_124 (by decide) ?_
  refine j_sub [1, 2, 0] rfl ?_
  exact hk90 v1 (v2 + (-1 : Int32)) (M_factor_s s0 (vp_updL (M_factor s0) (Int32.toNatClampNeg t1) t2)) h
set_option maxRecDepth 100000 in
set_option maxHeartbeats 4000000 in
theorem b_X12_sumUp_90 {E : jE} (a0 : Nat → Nat) {res : Int32 × MS} (K : jC E cX12_sumUp 3 RX12 3) (hrw : jrw E) (HR : jRI E cX12_sumUp 3 (wM (jg E) a0 (res.2)) (res.1)) : ∀ (n : Nat) (v1 : Int32) (v2 : Int32) (s0 : MS), f_X12_sumUp_90 n v1 v2 s0 = some res → J E 3 (wM (jg E) a0 s0) 90 [(0, .ref (a0 0)), (1, .int v1), (2, .int v2)] [] := by
  intro n
  induction n with
  | zero => intro _ _ _ h; cases h
  | succ n ih =>
    intro v1 v2 s0 h
    rw [f_X12_sumUp_90] at h
    refine j_iload_n (pc' := 91) K dX12_sumUp_90 rfl 2 rfl rfl ?_
    refine j_if_lt (pc' := 94) (tgt := 127) K dX12_sumUp_91 (by decide) rfl (fun hc => ?_) (fun hc => ?_)
    · have h := jit hc h
      refine j_sub [0, 1] rfl ?_
      exact b_X12_sumUp_127 a0 K hrw HR v1 s0 h
    · have h := jif hc h
      refine j_aload_n (pc' := 95) K dX12_sumUp_94 rfl 0 rfl rfl ?_
      refine j_get (pc' := 98) K dX12_sumUp_95 inX12 0 rfl rfl 17 (by decide) u_4_52 rfl rfl rfl ?_
      refine j_bipush (pc' := 100) (v := (9 : Int32)) K dX12_sumUp_98 (by decide) rfl ?_
      refine j_iload_n (pc' := 101) K dX12_sumUp_100 rfl 1 rfl rfl ?_
      refine j_imul (pc' := 102) K dX12_sumUp_101 rfl ?_
      refine j_iload_n (pc' := 103) K dX12_sumUp_102 rfl 2 rfl rfl ?_
      refine j_iadd (pc' := 104) K dX12_sumUp_103 rfl ?_
      refine j_iload_n (pc' := 105) K dX12_sumUp_104 rfl 2 rfl rfl ?_
      refine j_if_le (pc' := 108) (tgt := 119) K dX12_sumUp_105 (by decide) rfl (fun hc => ?_) (fun hc => ?_)
      · have h := jit hc h
        refine j_lconst (pc' := 120) (v := (0 : Int64)) K dX12_sumUp_119 (by decide) rfl ?_
        refine j_sub [0, 1, 2] rfl ?_
        exact b_X12_sumUp_120 a0 K hrw HR (f_X12_sumUp_90 n) (ih) v1 v2 (((9 : Int32) * v1) + v2) (0 : Int64) s0 h
      · have h := jif hc h
        refine j_aload_n (pc' := 109) K dX12_sumUp_108 rfl 0 rfl rfl ?_
        refine j_get (pc' := 112) K dX12_sumUp_109 inX12 0 rfl rfl 19 (by decide) u_4_54 rfl rfl rfl ?_
        refine j_iload_n (pc' := 113) K dX12_sumUp_112 rfl 2 rfl rfl ?_
        refine j_iconst (pc' := 114) (v := (1 : Int32)) K dX12_sumUp_113 (by decide) rfl ?_
        refine j_isub (pc' := 115) K dX12_sumUp_114 rfl ?_
        obtain ⟨hg, h⟩ := jgd_some h
        refine j_lald (pc' := 116) K dX12_sumUp_115 15 rfl hg rfl ?_
        refine j_goto (tgt := 120) K dX12_sumUp_116 (by decide) ?_
        refine j_sub [0, 1, 2] rfl ?_
        exact b_X12_sumUp_120 a0 K hrw HR (f_X12_sumUp_90 n) (ih) v1 v2 (((9 : Int32) * v1) + v2) ((M_made s0) (Int32.toNatClampNeg (v2 - (1 : Int32)))) s0 h
set_option maxRecDepth 100000 in
set_option maxHeartbeats 4000000 in
theorem b_X12_sumUp_65 {E : jE} (a0 : Nat → Nat) {res : Int32 × MS} (K : jC E cX12_sumUp 3 RX12 3) (hrw : jrw E) (HR : jRI E cX12_sumUp 3 (wM (jg E) a0 (res.2)) (res.1)) : ∀ (v1 : Int32) (s0 : MS), f_X12_sumUp_65 v1 s0 = some res → J E 3 (wM (jg E) a0 s0) 65 [(0, .ref (a0 0)), (1, .int v1)] [] := by
  intro v1 s0 h
  unfold f_X12_sumUp_65 at h
  refine j_aload_n (pc' := 66) K dX12_sumUp_65 rfl 0 rfl rfl ?_
  refine j_get (pc' := 69) K dX12_sumUp_66 inX12 0 rfl rfl 19 (by decide) u_4_54 rfl rfl rfl ?_
  refine j_bipush (pc' := 71) (v := (8 : Int32)) K dX12_sumUp_69 (by decide) rfl ?_
  obtain ⟨hg, h⟩ := jgd_some h
  refine j_lald (pc' := 72) K dX12_sumUp_71 15 rfl hg rfl ?_
  refine j_lconst (pc' := 73) (v := (0 : Int64)) K dX12_sumUp_72 (by decide) rfl ?_
  refine j_lcmp (pc' := 74) K dX12_sumUp_73 rfl ?_
  refine j_if_eq (pc' := 77) (tgt := 80) K dX12_sumUp_74 (by decide) rfl (fun hc => ?_) (fun hc => ?_)
  · have h := jit hc h
    refine j_aload_n (pc' := 81) K dX12_sumUp_80 rfl 0 rfl rfl ?_
    refine j_get (pc' := 84) K dX12_sumUp_81 inX12 0 rfl rfl 16 (by decide) u_4_51 rfl rfl rfl ?_
    refine j_iload_n (pc' := 85) K dX12_sumUp_84 rfl 1 rfl rfl ?_
    refine j_iconst (pc' := 86) (v := (3 : Int32)) K dX12_sumUp_85 (by decide) rfl ?_
    obtain ⟨hg, h⟩ := jgd_some h
    refine j_iast (pc' := 87) (ws' := (wM (jg E) a0 (M_base_s s0 (upd (M_base s0) (Int32.toNatClampNeg v1) (3 : Int32))))) K dX12_sumUp_86 hrw 12 rfl hg (st_M_12 ..) rfl ?_
    refine j_bipush (pc' := 89) (v := (8 : Int32)) K dX12_sumUp_87 (by decide) rfl ?_
    refine j_istore_n (pc' := 90) (lv' := [(2, .int (8 : Int32)), (0, .ref (a0 0)), (1, .int v1)]) K dX12_sumUp_89 rfl (by decide) rfl rfl ?_
    refine j_sub [1, 2, 0] rfl ?_
    exact b_X12_sumUp_90 a0 K hrw HR jFU v1 (8 : Int32) (M_base_s s0 (upd (M_base s0) (Int32.toNatClampNeg v1) (3 : Int32))) h
  · have h := jif hc h
    refine j_bipush (pc' := 79) (v := (-2 : Int32)) K dX12_sumUp_77 (by decide) rfl ?_
    obtain rfl := Option.some.inj h
    exact HR _ _ dX12_sumUp_79
set_option maxRecDepth 100000 in
set_option maxHeartbeats 4000000 in
theorem b_X12_sumUp_50 {E : jE} (a0 : Nat → Nat) {res : Int32 × MS} (K : jC E cX12_sumUp 3 RX12 3) (hrw : jrw E) (HR : jRI E cX12_sumUp 3 (wM (jg E) a0 (res.2)) (res.1)) : ∀ (v1 : Int32) (s0 : MS), f_X12_sumUp_50 v1 s0 = some res → J E 3 (wM (jg E) a0 s0) 50 [(0, .ref (a0 0)), (1, .int v1)] [] := by
  intro v1 s0 h
  unfold f_X12_sumUp_50 at h
  refine j_goto (tgt := 65) K dX12_sumUp_50 (by decide) ?_
  refine j_sub [0, 1] rfl ?_
  exact b_X12_sumUp_65 a0 K hrw HR v1 s0 h
set_option maxRecDepth 100000 in
set_option maxHeartbeats 4000000 in
theorem b_X12_sumUp_21 {E : jE} (a0 : Nat → Nat) {res : Int32 × MS} (K : jC E cX12_sumUp 3 RX12 3) (hrw : jrw E) (HR : jRI E cX12_sumUp 3 (wM (jg E) a0 (res.2)) (res.1)) : ∀ (n : Nat) (v1 : Int32) (v2 : Int32) (s0 : MS), f_X12_sumUp_21 n v1 v2 s0 = some res → J E 3 (wM (jg E) a0 s0) 21 [(0, .ref (a0 0)), (1, .int v1), (2, .int v2)] [] := by
  intro n
  induction n with
  | zero => intro _ _ _ h; cases h
  | succ n ih =>
    intro v1 v2 s0 h
    rw [f_X12_sumUp_21] at h
    refine j_iload_n (pc' := 22) K dX12_sumUp_21 rfl 2 rfl rfl ?_
    refine j_bipush (pc' := 24) (v := (9 : Int32)) K dX12_sumUp_22 (by decide) rfl ?_
    refine j_icmp_ge (pc' := 27) (tgt := 50) K dX12_sumUp_24 (by decide) rfl (fun hc => ?_) (fun hc => ?_)
    · have h := jit hc h
      refine j_sub [0, 1] rfl ?_
      exact b_X12_sumUp_50 a0 K hrw HR v1 s0 h
    · have h := jif hc h
      refine j_aload_n (pc' := 28) K dX12_sumUp_27 rfl 0 rfl rfl ?_
      refine j_get (pc' := 31) K dX12_sumUp_28 inX12 0 rfl rfl 19 (by decide) u_4_54 rfl rfl rfl ?_
      refine j_iload_n (pc' := 32) K dX12_sumUp_31 rfl 2 rfl rfl ?_
      refine j_aload_n (pc' := 33) K dX12_sumUp_32 rfl 0 rfl rfl ?_
      refine j_get (pc' := 36) K dX12_sumUp_33 inX12 0 rfl rfl 17 (by decide) u_4_52 rfl rfl rfl ?_
      refine j_bipush (pc' := 38) (v := (9 : Int32)) K dX12_sumUp_36 (by decide) rfl ?_
      refine j_iload_n (pc' := 39) K dX12_sumUp_38 rfl 1 rfl rfl ?_
      refine j_imul (pc' := 40) K dX12_sumUp_39 rfl ?_
      refine j_iload_n (pc' := 41) K dX12_sumUp_40 rfl 2 rfl rfl ?_
      refine j_iadd (pc' := 42) K dX12_sumUp_41 rfl ?_
      obtain ⟨hg, h⟩ := jgd_some h
      refine j_lald (pc' := 43) K dX12_sumUp_42 13 rfl hg rfl ?_
      obtain ⟨hg, h⟩ := jgd_some h
      refine j_last (pc' := 44) (ws' := (wM (jg E) a0 (M_made_s s0 (vp_updL (M_made s0) (Int32.toNatClampNeg v2) ((M_factor s0) (Int32.toNatClampNeg (((9 : Int32) * v1) + v2))))))) K dX12_sumUp_43 hrw 15 rfl hg (st_M_15 ..) rfl ?_
      refine j_iinc (pc' := 47) (j := 2) (v := (v2 + (1 : Int32))) (lv' := [(2, .int (v2 + (1 : Int32))), (0, .ref (a0 0)), (1, .int v1)]) K dX12_sumUp_44 rfl rfl (by decide) rfl rfl ?_
      refine j_goto (tgt := 21) K dX12_sumUp_47 (by decide) ?_
      refine j_sub [1, 2, 0] rfl ?_
      exact ih v1 (v2 + (1 : Int32)) (M_made_s s0 (vp_updL (M_made s0) (Int32.toNatClampNeg v2) ((M_factor s0) (Int32.toNatClampNeg (((9 : Int32) * v1) + v2))))) h
set_option maxRecDepth 100000 in
set_option maxHeartbeats 4000000 in
theorem b_X12_sumUp {E : jE} (a0 : Nat → Nat) {res : Int32 × MS} (K : jC E cX12_sumUp 3 RX12 3) (hrw : jrw E) (HR : jRI E cX12_sumUp 3 (wM (jg E) a0 (res.2)) (res.1)) : ∀ (v1 : Int32) (s0 : MS), f_X12_sumUp v1 s0 = some res → J E 3 (wM (jg E) a0 s0) 0 [(0, .ref (a0 0)), (1, .int v1)] [] := by
  intro v1 s0 h
  unfold f_X12_sumUp at h
  refine j_iload_n (pc' := 1) K dX12_sumUp_0 rfl 1 rfl rfl ?_
  obtain ⟨r1, hr1, h⟩ := jbd_some h
  refine j_ro (pc' := 4) K (fun H hP => jrun_S K dX12_sumUp_1 (M_X12_isPolynomial (jl E) (jg E) v1 hr1) u_5_42 u_5_40 u_5_41 u_1_13 ⟨ok_X12_isPolynomial, by decide, by decide⟩ rfl (Nat.le_of_ble_eq_true rfl) H) [] rfl rfl ?_
  refine j_if_ne (pc' := 7) (tgt := 9) K dX12_sumUp_4 (by decide) rfl (fun hc => ?_) (fun hc => ?_)
  · have h := jif hc h
    refine j_aload_n (pc' := 10) K dX12_sumUp_9 rfl 0 rfl rfl ?_
    refine j_get (pc' := 13) K dX12_sumUp_10 inX12 0 rfl rfl 16 (by decide) u_4_51 rfl rfl rfl ?_
    refine j_iload_n (pc' := 14) K dX12_sumUp_13 rfl 1 rfl rfl ?_
    obtain ⟨hg, h⟩ := jgd_some h
    refine j_iald (pc' := 15) K dX12_sumUp_14 12 rfl hg rfl ?_
    refine j_iconst (pc' := 16) (v := (3 : Int32)) K dX12_sumUp_15 (by decide) rfl ?_
    refine j_icmp_ne (pc' := 19) (tgt := 53) K dX12_sumUp_16 (by decide) rfl (fun hc => ?_) (fun hc => ?_)
    · have h := jif hc h
      refine j_aload_n (pc' := 54) K dX12_sumUp_53 rfl 0 rfl rfl ?_
      refine j_iload_n (pc' := 55) K dX12_sumUp_54 rfl 1 rfl rfl ?_
      refine j_iconst (pc' := 56) (v := (3 : Int32)) K dX12_sumUp_55 (by decide) rfl ?_
      obtain ⟨r56, hr56, h⟩ := jbd_some h
      refine j_rw (pc' := 59) (ws' := (wM (jg E) a0 (r56.2))) K (fun H hP => jrun_V K dX12_sumUp_56 (M_X12_areMade (jl E) (jg E) a0 v1 (3 : Int32) s0 hr56) u_5_68 u_5_65 u_5_67 u_p_38 u_1_13 ⟨ok_X12_areMade, by decide, by decide⟩ rfl (Nat.le_of_ble_eq_true rfl) 0 rfl rfl H hP) hrw [0, 1, 2, 3, 4, 5, 6, 7, 8, 9, 10, 11, 12, 13, 14, 15, 16] rfl (cl_56_s ..) rfl (cl_56_m ..) (ad_M ..) rfl ?_
      refine j_if_ne (pc' := 62) (tgt := 65) K dX12_sumUp_59 (by decide) rfl (fun hc => ?_) (fun hc => ?_)
      · have h := jif hc h
        refine j_sub [0, 1] rfl ?_
        exact b_X12_sumUp_65 a0 K hrw HR v1 (r56.2) h
      · have h := jit hc h
        refine j_bipush (pc' := 64) (v := (-2 : Int32)) K dX12_sumUp_62 (by decide) rfl ?_
        obtain rfl := Option.some.inj h
        exact HR _ _ dX12_sumUp_64
    · have h := jit hc h
      refine j_iconst (pc' := 20) (v := (0 : Int32)) K dX12_sumUp_19 (by decide) rfl ?_
      refine j_istore_n (pc' := 21) (lv' := [(2, .int (0 : Int32)), (0, .ref (a0 0)), (1, .int v1)]) K dX12_sumUp_20 rfl (by decide) rfl rfl ?_
      refine j_sub [1, 2, 0] rfl ?_
      exact b_X12_sumUp_21 a0 K hrw HR jFU v1 (0 : Int32) s0 h
  · have h := jit hc h
    refine j_iconst (pc' := 8) (v := (-1 : Int32)) K dX12_sumUp_7 (by decide) rfl ?_
    obtain rfl := Option.some.inj h
    exact HR _ _ dX12_sumUp_8
set_option maxRecDepth 100000 in
set_option maxHeartbeats 4000000 in
theorem M_X12_sumUp (l : Launch) (G : jG) (a0 : Nat → Nat) (v1 : Int32) (s0 : MS) {r : Int32 × MS} (h : f_X12_sumUp v1 s0 = some r) : MC l yX12_sumUp cX12_sumUp 3 (some .int) 3 G (jad (wM G a0 s0)) True (wM G a0 s0) (wM G a0 (r.2)) [.ref (a0 0), .int v1] (some (.int (r.1))) := by
  refine mc_int (by decide +kernel) (Nat.le_of_ble_eq_true rfl) fun E hl hg hA hrw K HR => ?_
  subst hl
  subst hg
  have hrw : jrw E := by rw [hrw]; trivial
  exact b_X12_sumUp a0 K hrw HR v1 s0 h
theorem ok_X12_root : yX12_root.cls ≠ "java/lang/invoke/MethodHandle" ∧ yX12_root.cls ≠ "java/lang/invoke/VarHandle" ∧ (parseMethodDescriptor yX12_root.desc).map (fun d => d.parameters.length) = some 2 := ⟨by decide, by decide, by decide +kernel⟩
def f_X12_root_59 (v2 : Int32) (v3 : Int32) (s0 : MS) : Option (Int32) :=
   if v2 = (-1 : Int32) then
   some v3
  else
   some (-1004 : Int32)
def f_X12_root_53 (k22 : Int32 → Int32 → Int32 → Int32 → MS → Option (Int32)) (v1 : Int32) (v2 : Int32) (v3 : Int32) (v4 : Int32) (s0 : MS) : Option (Int32) :=
   k22 v1 v2 v3 (v4 + (1 : Int32)) s0
def f_X12_root_22 : Nat → Int32 → Int32 → Int32 → Int32 → MS → Option (Int32)
  | 0, _, _, _, _, _ => none
  | n + 1, v1, v2, v3, v4, s0 =>
   if (21 : Int32) ≤ v4 then
   f_X12_root_59 v2 v3 s0
  else
   jbd (f_X12_valueAt v1 (Int32.toInt64 v4) s0) (fun r34 =>
    if (lg_cmp r34 (0 : Int64)) = 0 then
     if v3 = v2 then
      some v4
     else
      f_X12_root_53 (f_X12_root_22 n) v1 v2 (v3 + (1 : Int32)) v4 s0
    else
     f_X12_root_53 (f_X12_root_22 n) v1 v2 v3 v4 s0)
def f_X12_root (v1 : Int32) (v2 : Int32) (s0 : MS) : Option (Int32) :=
   jbd (f_X12_isPolynomial v1) (fun r1 =>
   if r1 = 0 then
    some (-1001 : Int32)
   else
    if (-1 : Int32) ≤ v2 then
     f_X12_root_22 jFU v1 v2 (0 : Int32) (-20 : Int32) s0
    else
     some (-1001 : Int32))
set_option maxRecDepth 100000 in
set_option maxHeartbeats 4000000 in
theorem b_X12_root_59 {E : jE} (a0 : Nat → Nat) (s0 : MS) {res : Int32} (K : jC E cX12_root 5 RX12 2) (HR : jRI E cX12_root 5 (wM (jg E) a0 s0) res) : ∀ (v2 : Int32) (v3 : Int32), f_X12_root_59 v2 v3 s0 = some res → J E 5 (wM (jg E) a0 s0) 59 [(2, .int v2), (3, .int v3)] [] := by
  intro v2 v3 h
  unfold f_X12_root_59 at h
  refine j_iload_n (pc' := 60) K dX12_root_59 rfl 0 rfl rfl ?_
  refine j_iconst (pc' := 61) (v := (-1 : Int32)) K dX12_root_60 (by decide) rfl ?_
  refine j_icmp_ne (pc' := 64) (tgt := 68) K dX12_root_61 (by decide) rfl (fun hc => ?_) (fun hc => ?_)
  · have h := jif hc h
    refine j_sipush (pc' := 71) (v := (-1004 : Int32)) K dX12_root_68 (by decide) rfl ?_
    obtain rfl := Option.some.inj h
    exact HR _ _ dX12_root_71
  · have h := jit hc h
    refine j_iload_n (pc' := 65) K dX12_root_64 rfl 1 rfl rfl ?_
    refine j_goto (tgt := 71) K dX12_root_65 (by decide) ?_
    obtain rfl := Option.some.inj h
    exact HR _ _ dX12_root_71
set_option maxRecDepth 100000 in
set_option maxHeartbeats 4000000 in
theorem b_X12_root_53 {E : jE} (a0 : Nat → Nat) (s0 : MS) {res : Int32} (K : jC E cX12_root 5 RX12 2) (HR : jRI E cX12_root 5 (wM (jg E) a0 s0) res) (k22 : Int32 → Int32 → Int32 → Int32 → MS → Option (Int32)) (hk22 : ∀ (v1 : Int32) (v2 : Int32) (v3 : Int32) (v4 : Int32), k22 v1 v2 v3 v4 s0 = some res → J E 5 (wM (jg E) a0 s0) 22 [(0, .ref (a0 0)), (1, .int v1), (2, .int v2), (3, .int v3), (4, .int v4)] []) : ∀ (v1 : Int32) (v2 : Int32) (v3 : Int32) (v4 : Int32), f_X12_root_53 k22 v1 v2 v3 v4 s0 = some res → J E 5 (wM (jg E) a0 s0) 53 [(0, .ref (a0 0)), (1, .int v1), (2, .int v2), (3, .int v3), (4, .int v4)] [] := by
  intro v1 v2 v3 v4 h
  unfold f_X12_root_53 at h
  refine j_iinc (pc' := 56) (j := 4) (v := (v4 + (1 : Int32))) (lv' := [(4, .int (v4 + (1 : Int32))), (0, .ref (a0 0)), (1, .int v1), (2, .int v2), (3, .int v3)]) K dX12_root_53 rfl rfl (by decide) rfl rfl ?_
  refine j_goto (tgt := 22) K dX12_root_56 (by decide) ?_
  refine j_sub [1, 2, 3, 4, 0] rfl ?_
  exact hk22 v1 v2 v3 (v4 + (1 : Int32)) h
set_option maxRecDepth 100000 in
set_option maxHeartbeats 4000000 in
theorem b_X12_root_22 {E : jE} (a0 : Nat → Nat) (s0 : MS) {res : Int32} (K : jC E cX12_root 5 RX12 2) (HR : jRI E cX12_root 5 (wM (jg E) a0 s0) res) : ∀ (n : Nat) (v1 : Int32) (v2 : Int32) (v3 : Int32) (v4 : Int32), f_X12_root_22 n v1 v2 v3 v4 s0 = some res → J E 5 (wM (jg E) a0 s0) 22 [(0, .ref (a0 0)), (1, .int v1), (2, .int v2), (3, .int v3), (4, .int v4)] [] := by
  intro n
  induction n with
  | zero => intro _ _ _ _ h; cases h
  | succ n ih =>
    intro v1 v2 v3 v4 h
    rw [f_X12_root_22] at h
    refine j_iload (pc' := 24) K dX12_root_22 4 rfl rfl ?_
    refine j_bipush (pc' := 26) (v := (21 : Int32)) K dX12_root_24 (by decide) rfl ?_
    refine j_icmp_ge (pc' := 29) (tgt := 59) K dX12_root_26 (by decide) rfl (fun hc => ?_) (fun hc => ?_)
    · have h := jit hc h
      refine j_sub [2, 3] rfl ?_
      exact b_X12_root_59 a0 s0 K HR v2 v3 h
    · have h := jif hc h
      refine j_aload_n (pc' := 30) K dX12_root_29 rfl 0 rfl rfl ?_
      refine j_iload_n (pc' := 31) K dX12_root_30 rfl 1 rfl rfl ?_
      refine j_iload (pc' := 33) K dX12_root_31 4 rfl rfl ?_
      refine j_i2l (pc' := 34) K dX12_root_33 rfl ?_
      obtain ⟨r34, hr34, h⟩ := jbd_some h
      refine j_ro (pc' := 37) K (fun H hP => jrun_V K dX12_root_34 (M_X12_valueAt (jl E) (jg E) a0 v1 (Int32.toInt64 v4) s0 hr34) u_5_98 u_5_95 u_5_97 u_p_43 u_1_13 ⟨ok_X12_valueAt, by decide, by decide⟩ rfl (Nat.le_of_ble_eq_true rfl) 0 rfl rfl H hP) [0, 1, 2, 3, 4, 5, 6, 7, 8, 9, 10, 11, 12, 13, 14, 15, 16] (cl_55_f ..) rfl ?_
      refine j_lconst (pc' := 38) (v := (0 : Int64)) K dX12_root_37 (by decide) rfl ?_
      refine j_lcmp (pc' := 39) K dX12_root_38 rfl ?_
      refine j_if_ne (pc' := 42) (tgt := 53) K dX12_root_39 (by decide) rfl (fun hc => ?_) (fun hc => ?_)
      · have h := jif hc h
        refine j_sub [0, 1, 2, 3, 4] rfl ?_
        exact b_X12_root_53 a0 s0 K HR (f_X12_root_22 n) (ih) v1 v2 v3 v4 h
      · have h := jit hc h
        refine j_iload_n (pc' := 43) K dX12_root_42 rfl 3 rfl rfl ?_
        refine j_iload_n (pc' := 44) K dX12_root_43 rfl 2 rfl rfl ?_
        refine j_icmp_ne (pc' := 47) (tgt := 50) K dX12_root_44 (by decide) rfl (fun hc => ?_) (fun hc => ?_)
        · have h := jif hc h
          refine j_iinc (pc' := 53) (j := 3) (v := (v3 + (1 : Int32))) (lv' := [(3, .int (v3 + (1 : Int32))), (0, .ref (a0 0)), (1, .int v1), (2, .int v2), (4, .int v4)]) K dX12_root_50 rfl rfl (by decide) rfl rfl ?_
          refine j_sub [1, 2, 3, 0, 4] rfl ?_
          exact b_X12_root_53 a0 s0 K HR (f_X12_root_22 n) (ih) v1 v2 (v3 + (1 : Int32)) v4 h
        · have h := jit hc h
          refine j_iload (pc' := 49) K dX12_root_47 4 rfl rfl ?_
          obtain rfl := Option.some.inj h
          exact HR _ _ dX12_root_49
set_option maxRecDepth 100000 in
set_option maxHeartbeats 4000000 in
theorem b_X12_root {E : jE} (a0 : Nat → Nat) (s0 : MS) {res : Int32} (K : jC E cX12_root 5 RX12 2) (HR : jRI E cX12_root 5 (wM (jg E) a0 s0) res) : ∀ (v1 : Int32) (v2 : Int32), f_X12_root v1 v2 s0 = some res → J E 5 (wM (jg E) a0 s0) 0 [(0, .ref (a0 0)), (1, .int v1), (2, .int v2)] [] := by
  intro v1 v2 h
  unfold f_X12_root at h
  refine j_iload_n (pc' := 1) K dX12_root_0 rfl 1 rfl rfl ?_
  obtain ⟨r1, hr1, h⟩ := jbd_some h
  refine j_ro (pc' := 4) K (fun H hP => jrun_S K dX12_root_1 (M_X12_isPolynomial (jl E) (jg E) v1 hr1) u_5_42 u_5_40 u_5_41 u_1_13 ⟨ok_X12_isPolynomial, by decide, by decide⟩ rfl (Nat.le_of_ble_eq_true rfl) H) [] rfl rfl ?_
  refine j_if_eq (pc' := 7) (tgt := 12) K dX12_root_4 (by decide) rfl (fun hc => ?_) (fun hc => ?_)
  · have h := jit hc h
    refine j_sipush (pc' := 15) (v := (-1001 : Int32)) K dX12_root_12 (by decide) rfl ?_
    obtain rfl := Option.some.inj h
    exact HR _ _ dX12_root_15
  · have h := jif hc h
    refine j_iload_n (pc' := 8) K dX12_root_7 rfl 2 rfl rfl ?_
    refine j_iconst (pc' := 9) (v := (-1 : Int32)) K dX12_root_8 (by decide) rfl ?_
    refine j_icmp_ge (pc' := 12) (tgt := 16) K dX12_root_9 (by decide) rfl (fun hc => ?_) (fun hc => ?_)
    · have h := jit hc h
      refine j_iconst (pc' := 17) (v := (0 : Int32)) K dX12_root_16 (by decide) rfl ?_
      refine j_istore_n (pc' := 18) (lv' := [(3, .int (0 : Int32)), (0, .ref (a0 0)), (1, .int v1), (2, .int v2)]) K dX12_root_17 rfl (by decide) rfl rfl ?_
      refine j_bipush (pc' := 20) (v := (-20 : Int32)) K dX12_root_18 (by decide) rfl ?_
      refine j_istore (pc' := 22) (lv' := [(4, .int (-20 : Int32)), (3, .int (0 : Int32)), (0, .ref (a0 0)), (1, .int v1), (2, .int v2)]) K dX12_root_20 (by decide) rfl rfl ?_
      refine j_sub [2, 3, 4, 1, 0] rfl ?_
      exact b_X12_root_22 a0 s0 K HR jFU v1 v2 (0 : Int32) (-20 : Int32) h
    · have h := jif hc h
      refine j_sipush (pc' := 15) (v := (-1001 : Int32)) K dX12_root_12 (by decide) rfl ?_
      obtain rfl := Option.some.inj h
      exact HR _ _ dX12_root_15
set_option maxRecDepth 100000 in
set_option maxHeartbeats 4000000 in
theorem M_X12_root (l : Launch) (G : jG) (a0 : Nat → Nat) (v1 : Int32) (v2 : Int32) (s0 : MS) {r : Int32} (h : f_X12_root v1 v2 s0 = some r) : MC l yX12_root cX12_root 5 (some .int) 2 G jNo False (wM G a0 s0) (wM G a0 s0) [.ref (a0 0), .int v1, .int v2] (some (.int r)) := by
  refine mc_int (by decide +kernel) (Nat.le_of_ble_eq_true rfl) fun E hl hg hA hrw K HR => ?_
  subst hl
  subst hg
  exact b_X12_root a0 s0 K HR v1 v2 h
theorem ok_X12_count : yX12_count.cls ≠ "java/lang/invoke/MethodHandle" ∧ yX12_count.cls ≠ "java/lang/invoke/VarHandle" ∧ (parseMethodDescriptor yX12_count.desc).map (fun d => d.parameters.length) = some 1 := ⟨by decide, by decide, by decide +kernel⟩
def f_X12_count_86 (k63 : Int32 → Int32 → MS → Option (Int32)) (v3 : Int32) (t0 : Int32) (t1 : Int32) (s0 : MS) : Option (Int32) :=
   k63 (t0 + t1) (v3 + (1 : Int32)) s0
def f_X12_count_63 : Nat → Int32 → Int32 → MS → Option (Int32)
  | 0, _, _, _ => none
  | n + 1, v2, v3, s0 =>
   if (36 : Int32) ≤ v3 then
   some v2
  else
   jgd v3 36 (
    if (lg_cmp ((M_factor s0) (Int32.toNatClampNeg v3)) (0 : Int64)) = 0 then
     f_X12_count_86 (f_X12_count_63 n) v3 v2 (0 : Int32) s0
    else
     f_X12_count_86 (f_X12_count_63 n) v3 v2 (1 : Int32) s0)
def f_X12_count (v1 : Int32) (s0 : MS) : Option (Int32) :=
   if v1 = 0 then (
   some (M_bytes s0)) else if v1 = 1 then (
   jgd (0 : Int32) 4 (
    jgd (1 : Int32) 4 (
     jgd (2 : Int32) 4 (
      jgd (3 : Int32) 4 (
       some (((((M_items s0) (Int32.toNatClampNeg (0 : Int32))) + ((M_items s0) (Int32.toNatClampNeg (1 : Int32)))) + ((M_items s0) (Int32.toNatClampNeg (2 : Int32)))) + ((M_items s0) (Int32.toNatClampNeg (3 : Int32))))))))) else if v1 = 2 then (
   f_X12_count_63 jFU (0 : Int32) (0 : Int32) s0) else (
   some (-1 : Int32))
set_option maxRecDepth 100000 in
set_option maxHeartbeats 4000000 in
theorem b_X12_count_86 {E : jE} (a0 : Nat → Nat) (s0 : MS) {res : Int32} (K : jC E cX12_count 4 RX12 0) (HR : jRI E cX12_count 4 (wM (jg E) a0 s0) res) (k63 : Int32 → Int32 → MS → Option (Int32)) (hk63 : ∀ (v2 : Int32) (v3 : Int32), k63 v2 v3 s0 = some res → J E 4 (wM (jg E) a0 s0) 63 [(0, .ref (a0 0)), (2, .int v2), (3, .int v3)] []) : ∀ (v3 : Int32) (t0 : Int32) (t1 : Int32), f_X12_count_86 k63 v3 t0 t1 s0 = some res → J E 4 (wM (jg E) a0 s0) 86 [(0, .ref (a0 0)), (3, .int v3)] [.int t1, .int t0] := by
  intro v3 t0 t1 h
  unfold f_X12_count_86 at h
  refine j_iadd (pc' := 87) K dX12_count_86 rfl ?_
  refine j_istore_n (pc' := 88) (lv' := [(2, .int (t0 + t1)), (0, .ref (a0 0)), (3, .int v3)]) K dX12_count_87 rfl (by decide) rfl rfl ?_
  refine j_iinc (pc' := 91) (j := 2) (v := (v3 + (1 : Int32))) (lv' := [(3, .int (v3 + (1 : Int32))), (2, .int (t0 + t1)), (0, .ref (a0 0))]) K dX12_count_88 rfl rfl (by decide) rfl rfl ?_
  refine j_goto (tgt := 63) K dX12_count_91 (by decide) ?_
  refine j_sub [2, 1, 0] rfl ?_
  exact hk63 (t0 + t1) (v3 + (1 : Int32)) h
set_option maxRecDepth 100000 in
set_option maxHeartbeats 4000000 in
theorem b_X12_count_63 {E : jE} (a0 : Nat → Nat) (s0 : MS) {res : Int32} (K : jC E cX12_count 4 RX12 0) (HR : jRI E cX12_count 4 (wM (jg E) a0 s0) res) : ∀ (n : Nat) (v2 : Int32) (v3 : Int32), f_X12_count_63 n v2 v3 s0 = some res → J E 4 (wM (jg E) a0 s0) 63 [(0, .ref (a0 0)), (2, .int v2), (3, .int v3)] [] := by
  intro n
  induction n with
  | zero => intro _ _ h; cases h
  | succ n ih =>
    intro v2 v3 h
    rw [f_X12_count_63] at h
    refine j_iload_n (pc' := 64) K dX12_count_63 rfl 2 rfl rfl ?_
    refine j_bipush (pc' := 66) (v := (36 : Int32)) K dX12_count_64 (by decide) rfl ?_
    refine j_icmp_ge (pc' := 69) (tgt := 94) K dX12_count_66 (by decide) rfl (fun hc => ?_) (fun hc => ?_)
    · have h := jit hc h
      refine j_iload_n (pc' := 95) K dX12_count_94 rfl 1 rfl rfl ?_
      obtain rfl := Option.some.inj h
      exact HR _ _ dX12_count_95
    · have h := jif hc h
      refine j_iload_n (pc' := 70) K dX12_count_69 rfl 1 rfl rfl ?_
      refine j_aload_n (pc' := 71) K dX12_count_70 rfl 0 rfl rfl ?_
      refine j_get (pc' := 74) K dX12_count_71 inX12 0 rfl rfl 17 (by decide) u_4_52 rfl rfl rfl ?_
      refine j_iload_n (pc' := 75) K dX12_count_74 rfl 2 rfl rfl ?_
      obtain ⟨hg, h⟩ := jgd_some h
      refine j_lald (pc' := 76) K dX12_count_75 13 rfl hg rfl ?_
      refine j_lconst (pc' := 77) (v := (0 : Int64)) K dX12_count_76 (by decide) rfl ?_
      refine j_lcmp (pc' := 78) K dX12_count_77 rfl ?_
      refine j_if_eq (pc' := 81) (tgt := 85) K dX12_count_78 (by decide) rfl (fun hc => ?_) (fun hc => ?_)
      · have h := jit hc h
        refine j_iconst (pc' := 86) (v := (0 : Int32)) K dX12_count_85 (by decide) rfl ?_
        refine j_sub [0, 2] rfl ?_
        exact b_X12_count_86 a0 s0 K HR (f_X12_count_63 n) (ih) v3 v2 (0 : Int32) h
      · have h := jif hc h
        refine j_iconst (pc' := 82) (v := (1 : Int32)) K dX12_count_81 (by decide) rfl ?_
        refine j_goto (tgt := 86) K dX12_count_82 (by decide) ?_
        refine j_sub [0, 2] rfl ?_
        exact b_X12_count_86 a0 s0 K HR (f_X12_count_63 n) (ih) v3 v2 (1 : Int32) h
set_option maxRecDepth 100000 in
set_option maxHeartbeats 4000000 in
theorem b_X12_count {E : jE} (a0 : Nat → Nat) (s0 : MS) {res : Int32} (K : jC E cX12_count 4 RX12 0) (HR : jRI E cX12_count 4 (wM (jg E) a0 s0) res) : ∀ (v1 : Int32), f_X12_count v1 s0 = some res → J E 4 (wM (jg E) a0 s0) 0 [(0, .ref (a0 0)), (1, .int v1)] [] := by
  intro v1 h
  unfold f_X12_count at h
  refine j_iconst (pc' := 1) (v := (0 : Int32)) K dX12_count_0 (by decide) rfl ?_
  refine j_istore_n (pc' := 2) (lv' := [(2, .int (0 : Int32)), (0, .ref (a0 0)), (1, .int v1)]) K dX12_count_1 rfl (by decide) rfl rfl ?_
  refine j_iload_n (pc' := 3) K dX12_count_2 rfl 2 rfl rfl ?_
  by_cases hc : v1 = 0
  · have h := jit hc h
    refine j_tabIn (tgt := 28) K dX12_count_3 (by rw [hc]; decide) (by rw [hc]; decide) (by rw [hc]; rfl) (by decide) ?_
    refine j_aload_n (pc' := 29) K dX12_count_28 rfl 1 rfl rfl ?_
    refine j_get (pc' := 32) K dX12_count_29 inX12 0 rfl rfl 0 (by decide) u_4_35 rfl rfl rfl ?_
    obtain rfl := Option.some.inj h
    exact HR _ _ dX12_count_32
  have hc0 := hc
  have h := jif hc h
  by_cases hc : v1 = 1
  · have h := jit hc h
    refine j_tabIn (tgt := 33) K dX12_count_3 (by rw [hc]; decide) (by rw [hc]; decide) (by rw [hc]; rfl) (by decide) ?_
    refine j_aload_n (pc' := 34) K dX12_count_33 rfl 1 rfl rfl ?_
    refine j_get (pc' := 37) K dX12_count_34 inX12 0 rfl rfl 7 (by decide) u_4_42 rfl rfl rfl ?_
    refine j_iconst (pc' := 38) (v := (0 : Int32)) K dX12_count_37 (by decide) rfl ?_
    obtain ⟨hg, h⟩ := jgd_some h
    refine j_iald (pc' := 39) K dX12_count_38 4 rfl hg rfl ?_
    refine j_aload_n (pc' := 40) K dX12_count_39 rfl 1 rfl rfl ?_
    refine j_get (pc' := 43) K dX12_count_40 inX12 0 rfl rfl 7 (by decide) u_4_42 rfl rfl rfl ?_
    refine j_iconst (pc' := 44) (v := (1 : Int32)) K dX12_count_43 (by decide) rfl ?_
    obtain ⟨hg, h⟩ := jgd_some h
    refine j_iald (pc' := 45) K dX12_count_44 4 rfl hg rfl ?_
    refine j_iadd (pc' := 46) K dX12_count_45 rfl ?_
    refine j_aload_n (pc' := 47) K dX12_count_46 rfl 1 rfl rfl ?_
    refine j_get (pc' := 50) K dX12_count_47 inX12 0 rfl rfl 7 (by decide) u_4_42 rfl rfl rfl ?_
    refine j_iconst (pc' := 51) (v := (2 : Int32)) K dX12_count_50 (by decide) rfl ?_
    obtain ⟨hg, h⟩ := jgd_some h
    refine j_iald (pc' := 52) K dX12_count_51 4 rfl hg rfl ?_
    refine j_iadd (pc' := 53) K dX12_count_52 rfl ?_
    refine j_aload_n (pc' := 54) K dX12_count_53 rfl 1 rfl rfl ?_
    refine j_get (pc' := 57) K dX12_count_54 inX12 0 rfl rfl 7 (by decide) u_4_42 rfl rfl rfl ?_
    refine j_iconst (pc' := 58) (v := (3 : Int32)) K dX12_count_57 (by decide) rfl ?_
    obtain ⟨hg, h⟩ := jgd_some h
    refine j_iald (pc' := 59) K dX12_count_58 4 rfl hg rfl ?_
    refine j_iadd (pc' := 60) K dX12_count_59 rfl ?_
    obtain rfl := Option.some.inj h
    exact HR _ _ dX12_count_60
  have hc1 := hc
  have h := jif hc h
  by_cases hc : v1 = 2
  · have h := jit hc h
    refine j_tabIn (tgt := 61) K dX12_count_3 (by rw [hc]; decide) (by rw [hc]; decide) (by rw [hc]; rfl) (by decide) ?_
    refine j_iconst (pc' := 62) (v := (0 : Int32)) K dX12_count_61 (by decide) rfl ?_
    refine j_istore_n (pc' := 63) (lv' := [(3, .int (0 : Int32)), (2, .int (0 : Int32)), (0, .ref (a0 0)), (1, .int v1)]) K dX12_count_62 rfl (by decide) rfl rfl ?_
    refine j_sub [2, 1, 0] rfl ?_
    exact b_X12_count_63 a0 s0 K HR jFU (0 : Int32) (0 : Int32) h
  have hc2 := hc
  have h := jif hc h
  refine j_tabOut (tgt := 96) K dX12_count_3 (jtab3 hc0 hc1 hc2) (by decide) ?_
  refine j_iconst (pc' := 97) (v := (-1 : Int32)) K dX12_count_96 (by decide) rfl ?_
  obtain rfl := Option.some.inj h
  exact HR _ _ dX12_count_97
set_option maxRecDepth 100000 in
set_option maxHeartbeats 4000000 in
theorem M_X12_count (l : Launch) (G : jG) (a0 : Nat → Nat) (v1 : Int32) (s0 : MS) {r : Int32} (h : f_X12_count v1 s0 = some r) : MC l yX12_count cX12_count 4 (some .int) 0 G jNo False (wM G a0 s0) (wM G a0 s0) [.ref (a0 0), .int v1] (some (.int r)) := by
  refine mc_int (by decide +kernel) (Nat.le_of_ble_eq_true rfl) fun E hl hg hA hrw K HR => ?_
  subst hl
  subst hg
  exact b_X12_count a0 s0 K HR v1 h
