theorem ok_X7_waysFrom : yX7_waysFrom.cls ≠ "java/lang/invoke/MethodHandle" ∧ yX7_waysFrom.cls ≠ "java/lang/invoke/VarHandle" ∧ (parseMethodDescriptor yX7_waysFrom.desc).map (fun d => d.parameters.length) = some 2 := ⟨by decide, by decide, by decide +kernel⟩
def f_X7_waysFrom (v1 : Int32) (v2 : Int32) (s0 : PartingsS) : Option (Int32) :=
   jbd (f_X11_within v1 (0 : Int32) (8 : Int32)) (fun r4 =>
   if r4 = 0 then
    some (0 : Int32)
   else
    jbd (f_X11_within v2 (0 : Int32) (8 : Int32)) (fun r14 =>
     if r14 = 0 then
      some (0 : Int32)
     else
      jgd ((v1 * (9 : Int32)) + v2) 81 (
       some (s0 (Int32.toNatClampNeg ((v1 * (9 : Int32)) + v2))))))
set_option maxRecDepth 100000 in
set_option maxHeartbeats 4000000 in
theorem b_X7_waysFrom {E : jE} (p0_0 p0_1 : Nat) (s0 : PartingsS) {res : Int32} (K : jC E cX7_waysFrom 3 RX7 1) (HR : jRI E cX7_waysFrom 3 (wPartings (jg E) p0_0 p0_1 s0) res) : ∀ (v1 : Int32) (v2 : Int32), f_X7_waysFrom v1 v2 s0 = some res → J E 3 (wPartings (jg E) p0_0 p0_1 s0) 0 [(0, .ref p0_0), (1, .int v1), (2, .int v2)] [] := by
  intro v1 v2 h
  unfold f_X7_waysFrom at h
  refine j_iload_n (pc' := 1) K dX7_waysFrom_0 rfl 1 rfl rfl ?_
  refine j_iconst (pc' := 2) (v := (0 : Int32)) K dX7_waysFrom_1 (by decide) rfl ?_
  refine j_bipush (pc' := 4) (v := (8 : Int32)) K dX7_waysFrom_2 (by decide) rfl ?_
  obtain ⟨r4, hr4, h⟩ := jbd_some h
  refine j_ro (pc' := 7) K (fun H hP => jrun_SN K dX7_waysFrom_4 (host := "CountTriangles") (M_X11_within (jl E) (jg E) v1 (0 : Int32) (8 : Int32) hr4) u_1_76 (by decide) u_1_75 u_1_1 ⟨ok_X11_within, by decide, by decide⟩ rfl (Nat.le_of_ble_eq_true rfl) H) [] rfl rfl ?_
  refine j_if_eq (pc' := 10) (tgt := 34) K dX7_waysFrom_7 (by decide) rfl (fun hc => ?_) (fun hc => ?_)
  · have h := jit hc h
    refine j_iconst (pc' := 35) (v := (0 : Int32)) K dX7_waysFrom_34 (by decide) rfl ?_
    obtain rfl := Option.some.inj h
    exact HR _ _ dX7_waysFrom_35
  · have h := jif hc h
    refine j_iload_n (pc' := 11) K dX7_waysFrom_10 rfl 2 rfl rfl ?_
    refine j_iconst (pc' := 12) (v := (0 : Int32)) K dX7_waysFrom_11 (by decide) rfl ?_
    refine j_bipush (pc' := 14) (v := (8 : Int32)) K dX7_waysFrom_12 (by decide) rfl ?_
    obtain ⟨r14, hr14, h⟩ := jbd_some h
    refine j_ro (pc' := 17) K (fun H hP => jrun_SN K dX7_waysFrom_14 (host := "CountTriangles") (M_X11_within (jl E) (jg E) v2 (0 : Int32) (8 : Int32) hr14) u_1_76 (by decide) u_1_75 u_1_1 ⟨ok_X11_within, by decide, by decide⟩ rfl (Nat.le_of_ble_eq_true rfl) H) [] rfl rfl ?_
    refine j_if_eq (pc' := 20) (tgt := 34) K dX7_waysFrom_17 (by decide) rfl (fun hc => ?_) (fun hc => ?_)
    · have h := jit hc h
      refine j_iconst (pc' := 35) (v := (0 : Int32)) K dX7_waysFrom_34 (by decide) rfl ?_
      obtain rfl := Option.some.inj h
      exact HR _ _ dX7_waysFrom_35
    · have h := jif hc h
      refine j_aload_n (pc' := 21) K dX7_waysFrom_20 rfl 0 rfl rfl ?_
      refine j_get (pc' := 24) K dX7_waysFrom_21 inX7 0 rfl rfl 0 (by decide) u_1_48 rfl rfl rfl ?_
      refine j_iload_n (pc' := 25) K dX7_waysFrom_24 rfl 1 rfl rfl ?_
      refine j_bipush (pc' := 27) (v := (9 : Int32)) K dX7_waysFrom_25 (by decide) rfl ?_
      refine j_imul (pc' := 28) K dX7_waysFrom_27 rfl ?_
      refine j_iload_n (pc' := 29) K dX7_waysFrom_28 rfl 2 rfl rfl ?_
      refine j_iadd (pc' := 30) K dX7_waysFrom_29 rfl ?_
      obtain ⟨hg, h⟩ := jgd_some h
      refine j_iald (pc' := 31) K dX7_waysFrom_30 1 rfl hg rfl ?_
      refine j_goto (tgt := 35) K dX7_waysFrom_31 (by decide) ?_
      obtain rfl := Option.some.inj h
      exact HR _ _ dX7_waysFrom_35
set_option maxRecDepth 100000 in
set_option maxHeartbeats 4000000 in
theorem M_X7_waysFrom (l : Launch) (G : jG) (p0_0 p0_1 : Nat) (v1 : Int32) (v2 : Int32) (s0 : PartingsS) {r : Int32} (h : f_X7_waysFrom v1 v2 s0 = some r) : MC l yX7_waysFrom cX7_waysFrom 3 (some .int) 1 G jNo False (wPartings G p0_0 p0_1 s0) (wPartings G p0_0 p0_1 s0) [.ref p0_0, .int v1, .int v2] (some (.int r)) := by
  refine mc_int (by decide +kernel) (Nat.le_of_ble_eq_true rfl) fun E hl hg hA hrw K HR => ?_
  subst hl
  subst hg
  exact b_X7_waysFrom p0_0 p0_1 s0 K HR v1 v2 h
theorem ok_X7_want : yX7_want.cls ≠ "java/lang/invoke/MethodHandle" ∧ yX7_want.cls ≠ "java/lang/invoke/VarHandle" ∧ (parseMethodDescriptor yX7_want.desc).map (fun d => d.parameters.length) = some 1 := ⟨by decide, by decide, by decide +kernel⟩
def f_X7_want_84 (k32 : Int32 → PartingsS → Option (PartingsS)) (v2 : Int32) (s0 : PartingsS) : Option (PartingsS) :=
   k32 (v2 + (1 : Int32)) s0
def f_X7_want_40 (k32 : Int32 → PartingsS → Option (PartingsS)) : Nat → Int32 → Int32 → PartingsS → Option (PartingsS)
  | 0, _, _, _ => none
  | n + 1, v2, v3, s0 =>
   if (9 : Int32) ≤ v3 then
   f_X7_want_84 k32 v2 s0
  else
   jbd (f_X7_waysFrom (v2 - (1 : Int32)) v3 s0) (fun r62 =>
    jbd (f_X7_waysFrom (v2 - (1 : Int32)) (v3 + (1 : Int32)) s0) (fun r73 =>
     jgd ((v2 * (9 : Int32)) + v3) 81 (
      (f_X7_want_40 k32 n) v2 (v3 + (1 : Int32)) (upd s0 (Int32.toNatClampNeg ((v2 * (9 : Int32)) + v3)) ((v3 * r62) + r73)))))
def f_X7_want_32 : Nat → Int32 → PartingsS → Option (PartingsS)
  | 0, _, _ => none
  | n + 1, v2, s0 =>
   if (9 : Int32) ≤ v2 then
   some s0
  else
   f_X7_want_40 (f_X7_want_32 n) jFU v2 (0 : Int32) s0
def f_X7_want_30 (s0 : PartingsS) : Option (PartingsS) :=
   f_X7_want_32 jFU (1 : Int32) s0
def f_X7_want_23 (k2 : Int32 → Int32 → PartingsS → Option (PartingsS)) (v1 : Int32) (v2 : Int32) (t1 : Int32) (t2 : Int32) (s0 : PartingsS) : Option (PartingsS) :=
   jgd t1 81 (
   k2 v1 (v2 + (1 : Int32)) (upd s0 (Int32.toNatClampNeg t1) t2))
def f_X7_want_2 : Nat → Int32 → Int32 → PartingsS → Option (PartingsS)
  | 0, _, _, _ => none
  | n + 1, v1, v2, s0 =>
   if (9 : Int32) ≤ v2 then
   f_X7_want_30 s0
  else
   if v2 = v1 then
    f_X7_want_23 (f_X7_want_2 n) v1 v2 v2 (1 : Int32) s0
   else
    f_X7_want_23 (f_X7_want_2 n) v1 v2 v2 (0 : Int32) s0
def f_X7_want (v1 : Int32) (s0 : PartingsS) : Option (PartingsS) :=
   f_X7_want_2 jFU v1 (0 : Int32) s0
set_option maxRecDepth 100000 in
set_option maxHeartbeats 4000000 in
theorem b_X7_want_84 {E : jE} (p0_0 p0_1 : Nat) {res : PartingsS} (K : jC E cX7_want 4 RX7 2) (hrw : jrw E) (HR : jRV E cX7_want 4 (wPartings (jg E) p0_0 p0_1 res)) (k32 : Int32 → PartingsS → Option (PartingsS)) (hk32 : ∀ (v2 : Int32) (s0 : PartingsS), k32 v2 s0 = some res → J E 4 (wPartings (jg E) p0_0 p0_1 s0) 32 [(0, .ref p0_0), (2, .int v2)] []) : ∀ (v2 : Int32) (s0 : PartingsS), f_X7_want_84 k32 v2 s0 = some res → J E 4 (wPartings (jg E) p0_0 p0_1 s0) 84 [(0, .ref p0_0), (2, .int v2)] [] := by
  intro v2 s0 h
  unfold f_X7_want_84 at h
  refine j_iinc (pc' := 87) (j := 1) (v := (v2 + (1 : Int32))) (lv' := [(2, .int (v2 + (1 : Int32))), (0, .ref p0_0)]) K dX7_want_84 rfl rfl (by decide) rfl rfl ?_
  refine j_goto (tgt := 32) K dX7_want_87 (by decide) ?_
  refine j_sub [1, 0] rfl ?_
  exact hk32 (v2 + (1 : Int32)) s0 h
set_option maxRecDepth 100000 in
set_option maxHeartbeats 4000000 in
theorem b_X7_want_40 {E : jE} (p0_0 p0_1 : Nat) {res : PartingsS} (K : jC E cX7_want 4 RX7 2) (hrw : jrw E) (HR : jRV E cX7_want 4 (wPartings (jg E) p0_0 p0_1 res)) (k32 : Int32 → PartingsS → Option (PartingsS)) (hk32 : ∀ (v2 : Int32) (s0 : PartingsS), k32 v2 s0 = some res → J E 4 (wPartings (jg E) p0_0 p0_1 s0) 32 [(0, .ref p0_0), (2, .int v2)] []) : ∀ (n : Nat) (v2 : Int32) (v3 : Int32) (s0 : PartingsS), f_X7_want_40 k32 n v2 v3 s0 = some res → J E 4 (wPartings (jg E) p0_0 p0_1 s0) 40 [(0, .ref p0_0), (2, .int v2), (3, .int v3)] [] := by
  intro n
  induction n with
  | zero => intro _ _ _ h; cases h
  | succ n ih =>
    intro v2 v3 s0 h
    rw [f_X7_want_40] at h
    refine j_iload_n (pc' := 41) K dX7_want_40 rfl 2 rfl rfl ?_
    refine j_bipush (pc' := 43) (v := (9 : Int32)) K dX7_want_41 (by decide) rfl ?_
    refine j_icmp_ge (pc' := 46) (tgt := 84) K dX7_want_43 (by decide) rfl (fun hc => ?_) (fun hc => ?_)
    · have h := jit hc h
      refine j_sub [0, 1] rfl ?_
      exact b_X7_want_84 p0_0 p0_1 K hrw HR k32 hk32 v2 s0 h
    · have h := jif hc h
      refine j_aload_n (pc' := 47) K dX7_want_46 rfl 0 rfl rfl ?_
      refine j_get (pc' := 50) K dX7_want_47 inX7 0 rfl rfl 0 (by decide) u_1_48 rfl rfl rfl ?_
      refine j_iload_n (pc' := 51) K dX7_want_50 rfl 1 rfl rfl ?_
      refine j_bipush (pc' := 53) (v := (9 : Int32)) K dX7_want_51 (by decide) rfl ?_
      refine j_imul (pc' := 54) K dX7_want_53 rfl ?_
      refine j_iload_n (pc' := 55) K dX7_want_54 rfl 2 rfl rfl ?_
      refine j_iadd (pc' := 56) K dX7_want_55 rfl ?_
      refine j_iload_n (pc' := 57) K dX7_want_56 rfl 2 rfl rfl ?_
      refine j_aload_n (pc' := 58) K dX7_want_57 rfl 0 rfl rfl ?_
      refine j_iload_n (pc' := 59) K dX7_want_58 rfl 1 rfl rfl ?_
      refine j_iconst (pc' := 60) (v := (1 : Int32)) K dX7_want_59 (by decide) rfl ?_
      refine j_isub (pc' := 61) K dX7_want_60 rfl ?_
      refine j_iload_n (pc' := 62) K dX7_want_61 rfl 2 rfl rfl ?_
      obtain ⟨r62, hr62, h⟩ := jbd_some h
      refine j_ro (pc' := 65) K (fun H hP => jrun_V K dX7_want_62 (M_X7_waysFrom (jl E) (jg E) p0_0 p0_1 (v2 - (1 : Int32)) v3 s0 hr62) u_2_196 u_2_193 u_2_195 u_p_8 u_1_3 ⟨ok_X7_waysFrom, by decide, by decide⟩ rfl (Nat.le_of_ble_eq_true rfl) 0 rfl rfl H hP) [0, 1] rfl rfl ?_
      refine j_imul (pc' := 66) K dX7_want_65 rfl ?_
      refine j_aload_n (pc' := 67) K dX7_want_66 rfl 0 rfl rfl ?_
      refine j_iload_n (pc' := 68) K dX7_want_67 rfl 1 rfl rfl ?_
      refine j_iconst (pc' := 69) (v := (1 : Int32)) K dX7_want_68 (by decide) rfl ?_
      refine j_isub (pc' := 70) K dX7_want_69 rfl ?_
      refine j_iload_n (pc' := 71) K dX7_want_70 rfl 2 rfl rfl ?_
      refine j_iconst (pc' := 72) (v := (1 : Int32)) K dX7_want_71 (by decide) rfl ?_
      refine j_iadd (pc' := 73) K dX7_want_72 rfl ?_
      obtain ⟨r73, hr73, h⟩ := jbd_some h
      refine j_ro (pc' := 76) K (fun H hP => jrun_V K dX7_want_73 (M_X7_waysFrom (jl E) (jg E) p0_0 p0_1 (v2 - (1 : Int32)) (v3 + (1 : Int32)) s0 hr73) u_2_196 u_2_193 u_2_195 u_p_8 u_1_3 ⟨ok_X7_waysFrom, by decide, by decide⟩ rfl (Nat.le_of_ble_eq_true rfl) 0 rfl rfl H hP) [0, 1] rfl rfl ?_
      refine j_iadd (pc' := 77) K dX7_want_76 rfl ?_
      obtain ⟨hg, h⟩ := jgd_some h
      refine j_iast (pc' := 78) (ws' := (wPartings (jg E) p0_0 p0_1 (upd s0 (Int32.toNatClampNeg ((v2 * (9 : Int32)) + v3)) ((v3 * r62) + r73)))) K dX7_want_77 hrw 1 rfl hg (st_Partings_1 ..) rfl ?_
      refine j_iinc (pc' := 81) (j := 2) (v := (v3 + (1 : Int32))) (lv' := [(3, .int (v3 + (1 : Int32))), (0, .ref p0_0), (2, .int v2)]) K dX7_want_78 rfl rfl (by decide) rfl rfl ?_
      refine j_goto (tgt := 40) K dX7_want_81 (by decide) ?_
      refine j_sub [1, 2, 0] rfl ?_
      exact ih v2 (v3 + (1 : Int32)) (upd s0 (Int32.toNatClampNeg ((v2 * (9 : Int32)) + v3)) ((v3 * r62) + r73)) h
set_option maxRecDepth 100000 in
set_option maxHeartbeats 4000000 in
theorem b_X7_want_32 {E : jE} (p0_0 p0_1 : Nat) {res : PartingsS} (K : jC E cX7_want 4 RX7 2) (hrw : jrw E) (HR : jRV E cX7_want 4 (wPartings (jg E) p0_0 p0_1 res)) : ∀ (n : Nat) (v2 : Int32) (s0 : PartingsS), f_X7_want_32 n v2 s0 = some res → J E 4 (wPartings (jg E) p0_0 p0_1 s0) 32 [(0, .ref p0_0), (2, .int v2)] [] := by
  intro n
  induction n with
  | zero => intro _ _ h; cases h
  | succ n ih =>
    intro v2 s0 h
    rw [f_X7_want_32] at h
    refine j_iload_n (pc' := 33) K dX7_want_32 rfl 1 rfl rfl ?_
    refine j_bipush (pc' := 35) (v := (9 : Int32)) K dX7_want_33 (by decide) rfl ?_
    refine j_icmp_ge (pc' := 38) (tgt := 90) K dX7_want_35 (by decide) rfl (fun hc => ?_) (fun hc => ?_)
    · have h := jit hc h
      obtain rfl := Option.some.inj h
      exact HR _ _ dX7_want_90
    · have h := jif hc h
      refine j_iconst (pc' := 39) (v := (0 : Int32)) K dX7_want_38 (by decide) rfl ?_
      refine j_istore_n (pc' := 40) (lv' := [(3, .int (0 : Int32)), (0, .ref p0_0), (2, .int v2)]) K dX7_want_39 rfl (by decide) rfl rfl ?_
      refine j_sub [1, 2, 0] rfl ?_
      exact b_X7_want_40 p0_0 p0_1 K hrw HR (f_X7_want_32 n) (ih) jFU v2 (0 : Int32) s0 h
set_option maxRecDepth 100000 in
set_option maxHeartbeats 4000000 in
theorem b_X7_want_30 {E : jE} (p0_0 p0_1 : Nat) {res : PartingsS} (K : jC E cX7_want 4 RX7 2) (hrw : jrw E) (HR : jRV E cX7_want 4 (wPartings (jg E) p0_0 p0_1 res)) : ∀ (s0 : PartingsS), f_X7_want_30 s0 = some res → J E 4 (wPartings (jg E) p0_0 p0_1 s0) 30 [(0, .ref p0_0)] [] := by
  intro s0 h
  unfold f_X7_want_30 at h
  refine j_iconst (pc' := 31) (v := (1 : Int32)) K dX7_want_30 (by decide) rfl ?_
  refine j_istore_n (pc' := 32) (lv' := [(2, .int (1 : Int32)), (0, .ref p0_0)]) K dX7_want_31 rfl (by decide) rfl rfl ?_
  refine j_sub [1, 0] rfl ?_
  exact b_X7_want_32 p0_0 p0_1 K hrw HR jFU (1 : Int32) s0 h
set_option maxRecDepth 100000 in
set_option maxHeartbeats 4000000 in
theorem b_X7_want_23 {E : jE} (p0_0 p0_1 : Nat) {res : PartingsS} (K : jC E cX7_want 4 RX7 2) (hrw : jrw E) (HR : jRV E cX7_want 4 (wPartings (jg E) p0_0 p0_1 res)) (k2 : Int32 → Int32 → PartingsS → Option (PartingsS)) (hk2 : ∀ (v1 : Int32) (v2 : Int32) (s0 : PartingsS), k2 v1 v2 s0 = some res → J E 4 (wPartings (jg E) p0_0 p0_1 s0) 2 [(0, .ref p0_0), (1, .int v1), (2, .int v2)] []) : ∀ (v1 : Int32) (v2 : Int32) (t1 : Int32) (t2 : Int32) (s0 : PartingsS), f_X7_want_23 k2 v1 v2 t1 t2 s0 = some res → J E 4 (wPartings (jg E) p0_0 p0_1 s0) 23 [(0, .ref p0_0), (1, .int v1), (2, .int v2)] [.int t2, .int t1, .ref p0_1] := by
  intro v1 v2 t1 t2 s0 h
  unfold f_X7_want_23 at h
  obtain ⟨hg, h⟩ := jgd_some h
  refine j_iast (pc' := 24) (ws' := (wPartings (jg E) p0_0 p0_1 (upd s0 (Int32.toNatClampNeg t1) t2))) K dX7_want_23 hrw 1 rfl hg (st_Partings_1 ..) rfl ?_
  refine j_iinc (pc' := 27) (j := 2) (v := (v2 + (1 : Int32))) (lv' := [(2, .int (v2 + (1 : Int32))), (0, .ref p0_0), (1, .int v1)]) K dX7_want_24 rfl rfl (by decide) rfl rfl ?_
  refine j_goto (tgt := 2) K dX7_want_27 (by decide) ?_
  refine j_sub [1, 2, 0] rfl ?_
  exact hk2 v1 (v2 + (1 : Int32)) (upd s0 (Int32.toNatClampNeg t1) t2) h
set_option maxRecDepth 100000 in
set_option maxHeartbeats 4000000 in
theorem b_X7_want_2 {E : jE} (p0_0 p0_1 : Nat) {res : PartingsS} (K : jC E cX7_want 4 RX7 2) (hrw : jrw E) (HR : jRV E cX7_want 4 (wPartings (jg E) p0_0 p0_1 res)) : ∀ (n : Nat) (v1 : Int32) (v2 : Int32) (s0 : PartingsS), f_X7_want_2 n v1 v2 s0 = some res → J E 4 (wPartings (jg E) p0_0 p0_1 s0) 2 [(0, .ref p0_0), (1, .int v1), (2, .int v2)] [] := by
  intro n
  induction n with
  | zero => intro _ _ _ h; cases h
  | succ n ih =>
    intro v1 v2 s0 h
    rw [f_X7_want_2] at h
    refine j_iload_n (pc' := 3) K dX7_want_2 rfl 2 rfl rfl ?_
    refine j_bipush (pc' := 5) (v := (9 : Int32)) K dX7_want_3 (by decide) rfl ?_
    refine j_icmp_ge (pc' := 8) (tgt := 30) K dX7_want_5 (by decide) rfl (fun hc => ?_) (fun hc => ?_)
    · have h := jit hc h
      refine j_sub [0] rfl ?_
      exact b_X7_want_30 p0_0 p0_1 K hrw HR s0 h
    · have h := jif hc h
      refine j_aload_n (pc' := 9) K dX7_want_8 rfl 0 rfl rfl ?_
      refine j_get (pc' := 12) K dX7_want_9 inX7 0 rfl rfl 0 (by decide) u_1_48 rfl rfl rfl ?_
      refine j_iload_n (pc' := 13) K dX7_want_12 rfl 2 rfl rfl ?_
      refine j_iload_n (pc' := 14) K dX7_want_13 rfl 2 rfl rfl ?_
      refine j_iload_n (pc' := 15) K dX7_want_14 rfl 1 rfl rfl ?_
      refine j_icmp_ne (pc' := 18) (tgt := 22) K dX7_want_15 (by decide) rfl (fun hc => ?_) (fun hc => ?_)
      · have h := jif hc h
        refine j_iconst (pc' := 23) (v := (0 : Int32)) K dX7_want_22 (by decide) rfl ?_
        refine j_sub [0, 1, 2] rfl ?_
        exact b_X7_want_23 p0_0 p0_1 K hrw HR (f_X7_want_2 n) (ih) v1 v2 v2 (0 : Int32) s0 h
      · have h := jit hc h
        refine j_iconst (pc' := 19) (v := (1 : Int32)) K dX7_want_18 (by decide) rfl ?_
        refine j_goto (tgt := 23) K dX7_want_19 (by decide) ?_
        refine j_sub [0, 1, 2] rfl ?_
        exact b_X7_want_23 p0_0 p0_1 K hrw HR (f_X7_want_2 n) (ih) v1 v2 v2 (1 : Int32) s0 h
set_option maxRecDepth 100000 in
set_option maxHeartbeats 4000000 in
theorem b_X7_want {E : jE} (p0_0 p0_1 : Nat) {res : PartingsS} (K : jC E cX7_want 4 RX7 2) (hrw : jrw E) (HR : jRV E cX7_want 4 (wPartings (jg E) p0_0 p0_1 res)) : ∀ (v1 : Int32) (s0 : PartingsS), f_X7_want v1 s0 = some res → J E 4 (wPartings (jg E) p0_0 p0_1 s0) 0 [(0, .ref p0_0), (1, .int v1)] [] := by
  intro v1 s0 h
  unfold f_X7_want at h
  refine j_iconst (pc' := 1) (v := (0 : Int32)) K dX7_want_0 (by decide) rfl ?_
  refine j_istore_n (pc' := 2) (lv' := [(2, .int (0 : Int32)), (0, .ref p0_0), (1, .int v1)]) K dX7_want_1 rfl (by decide) rfl rfl ?_
  refine j_sub [1, 2, 0] rfl ?_
  exact b_X7_want_2 p0_0 p0_1 K hrw HR jFU v1 (0 : Int32) s0 h
set_option maxRecDepth 100000 in
set_option maxHeartbeats 4000000 in
theorem M_X7_want (l : Launch) (G : jG) (p0_0 p0_1 : Nat) (v1 : Int32) (s0 : PartingsS) {r : PartingsS} (h : f_X7_want v1 s0 = some r) : MC l yX7_want cX7_want 4 none 2 G (jad (wPartings G p0_0 p0_1 s0)) True (wPartings G p0_0 p0_1 s0) (wPartings G p0_0 p0_1 r) [.ref p0_0, .int v1] none := by
  refine mc_void (by decide +kernel) (Nat.le_of_ble_eq_true rfl) fun E hl hg hA hrw K HR => ?_
  subst hl
  subst hg
  have hrw : jrw E := by rw [hrw]; trivial
  exact b_X7_want p0_0 p0_1 K hrw HR v1 s0 h
theorem ok_X7_howMany : yX7_howMany.cls ≠ "java/lang/invoke/MethodHandle" ∧ yX7_howMany.cls ≠ "java/lang/invoke/VarHandle" ∧ (parseMethodDescriptor yX7_howMany.desc).map (fun d => d.parameters.length) = some 1 := ⟨by decide, by decide, by decide +kernel⟩
def f_X7_howMany (v1 : Int32) (s0 : PartingsS) : Option (Int32) :=
   jbd (f_X7_waysFrom v1 (0 : Int32) s0) (fun r3 =>
   some r3)
set_option maxRecDepth 100000 in
set_option maxHeartbeats 4000000 in
theorem b_X7_howMany {E : jE} (p0_0 p0_1 : Nat) (s0 : PartingsS) {res : Int32} (K : jC E cX7_howMany 2 RX7 2) (HR : jRI E cX7_howMany 2 (wPartings (jg E) p0_0 p0_1 s0) res) : ∀ (v1 : Int32), f_X7_howMany v1 s0 = some res → J E 2 (wPartings (jg E) p0_0 p0_1 s0) 0 [(0, .ref p0_0), (1, .int v1)] [] := by
  intro v1 h
  unfold f_X7_howMany at h
  refine j_aload_n (pc' := 1) K dX7_howMany_0 rfl 0 rfl rfl ?_
  refine j_iload_n (pc' := 2) K dX7_howMany_1 rfl 1 rfl rfl ?_
  refine j_iconst (pc' := 3) (v := (0 : Int32)) K dX7_howMany_2 (by decide) rfl ?_
  obtain ⟨r3, hr3, h⟩ := jbd_some h
  refine j_ro (pc' := 6) K (fun H hP => jrun_V K dX7_howMany_3 (M_X7_waysFrom (jl E) (jg E) p0_0 p0_1 v1 (0 : Int32) s0 hr3) u_2_196 u_2_193 u_2_195 u_p_8 u_1_3 ⟨ok_X7_waysFrom, by decide, by decide⟩ rfl (Nat.le_of_ble_eq_true rfl) 0 rfl rfl H hP) [0, 1] rfl rfl ?_
  obtain rfl := Option.some.inj h
  exact HR _ _ dX7_howMany_6
set_option maxRecDepth 100000 in
set_option maxHeartbeats 4000000 in
theorem M_X7_howMany (l : Launch) (G : jG) (p0_0 p0_1 : Nat) (v1 : Int32) (s0 : PartingsS) {r : Int32} (h : f_X7_howMany v1 s0 = some r) : MC l yX7_howMany cX7_howMany 2 (some .int) 2 G jNo False (wPartings G p0_0 p0_1 s0) (wPartings G p0_0 p0_1 s0) [.ref p0_0, .int v1] (some (.int r)) := by
  refine mc_int (by decide +kernel) (Nat.le_of_ble_eq_true rfl) fun E hl hg hA hrw K HR => ?_
  subst hl
  subst hg
  exact b_X7_howMany p0_0 p0_1 s0 K HR v1 h
theorem ok_X7_ith : yX7_ith.cls ≠ "java/lang/invoke/MethodHandle" ∧ yX7_ith.cls ≠ "java/lang/invoke/VarHandle" ∧ (parseMethodDescriptor yX7_ith.desc).map (fun d => d.parameters.length) = some 2 := ⟨by decide, by decide, by decide +kernel⟩
def f_X7_ith_48 (k13 : Int32 → Int32 → Int32 → Int32 → PartingsS → Option (Int32)) (v3 : Int32) (v4 : Int32) (v5 : Int32) (v6 : Int32) (v7 : Int32) (t0 : Int32) (s0 : PartingsS) : Option (Int32) :=
   jbd (f_J9_max_7cf53 v4 (t0 + (1 : Int32))) (fun r73 =>
   k13 ((v3 <<< ((4 : Int32) &&& 31)) ||| t0) r73 (v5 - (t0 * v7)) (v6 + (-1 : Int32)) s0)
def f_X7_ith_13 : Nat → Int32 → Int32 → Int32 → Int32 → PartingsS → Option (Int32)
  | 0, _, _, _, _, _ => none
  | n + 1, v3, v4, v5, v6, s0 =>
   if v6 < 0 then
   some v3
  else
   jbd (f_X7_waysFrom v6 v4 s0) (fun r23 =>
    if r23 ≤ 0 then
     f_X7_ith_48 (f_X7_ith_13 n) v3 v4 v5 v6 r23 v4 s0
    else
     jnz r23 (
      jbd (f_J9_min_7cf53 (v5 / r23) v4) (fun r40 =>
       f_X7_ith_48 (f_X7_ith_13 n) v3 v4 v5 v6 r23 r40 s0)))
def f_X7_ith (v1 : Int32) (v2 : Int32) (s0 : PartingsS) : Option (Int32) :=
   f_X7_ith_13 jFU (0 : Int32) (0 : Int32) v2 (v1 - (1 : Int32)) s0
set_option maxRecDepth 100000 in
set_option maxHeartbeats 4000000 in
theorem b_X7_ith_48 {E : jE} (p0_0 p0_1 : Nat) (s0 : PartingsS) {res : Int32} (K : jC E cX7_ith 9 RX7 2) (HR : jRI E cX7_ith 9 (wPartings (jg E) p0_0 p0_1 s0) res) (k13 : Int32 → Int32 → Int32 → Int32 → PartingsS → Option (Int32)) (hk13 : ∀ (v3 : Int32) (v4 : Int32) (v5 : Int32) (v6 : Int32), k13 v3 v4 v5 v6 s0 = some res → J E 9 (wPartings (jg E) p0_0 p0_1 s0) 13 [(0, .ref p0_0), (3, .int v3), (4, .int v4), (5, .int v5), (6, .int v6)] []) : ∀ (v3 : Int32) (v4 : Int32) (v5 : Int32) (v6 : Int32) (v7 : Int32) (t0 : Int32), f_X7_ith_48 k13 v3 v4 v5 v6 v7 t0 s0 = some res → J E 9 (wPartings (jg E) p0_0 p0_1 s0) 48 [(0, .ref p0_0), (3, .int v3), (4, .int v4), (5, .int v5), (6, .int v6), (7, .int v7)] [.int t0] := by
  intro v3 v4 v5 v6 v7 t0 h
  unfold f_X7_ith_48 at h
  refine j_istore (pc' := 50) (lv' := [(8, .int t0), (0, .ref p0_0), (3, .int v3), (4, .int v4), (5, .int v5), (6, .int v6), (7, .int v7)]) K dX7_ith_48 (by decide) rfl rfl ?_
  refine j_iload (pc' := 52) K dX7_ith_50 4 rfl rfl ?_
  refine j_iload (pc' := 54) K dX7_ith_52 0 rfl rfl ?_
  refine j_iload (pc' := 56) K dX7_ith_54 6 rfl rfl ?_
  refine j_imul (pc' := 57) K dX7_ith_56 rfl ?_
  refine j_isub (pc' := 58) K dX7_ith_57 rfl ?_
  refine j_istore (pc' := 60) (lv' := [(5, .int (v5 - (t0 * v7))), (8, .int t0), (0, .ref p0_0), (3, .int v3), (4, .int v4), (6, .int v6), (7, .int v7)]) K dX7_ith_58 (by decide) rfl rfl ?_
  refine j_iload_n (pc' := 61) K dX7_ith_60 rfl 3 rfl rfl ?_
  refine j_iconst (pc' := 62) (v := (4 : Int32)) K dX7_ith_61 (by decide) rfl ?_
  refine j_ishl (pc' := 63) K dX7_ith_62 rfl ?_
  refine j_iload (pc' := 65) K dX7_ith_63 1 rfl rfl ?_
  refine j_ior (pc' := 66) K dX7_ith_65 rfl ?_
  refine j_istore_n (pc' := 67) (lv' := [(3, .int ((v3 <<< ((4 : Int32) &&& 31)) ||| t0)), (5, .int (v5 - (t0 * v7))), (8, .int t0), (0, .ref p0_0), (4, .int v4), (6, .int v6), (7, .int v7)]) K dX7_ith_66 rfl (by decide) rfl rfl ?_
  refine j_iload (pc' := 69) K dX7_ith_67 4 rfl rfl ?_
  refine j_iload (pc' := 71) K dX7_ith_69 2 rfl rfl ?_
  refine j_iconst (pc' := 72) (v := (1 : Int32)) K dX7_ith_71 (by decide) rfl ?_
  refine j_iadd (pc' := 73) K dX7_ith_72 rfl ?_
  obtain ⟨r73, hr73, h⟩ := jbd_some h
  refine j_ro (pc' := 76) K (fun H hP => jrun_S K dX7_ith_73 (M_J9_max_7cf53 (jl E) (jg E) v4 (t0 + (1 : Int32)) hr73) u_2_209 u_2_207 u_2_208 u_1_15 ⟨ok_J9_max_7cf53, by decide, by decide⟩ rfl (Nat.le_of_ble_eq_true rfl) H) [] rfl rfl ?_
  refine j_istore (pc' := 78) (lv' := [(4, .int r73), (3, .int ((v3 <<< ((4 : Int32) &&& 31)) ||| t0)), (5, .int (v5 - (t0 * v7))), (8, .int t0), (0, .ref p0_0), (6, .int v6), (7, .int v7)]) K dX7_ith_76 (by decide) rfl rfl ?_
  refine j_iinc (pc' := 81) (j := 5) (v := (v6 + (-1 : Int32))) (lv' := [(6, .int (v6 + (-1 : Int32))), (4, .int r73), (3, .int ((v3 <<< ((4 : Int32) &&& 31)) ||| t0)), (5, .int (v5 - (t0 * v7))), (8, .int t0), (0, .ref p0_0), (7, .int v7)]) K dX7_ith_78 rfl rfl (by decide) rfl rfl ?_
  refine j_goto (tgt := 13) K dX7_ith_81 (by decide) ?_
  refine j_sub [5, 2, 1, 3, 0] rfl ?_
  exact hk13 ((v3 <<< ((4 : Int32) &&& 31)) ||| t0) r73 (v5 - (t0 * v7)) (v6 + (-1 : Int32)) h
set_option maxRecDepth 100000 in
set_option maxHeartbeats 4000000 in
theorem b_X7_ith_13 {E : jE} (p0_0 p0_1 : Nat) (s0 : PartingsS) {res : Int32} (K : jC E cX7_ith 9 RX7 2) (HR : jRI E cX7_ith 9 (wPartings (jg E) p0_0 p0_1 s0) res) : ∀ (n : Nat) (v3 : Int32) (v4 : Int32) (v5 : Int32) (v6 : Int32), f_X7_ith_13 n v3 v4 v5 v6 s0 = some res → J E 9 (wPartings (jg E) p0_0 p0_1 s0) 13 [(0, .ref p0_0), (3, .int v3), (4, .int v4), (5, .int v5), (6, .int v6)] [] := by
  intro n
  induction n with
  | zero => intro _ _ _ _ h; cases h
  | succ n ih =>
    intro v3 v4 v5 v6 h
    rw [f_X7_ith_13] at h
    refine j_iload (pc' := 15) K dX7_ith_13 4 rfl rfl ?_
    refine j_if_lt (pc' := 18) (tgt := 84) K dX7_ith_15 (by decide) rfl (fun hc => ?_) (fun hc => ?_)
    · have h := jit hc h
      refine j_iload_n (pc' := 85) K dX7_ith_84 rfl 1 rfl rfl ?_
      obtain rfl := Option.some.inj h
      exact HR _ _ dX7_ith_85
    · have h := jif hc h
      refine j_aload_n (pc' := 19) K dX7_ith_18 rfl 0 rfl rfl ?_
      refine j_iload (pc' := 21) K dX7_ith_19 4 rfl rfl ?_
      refine j_iload (pc' := 23) K dX7_ith_21 2 rfl rfl ?_
      obtain ⟨r23, hr23, h⟩ := jbd_some h
      refine j_ro (pc' := 26) K (fun H hP => jrun_V K dX7_ith_23 (M_X7_waysFrom (jl E) (jg E) p0_0 p0_1 v6 v4 s0 hr23) u_2_196 u_2_193 u_2_195 u_p_8 u_1_3 ⟨ok_X7_waysFrom, by decide, by decide⟩ rfl (Nat.le_of_ble_eq_true rfl) 0 rfl rfl H hP) [0, 1] rfl rfl ?_
      refine j_istore (pc' := 28) (lv' := [(7, .int r23), (0, .ref p0_0), (3, .int v3), (4, .int v4), (5, .int v5), (6, .int v6)]) K dX7_ith_26 (by decide) rfl rfl ?_
      refine j_iload (pc' := 30) K dX7_ith_28 0 rfl rfl ?_
      refine j_if_le (pc' := 33) (tgt := 46) K dX7_ith_30 (by decide) rfl (fun hc => ?_) (fun hc => ?_)
      · have h := jit hc h
        refine j_iload (pc' := 48) K dX7_ith_46 3 rfl rfl ?_
        refine j_sub [1, 2, 3, 4, 5, 0] rfl ?_
        exact b_X7_ith_48 p0_0 p0_1 s0 K HR (f_X7_ith_13 n) (ih) v3 v4 v5 v6 r23 v4 h
      · have h := jif hc h
        refine j_iload (pc' := 35) K dX7_ith_33 4 rfl rfl ?_
        refine j_iload (pc' := 37) K dX7_ith_35 0 rfl rfl ?_
        obtain ⟨hg, h⟩ := jnz_some h
        refine j_idiv (pc' := 38) K dX7_ith_37 hg rfl ?_
        refine j_iload (pc' := 40) K dX7_ith_38 3 rfl rfl ?_
        obtain ⟨r40, hr40, h⟩ := jbd_some h
        refine j_ro (pc' := 43) K (fun H hP => jrun_S K dX7_ith_40 (M_J9_min_7cf53 (jl E) (jg E) (v5 / r23) v4 hr40) u_2_150 u_2_206 u_2_149 u_1_15 ⟨ok_J9_min_7cf53, by decide, by decide⟩ rfl (Nat.le_of_ble_eq_true rfl) H) [] rfl rfl ?_
        refine j_goto (tgt := 48) K dX7_ith_43 (by decide) ?_
        refine j_sub [1, 2, 3, 4, 5, 0] rfl ?_
        exact b_X7_ith_48 p0_0 p0_1 s0 K HR (f_X7_ith_13 n) (ih) v3 v4 v5 v6 r23 r40 h
set_option maxRecDepth 100000 in
set_option maxHeartbeats 4000000 in
theorem b_X7_ith {E : jE} (p0_0 p0_1 : Nat) (s0 : PartingsS) {res : Int32} (K : jC E cX7_ith 9 RX7 2) (HR : jRI E cX7_ith 9 (wPartings (jg E) p0_0 p0_1 s0) res) : ∀ (v1 : Int32) (v2 : Int32), f_X7_ith v1 v2 s0 = some res → J E 9 (wPartings (jg E) p0_0 p0_1 s0) 0 [(0, .ref p0_0), (1, .int v1), (2, .int v2)] [] := by
  intro v1 v2 h
  unfold f_X7_ith at h
  refine j_iconst (pc' := 1) (v := (0 : Int32)) K dX7_ith_0 (by decide) rfl ?_
  refine j_istore_n (pc' := 2) (lv' := [(3, .int (0 : Int32)), (0, .ref p0_0), (1, .int v1), (2, .int v2)]) K dX7_ith_1 rfl (by decide) rfl rfl ?_
  refine j_iconst (pc' := 3) (v := (0 : Int32)) K dX7_ith_2 (by decide) rfl ?_
  refine j_istore (pc' := 5) (lv' := [(4, .int (0 : Int32)), (3, .int (0 : Int32)), (0, .ref p0_0), (1, .int v1), (2, .int v2)]) K dX7_ith_3 (by decide) rfl rfl ?_
  refine j_iload_n (pc' := 6) K dX7_ith_5 rfl 4 rfl rfl ?_
  refine j_istore (pc' := 8) (lv' := [(5, .int v2), (4, .int (0 : Int32)), (3, .int (0 : Int32)), (0, .ref p0_0), (1, .int v1), (2, .int v2)]) K dX7_ith_6 (by decide) rfl rfl ?_
  refine j_iload_n (pc' := 9) K dX7_ith_8 rfl 4 rfl rfl ?_
  refine j_iconst (pc' := 10) (v := (1 : Int32)) K dX7_ith_9 (by decide) rfl ?_
  refine j_isub (pc' := 11) K dX7_ith_10 rfl ?_
  refine j_istore (pc' := 13) (lv' := [(6, .int (v1 - (1 : Int32))), (5, .int v2), (4, .int (0 : Int32)), (3, .int (0 : Int32)), (0, .ref p0_0), (1, .int v1), (2, .int v2)]) K dX7_ith_11 (by decide) rfl rfl ?_
  refine j_sub [4, 3, 2, 1, 0] rfl ?_
  exact b_X7_ith_13 p0_0 p0_1 s0 K HR jFU (0 : Int32) (0 : Int32) v2 (v1 - (1 : Int32)) h
set_option maxRecDepth 100000 in
set_option maxHeartbeats 4000000 in
theorem M_X7_ith (l : Launch) (G : jG) (p0_0 p0_1 : Nat) (v1 : Int32) (v2 : Int32) (s0 : PartingsS) {r : Int32} (h : f_X7_ith v1 v2 s0 = some r) : MC l yX7_ith cX7_ith 9 (some .int) 2 G jNo False (wPartings G p0_0 p0_1 s0) (wPartings G p0_0 p0_1 s0) [.ref p0_0, .int v1, .int v2] (some (.int r)) := by
  refine mc_int (by decide +kernel) (Nat.le_of_ble_eq_true rfl) fun E hl hg hA hrw K HR => ?_
  subst hl
  subst hg
  exact b_X7_ith p0_0 p0_1 s0 K HR v1 v2 h
theorem ok_X7_partsOf : yX7_partsOf.cls ≠ "java/lang/invoke/MethodHandle" ∧ yX7_partsOf.cls ≠ "java/lang/invoke/VarHandle" ∧ (parseMethodDescriptor yX7_partsOf.desc).map (fun d => d.parameters.length) = some 2 := ⟨by decide, by decide, by decide +kernel⟩
def f_X7_partsOf_15 : Nat → Int32 → Int32 → Int32 → Int32 → Option (Int32)
  | 0, _, _, _, _ => none
  | n + 1, v1, v2, v3, v4 =>
   if v1 ≤ v4 then
   some v3
  else
   jbd (f_X11_digitAt v2 v1 v4) (fun r25 =>
    if r25 ≤ v3 then
     jbd (f_J9_max_7cf53 v3 (r25 + (1 : Int32))) (fun r43 =>
      (f_X7_partsOf_15 n) v1 v2 r43 (v4 + (1 : Int32)))
    else
     some (0 : Int32))
def f_X7_partsOf (v1 : Int32) (v2 : Int32) : Option (Int32) :=
   jbd (f_X11_hasDigitsAlone v2 v1) (fun r2 =>
   if r2 = 0 then
    some (0 : Int32)
   else
    f_X7_partsOf_15 jFU v1 v2 (0 : Int32) (0 : Int32))
set_option maxRecDepth 100000 in
set_option maxHeartbeats 4000000 in
theorem b_X7_partsOf_15 {E : jE}  (q0 : Nat) {res : Int32} (K : jC E cX7_partsOf 6 RX7 1) (HR : jRI E cX7_partsOf 6 ([] : va_W) res) : ∀ (n : Nat) (v1 : Int32) (v2 : Int32) (v3 : Int32) (v4 : Int32), f_X7_partsOf_15 n v1 v2 v3 v4 = some res → J E 6 ([] : va_W) 15 [(1, .int v1), (2, .int v2), (3, .int v3), (4, .int v4)] [] := by
  intro n
  induction n with
  | zero => intro _ _ _ _ h; cases h
  | succ n ih =>
    intro v1 v2 v3 v4 h
    rw [f_X7_partsOf_15] at h
    refine j_iload (pc' := 17) K dX7_partsOf_15 3 rfl rfl ?_
    refine j_iload_n (pc' := 18) K dX7_partsOf_17 rfl 0 rfl rfl ?_
    refine j_icmp_ge (pc' := 21) (tgt := 53) K dX7_partsOf_18 (by decide) rfl (fun hc => ?_) (fun hc => ?_)
    · have h := jit hc h
      refine j_iload_n (pc' := 54) K dX7_partsOf_53 rfl 2 rfl rfl ?_
      obtain rfl := Option.some.inj h
      exact HR _ _ dX7_partsOf_54
    · have h := jif hc h
      refine j_iload_n (pc' := 22) K dX7_partsOf_21 rfl 1 rfl rfl ?_
      refine j_iload_n (pc' := 23) K dX7_partsOf_22 rfl 0 rfl rfl ?_
      refine j_iload (pc' := 25) K dX7_partsOf_23 3 rfl rfl ?_
      obtain ⟨r25, hr25, h⟩ := jbd_some h
      refine j_ro (pc' := 28) K (fun H hP => jrun_SN K dX7_partsOf_25 (host := "CountTriangles") (M_X11_digitAt (jl E) (jg E) v2 v1 v4 hr25) u_2_223 (by decide) u_2_222 u_1_1 ⟨ok_X11_digitAt, by decide, by decide⟩ rfl (Nat.le_of_ble_eq_true rfl) H) [] rfl rfl ?_
      refine j_istore (pc' := 30) (lv' := [(5, .int r25), (1, .int v1), (2, .int v2), (3, .int v3), (4, .int v4)]) K dX7_partsOf_28 (by decide) rfl rfl ?_
      refine j_iload (pc' := 32) K dX7_partsOf_30 0 rfl rfl ?_
      refine j_iload_n (pc' := 33) K dX7_partsOf_32 rfl 3 rfl rfl ?_
      refine j_icmp_le (pc' := 36) (tgt := 38) K dX7_partsOf_33 (by decide) rfl (fun hc => ?_) (fun hc => ?_)
      · have h := jit hc h
        refine j_iload_n (pc' := 39) K dX7_partsOf_38 rfl 3 rfl rfl ?_
        refine j_iload (pc' := 41) K dX7_partsOf_39 0 rfl rfl ?_
        refine j_iconst (pc' := 42) (v := (1 : Int32)) K dX7_partsOf_41 (by decide) rfl ?_
        refine j_iadd (pc' := 43) K dX7_partsOf_42 rfl ?_
        obtain ⟨r43, hr43, h⟩ := jbd_some h
        refine j_ro (pc' := 46) K (fun H hP => jrun_S K dX7_partsOf_43 (M_J9_max_7cf53 (jl E) (jg E) v3 (r25 + (1 : Int32)) hr43) u_2_209 u_2_207 u_2_208 u_1_15 ⟨ok_J9_max_7cf53, by decide, by decide⟩ rfl (Nat.le_of_ble_eq_true rfl) H) [] rfl rfl ?_
        refine j_istore_n (pc' := 47) (lv' := [(3, .int r43), (5, .int r25), (1, .int v1), (2, .int v2), (4, .int v4)]) K dX7_partsOf_46 rfl (by decide) rfl rfl ?_
        refine j_iinc (pc' := 50) (j := 4) (v := (v4 + (1 : Int32))) (lv' := [(4, .int (v4 + (1 : Int32))), (3, .int r43), (5, .int r25), (1, .int v1), (2, .int v2)]) K dX7_partsOf_47 rfl rfl (by decide) rfl rfl ?_
        refine j_goto (tgt := 15) K dX7_partsOf_50 (by decide) ?_
        refine j_sub [3, 4, 1, 0] rfl ?_
        exact ih v1 v2 r43 (v4 + (1 : Int32)) h
      · have h := jif hc h
        refine j_iconst (pc' := 37) (v := (0 : Int32)) K dX7_partsOf_36 (by decide) rfl ?_
        obtain rfl := Option.some.inj h
        exact HR _ _ dX7_partsOf_37
set_option maxRecDepth 100000 in
set_option maxHeartbeats 4000000 in
theorem b_X7_partsOf {E : jE}  (q0 : Nat) {res : Int32} (K : jC E cX7_partsOf 6 RX7 1) (HR : jRI E cX7_partsOf 6 ([] : va_W) res) : ∀ (v1 : Int32) (v2 : Int32), f_X7_partsOf v1 v2 = some res → J E 6 ([] : va_W) 0 [(0, .ref q0), (1, .int v1), (2, .int v2)] [] := by
  intro v1 v2 h
  unfold f_X7_partsOf at h
  refine j_iload_n (pc' := 1) K dX7_partsOf_0 rfl 2 rfl rfl ?_
  refine j_iload_n (pc' := 2) K dX7_partsOf_1 rfl 1 rfl rfl ?_
  obtain ⟨r2, hr2, h⟩ := jbd_some h
  refine j_ro (pc' := 5) K (fun H hP => jrun_SN K dX7_partsOf_2 (host := "CountTriangles") (M_X11_hasDigitsAlone (jl E) (jg E) v2 v1 hr2) u_2_220 (by decide) u_2_219 u_1_1 ⟨ok_X11_hasDigitsAlone, by decide, by decide⟩ rfl (Nat.le_of_ble_eq_true rfl) H) [] rfl rfl ?_
  refine j_if_ne (pc' := 8) (tgt := 10) K dX7_partsOf_5 (by decide) rfl (fun hc => ?_) (fun hc => ?_)
  · have h := jif hc h
    refine j_iconst (pc' := 11) (v := (0 : Int32)) K dX7_partsOf_10 (by decide) rfl ?_
    refine j_istore_n (pc' := 12) (lv' := [(3, .int (0 : Int32)), (0, .ref q0), (1, .int v1), (2, .int v2)]) K dX7_partsOf_11 rfl (by decide) rfl rfl ?_
    refine j_iconst (pc' := 13) (v := (0 : Int32)) K dX7_partsOf_12 (by decide) rfl ?_
    refine j_istore (pc' := 15) (lv' := [(4, .int (0 : Int32)), (3, .int (0 : Int32)), (0, .ref q0), (1, .int v1), (2, .int v2)]) K dX7_partsOf_13 (by decide) rfl rfl ?_
    refine j_sub [3, 4, 1, 0] rfl ?_
    exact b_X7_partsOf_15 q0 K HR jFU v1 v2 (0 : Int32) (0 : Int32) h
  · have h := jit hc h
    refine j_iconst (pc' := 9) (v := (0 : Int32)) K dX7_partsOf_8 (by decide) rfl ?_
    obtain rfl := Option.some.inj h
    exact HR _ _ dX7_partsOf_9
set_option maxRecDepth 100000 in
set_option maxHeartbeats 4000000 in
theorem M_X7_partsOf (l : Launch) (G : jG)  (q0 : Nat) (v1 : Int32) (v2 : Int32) {r : Int32} (h : f_X7_partsOf v1 v2 = some r) : MC l yX7_partsOf cX7_partsOf 6 (some .int) 1 G jNo False ([] : va_W) ([] : va_W) [.ref q0, .int v1, .int v2] (some (.int r)) := by
  refine mc_int (by decide +kernel) (Nat.le_of_ble_eq_true rfl) fun E hl hg hA hrw K HR => ?_
  subst hl
  subst hg
  exact b_X7_partsOf q0 K HR v1 v2 h
theorem ok_X7_rankOf : yX7_rankOf.cls ≠ "java/lang/invoke/MethodHandle" ∧ yX7_rankOf.cls ≠ "java/lang/invoke/VarHandle" ∧ (parseMethodDescriptor yX7_rankOf.desc).map (fun d => d.parameters.length) = some 2 := ⟨by decide, by decide, by decide +kernel⟩
def f_X7_rankOf_8 : Nat → Int32 → Int32 → Int32 → Int32 → Int32 → PartingsS → Option (Int32)
  | 0, _, _, _, _, _, _ => none
  | n + 1, v1, v2, v3, v4, v5, s0 =>
   if v1 ≤ v5 then
   some v3
  else
   jbd (f_X11_digitAt v2 v1 v5) (fun r18 =>
    jbd (f_X7_waysFrom ((v1 - (1 : Int32)) - v5) v4 s0) (fun r35 =>
     jbd (f_J9_max_7cf53 v4 (r18 + (1 : Int32))) (fun r47 =>
      (f_X7_rankOf_8 n) v1 v2 (v3 + (r18 * r35)) r47 (v5 + (1 : Int32)) s0)))
def f_X7_rankOf (v1 : Int32) (v2 : Int32) (s0 : PartingsS) : Option (Int32) :=
   f_X7_rankOf_8 jFU v1 v2 (0 : Int32) (0 : Int32) (0 : Int32) s0
set_option maxRecDepth 100000 in
set_option maxHeartbeats 4000000 in
theorem b_X7_rankOf_8 {E : jE} (p0_0 p0_1 : Nat) (s0 : PartingsS) {res : Int32} (K : jC E cX7_rankOf 7 RX7 2) (HR : jRI E cX7_rankOf 7 (wPartings (jg E) p0_0 p0_1 s0) res) : ∀ (n : Nat) (v1 : Int32) (v2 : Int32) (v3 : Int32) (v4 : Int32) (v5 : Int32), f_X7_rankOf_8 n v1 v2 v3 v4 v5 s0 = some res → J E 7 (wPartings (jg E) p0_0 p0_1 s0) 8 [(0, .ref p0_0), (1, .int v1), (2, .int v2), (3, .int v3), (4, .int v4), (5, .int v5)] [] := by
  intro n
  induction n with
  | zero => intro _ _ _ _ _ h; cases h
  | succ n ih =>
    intro v1 v2 v3 v4 v5 h
    rw [f_X7_rankOf_8] at h
    refine j_iload (pc' := 10) K dX7_rankOf_8 5 rfl rfl ?_
    refine j_iload_n (pc' := 11) K dX7_rankOf_10 rfl 1 rfl rfl ?_
    refine j_icmp_ge (pc' := 14) (tgt := 58) K dX7_rankOf_11 (by decide) rfl (fun hc => ?_) (fun hc => ?_)
    · have h := jit hc h
      refine j_iload_n (pc' := 59) K dX7_rankOf_58 rfl 3 rfl rfl ?_
      obtain rfl := Option.some.inj h
      exact HR _ _ dX7_rankOf_59
    · have h := jif hc h
      refine j_iload_n (pc' := 15) K dX7_rankOf_14 rfl 2 rfl rfl ?_
      refine j_iload_n (pc' := 16) K dX7_rankOf_15 rfl 1 rfl rfl ?_
      refine j_iload (pc' := 18) K dX7_rankOf_16 5 rfl rfl ?_
      obtain ⟨r18, hr18, h⟩ := jbd_some h
      refine j_ro (pc' := 21) K (fun H hP => jrun_SN K dX7_rankOf_18 (host := "CountTriangles") (M_X11_digitAt (jl E) (jg E) v2 v1 v5 hr18) u_2_223 (by decide) u_2_222 u_1_1 ⟨ok_X11_digitAt, by decide, by decide⟩ rfl (Nat.le_of_ble_eq_true rfl) H) [] rfl rfl ?_
      refine j_istore (pc' := 23) (lv' := [(6, .int r18), (0, .ref p0_0), (1, .int v1), (2, .int v2), (3, .int v3), (4, .int v4), (5, .int v5)]) K dX7_rankOf_21 (by decide) rfl rfl ?_
      refine j_iload_n (pc' := 24) K dX7_rankOf_23 rfl 4 rfl rfl ?_
      refine j_iload (pc' := 26) K dX7_rankOf_24 0 rfl rfl ?_
      refine j_aload_n (pc' := 27) K dX7_rankOf_26 rfl 1 rfl rfl ?_
      refine j_iload_n (pc' := 28) K dX7_rankOf_27 rfl 2 rfl rfl ?_
      refine j_iconst (pc' := 29) (v := (1 : Int32)) K dX7_rankOf_28 (by decide) rfl ?_
      refine j_isub (pc' := 30) K dX7_rankOf_29 rfl ?_
      refine j_iload (pc' := 32) K dX7_rankOf_30 6 rfl rfl ?_
      refine j_isub (pc' := 33) K dX7_rankOf_32 rfl ?_
      refine j_iload (pc' := 35) K dX7_rankOf_33 5 rfl rfl ?_
      obtain ⟨r35, hr35, h⟩ := jbd_some h
      refine j_ro (pc' := 38) K (fun H hP => jrun_V K dX7_rankOf_35 (M_X7_waysFrom (jl E) (jg E) p0_0 p0_1 ((v1 - (1 : Int32)) - v5) v4 s0 hr35) u_2_196 u_2_193 u_2_195 u_p_8 u_1_3 ⟨ok_X7_waysFrom, by decide, by decide⟩ rfl (Nat.le_of_ble_eq_true rfl) 0 rfl rfl H hP) [0, 1] rfl rfl ?_
      refine j_imul (pc' := 39) K dX7_rankOf_38 rfl ?_
      refine j_iadd (pc' := 40) K dX7_rankOf_39 rfl ?_
      refine j_istore_n (pc' := 41) (lv' := [(3, .int (v3 + (r18 * r35))), (6, .int r18), (0, .ref p0_0), (1, .int v1), (2, .int v2), (4, .int v4), (5, .int v5)]) K dX7_rankOf_40 rfl (by decide) rfl rfl ?_
      refine j_iload (pc' := 43) K dX7_rankOf_41 5 rfl rfl ?_
      refine j_iload (pc' := 45) K dX7_rankOf_43 1 rfl rfl ?_
      refine j_iconst (pc' := 46) (v := (1 : Int32)) K dX7_rankOf_45 (by decide) rfl ?_
      refine j_iadd (pc' := 47) K dX7_rankOf_46 rfl ?_
      obtain ⟨r47, hr47, h⟩ := jbd_some h
      refine j_ro (pc' := 50) K (fun H hP => jrun_S K dX7_rankOf_47 (M_J9_max_7cf53 (jl E) (jg E) v4 (r18 + (1 : Int32)) hr47) u_2_209 u_2_207 u_2_208 u_1_15 ⟨ok_J9_max_7cf53, by decide, by decide⟩ rfl (Nat.le_of_ble_eq_true rfl) H) [] rfl rfl ?_
      refine j_istore (pc' := 52) (lv' := [(4, .int r47), (3, .int (v3 + (r18 * r35))), (6, .int r18), (0, .ref p0_0), (1, .int v1), (2, .int v2), (5, .int v5)]) K dX7_rankOf_50 (by decide) rfl rfl ?_
      refine j_iinc (pc' := 55) (j := 6) (v := (v5 + (1 : Int32))) (lv' := [(5, .int (v5 + (1 : Int32))), (4, .int r47), (3, .int (v3 + (r18 * r35))), (6, .int r18), (0, .ref p0_0), (1, .int v1), (2, .int v2)]) K dX7_rankOf_52 rfl rfl (by decide) rfl rfl ?_
      refine j_goto (tgt := 8) K dX7_rankOf_55 (by decide) ?_
      refine j_sub [4, 5, 6, 2, 1, 0] rfl ?_
      exact ih v1 v2 (v3 + (r18 * r35)) r47 (v5 + (1 : Int32)) h
set_option maxRecDepth 100000 in
set_option maxHeartbeats 4000000 in
theorem b_X7_rankOf {E : jE} (p0_0 p0_1 : Nat) (s0 : PartingsS) {res : Int32} (K : jC E cX7_rankOf 7 RX7 2) (HR : jRI E cX7_rankOf 7 (wPartings (jg E) p0_0 p0_1 s0) res) : ∀ (v1 : Int32) (v2 : Int32), f_X7_rankOf v1 v2 s0 = some res → J E 7 (wPartings (jg E) p0_0 p0_1 s0) 0 [(0, .ref p0_0), (1, .int v1), (2, .int v2)] [] := by
  intro v1 v2 h
  unfold f_X7_rankOf at h
  refine j_iconst (pc' := 1) (v := (0 : Int32)) K dX7_rankOf_0 (by decide) rfl ?_
  refine j_istore_n (pc' := 2) (lv' := [(3, .int (0 : Int32)), (0, .ref p0_0), (1, .int v1), (2, .int v2)]) K dX7_rankOf_1 rfl (by decide) rfl rfl ?_
  refine j_iconst (pc' := 3) (v := (0 : Int32)) K dX7_rankOf_2 (by decide) rfl ?_
  refine j_istore (pc' := 5) (lv' := [(4, .int (0 : Int32)), (3, .int (0 : Int32)), (0, .ref p0_0), (1, .int v1), (2, .int v2)]) K dX7_rankOf_3 (by decide) rfl rfl ?_
  refine j_iconst (pc' := 6) (v := (0 : Int32)) K dX7_rankOf_5 (by decide) rfl ?_
  refine j_istore (pc' := 8) (lv' := [(5, .int (0 : Int32)), (4, .int (0 : Int32)), (3, .int (0 : Int32)), (0, .ref p0_0), (1, .int v1), (2, .int v2)]) K dX7_rankOf_6 (by decide) rfl rfl ?_
  refine j_sub [3, 4, 5, 2, 1, 0] rfl ?_
  exact b_X7_rankOf_8 p0_0 p0_1 s0 K HR jFU v1 v2 (0 : Int32) (0 : Int32) (0 : Int32) h
set_option maxRecDepth 100000 in
set_option maxHeartbeats 4000000 in
theorem M_X7_rankOf (l : Launch) (G : jG) (p0_0 p0_1 : Nat) (v1 : Int32) (v2 : Int32) (s0 : PartingsS) {r : Int32} (h : f_X7_rankOf v1 v2 s0 = some r) : MC l yX7_rankOf cX7_rankOf 7 (some .int) 2 G jNo False (wPartings G p0_0 p0_1 s0) (wPartings G p0_0 p0_1 s0) [.ref p0_0, .int v1, .int v2] (some (.int r)) := by
  refine mc_int (by decide +kernel) (Nat.le_of_ble_eq_true rfl) fun E hl hg hA hrw K HR => ?_
  subst hl
  subst hg
  exact b_X7_rankOf p0_0 p0_1 s0 K HR v1 v2 h
