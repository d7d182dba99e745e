theorem ok_X2_productAt : yX2_productAt.cls ≠ "java/lang/invoke/MethodHandle" ∧ yX2_productAt.cls ≠ "java/lang/invoke/VarHandle" ∧ (parseMethodDescriptor yX2_productAt.desc).map (fun d => d.parameters.length) = some 3 := ⟨by decide, by decide, by decide +kernel⟩
def f_X2_productAt_6 : Nat → Int32 → Int32 → Int64 → Int32 → LawS → LawS → Option (Int64)
  | 0, _, _, _, _, _, _ => none
  | n + 1, v2, v3, v4, v6, s0, s1 =>
   if v2 < v6 then
   some v4
  else
   jbd (f_X2_numberAt v2 v6 s0) (fun r16 =>
    jbd (f_X2_numberAt v6 v3 s1) (fun r23 =>
     jbd (f_X2_product r16 r23) (fun r26 =>
      if (lg_cmp r26 (-9000000000000000000 : Int64)) = 0 then
       some (-9000000000000000000 : Int64)
      else
       (f_X2_productAt_6 n) v2 v3 (v4 + r26) (v6 + (1 : Int32)) s0 s1)))
def f_X2_productAt (v2 : Int32) (v3 : Int32) (s0 : LawS) (s1 : LawS) : Option (Int64) :=
   f_X2_productAt_6 jFU v2 v3 (0 : Int64) v3 s0 s1
set_option maxRecDepth 100000 in
set_option maxHeartbeats 4000000 in
theorem b_X2_productAt_6 {E : jE} (p0_0 p0_1 p0_2 p0_3 p0_4 p0_5 : Nat) (p1_0 p1_1 p1_2 p1_3 p1_4 p1_5 : Nat) (s0 : LawS) (s1 : LawS) {res : Int64} (K : jC E cX2_productAt 9 RX2 3) (HR : jRL E cX2_productAt 9 (wLaw (jg E) p0_0 p0_1 p0_2 p0_3 p0_4 p0_5 s0 ++ wLaw (jg E) p1_0 p1_1 p1_2 p1_3 p1_4 p1_5 s1) res) : ∀ (n : Nat) (v2 : Int32) (v3 : Int32) (v4 : Int64) (v6 : Int32), f_X2_productAt_6 n v2 v3 v4 v6 s0 s1 = some res → J E 9 (wLaw (jg E) p0_0 p0_1 p0_2 p0_3 p0_4 p0_5 s0 ++ wLaw (jg E) p1_0 p1_1 p1_2 p1_3 p1_4 p1_5 s1) 6 [(0, .ref p0_0), (1, .ref p1_0), (2, .int v2), (3, .int v3), (4, .long v4), (6, .int v6)] [] := by
  intro n
  induction n with
  | zero => intro _ _ _ _ h; cases h
  | succ n ih =>
    intro v2 v3 v4 v6 h
    rw [f_X2_productAt_6] at h
    refine j_iload (pc' := 8) K dX2_productAt_6 5 rfl rfl ?_
    refine j_iload_n (pc' := 9) K dX2_productAt_8 rfl 2 rfl rfl ?_
    refine j_icmp_gt (pc' := 12) (tgt := 57) K dX2_productAt_9 (by decide) rfl (fun hc => ?_) (fun hc => ?_)
    · have h := jit hc h
      refine j_lload (pc' := 59) K dX2_productAt_57 4 rfl rfl ?_
      obtain rfl := Option.some.inj h
      exact HR _ _ dX2_productAt_59
    · have h := jif hc h
      refine j_aload_n (pc' := 13) K dX2_productAt_12 rfl 0 rfl rfl ?_
      refine j_iload_n (pc' := 14) K dX2_productAt_13 rfl 2 rfl rfl ?_
      refine j_iload (pc' := 16) K dX2_productAt_14 5 rfl rfl ?_
      obtain ⟨r16, hr16, h⟩ := jbd_some h
      refine j_ro (pc' := 19) K (fun H hP => jrun_V K dX2_productAt_16 (M_X2_numberAt (jl E) (jg E) p0_0 p0_1 p0_2 p0_3 p0_4 p0_5 v2 v6 s0 hr16) u_2_60 u_2_57 u_2_58 u_2_59 u_1_11 ⟨ok_X2_numberAt, by decide, by decide⟩ rfl (Nat.le_of_ble_eq_true rfl) 0 rfl rfl H hP) [0, 1, 2, 3, 4, 5] rfl rfl ?_
      refine j_aload_n (pc' := 20) K dX2_productAt_19 rfl 1 rfl rfl ?_
      refine j_iload (pc' := 22) K dX2_productAt_20 5 rfl rfl ?_
      refine j_iload_n (pc' := 23) K dX2_productAt_22 rfl 3 rfl rfl ?_
      obtain ⟨r23, hr23, h⟩ := jbd_some h
      refine j_ro (pc' := 26) K (fun H hP => jrun_V K dX2_productAt_23 (M_X2_numberAt (jl E) (jg E) p1_0 p1_1 p1_2 p1_3 p1_4 p1_5 v6 v3 s1 hr23) u_2_60 u_2_57 u_2_58 u_2_59 u_1_11 ⟨ok_X2_numberAt, by decide, by decide⟩ rfl (Nat.le_of_ble_eq_true rfl) 6 rfl rfl H hP) [6, 7, 8, 9, 10, 11] rfl rfl ?_
      obtain ⟨r26, hr26, h⟩ := jbd_some h
      refine j_ro (pc' := 29) K (fun H hP => jrun_S K dX2_productAt_26 (M_X2_product (jl E) (jg E) r16 r23 hr26) u_2_69 u_2_67 u_2_68 u_1_11 ⟨ok_X2_product, by decide, by decide⟩ rfl (Nat.le_of_ble_eq_true rfl) H) [] rfl rfl ?_
      refine j_lstore (pc' := 31) (lv' := [(7, .long r26), (0, .ref p0_0), (1, .ref p1_0), (2, .int v2), (3, .int v3), (4, .long v4), (6, .int v6)]) K dX2_productAt_29 (by decide) rfl rfl ?_
      refine j_lload (pc' := 33) K dX2_productAt_31 0 rfl rfl ?_
      refine j_ldc2 (pc' := 36) K dX2_productAt_33 u_2_70 rfl ?_
      refine j_lcmp (pc' := 37) K dX2_productAt_36 rfl ?_
      refine j_if_ne (pc' := 40) (tgt := 44) K dX2_productAt_37 (by decide) rfl (fun hc => ?_) (fun hc => ?_)
      · have h := jif hc h
        refine j_lload (pc' := 46) K dX2_productAt_44 5 rfl rfl ?_
        refine j_lload (pc' := 48) K dX2_productAt_46 0 rfl rfl ?_
        refine j_ladd (pc' := 49) K dX2_productAt_48 rfl ?_
        refine j_lstore (pc' := 51) (lv' := [(4, .long (v4 + r26)), (7, .long r26), (0, .ref p0_0), (1, .ref p1_0), (2, .int v2), (3, .int v3), (6, .int v6)]) K dX2_productAt_49 (by decide) rfl rfl ?_
        refine j_iinc (pc' := 54) (j := 6) (v := (v6 + (1 : Int32))) (lv' := [(6, .int (v6 + (1 : Int32))), (4, .long (v4 + r26)), (7, .long r26), (0, .ref p0_0), (1, .ref p1_0), (2, .int v2), (3, .int v3)]) K dX2_productAt_51 rfl rfl (by decide) rfl rfl ?_
        refine j_goto (tgt := 6) K dX2_productAt_54 (by decide) ?_
        refine j_sub [3, 4, 5, 6, 1, 0] rfl ?_
        exact ih v2 v3 (v4 + r26) (v6 + (1 : Int32)) h
      · have h := jit hc h
        refine j_ldc2 (pc' := 43) K dX2_productAt_40 u_2_70 rfl ?_
        obtain rfl := Option.some.inj h
        exact HR _ _ dX2_productAt_43
set_option maxRecDepth 100000 in
set_option maxHeartbeats 4000000 in
theorem b_X2_productAt {E : jE} (p0_0 p0_1 p0_2 p0_3 p0_4 p0_5 : Nat) (p1_0 p1_1 p1_2 p1_3 p1_4 p1_5 : Nat) (s0 : LawS) (s1 : LawS) {res : Int64} (K : jC E cX2_productAt 9 RX2 3) (HR : jRL E cX2_productAt 9 (wLaw (jg E) p0_0 p0_1 p0_2 p0_3 p0_4 p0_5 s0 ++ wLaw (jg E) p1_0 p1_1 p1_2 p1_3 p1_4 p1_5 s1) res) : ∀ (v2 : Int32) (v3 : Int32), f_X2_productAt v2 v3 s0 s1 = some res → J E 9 (wLaw (jg E) p0_0 p0_1 p0_2 p0_3 p0_4 p0_5 s0 ++ wLaw (jg E) p1_0 p1_1 p1_2 p1_3 p1_4 p1_5 s1) 0 [(0, .ref p0_0), (1, .ref p1_0), (2, .int v2), (3, .int v3)] [] := by
  intro v2 v3 h
  unfold f_X2_productAt at h
  refine j_lconst (pc' := 1) (v := (0 : Int64)) K dX2_productAt_0 (by decide) rfl ?_
  refine j_lstore (pc' := 3) (lv' := [(4, .long (0 : Int64)), (0, .ref p0_0), (1, .ref p1_0), (2, .int v2), (3, .int v3)]) K dX2_productAt_1 (by decide) rfl rfl ?_
  refine j_iload_n (pc' := 4) K dX2_productAt_3 rfl 4 rfl rfl ?_
  refine j_istore (pc' := 6) (lv' := [(6, .int v3), (4, .long (0 : Int64)), (0, .ref p0_0), (1, .ref p1_0), (2, .int v2), (3, .int v3)]) K dX2_productAt_4 (by decide) rfl rfl ?_
  refine j_sub [2, 3, 4, 5, 1, 0] rfl ?_
  exact b_X2_productAt_6 p0_0 p0_1 p0_2 p0_3 p0_4 p0_5 p1_0 p1_1 p1_2 p1_3 p1_4 p1_5 s0 s1 K HR jFU v2 v3 (0 : Int64) v3 h
set_option maxRecDepth 100000 in
set_option maxHeartbeats 4000000 in
theorem M_X2_productAt (l : Launch) (G : jG) (p0_0 p0_1 p0_2 p0_3 p0_4 p0_5 : Nat) (p1_0 p1_1 p1_2 p1_3 p1_4 p1_5 : Nat) (v2 : Int32) (v3 : Int32) (s0 : LawS) (s1 : LawS) {r : Int64} (h : f_X2_productAt v2 v3 s0 s1 = some r) : MC l yX2_productAt cX2_productAt 9 (some .long) 3 G jNo False (wLaw G p0_0 p0_1 p0_2 p0_3 p0_4 p0_5 s0 ++ wLaw G p1_0 p1_1 p1_2 p1_3 p1_4 p1_5 s1) (wLaw G p0_0 p0_1 p0_2 p0_3 p0_4 p0_5 s0 ++ wLaw G p1_0 p1_1 p1_2 p1_3 p1_4 p1_5 s1) [.ref p0_0, .ref p1_0, .int v2, .int v3] (some (.long r)) := by
  refine mc_long (by decide +kernel) (Nat.le_of_ble_eq_true rfl) fun E hl hg hA hrw K HR => ?_
  subst hl
  subst hg
  exact b_X2_productAt p0_0 p0_1 p0_2 p0_3 p0_4 p0_5 p1_0 p1_1 p1_2 p1_3 p1_4 p1_5 s0 s1 K HR v2 v3 h
theorem ok_X2_firstRowNotUndone : yX2_firstRowNotUndone.cls ≠ "java/lang/invoke/MethodHandle" ∧ yX2_firstRowNotUndone.cls ≠ "java/lang/invoke/VarHandle" ∧ (parseMethodDescriptor yX2_firstRowNotUndone.desc).map (fun d => d.parameters.length) = some 2 := ⟨by decide, by decide, by decide +kernel⟩
def f_X2_firstRowNotUndone_64 (k2 : Int32 → Int32 → LawS → LawS → Option (Int32)) (v2 : Int32) (v3 : Int32) (s0 : LawS) (s1 : LawS) : Option (Int32) :=
   k2 v2 (v3 + (1 : Int32)) s0 s1
def f_X2_firstRowNotUndone_51 (k2 : Int32 → Int32 → LawS → LawS → Option (Int32)) (k10 : Int32 → Int32 → Int32 → LawS → LawS → Option (Int32)) (v2 : Int32) (v3 : Int32) (v4 : Int32) (t0 : Int64) (t1 : Int32) (s0 : LawS) (s1 : LawS) : Option (Int32) :=
   if (lg_cmp t0 (Int32.toInt64 t1)) = 0 then
   k10 v2 v3 (v4 + (1 : Int32)) s0 s1
  else
   some v3
def f_X2_firstRowNotUndone_10 (k2 : Int32 → Int32 → LawS → LawS → Option (Int32)) : Nat → Int32 → Int32 → Int32 → LawS → LawS → Option (Int32)
  | 0, _, _, _, _, _ => none
  | n + 1, v2, v3, v4, s0, s1 =>
   if v3 < v4 then
   f_X2_firstRowNotUndone_64 k2 v2 v3 s0 s1
  else
   jbd (f_X2_productAt v3 v4 s0 s1) (fun r21 =>
    if (lg_cmp r21 (-9000000000000000000 : Int64)) = 0 then
     some (-2 : Int32)
    else
     if v4 = v3 then
      f_X2_firstRowNotUndone_51 k2 (f_X2_firstRowNotUndone_10 k2 n) v2 v3 v4 r21 (1 : Int32) s0 s1
     else
      f_X2_firstRowNotUndone_51 k2 (f_X2_firstRowNotUndone_10 k2 n) v2 v3 v4 r21 (0 : Int32) s0 s1)
def f_X2_firstRowNotUndone_2 : Nat → Int32 → Int32 → LawS → LawS → Option (Int32)
  | 0, _, _, _, _ => none
  | n + 1, v2, v3, s0, s1 =>
   if v2 < v3 then
   some (-4 : Int32)
  else
   f_X2_firstRowNotUndone_10 (f_X2_firstRowNotUndone_2 n) jFU v2 v3 (0 : Int32) s0 s1
def f_X2_firstRowNotUndone (v2 : Int32) (s0 : LawS) (s1 : LawS) : Option (Int32) :=
   f_X2_firstRowNotUndone_2 jFU v2 (0 : Int32) s0 s1
set_option maxRecDepth 100000 in
set_option maxHeartbeats 4000000 in
theorem b_X2_firstRowNotUndone_64 {E : jE} (p0_0 p0_1 p0_2 p0_3 p0_4 p0_5 : Nat) (p1_0 p1_1 p1_2 p1_3 p1_4 p1_5 : Nat) (s0 : LawS) (s1 : LawS) {res : Int32} (K : jC E cX2_firstRowNotUndone 7 RX2 4) (HR : jRI E cX2_firstRowNotUndone 7 (wLaw (jg E) p0_0 p0_1 p0_2 p0_3 p0_4 p0_5 s0 ++ wLaw (jg E) p1_0 p1_1 p1_2 p1_3 p1_4 p1_5 s1) res) (k2 : Int32 → Int32 → LawS → LawS → Option (Int32)) (hk2 : ∀ (v2 : Int32) (v3 : Int32), k2 v2 v3 s0 s1 = some res → J E 7 (wLaw (jg E) p0_0 p0_1 p0_2 p0_3 p0_4 p0_5 s0 ++ wLaw (jg E) p1_0 p1_1 p1_2 p1_3 p1_4 p1_5 s1) 2 [(0, .ref p0_0), (1, .ref p1_0), (2, .int v2), (3, .int v3)] []) : ∀ (v2 : Int32) (v3 : Int32), f_X2_firstRowNotUndone_64 k2 v2 v3 s0 s1 = some res → J E 7 (wLaw (jg E) p0_0 p0_1 p0_2 p0_3 p0_4 p0_5 s0 ++ wLaw (jg E) p1_0 p1_1 p1_2 p1_3 p1_4 p1_5 s1) 64 [(0, .ref p0_0), (1, .ref p1_0), (2, .int v2), (3, .int v3)] [] := by
  intro v2 v3 h
  unfold f_X2_firstRowNotUndone_64 at h
  refine j_iinc (pc' := 67) (j := 3) (v := (v3 + (1 : Int32))) (lv' := [(3, .int (v3 + (1 : Int32))), (0, .ref p0_0), (1, .ref p1_0), (2, .int v2)]) K dX2_firstRowNotUndone_64 rfl rfl (by decide) rfl rfl ?_
  refine j_goto (tgt := 2) K dX2_firstRowNotUndone_67 (by decide) ?_
  refine j_sub [1, 2, 3, 0] rfl ?_
  exact hk2 v2 (v3 + (1 : Int32)) h
set_option maxRecDepth 100000 in
set_option maxHeartbeats 4000000 in
theorem b_X2_firstRowNotUndone_51 {E : jE} (p0_0 p0_1 p0_2 p0_3 p0_4 p0_5 : Nat) (p1_0 p1_1 p1_2 p1_3 p1_4 p1_5 : Nat) (s0 : LawS) (s1 : LawS) {res : Int32} (K : jC E cX2_firstRowNotUndone 7 RX2 4) (HR : jRI E cX2_firstRowNotUndone 7 (wLaw (jg E) p0_0 p0_1 p0_2 p0_3 p0_4 p0_5 s0 ++ wLaw (jg E) p1_0 p1_1 p1_2 p1_3 p1_4 p1_5 s1) res) (k2 : Int32 → Int32 → LawS → LawS → Option (Int32)) (k10 : Int32 → Int32 → Int32 → LawS → LawS → Option (Int32)) (hk2 : ∀ (v2 : Int32) (v3 : Int32), k2 v2 v3 s0 s1 = some res → J E 7 (wLaw (jg E) p0_0 p0_1 p0_2 p0_3 p0_4 p0_5 s0 ++ wLaw (jg E) p1_0 p1_1 p1_2 p1_3 p1_4 p1_5 s1) 2 [(0, .ref p0_0), (1, .ref p1_0), (2, .int v2), (3, .int v3)] []) (hk10 : ∀ (v2 : Int32) (v3 : Int32) (v4 : Int32), k10 v2 v3 v4 s0 s1 = some res → J E 7 (wLaw (jg E) p0_0 p0_1 p0_2 p0_3 p0_4 p0_5 s0 ++ wLaw (jg E) p1_0 p1_1 p1_2 p1_3 p1_4 p1_5 s1) 10 [(0, .ref p0_0), (1, .ref p1_0), (2, .int v2), (3, .int v3), (4, .int v4)] []) : ∀ (v2 : Int32) (v3 : Int32) (v4 : Int32) (t0 : Int64) (t1 : Int32), f_X2_firstRowNotUndone_51 k2 k10 v2 v3 v4 t0 t1 s0 s1 = some res → J E 7 (wLaw (jg E) p0_0 p0_1 p0_2 p0_3 p0_4 p0_5 s0 ++ wLaw (jg E) p1_0 p1_1 p1_2 p1_3 p1_4 p1_5 s1) 51 [(0, .ref p0_0), (1, .ref p1_0), (2, .int v2), (3, .int v3), (4, .int v4)] [.int t1, .long t0] := by
  intro v2 v3 v4 t0 t1 h
  unfold f_X2_firstRowNotUndone_51 at h
  refine j_i2l (pc' := 52) K dX2_firstRowNotUndone_51 rfl ?_
  refine j_lcmp (pc' := 53) K dX2_firstRowNotUndone_52 rfl ?_
  refine j_if_eq (pc' := 56) (tgt := 58) K dX2_firstRowNotUndone_53 (by decide) rfl (fun hc => ?_) (fun hc => ?_)
  · have h := jit hc h
    refine j_iinc (pc' := 61) (j := 4) (v := (v4 + (1 : Int32))) (lv' := [(4, .int (v4 + (1 : Int32))), (0, .ref p0_0), (1, .ref p1_0), (2, .int v2), (3, .int v3)]) K dX2_firstRowNotUndone_58 rfl rfl (by decide) rfl rfl ?_
    refine j_goto (tgt := 10) K dX2_firstRowNotUndone_61 (by decide) ?_
    refine j_sub [1, 2, 3, 4, 0] rfl ?_
    exact hk10 v2 v3 (v4 + (1 : Int32)) h
  · have h := jif hc h
    refine j_iload_n (pc' := 57) K dX2_firstRowNotUndone_56 rfl 3 rfl rfl ?_
    obtain rfl := Option.some.inj h
    exact HR _ _ dX2_firstRowNotUndone_57
set_option maxRecDepth 100000 in
set_option maxHeartbeats 4000000 in
theorem b_X2_firstRowNotUndone_10 {E : jE} (p0_0 p0_1 p0_2 p0_3 p0_4 p0_5 : Nat) (p1_0 p1_1 p1_2 p1_3 p1_4 p1_5 : Nat) (s0 : LawS) (s1 : LawS) {res : Int32} (K : jC E cX2_firstRowNotUndone 7 RX2 4) (HR : jRI E cX2_firstRowNotUndone 7 (wLaw (jg E) p0_0 p0_1 p0_2 p0_3 p0_4 p0_5 s0 ++ wLaw (jg E) p1_0 p1_1 p1_2 p1_3 p1_4 p1_5 s1) res) (k2 : Int32 → Int32 → LawS → LawS → Option (Int32)) (hk2 : ∀ (v2 : Int32) (v3 : Int32), k2 v2 v3 s0 s1 = some res → J E 7 (wLaw (jg E) p0_0 p0_1 p0_2 p0_3 p0_4 p0_5 s0 ++ wLaw (jg E) p1_0 p1_1 p1_2 p1_3 p1_4 p1_5 s1) 2 [(0, .ref p0_0), (1, .ref p1_0), (2, .int v2), (3, .int v3)] []) : ∀ (n : Nat) (v2 : Int32) (v3 : Int32) (v4 : Int32), f_X2_firstRowNotUndone_10 k2 n v2 v3 v4 s0 s1 = some res → J E 7 (wLaw (jg E) p0_0 p0_1 p0_2 p0_3 p0_4 p0_5 s0 ++ wLaw (jg E) p1_0 p1_1 p1_2 p1_3 p1_4 p1_5 s1) 10 [(0, .ref p0_0), (1, .ref p1_0), (2, .int v2), (3, .int v3), (4, .int v4)] [] := by
  intro n
  induction n with
  | zero => intro _ _ _ h; cases h
  | succ n ih =>
    intro v2 v3 v4 h
    rw [f_X2_firstRowNotUndone_10] at h
    refine j_iload (pc' := 12) K dX2_firstRowNotUndone_10 4 rfl rfl ?_
    refine j_iload_n (pc' := 13) K dX2_firstRowNotUndone_12 rfl 3 rfl rfl ?_
    refine j_icmp_gt (pc' := 16) (tgt := 64) K dX2_firstRowNotUndone_13 (by decide) rfl (fun hc => ?_) (fun hc => ?_)
    · have h := jit hc h
      refine j_sub [0, 1, 2, 3] rfl ?_
      exact b_X2_firstRowNotUndone_64 p0_0 p0_1 p0_2 p0_3 p0_4 p0_5 p1_0 p1_1 p1_2 p1_3 p1_4 p1_5 s0 s1 K HR k2 hk2 v2 v3 h
    · have h := jif hc h
      refine j_aload_n (pc' := 17) K dX2_firstRowNotUndone_16 rfl 0 rfl rfl ?_
      refine j_aload_n (pc' := 18) K dX2_firstRowNotUndone_17 rfl 1 rfl rfl ?_
      refine j_iload_n (pc' := 19) K dX2_firstRowNotUndone_18 rfl 3 rfl rfl ?_
      refine j_iload (pc' := 21) K dX2_firstRowNotUndone_19 4 rfl rfl ?_
      obtain ⟨r21, hr21, h⟩ := jbd_some h
      refine j_ro (pc' := 24) K (fun H hP => jrun_V K dX2_firstRowNotUndone_21 (M_X2_productAt (jl E) (jg E) p0_0 p0_1 p0_2 p0_3 p0_4 p0_5 p1_0 p1_1 p1_2 p1_3 p1_4 p1_5 v3 v4 s0 s1 hr21) u_2_158 u_2_167 u_2_156 u_2_157 u_1_11 ⟨ok_X2_productAt, by decide, by decide⟩ rfl (Nat.le_of_ble_eq_true rfl) 0 rfl rfl H hP) [0, 1, 2, 3, 4, 5, 6, 7, 8, 9, 10, 11] rfl rfl ?_
      refine j_lstore (pc' := 26) (lv' := [(5, .long r21), (0, .ref p0_0), (1, .ref p1_0), (2, .int v2), (3, .int v3), (4, .int v4)]) K dX2_firstRowNotUndone_24 (by decide) rfl rfl ?_
      refine j_lload (pc' := 28) K dX2_firstRowNotUndone_26 0 rfl rfl ?_
      refine j_ldc2 (pc' := 31) K dX2_firstRowNotUndone_28 u_2_70 rfl ?_
      refine j_lcmp (pc' := 32) K dX2_firstRowNotUndone_31 rfl ?_
      refine j_if_ne (pc' := 35) (tgt := 38) K dX2_firstRowNotUndone_32 (by decide) rfl (fun hc => ?_) (fun hc => ?_)
      · have h := jif hc h
        refine j_lload (pc' := 40) K dX2_firstRowNotUndone_38 0 rfl rfl ?_
        refine j_iload (pc' := 42) K dX2_firstRowNotUndone_40 5 rfl rfl ?_
        refine j_iload_n (pc' := 43) K dX2_firstRowNotUndone_42 rfl 4 rfl rfl ?_
        refine j_icmp_ne (pc' := 46) (tgt := 50) K dX2_firstRowNotUndone_43 (by decide) rfl (fun hc => ?_) (fun hc => ?_)
        · have h := jif hc h
          refine j_iconst (pc' := 51) (v := (0 : Int32)) K dX2_firstRowNotUndone_50 (by decide) rfl ?_
          refine j_sub [1, 2, 3, 4, 5] rfl ?_
          exact b_X2_firstRowNotUndone_51 p0_0 p0_1 p0_2 p0_3 p0_4 p0_5 p1_0 p1_1 p1_2 p1_3 p1_4 p1_5 s0 s1 K HR k2 (f_X2_firstRowNotUndone_10 k2 n) hk2 (ih) v2 v3 v4 r21 (0 : Int32) h
        · have h := jit hc h
          refine j_iconst (pc' := 47) (v := (1 : Int32)) K dX2_firstRowNotUndone_46 (by decide) rfl ?_
          refine j_goto (tgt := 51) K dX2_firstRowNotUndone_47 (by decide) ?_
          refine j_sub [1, 2, 3, 4, 5] rfl ?_
          exact b_X2_firstRowNotUndone_51 p0_0 p0_1 p0_2 p0_3 p0_4 p0_5 p1_0 p1_1 p1_2 p1_3 p1_4 p1_5 s0 s1 K HR k2 (f_X2_firstRowNotUndone_10 k2 n) hk2 (ih) v2 v3 v4 r21 (1 : Int32) h
      · have h := jit hc h
        refine j_bipush (pc' := 37) (v := (-2 : Int32)) K dX2_firstRowNotUndone_35 (by decide) rfl ?_
        obtain rfl := Option.some.inj h
        exact HR _ _ dX2_firstRowNotUndone_37
set_option maxRecDepth 100000 in
set_option maxHeartbeats 4000000 in
theorem b_X2_firstRowNotUndone_2 {E : jE} (p0_0 p0_1 p0_2 p0_3 p0_4 p0_5 : Nat) (p1_0 p1_1 p1_2 p1_3 p1_4 p1_5 : Nat) (s0 : LawS) (s1 : LawS) {res : Int32} (K : jC E cX2_firstRowNotUndone 7 RX2 4) (HR : jRI E cX2_firstRowNotUndone 7 (wLaw (jg E) p0_0 p0_1 p0_2 p0_3 p0_4 p0_5 s0 ++ wLaw (jg E) p1_0 p1_1 p1_2 p1_3 p1_4 p1_5 s1) res) : ∀ (n : Nat) (v2 : Int32) (v3 : Int32), f_X2_firstRowNotUndone_2 n v2 v3 s0 s1 = some res → J E 7 (wLaw (jg E) p0_0 p0_1 p0_2 p0_3 p0_4 p0_5 s0 ++ wLaw (jg E) p1_0 p1_1 p1_2 p1_3 p1_4 p1_5 s1) 2 [(0, .ref p0_0), (1, .ref p1_0), (2, .int v2), (3, .int v3)] [] := by
  intro n
  induction n with
  | zero => intro _ _ h; cases h
  | succ n ih =>
    intro v2 v3 h
    rw [f_X2_firstRowNotUndone_2] at h
    refine j_iload_n (pc' := 3) K dX2_firstRowNotUndone_2 rfl 3 rfl rfl ?_
    refine j_iload_n (pc' := 4) K dX2_firstRowNotUndone_3 rfl 2 rfl rfl ?_
    refine j_icmp_gt (pc' := 7) (tgt := 70) K dX2_firstRowNotUndone_4 (by decide) rfl (fun hc => ?_) (fun hc => ?_)
    · have h := jit hc h
      refine j_bipush (pc' := 72) (v := (-4 : Int32)) K dX2_firstRowNotUndone_70 (by decide) rfl ?_
      obtain rfl := Option.some.inj h
      exact HR _ _ dX2_firstRowNotUndone_72
    · have h := jif hc h
      refine j_iconst (pc' := 8) (v := (0 : Int32)) K dX2_firstRowNotUndone_7 (by decide) rfl ?_
      refine j_istore (pc' := 10) (lv' := [(4, .int (0 : Int32)), (0, .ref p0_0), (1, .ref p1_0), (2, .int v2), (3, .int v3)]) K dX2_firstRowNotUndone_8 (by decide) rfl rfl ?_
      refine j_sub [1, 2, 3, 4, 0] rfl ?_
      exact b_X2_firstRowNotUndone_10 p0_0 p0_1 p0_2 p0_3 p0_4 p0_5 p1_0 p1_1 p1_2 p1_3 p1_4 p1_5 s0 s1 K HR (f_X2_firstRowNotUndone_2 n) (ih) jFU v2 v3 (0 : Int32) h
set_option maxRecDepth 100000 in
set_option maxHeartbeats 4000000 in
theorem b_X2_firstRowNotUndone {E : jE} (p0_0 p0_1 p0_2 p0_3 p0_4 p0_5 : Nat) (p1_0 p1_1 p1_2 p1_3 p1_4 p1_5 : Nat) (s0 : LawS) (s1 : LawS) {res : Int32} (K : jC E cX2_firstRowNotUndone 7 RX2 4) (HR : jRI E cX2_firstRowNotUndone 7 (wLaw (jg E) p0_0 p0_1 p0_2 p0_3 p0_4 p0_5 s0 ++ wLaw (jg E) p1_0 p1_1 p1_2 p1_3 p1_4 p1_5 s1) res) : ∀ (v2 : Int32), f_X2_firstRowNotUndone v2 s0 s1 = some res → J E 7 (wLaw (jg E) p0_0 p0_1 p0_2 p0_3 p0_4 p0_5 s0 ++ wLaw (jg E) p1_0 p1_1 p1_2 p1_3 p1_4 p1_5 s1) 0 [(0, .ref p0_0), (1, .ref p1_0), (2, .int v2)] [] := by
  intro v2 h
  unfold f_X2_firstRowNotUndone at h
  refine j_iconst (pc' := 1) (v := (0 : Int32)) K dX2_firstRowNotUndone_0 (by decide) rfl ?_
  refine j_istore_n (pc' := 2) (lv' := [(3, .int (0 : Int32)), (0, .ref p0_0), (1, .ref p1_0), (2, .int v2)]) K dX2_firstRowNotUndone_1 rfl (by decide) rfl rfl ?_
  refine j_sub [1, 2, 3, 0] rfl ?_
  exact b_X2_firstRowNotUndone_2 p0_0 p0_1 p0_2 p0_3 p0_4 p0_5 p1_0 p1_1 p1_2 p1_3 p1_4 p1_5 s0 s1 K HR jFU v2 (0 : Int32) h
set_option maxRecDepth 100000 in
set_option maxHeartbeats 4000000 in
theorem M_X2_firstRowNotUndone (l : Launch) (G : jG) (p0_0 p0_1 p0_2 p0_3 p0_4 p0_5 : Nat) (p1_0 p1_1 p1_2 p1_3 p1_4 p1_5 : Nat) (v2 : Int32) (s0 : LawS) (s1 : LawS) {r : Int32} (h : f_X2_firstRowNotUndone v2 s0 s1 = some r) : MC l yX2_firstRowNotUndone cX2_firstRowNotUndone 7 (some .int) 4 G jNo False (wLaw G p0_0 p0_1 p0_2 p0_3 p0_4 p0_5 s0 ++ wLaw G p1_0 p1_1 p1_2 p1_3 p1_4 p1_5 s1) (wLaw G p0_0 p0_1 p0_2 p0_3 p0_4 p0_5 s0 ++ wLaw G p1_0 p1_1 p1_2 p1_3 p1_4 p1_5 s1) [.ref p0_0, .ref p1_0, .int v2] (some (.int r)) := by
  refine mc_int (by decide +kernel) (Nat.le_of_ble_eq_true rfl) fun E hl hg hA hrw K HR => ?_
  subst hl
  subst hg
  exact b_X2_firstRowNotUndone p0_0 p0_1 p0_2 p0_3 p0_4 p0_5 p1_0 p1_1 p1_2 p1_3 p1_4 p1_5 s0 s1 K HR v2 h
theorem ok_X2_takeItem : yX2_takeItem.cls ≠ "java/lang/invoke/MethodHandle" ∧ yX2_takeItem.cls ≠ "java/lang/invoke/VarHandle" ∧ (parseMethodDescriptor yX2_takeItem.desc).map (fun d => d.parameters.length) = some 2 := ⟨by decide, by decide, by decide +kernel⟩
def f_X2_takeItem_51 : Nat → Int32 → Int32 → LawS → TextS → Option (LawS)
  | 0, _, _, _, _ => none
  | n + 1, v5, v6, s0, s1 =>
   if (3 : Int32) ≤ v6 then
   some s0
  else
   jbd (f_X10_numberFrom v5 s1) (fun r64 =>
    jgd v6 3 (
     jbd (f_X10_nextNumber v5 s1) (fun r71 =>
      (f_X2_takeItem_51 n) r71 (v6 + (1 : Int32)) (Law_above_s s0 (upd (Law_above s0) (Int32.toNatClampNeg v6) r64)) s1)))
def f_X2_takeItem_41 (v2 : Int32) (s0 : LawS) (s1 : TextS) : Option (LawS) :=
   f_X2_takeItem_51 jFU (v2 + (1 : Int32)) (0 : Int32) s0 s1
def f_X2_takeItem_51a : Nat → Int32 → Int32 → LawS → TextS → Option (LawS)
  | 0, _, _, _, _ => none
  | n + 1, v5, v6, s0, s1 =>
   if (3 : Int32) ≤ v6 then
   some s0
  else
   jbd (f_X10_numberFrom v5 s1) (fun r64 =>
    jgd v6 3 (
     jbd (f_X10_nextNumber v5 s1) (fun r71 =>
      (f_X2_takeItem_51a n) r71 (v6 + (1 : Int32)) (Law_left_s s0 (upd (Law_left s0) (Int32.toNatClampNeg v6) r64)) s1)))
def f_X2_takeItem_41a (v2 : Int32) (s0 : LawS) (s1 : TextS) : Option (LawS) :=
   f_X2_takeItem_51a jFU (v2 + (1 : Int32)) (0 : Int32) s0 s1
def f_X2_takeItem (v2 : Int32) (s0 : LawS) (s1 : TextS) : Option (LawS) :=
   jbd (f_X10_byteAt v2 s1) (fun r2 =>
   if r2 = (115 : Int32) then
    jbd (f_X10_numberFrom (v2 + (1 : Int32)) s1) (fun r17 =>
     some (Law_top_s s0 r17))
   else
    if r2 = (97 : Int32) then
     f_X2_takeItem_41a v2 s0 s1
    else
     f_X2_takeItem_41 v2 s0 s1)
set_option maxRecDepth 100000 in
set_option maxHeartbeats 4000000 in
theorem b_X2_takeItem_51 {E : jE} (p0_0 p0_1 p0_2 p0_3 p0_4 p0_5 : Nat) (p1_0 p1_1 : Nat) (s1 : TextS) {res : LawS} (K : jC E cX2_takeItem 7 RX2 2) (hrw : jrw E) (HR : jRV E cX2_takeItem 7 (wLaw (jg E) p0_0 p0_1 p0_2 p0_3 p0_4 p0_5 res ++ wText (jg E) p1_0 p1_1 s1)) : ∀ (n : Nat) (v5 : Int32) (v6 : Int32) (s0 : LawS), f_X2_takeItem_51 n v5 v6 s0 s1 = some res → J E 7 (wLaw (jg E) p0_0 p0_1 p0_2 p0_3 p0_4 p0_5 s0 ++ wText (jg E) p1_0 p1_1 s1) 51 [(1, .ref p1_0), (4, .ref p0_2), (5, .int v5), (6, .int v6)] [] := by
  intro n
  induction n with
  | zero => intro _ _ _ h; cases h
  | succ n ih =>
    intro v5 v6 s0 h
    rw [f_X2_takeItem_51] at h
    refine j_iload (pc' := 53) K dX2_takeItem_51 3 rfl rfl ?_
    refine j_iconst (pc' := 54) (v := (3 : Int32)) K dX2_takeItem_53 (by decide) rfl ?_
    refine j_icmp_ge (pc' := 57) (tgt := 82) K dX2_takeItem_54 (by decide) rfl (fun hc => ?_) (fun hc => ?_)
    · have h := jit hc h
      obtain rfl := Option.some.inj h
      exact HR _ _ dX2_takeItem_82
    · have h := jif hc h
      refine j_aload (pc' := 59) K dX2_takeItem_57 1 rfl rfl ?_
      refine j_iload (pc' := 61) K dX2_takeItem_59 3 rfl rfl ?_
      refine j_aload_n (pc' := 62) K dX2_takeItem_61 rfl 0 rfl rfl ?_
      refine j_iload (pc' := 64) K dX2_takeItem_62 2 rfl rfl ?_
      obtain ⟨r64, hr64, h⟩ := jbd_some h
      refine j_ro (pc' := 67) K (fun H hP => jrun_V K dX2_takeItem_64 (M_X10_numberFrom (jl E) (jg E) p1_0 p1_1 v5 s1 hr64) u_2_41 u_2_38 u_2_39 u_2_40 u_1_2 ⟨ok_X10_numberFrom, by decide, by decide⟩ rfl (Nat.le_of_ble_eq_true rfl) 6 rfl rfl H hP) [6, 7] rfl rfl ?_
      obtain ⟨hg, h⟩ := jgd_some h
      refine j_iast (pc' := 68) (ws' := (wLaw (jg E) p0_0 p0_1 p0_2 p0_3 p0_4 p0_5 (Law_above_s s0 (upd (Law_above s0) (Int32.toNatClampNeg v6) r64)) ++ wText (jg E) p1_0 p1_1 s1)) K dX2_takeItem_67 hrw 2 rfl hg rfl rfl ?_
      refine j_aload_n (pc' := 69) K dX2_takeItem_68 rfl 0 rfl rfl ?_
      refine j_iload (pc' := 71) K dX2_takeItem_69 2 rfl rfl ?_
      obtain ⟨r71, hr71, h⟩ := jbd_some h
      refine j_ro (pc' := 74) K (fun H hP => jrun_V K dX2_takeItem_71 (M_X10_nextNumber (jl E) (jg E) p1_0 p1_1 v5 s1 hr71) u_2_45 u_2_42 u_2_43 u_2_44 u_1_2 ⟨ok_X10_nextNumber, by decide, by decide⟩ rfl (Nat.le_of_ble_eq_true rfl) 6 rfl rfl H hP) [6, 7] rfl rfl ?_
      refine j_istore (pc' := 76) (lv' := [(5, .int r71), (1, .ref p1_0), (4, .ref p0_2), (6, .int v6)]) K dX2_takeItem_74 (by decide) rfl rfl ?_
      refine j_iinc (pc' := 79) (j := 3) (v := (v6 + (1 : Int32))) (lv' := [(6, .int (v6 + (1 : Int32))), (5, .int r71), (1, .ref p1_0), (4, .ref p0_2)]) K dX2_takeItem_76 rfl rfl (by decide) rfl rfl ?_
      refine j_goto (tgt := 51) K dX2_takeItem_79 (by decide) ?_
      refine j_sub [2, 3, 1, 0] rfl ?_
      exact ih r71 (v6 + (1 : Int32)) (Law_above_s s0 (upd (Law_above s0) (Int32.toNatClampNeg v6) r64)) h
set_option maxRecDepth 100000 in
set_option maxHeartbeats 4000000 in
theorem b_X2_takeItem_41 {E : jE} (p0_0 p0_1 p0_2 p0_3 p0_4 p0_5 : Nat) (p1_0 p1_1 : Nat) (s1 : TextS) {res : LawS} (K : jC E cX2_takeItem 7 RX2 2) (hrw : jrw E) (HR : jRV E cX2_takeItem 7 (wLaw (jg E) p0_0 p0_1 p0_2 p0_3 p0_4 p0_5 res ++ wText (jg E) p1_0 p1_1 s1)) : ∀ (v2 : Int32) (s0 : LawS), f_X2_takeItem_41 v2 s0 s1 = some res → J E 7 (wLaw (jg E) p0_0 p0_1 p0_2 p0_3 p0_4 p0_5 s0 ++ wText (jg E) p1_0 p1_1 s1) 41 [(1, .ref p1_0), (2, .int v2)] [.ref p0_2] := by
  intro v2 s0 h
  unfold f_X2_takeItem_41 at h
  refine j_astore (pc' := 43) (lv' := [(4, .ref p0_2), (1, .ref p1_0), (2, .int v2)]) K dX2_takeItem_41 (by decide) rfl rfl ?_
  refine j_iload_n (pc' := 44) K dX2_takeItem_43 rfl 2 rfl rfl ?_
  refine j_iconst (pc' := 45) (v := (1 : Int32)) K dX2_takeItem_44 (by decide) rfl ?_
  refine j_iadd (pc' := 46) K dX2_takeItem_45 rfl ?_
  refine j_istore (pc' := 48) (lv' := [(5, .int (v2 + (1 : Int32))), (4, .ref p0_2), (1, .ref p1_0), (2, .int v2)]) K dX2_takeItem_46 (by decide) rfl rfl ?_
  refine j_iconst (pc' := 49) (v := (0 : Int32)) K dX2_takeItem_48 (by decide) rfl ?_
  refine j_istore (pc' := 51) (lv' := [(6, .int (0 : Int32)), (5, .int (v2 + (1 : Int32))), (4, .ref p0_2), (1, .ref p1_0), (2, .int v2)]) K dX2_takeItem_49 (by decide) rfl rfl ?_
  refine j_sub [3, 2, 1, 0] rfl ?_
  exact b_X2_takeItem_51 p0_0 p0_1 p0_2 p0_3 p0_4 p0_5 p1_0 p1_1 s1 K hrw HR jFU (v2 + (1 : Int32)) (0 : Int32) s0 h
set_option maxRecDepth 100000 in
set_option maxHeartbeats 4000000 in
theorem b_X2_takeItem_51a {E : jE} (p0_0 p0_1 p0_2 p0_3 p0_4 p0_5 : Nat) (p1_0 p1_1 : Nat) (s1 : TextS) {res : LawS} (K : jC E cX2_takeItem 7 RX2 2) (hrw : jrw E) (HR : jRV E cX2_takeItem 7 (wLaw (jg E) p0_0 p0_1 p0_2 p0_3 p0_4 p0_5 res ++ wText (jg E) p1_0 p1_1 s1)) : ∀ (n : Nat) (v5 : Int32) (v6 : Int32) (s0 : LawS), f_X2_takeItem_51a n v5 v6 s0 s1 = some res → J E 7 (wLaw (jg E) p0_0 p0_1 p0_2 p0_3 p0_4 p0_5 s0 ++ wText (jg E) p1_0 p1_1 s1) 51 [(1, .ref p1_0), (4, .ref p0_1), (5, .int v5), (6, .int v6)] [] := by
  intro n
  induction n with
  | zero => intro _ _ _ h; cases h
  | succ n ih =>
    intro v5 v6 s0 h
    rw [f_X2_takeItem_51a] at h
    refine j_iload (pc' := 53) K dX2_takeItem_51 3 rfl rfl ?_
    refine j_iconst (pc' := 54) (v := (3 : Int32)) K dX2_takeItem_53 (by decide) rfl ?_
    refine j_icmp_ge (pc' := 57) (tgt := 82) K dX2_takeItem_54 (by decide) rfl (fun hc => ?_) (fun hc => ?_)
    · have h := jit hc h
      obtain rfl := Option.some.inj h
      exact HR _ _ dX2_takeItem_82
    · have h := jif hc h
      refine j_aload (pc' := 59) K dX2_takeItem_57 1 rfl rfl ?_
      refine j_iload (pc' := 61) K dX2_takeItem_59 3 rfl rfl ?_
      refine j_aload_n (pc' := 62) K dX2_takeItem_61 rfl 0 rfl rfl ?_
      refine j_iload (pc' := 64) K dX2_takeItem_62 2 rfl rfl ?_
      obtain ⟨r64, hr64, h⟩ := jbd_some h
      refine j_ro (pc' := 67) K (fun H hP => jrun_V K dX2_takeItem_64 (M_X10_numberFrom (jl E) (jg E) p1_0 p1_1 v5 s1 hr64) u_2_41 u_2_38 u_2_39 u_2_40 u_1_2 ⟨ok_X10_numberFrom, by decide, by decide⟩ rfl (Nat.le_of_ble_eq_true rfl) 6 rfl rfl H hP) [6, 7] rfl rfl ?_
      obtain ⟨hg, h⟩ := jgd_some h
      refine j_iast (pc' := 68) (ws' := (wLaw (jg E) p0_0 p0_1 p0_2 p0_3 p0_4 p0_5 (Law_left_s s0 (upd (Law_left s0) (Int32.toNatClampNeg v6) r64)) ++ wText (jg E) p1_0 p1_1 s1)) K dX2_takeItem_67 hrw 1 rfl hg rfl rfl ?_
      refine j_aload_n (pc' := 69) K dX2_takeItem_68 rfl 0 rfl rfl ?_
      refine j_iload (pc' := 71) K dX2_takeItem_69 2 rfl rfl ?_
      obtain ⟨r71, hr71, h⟩ := jbd_some h
      refine j_ro (pc' := 74) K (fun H hP => jrun_V K dX2_takeItem_71 (M_X10_nextNumber (jl E) (jg E) p1_0 p1_1 v5 s1 hr71) u_2_45 u_2_42 u_2_43 u_2_44 u_1_2 ⟨ok_X10_nextNumber, by decide, by decide⟩ rfl (Nat.le_of_ble_eq_true rfl) 6 rfl rfl H hP) [6, 7] rfl rfl ?_
      refine j_istore (pc' := 76) (lv' := [(5, .int r71), (1, .ref p1_0), (4, .ref p0_1), (6, .int v6)]) K dX2_takeItem_74 (by decide) rfl rfl ?_
      refine j_iinc (pc' := 79) (j := 3) (v := (v6 + (1 : Int32))) (lv' := [(6, .int (v6 + (1 : Int32))), (5, .int r71), (1, .ref p1_0), (4, .ref p0_1)]) K dX2_takeItem_76 rfl rfl (by decide) rfl rfl ?_
      refine j_goto (tgt := 51) K dX2_takeItem_79 (by decide) ?_
      refine j_sub [2, 3, 1, 0] rfl ?_
      exact ih r71 (v6 + (1 : Int32)) (Law_left_s s0 (upd (Law_left s0) (Int32.toNatClampNeg v6) r64)) h
set_option maxRecDepth 100000 in
set_option maxHeartbeats 4000000 in
theorem b_X2_takeItem_41a {E : jE} (p0_0 p0_1 p0_2 p0_3 p0_4 p0_5 : Nat) (p1_0 p1_1 : Nat) (s1 : TextS) {res : LawS} (K : jC E cX2_takeItem 7 RX2 2) (hrw : jrw E) (HR : jRV E cX2_takeItem 7 (wLaw (jg E) p0_0 p0_1 p0_2 p0_3 p0_4 p0_5 res ++ wText (jg E) p1_0 p1_1 s1)) : ∀ (v2 : Int32) (s0 : LawS), f_X2_takeItem_41a v2 s0 s1 = some res → J E 7 (wLaw (jg E) p0_0 p0_1 p0_2 p0_3 p0_4 p0_5 s0 ++ wText (jg E) p1_0 p1_1 s1) 41 [(1, .ref p1_0), (2, .int v2)] [.ref p0_1] := by
  intro v2 s0 h
  unfold f_X2_takeItem_41a at h
  refine j_astore (pc' := 43) (lv' := [(4, .ref p0_1), (1, .ref p1_0), (2, .int v2)]) K dX2_takeItem_41 (by decide) rfl rfl ?_
  refine j_iload_n (pc' := 44) K dX2_takeItem_43 rfl 2 rfl rfl ?_
  refine j_iconst (pc' := 45) (v := (1 : Int32)) K dX2_takeItem_44 (by decide) rfl ?_
  refine j_iadd (pc' := 46) K dX2_takeItem_45 rfl ?_
  refine j_istore (pc' := 48) (lv' := [(5, .int (v2 + (1 : Int32))), (4, .ref p0_1), (1, .ref p1_0), (2, .int v2)]) K dX2_takeItem_46 (by decide) rfl rfl ?_
  refine j_iconst (pc' := 49) (v := (0 : Int32)) K dX2_takeItem_48 (by decide) rfl ?_
  refine j_istore (pc' := 51) (lv' := [(6, .int (0 : Int32)), (5, .int (v2 + (1 : Int32))), (4, .ref p0_1), (1, .ref p1_0), (2, .int v2)]) K dX2_takeItem_49 (by decide) rfl rfl ?_
  refine j_sub [3, 2, 1, 0] rfl ?_
  exact b_X2_takeItem_51a p0_0 p0_1 p0_2 p0_3 p0_4 p0_5 p1_0 p1_1 s1 K hrw HR jFU (v2 + (1 : Int32)) (0 : Int32) s0 h
set_option maxRecDepth 100000 in
set_option maxHeartbeats 4000000 in
theorem b_X2_takeItem {E : jE} (p0_0 p0_1 p0_2 p0_3 p0_4 p0_5 : Nat) (p1_0 p1_1 : Nat) (s1 : TextS) {res : LawS} (K : jC E cX2_takeItem 7 RX2 2) (hrw : jrw E) (HR : jRV E cX2_takeItem 7 (wLaw (jg E) p0_0 p0_1 p0_2 p0_3 p0_4 p0_5 res ++ wText (jg E) p1_0 p1_1 s1)) : ∀ (v2 : Int32) (s0 : LawS), f_X2_takeItem v2 s0 s1 = some res → J E 7 (wLaw (jg E) p0_0 p0_1 p0_2 p0_3 p0_4 p0_5 s0 ++ wText (jg E) p1_0 p1_1 s1) 0 [(0, .ref p0_0), (1, .ref p1_0), (2, .int v2)] [] := by
  intro v2 s0 h
  unfold f_X2_takeItem at h
  refine j_aload_n (pc' := 1) K dX2_takeItem_0 rfl 1 rfl rfl ?_
  refine j_iload_n (pc' := 2) K dX2_takeItem_1 rfl 2 rfl rfl ?_
  obtain ⟨r2, hr2, h⟩ := jbd_some h
  refine j_ro (pc' := 5) K (fun H hP => jrun_V K dX2_takeItem_2 (M_X10_byteAt (jl E) (jg E) p1_0 p1_1 v2 s1 hr2) u_2_9 u_2_37 u_2_7 u_2_8 u_1_2 ⟨ok_X10_byteAt, by decide, by decide⟩ rfl (Nat.le_of_ble_eq_true rfl) 6 rfl rfl H hP) [6, 7] rfl rfl ?_
  refine j_istore_n (pc' := 6) (lv' := [(3, .int r2), (0, .ref p0_0), (1, .ref p1_0), (2, .int v2)]) K dX2_takeItem_5 rfl (by decide) rfl rfl ?_
  refine j_iload_n (pc' := 7) K dX2_takeItem_6 rfl 0 rfl rfl ?_
  refine j_bipush (pc' := 9) (v := (115 : Int32)) K dX2_takeItem_7 (by decide) rfl ?_
  refine j_icmp_ne (pc' := 12) (tgt := 24) K dX2_takeItem_9 (by decide) rfl (fun hc => ?_) (fun hc => ?_)
  · have h := jif hc h
    refine j_iload_n (pc' := 25) K dX2_takeItem_24 rfl 0 rfl rfl ?_
    refine j_bipush (pc' := 27) (v := (97 : Int32)) K dX2_takeItem_25 (by decide) rfl ?_
    refine j_icmp_ne (pc' := 30) (tgt := 37) K dX2_takeItem_27 (by decide) rfl (fun hc => ?_) (fun hc => ?_)
    · have h := jif hc h
      refine j_aload_n (pc' := 38) K dX2_takeItem_37 rfl 1 rfl rfl ?_
      refine j_get (pc' := 41) K dX2_takeItem_38 inX2 0 rfl rfl 1 (by decide) u_1_160 rfl rfl rfl ?_
      refine j_sub [2, 3] rfl ?_
      exact b_X2_takeItem_41 p0_0 p0_1 p0_2 p0_3 p0_4 p0_5 p1_0 p1_1 s1 K hrw HR v2 s0 h
    · have h := jit hc h
      refine j_aload_n (pc' := 31) K dX2_takeItem_30 rfl 1 rfl rfl ?_
      refine j_get (pc' := 34) K dX2_takeItem_31 inX2 0 rfl rfl 0 (by decide) u_1_159 rfl rfl rfl ?_
      refine j_goto (tgt := 41) K dX2_takeItem_34 (by decide) ?_
      refine j_sub [2, 3] rfl ?_
      exact b_X2_takeItem_41a p0_0 p0_1 p0_2 p0_3 p0_4 p0_5 p1_0 p1_1 s1 K hrw HR v2 s0 h
  · have h := jit hc h
    refine j_aload_n (pc' := 13) K dX2_takeItem_12 rfl 1 rfl rfl ?_
    refine j_aload_n (pc' := 14) K dX2_takeItem_13 rfl 2 rfl rfl ?_
    refine j_iload_n (pc' := 15) K dX2_takeItem_14 rfl 3 rfl rfl ?_
    refine j_iconst (pc' := 16) (v := (1 : Int32)) K dX2_takeItem_15 (by decide) rfl ?_
    refine j_iadd (pc' := 17) K dX2_takeItem_16 rfl ?_
    obtain ⟨r17, hr17, h⟩ := jbd_some h
    refine j_ro (pc' := 20) K (fun H hP => jrun_V K dX2_takeItem_17 (M_X10_numberFrom (jl E) (jg E) p1_0 p1_1 (v2 + (1 : Int32)) s1 hr17) u_2_41 u_2_38 u_2_39 u_2_40 u_1_2 ⟨ok_X10_numberFrom, by decide, by decide⟩ rfl (Nat.le_of_ble_eq_true rfl) 6 rfl rfl H hP) [6, 7] rfl rfl ?_
    refine j_put (pc' := 23) (ws' := (wLaw (jg E) p0_0 p0_1 p0_2 p0_3 p0_4 p0_5 (Law_top_s s0 r17) ++ wText (jg E) p1_0 p1_1 s1)) K dX2_takeItem_20 hrw inX2 tyX2 tyX2_ok nmX2 0 rfl rfl 5 (by decide) u_1_164 rfl rfl rfl rfl (Nat.le_of_ble_eq_true rfl) rfl rfl ?_
    obtain rfl := Option.some.inj h
    exact HR _ _ dX2_takeItem_23
set_option maxRecDepth 100000 in
set_option maxHeartbeats 4000000 in
theorem M_X2_takeItem (l : Launch) (G : jG) (p0_0 p0_1 p0_2 p0_3 p0_4 p0_5 : Nat) (p1_0 p1_1 : Nat) (v2 : Int32) (s0 : LawS) (s1 : TextS) {r : LawS} (h : f_X2_takeItem v2 s0 s1 = some r) : MC l yX2_takeItem cX2_takeItem 7 none 2 G (jad (wLaw G p0_0 p0_1 p0_2 p0_3 p0_4 p0_5 s0 ++ wText G p1_0 p1_1 s1)) True (wLaw G p0_0 p0_1 p0_2 p0_3 p0_4 p0_5 s0 ++ wText G p1_0 p1_1 s1) (wLaw G p0_0 p0_1 p0_2 p0_3 p0_4 p0_5 r ++ wText G p1_0 p1_1 s1) [.ref p0_0, .ref p1_0, .int v2] none := by
  refine mc_void (by decide +kernel) (Nat.le_of_ble_eq_true rfl) fun E hl hg hA hrw K HR => ?_
  subst hl
  subst hg
  have hrw : jrw E := by rw [hrw]; trivial
  exact b_X2_takeItem p0_0 p0_1 p0_2 p0_3 p0_4 p0_5 p1_0 p1_1 s1 K hrw HR v2 s0 h
theorem ok_X2_layFrom : yX2_layFrom.cls ≠ "java/lang/invoke/MethodHandle" ∧ yX2_layFrom.cls ≠ "java/lang/invoke/VarHandle" ∧ (parseMethodDescriptor yX2_layFrom.desc).map (fun d => d.parameters.length) = some 1 := ⟨by decide, by decide, by decide +kernel⟩
def f_X2_layFrom_85 (s0 : LawS) (s1 : TextS) : Option (LawS) :=
   jbd (f_X2_fillNumbers s0) (fun r86 =>
   some r86)
def f_X2_layFrom_57 (s0 : LawS) (s1 : TextS) : Option (LawS) :=
   f_X2_layFrom_85 s0 s1
def f_X2_layFrom_30 : Nat → Int32 → Int32 → LawS → TextS → Option (LawS)
  | 0, _, _, _, _ => none
  | n + 1, v2, v3, s0, s1 =>
   if (120 : Int32) ≤ v3 then
   f_X2_layFrom_85 s0 s1
  else
   jbd (f_X10_length s1) (fun r38 =>
    if r38 ≤ v2 then
     f_X2_layFrom_85 s0 s1
    else
     jbd (f_X10_itemEnd v2 s1) (fun r46 =>
      if r46 = (-1 : Int32) then
       f_X2_layFrom_57 s0 s1
      else
       jbd (f_X2_takeItem v2 s0 s1) (fun r63 =>
        (f_X2_layFrom_30 n) r46 (v3 + (1 : Int32)) (Law_items_s r63 ((Law_items r63) + (1 : Int32))) s1)))
def f_X2_layFrom (s0 : LawS) (s1 : TextS) : Option (LawS) :=
   jbd (f_J7_fill_53178_n3 (0 : Int32) (Law_left s0)) (fun r5 =>
   jbd (f_J7_fill_53178_n3 (0 : Int32) (Law_above (Law_left_s s0 r5))) (fun r13 =>
    f_X2_layFrom_30 jFU (0 : Int32) (0 : Int32) (Law_items_s (Law_top_s (Law_above_s (Law_left_s s0 r5) r13) (1 : Int32)) (0 : Int32)) s1))
set_option maxRecDepth 100000 in
set_option maxHeartbeats 4000000 in
theorem b_X2_layFrom_85 {E : jE} (p0_0 p0_1 p0_2 p0_3 p0_4 p0_5 : Nat) (p1_0 p1_1 : Nat) (s1 : TextS) {res : LawS} (K : jC E cX2_layFrom 5 RX2 5) (hrw : jrw E) (HR : jRV E cX2_layFrom 5 (wLaw (jg E) p0_0 p0_1 p0_2 p0_3 p0_4 p0_5 res ++ wText (jg E) p1_0 p1_1 s1)) : ∀ (s0 : LawS), f_X2_layFrom_85 s0 s1 = some res → J E 5 (wLaw (jg E) p0_0 p0_1 p0_2 p0_3 p0_4 p0_5 s0 ++ wText (jg E) p1_0 p1_1 s1) 85 [(0, .ref p0_0)] [] := by
  intro s0 h
  unfold f_X2_layFrom_85 at h
  refine j_aload_n (pc' := 86) K dX2_layFrom_85 rfl 0 rfl rfl ?_
  obtain ⟨r86, hr86, h⟩ := jbd_some h
  refine j_rw (pc' := 89) (ws' := (wLaw (jg E) p0_0 p0_1 p0_2 p0_3 p0_4 p0_5 r86 ++ wText (jg E) p1_0 p1_1 s1)) K (fun H hP => jrun_V K dX2_layFrom_86 (M_X2_fillNumbers (jl E) (jg E) p0_0 p0_1 p0_2 p0_3 p0_4 p0_5 s0 hr86) u_2_49 u_2_46 u_2_48 u_p_4 u_1_11 ⟨ok_X2_fillNumbers, by decide, by decide⟩ rfl (Nat.le_of_ble_eq_true rfl) 0 rfl rfl H hP) hrw [0, 1, 2, 3, 4, 5] rfl rfl rfl rfl rfl rfl ?_
  obtain rfl := Option.some.inj h
  exact HR _ _ dX2_layFrom_89
set_option maxRecDepth 100000 in
set_option maxHeartbeats 4000000 in
theorem b_X2_layFrom_57 {E : jE} (p0_0 p0_1 p0_2 p0_3 p0_4 p0_5 : Nat) (p1_0 p1_1 : Nat) (s1 : TextS) {res : LawS} (K : jC E cX2_layFrom 5 RX2 5) (hrw : jrw E) (HR : jRV E cX2_layFrom 5 (wLaw (jg E) p0_0 p0_1 p0_2 p0_3 p0_4 p0_5 res ++ wText (jg E) p1_0 p1_1 s1)) : ∀ (s0 : LawS), f_X2_layFrom_57 s0 s1 = some res → J E 5 (wLaw (jg E) p0_0 p0_1 p0_2 p0_3 p0_4 p0_5 s0 ++ wText (jg E) p1_0 p1_1 s1) 57 [(0, .ref p0_0)] [] := by
  intro s0 h
  unfold f_X2_layFrom_57 at h
  refine j_goto (tgt := 85) K dX2_layFrom_57 (by decide) ?_
  refine j_sub [0] rfl ?_
  exact b_X2_layFrom_85 p0_0 p0_1 p0_2 p0_3 p0_4 p0_5 p1_0 p1_1 s1 K hrw HR s0 h
set_option maxRecDepth 100000 in
set_option maxHeartbeats 4000000 in
theorem b_X2_layFrom_30 {E : jE} (p0_0 p0_1 p0_2 p0_3 p0_4 p0_5 : Nat) (p1_0 p1_1 : Nat) (s1 : TextS) {res : LawS} (K : jC E cX2_layFrom 5 RX2 5) (hrw : jrw E) (HR : jRV E cX2_layFrom 5 (wLaw (jg E) p0_0 p0_1 p0_2 p0_3 p0_4 p0_5 res ++ wText (jg E) p1_0 p1_1 s1)) : ∀ (n : Nat) (v2 : Int32) (v3 : Int32) (s0 : LawS), f_X2_layFrom_30 n v2 v3 s0 s1 = some res → J E 5 (wLaw (jg E) p0_0 p0_1 p0_2 p0_3 p0_4 p0_5 s0 ++ wText (jg E) p1_0 p1_1 s1) 30 [(0, .ref p0_0), (1, .ref p1_0), (2, .int v2), (3, .int v3)] [] := by
  intro n
  induction n with
  | zero => intro _ _ _ h; cases h
  | succ n ih =>
    intro v2 v3 s0 h
    rw [f_X2_layFrom_30] at h
    refine j_iload_n (pc' := 31) K dX2_layFrom_30 rfl 3 rfl rfl ?_
    refine j_bipush (pc' := 33) (v := (120 : Int32)) K dX2_layFrom_31 (by decide) rfl ?_
    refine j_icmp_ge (pc' := 36) (tgt := 85) K dX2_layFrom_33 (by decide) rfl (fun hc => ?_) (fun hc => ?_)
    · have h := jit hc h
      refine j_sub [0] rfl ?_
      exact b_X2_layFrom_85 p0_0 p0_1 p0_2 p0_3 p0_4 p0_5 p1_0 p1_1 s1 K hrw HR s0 h
    · have h := jif hc h
      refine j_iload_n (pc' := 37) K dX2_layFrom_36 rfl 2 rfl rfl ?_
      refine j_aload_n (pc' := 38) K dX2_layFrom_37 rfl 1 rfl rfl ?_
      obtain ⟨r38, hr38, h⟩ := jbd_some h
      refine j_ro (pc' := 41) K (fun H hP => jrun_V K dX2_layFrom_38 (M_X10_length (jl E) (jg E) p1_0 p1_1 s1 hr38) u_1_225 u_2_31 u_1_223 u_1_224 u_1_2 ⟨ok_X10_length, by decide, by decide⟩ rfl (Nat.le_of_ble_eq_true rfl) 6 rfl rfl H hP) [6, 7] rfl rfl ?_
      refine j_icmp_ge (pc' := 44) (tgt := 85) K dX2_layFrom_41 (by decide) rfl (fun hc => ?_) (fun hc => ?_)
      · have h := jit hc h
        refine j_sub [0] rfl ?_
        exact b_X2_layFrom_85 p0_0 p0_1 p0_2 p0_3 p0_4 p0_5 p1_0 p1_1 s1 K hrw HR s0 h
      · have h := jif hc h
        refine j_aload_n (pc' := 45) K dX2_layFrom_44 rfl 1 rfl rfl ?_
        refine j_iload_n (pc' := 46) K dX2_layFrom_45 rfl 2 rfl rfl ?_
        obtain ⟨r46, hr46, h⟩ := jbd_some h
        refine j_ro (pc' := 49) K (fun H hP => jrun_V K dX2_layFrom_46 (M_X10_itemEnd (jl E) (jg E) p1_0 p1_1 v2 s1 hr46) u_2_5 u_2_32 u_2_3 u_2_4 u_1_2 ⟨ok_X10_itemEnd, by decide, by decide⟩ rfl (Nat.le_of_ble_eq_true rfl) 6 rfl rfl H hP) [6, 7] rfl rfl ?_
        refine j_istore (pc' := 51) (lv' := [(4, .int r46), (0, .ref p0_0), (1, .ref p1_0), (2, .int v2), (3, .int v3)]) K dX2_layFrom_49 (by decide) rfl rfl ?_
        refine j_iload (pc' := 53) K dX2_layFrom_51 0 rfl rfl ?_
        refine j_iconst (pc' := 54) (v := (-1 : Int32)) K dX2_layFrom_53 (by decide) rfl ?_
        refine j_icmp_ne (pc' := 57) (tgt := 60) K dX2_layFrom_54 (by decide) rfl (fun hc => ?_) (fun hc => ?_)
        · have h := jif hc h
          refine j_aload_n (pc' := 61) K dX2_layFrom_60 rfl 1 rfl rfl ?_
          refine j_aload_n (pc' := 62) K dX2_layFrom_61 rfl 2 rfl rfl ?_
          refine j_iload_n (pc' := 63) K dX2_layFrom_62 rfl 3 rfl rfl ?_
          obtain ⟨r63, hr63, h⟩ := jbd_some h
          refine j_rw (pc' := 66) (ws' := (wLaw (jg E) p0_0 p0_1 p0_2 p0_3 p0_4 p0_5 r63 ++ wText (jg E) p1_0 p1_1 s1)) K (fun H hP => jrun_V K dX2_layFrom_63 (M_X2_takeItem (jl E) (jg E) p0_0 p0_1 p0_2 p0_3 p0_4 p0_5 p1_0 p1_1 v2 s0 s1 hr63) u_2_36 u_2_33 u_2_35 u_p_3 u_1_11 ⟨ok_X2_takeItem, by decide, by decide⟩ rfl (Nat.le_of_ble_eq_true rfl) 0 rfl rfl H hP) hrw [0, 1, 2, 3, 4, 5, 6, 7] rfl rfl rfl rfl rfl rfl ?_
          refine j_aload_n (pc' := 67) K dX2_layFrom_66 rfl 1 rfl rfl ?_
          refine j_dup (pc' := 68) K dX2_layFrom_67 rfl rfl ?_
          refine j_get (pc' := 71) K dX2_layFrom_68 inX2 0 rfl rfl 6 (by decide) u_1_165 rfl rfl rfl ?_
          refine j_iconst (pc' := 72) (v := (1 : Int32)) K dX2_layFrom_71 (by decide) rfl ?_
          refine j_iadd (pc' := 73) K dX2_layFrom_72 rfl ?_
          refine j_put (pc' := 76) (ws' := (wLaw (jg E) p0_0 p0_1 p0_2 p0_3 p0_4 p0_5 (Law_items_s r63 ((Law_items r63) + (1 : Int32))) ++ wText (jg E) p1_0 p1_1 s1)) K dX2_layFrom_73 hrw inX2 tyX2 tyX2_ok nmX2 0 rfl rfl 6 (by decide) u_1_165 rfl rfl rfl rfl (Nat.le_of_ble_eq_true rfl) rfl rfl ?_
          refine j_iload (pc' := 78) K dX2_layFrom_76 0 rfl rfl ?_
          refine j_istore_n (pc' := 79) (lv' := [(2, .int r46), (4, .int r46), (0, .ref p0_0), (1, .ref p1_0), (3, .int v3)]) K dX2_layFrom_78 rfl (by decide) rfl rfl ?_
          refine j_iinc (pc' := 82) (j := 4) (v := (v3 + (1 : Int32))) (lv' := [(3, .int (v3 + (1 : Int32))), (2, .int r46), (4, .int r46), (0, .ref p0_0), (1, .ref p1_0)]) K dX2_layFrom_79 rfl rfl (by decide) rfl rfl ?_
          refine j_goto (tgt := 30) K dX2_layFrom_82 (by decide) ?_
          refine j_sub [3, 4, 1, 0] rfl ?_
          exact ih r46 (v3 + (1 : Int32)) (Law_items_s r63 ((Law_items r63) + (1 : Int32))) h
        · have h := jit hc h
          refine j_sub [1] rfl ?_
          exact b_X2_layFrom_57 p0_0 p0_1 p0_2 p0_3 p0_4 p0_5 p1_0 p1_1 s1 K hrw HR s0 h
set_option maxRecDepth 100000 in
set_option maxHeartbeats 4000000 in
theorem b_X2_layFrom {E : jE} (p0_0 p0_1 p0_2 p0_3 p0_4 p0_5 : Nat) (p1_0 p1_1 : Nat) (s1 : TextS) {res : LawS} (K : jC E cX2_layFrom 5 RX2 5) (hrw : jrw E) (HR : jRV E cX2_layFrom 5 (wLaw (jg E) p0_0 p0_1 p0_2 p0_3 p0_4 p0_5 res ++ wText (jg E) p1_0 p1_1 s1)) : ∀ (s0 : LawS), f_X2_layFrom s0 s1 = some res → J E 5 (wLaw (jg E) p0_0 p0_1 p0_2 p0_3 p0_4 p0_5 s0 ++ wText (jg E) p1_0 p1_1 s1) 0 [(0, .ref p0_0), (1, .ref p1_0)] [] := by
  intro s0 h
  unfold f_X2_layFrom at h
  refine j_aload_n (pc' := 1) K dX2_layFrom_0 rfl 0 rfl rfl ?_
  refine j_get (pc' := 4) K dX2_layFrom_1 inX2 0 rfl rfl 0 (by decide) u_1_159 rfl rfl rfl ?_
  refine j_iconst (pc' := 5) (v := (0 : Int32)) K dX2_layFrom_4 (by decide) rfl ?_
  obtain ⟨r5, hr5, h⟩ := jbd_some h
  refine j_rw (pc' := 8) (ws' := (wLaw (jg E) p0_0 p0_1 p0_2 p0_3 p0_4 p0_5 (Law_left_s s0 r5) ++ wText (jg E) p1_0 p1_1 s1)) K (fun H hP => jrun_S K dX2_layFrom_5 (M_J7_fill_53178_n3 (jl E) (jg E) p0_1 (0 : Int32) (Law_left s0) hr5) u_2_30 u_2_28 u_2_29 u_1_14 ⟨ok_J7_fill_53178, by decide, by decide⟩ rfl (Nat.le_of_ble_eq_true rfl) H) hrw [1] rfl rfl rfl rfl rfl rfl ?_
  refine j_aload_n (pc' := 9) K dX2_layFrom_8 rfl 0 rfl rfl ?_
  refine j_get (pc' := 12) K dX2_layFrom_9 inX2 0 rfl rfl 1 (by decide) u_1_160 rfl rfl rfl ?_
  refine j_iconst (pc' := 13) (v := (0 : Int32)) K dX2_layFrom_12 (by decide) rfl ?_
  obtain ⟨r13, hr13, h⟩ := jbd_some h
  refine j_rw (pc' := 16) (ws' := (wLaw (jg E) p0_0 p0_1 p0_2 p0_3 p0_4 p0_5 (Law_above_s (Law_left_s s0 r5) r13) ++ wText (jg E) p1_0 p1_1 s1)) K (fun H hP => jrun_S K dX2_layFrom_13 (M_J7_fill_53178_n3 (jl E) (jg E) p0_2 (0 : Int32) (Law_above (Law_left_s s0 r5)) hr13) u_2_30 u_2_28 u_2_29 u_1_14 ⟨ok_J7_fill_53178, by decide, by decide⟩ rfl (Nat.le_of_ble_eq_true rfl) H) hrw [2] rfl rfl rfl rfl rfl rfl ?_
  refine j_aload_n (pc' := 17) K dX2_layFrom_16 rfl 0 rfl rfl ?_
  refine j_iconst (pc' := 18) (v := (1 : Int32)) K dX2_layFrom_17 (by decide) rfl ?_
  refine j_put (pc' := 21) (ws' := (wLaw (jg E) p0_0 p0_1 p0_2 p0_3 p0_4 p0_5 (Law_top_s (Law_above_s (Law_left_s s0 r5) r13) (1 : Int32)) ++ wText (jg E) p1_0 p1_1 s1)) K dX2_layFrom_18 hrw inX2 tyX2 tyX2_ok nmX2 0 rfl rfl 5 (by decide) u_1_164 rfl rfl rfl rfl (Nat.le_of_ble_eq_true rfl) rfl rfl ?_
  refine j_aload_n (pc' := 22) K dX2_layFrom_21 rfl 0 rfl rfl ?_
  refine j_iconst (pc' := 23) (v := (0 : Int32)) K dX2_layFrom_22 (by decide) rfl ?_
  refine j_put (pc' := 26) (ws' := (wLaw (jg E) p0_0 p0_1 p0_2 p0_3 p0_4 p0_5 (Law_items_s (Law_top_s (Law_above_s (Law_left_s s0 r5) r13) (1 : Int32)) (0 : Int32)) ++ wText (jg E) p1_0 p1_1 s1)) K dX2_layFrom_23 hrw inX2 tyX2 tyX2_ok nmX2 0 rfl rfl 6 (by decide) u_1_165 rfl rfl rfl rfl (Nat.le_of_ble_eq_true rfl) rfl rfl ?_
  refine j_iconst (pc' := 27) (v := (0 : Int32)) K dX2_layFrom_26 (by decide) rfl ?_
  refine j_istore_n (pc' := 28) (lv' := [(2, .int (0 : Int32)), (0, .ref p0_0), (1, .ref p1_0)]) K dX2_layFrom_27 rfl (by decide) rfl rfl ?_
  refine j_iconst (pc' := 29) (v := (0 : Int32)) K dX2_layFrom_28 (by decide) rfl ?_
  refine j_istore_n (pc' := 30) (lv' := [(3, .int (0 : Int32)), (2, .int (0 : Int32)), (0, .ref p0_0), (1, .ref p1_0)]) K dX2_layFrom_29 rfl (by decide) rfl rfl ?_
  refine j_sub [2, 3, 1, 0] rfl ?_
  exact b_X2_layFrom_30 p0_0 p0_1 p0_2 p0_3 p0_4 p0_5 p1_0 p1_1 s1 K hrw HR jFU (0 : Int32) (0 : Int32) (Law_items_s (Law_top_s (Law_above_s (Law_left_s s0 r5) r13) (1 : Int32)) (0 : Int32)) h
set_option maxRecDepth 100000 in
set_option maxHeartbeats 4000000 in
theorem M_X2_layFrom (l : Launch) (G : jG) (p0_0 p0_1 p0_2 p0_3 p0_4 p0_5 : Nat) (p1_0 p1_1 : Nat) (s0 : LawS) (s1 : TextS) {r : LawS} (h : f_X2_layFrom s0 s1 = some r) : MC l yX2_layFrom cX2_layFrom 5 none 5 G (jad (wLaw G p0_0 p0_1 p0_2 p0_3 p0_4 p0_5 s0 ++ wText G p1_0 p1_1 s1)) True (wLaw G p0_0 p0_1 p0_2 p0_3 p0_4 p0_5 s0 ++ wText G p1_0 p1_1 s1) (wLaw G p0_0 p0_1 p0_2 p0_3 p0_4 p0_5 r ++ wText G p1_0 p1_1 s1) [.ref p0_0, .ref p1_0] none := by
  refine mc_void (by decide +kernel) (Nat.le_of_ble_eq_true rfl) fun E hl hg hA hrw K HR => ?_
  subst hl
  subst hg
  have hrw : jrw E := by rw [hrw]; trivial
  exact b_X2_layFrom p0_0 p0_1 p0_2 p0_3 p0_4 p0_5 p1_0 p1_1 s1 K hrw HR s0 h
