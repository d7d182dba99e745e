theorem ok_X11_itemsOfLaws : yX11_itemsOfLaws.cls ≠ "java/lang/invoke/MethodHandle" ∧ yX11_itemsOfLaws.cls ≠ "java/lang/invoke/VarHandle" ∧ (parseMethodDescriptor yX11_itemsOfLaws.desc).map (fun d => d.parameters.length) = some 0 := ⟨by decide, by decide, by decide +kernel⟩
def f_X11_itemsOfLaws_4 : Nat → Int32 → Int32 → XS → Option (Int32)
  | 0, _, _, _ => none
  | n + 1, v1, v2, s0 =>
   if (4 : Int32) ≤ v2 then
   some v1
  else
   jgd v2 4 (
    if v2 = 0 then (
     jbd (f_X2_items (X_law0 s0)) (fun r16 =>
      (f_X11_itemsOfLaws_4 n) (v1 + r16) (v2 + (1 : Int32)) s0)) else if v2 = 1 then (
     jbd (f_X2_items (X_law1 s0)) (fun r16 =>
      (f_X11_itemsOfLaws_4 n) (v1 + r16) (v2 + (1 : Int32)) s0)) else if v2 = 2 then (
     jbd (f_X2_items (X_law2 s0)) (fun r16 =>
      (f_X11_itemsOfLaws_4 n) (v1 + r16) (v2 + (1 : Int32)) s0)) else (
     jbd (f_X2_items (X_law3 s0)) (fun r16 =>
      (f_X11_itemsOfLaws_4 n) (v1 + r16) (v2 + (1 : Int32)) s0)))
def f_X11_itemsOfLaws (s0 : XS) : Option (Int32) :=
   f_X11_itemsOfLaws_4 jFU (0 : Int32) (0 : Int32) s0
set_option maxRecDepth 100000 in
set_option maxHeartbeats 4000000 in
theorem b_X11_itemsOfLaws_4 {E : jE} (a0 : Nat → Nat) (s0 : XS) {res : Int32} (K : jC E cX11_itemsOfLaws 3 RX11 1) (HR : jRI E cX11_itemsOfLaws 3 (wX (jg E) a0 s0) res) : ∀ (n : Nat) (v1 : Int32) (v2 : Int32), f_X11_itemsOfLaws_4 n v1 v2 s0 = some res → J E 3 (wX (jg E) a0 s0) 4 [(0, .ref (a0 0)), (1, .int v1), (2, .int v2)] [] := by
  intro n
  induction n with
  | zero => intro _ _ h; cases h
  | succ n ih =>
    intro v1 v2 h
    rw [f_X11_itemsOfLaws_4] at h
    refine j_iload_n (pc' := 5) K dX11_itemsOfLaws_4 rfl 2 rfl rfl ?_
    refine j_iconst (pc' := 6) (v := (4 : Int32)) K dX11_itemsOfLaws_5 (by decide) rfl ?_
    refine j_icmp_ge (pc' := 9) (tgt := 27) K dX11_itemsOfLaws_6 (by decide) rfl (fun hc => ?_) (fun hc => ?_)
    · have h := jit hc h
      refine j_iload_n (pc' := 28) K dX11_itemsOfLaws_27 rfl 1 rfl rfl ?_
      obtain rfl := Option.some.inj h
      exact HR _ _ dX11_itemsOfLaws_28
    · have h := jif hc h
      refine j_iload_n (pc' := 10) K dX11_itemsOfLaws_9 rfl 1 rfl rfl ?_
      refine j_aload_n (pc' := 11) K dX11_itemsOfLaws_10 rfl 0 rfl rfl ?_
      refine j_get (pc' := 14) K dX11_itemsOfLaws_11 inX11 0 rfl rfl 1 (by decide) u_1_198 rfl rfl rfl ?_
      refine j_iload_n (pc' := 15) K dX11_itemsOfLaws_14 rfl 2 rfl rfl ?_
      obtain ⟨hg, h⟩ := jgd_some h
      by_cases hc : v2 = 0
      · have h := jit hc h
        refine j_aald (pc' := 16) K dX11_itemsOfLaws_15 3 4 rfl rfl hg (by rw [hc]; rfl) rfl ?_
        obtain ⟨r16, hr16, h⟩ := jbd_some h
        refine j_ro (pc' := 19) K (fun H hP => jrun_V K dX11_itemsOfLaws_16 (M_X2_items (jl E) (jg E) (a0 4) (a0 5) (a0 6) (a0 7) (a0 8) (a0 9) (X_law0 s0) hr16) u_2_84 u_2_81 u_2_82 u_2_83 u_1_11 ⟨ok_X2_items, by decide, by decide⟩ rfl (Nat.le_of_ble_eq_true rfl) 4 rfl rfl H hP) [4, 5, 6, 7, 8, 9] (cl_15_f ..) rfl ?_
        refine j_iadd (pc' := 20) K dX11_itemsOfLaws_19 rfl ?_
        refine j_istore_n (pc' := 21) (lv' := [(1, .int (v1 + r16)), (0, .ref (a0 0)), (2, .int v2)]) K dX11_itemsOfLaws_20 rfl (by decide) rfl rfl ?_
        refine j_iinc (pc' := 24) (j := 2) (v := (v2 + (1 : Int32))) (lv' := [(2, .int (v2 + (1 : Int32))), (1, .int (v1 + r16)), (0, .ref (a0 0))]) K dX11_itemsOfLaws_21 rfl rfl (by decide) rfl rfl ?_
        refine j_goto (tgt := 4) K dX11_itemsOfLaws_24 (by decide) ?_
        refine j_sub [2, 1, 0] rfl ?_
        exact ih (v1 + r16) (v2 + (1 : Int32)) h
      have hc0 := hc
      have h := jif hc h
      by_cases hc : v2 = 1
      · have h := jit hc h
        refine j_aald (pc' := 16) K dX11_itemsOfLaws_15 3 4 rfl rfl hg (by rw [hc]; rfl) rfl ?_
        obtain ⟨r16, hr16, h⟩ := jbd_some h
        refine j_ro (pc' := 19) K (fun H hP => jrun_V K dX11_itemsOfLaws_16 (M_X2_items (jl E) (jg E) (a0 10) (a0 11) (a0 12) (a0 13) (a0 14) (a0 15) (X_law1 s0) hr16) u_2_84 u_2_81 u_2_82 u_2_83 u_1_11 ⟨ok_X2_items, by decide, by decide⟩ rfl (Nat.le_of_ble_eq_true rfl) 10 rfl rfl H hP) [10, 11, 12, 13, 14, 15] (cl_16_f ..) rfl ?_
        refine j_iadd (pc' := 20) K dX11_itemsOfLaws_19 rfl ?_
        refine j_istore_n (pc' := 21) (lv' := [(1, .int (v1 + r16)), (0, .ref (a0 0)), (2, .int v2)]) K dX11_itemsOfLaws_20 rfl (by decide) rfl rfl ?_
        refine j_iinc (pc' := 24) (j := 2) (v := (v2 + (1 : Int32))) (lv' := [(2, .int (v2 + (1 : Int32))), (1, .int (v1 + r16)), (0, .ref (a0 0))]) K dX11_itemsOfLaws_21 rfl rfl (by decide) rfl rfl ?_
        refine j_goto (tgt := 4) K dX11_itemsOfLaws_24 (by decide) ?_
        refine j_sub [2, 1, 0] rfl ?_
        exact ih (v1 + r16) (v2 + (1 : Int32)) h
      have hc1 := hc
      have h := jif hc h
      by_cases hc : v2 = 2
      · have h := jit hc h
        refine j_aald (pc' := 16) K dX11_itemsOfLaws_15 3 4 rfl rfl hg (by rw [hc]; rfl) rfl ?_
        obtain ⟨r16, hr16, h⟩ := jbd_some h
        refine j_ro (pc' := 19) K (fun H hP => jrun_V K dX11_itemsOfLaws_16 (M_X2_items (jl E) (jg E) (a0 16) (a0 17) (a0 18) (a0 19) (a0 20) (a0 21) (X_law2 s0) hr16) u_2_84 u_2_81 u_2_82 u_2_83 u_1_11 ⟨ok_X2_items, by decide, by decide⟩ rfl (Nat.le_of_ble_eq_true rfl) 16 rfl rfl H hP) [16, 17, 18, 19, 20, 21] (cl_17_f ..) rfl ?_
        refine j_iadd (pc' := 20) K dX11_itemsOfLaws_19 rfl ?_
        refine j_istore_n (pc' := 21) (lv' := [(1, .int (v1 + r16)), (0, .ref (a0 0)), (2, .int v2)]) K dX11_itemsOfLaws_20 rfl (by decide) rfl rfl ?_
        refine j_iinc (pc' := 24) (j := 2) (v := (v2 + (1 : Int32))) (lv' := [(2, .int (v2 + (1 : Int32))), (1, .int (v1 + r16)), (0, .ref (a0 0))]) K dX11_itemsOfLaws_21 rfl rfl (by decide) rfl rfl ?_
        refine j_goto (tgt := 4) K dX11_itemsOfLaws_24 (by decide) ?_
        refine j_sub [2, 1, 0] rfl ?_
        exact ih (v1 + r16) (v2 + (1 : Int32)) h
      have hc2 := hc
      have h := jif hc h
      have hc : v2 = 3 := jin4 hg hc0 hc1 hc2
      refine j_aald (pc' := 16) K dX11_itemsOfLaws_15 3 4 rfl rfl hg (by rw [hc]; rfl) rfl ?_
      obtain ⟨r16, hr16, h⟩ := jbd_some h
      refine j_ro (pc' := 19) K (fun H hP => jrun_V K dX11_itemsOfLaws_16 (M_X2_items (jl E) (jg E) (a0 22) (a0 23) (a0 24) (a0 25) (a0 26) (a0 27) (X_law3 s0) hr16) u_2_84 u_2_81 u_2_82 u_2_83 u_1_11 ⟨ok_X2_items, by decide, by decide⟩ rfl (Nat.le_of_ble_eq_true rfl) 22 rfl rfl H hP) [22, 23, 24, 25, 26, 27] (cl_18_f ..) rfl ?_
      refine j_iadd (pc' := 20) K dX11_itemsOfLaws_19 rfl ?_
      refine j_istore_n (pc' := 21) (lv' := [(1, .int (v1 + r16)), (0, .ref (a0 0)), (2, .int v2)]) K dX11_itemsOfLaws_20 rfl (by decide) rfl rfl ?_
      refine j_iinc (pc' := 24) (j := 2) (v := (v2 + (1 : Int32))) (lv' := [(2, .int (v2 + (1 : Int32))), (1, .int (v1 + r16)), (0, .ref (a0 0))]) K dX11_itemsOfLaws_21 rfl rfl (by decide) rfl rfl ?_
      refine j_goto (tgt := 4) K dX11_itemsOfLaws_24 (by decide) ?_
      refine j_sub [2, 1, 0] rfl ?_
      exact ih (v1 + r16) (v2 + (1 : Int32)) h
set_option maxRecDepth 100000 in
set_option maxHeartbeats 4000000 in
theorem b_X11_itemsOfLaws {E : jE} (a0 : Nat → Nat) (s0 : XS) {res : Int32} (K : jC E cX11_itemsOfLaws 3 RX11 1) (HR : jRI E cX11_itemsOfLaws 3 (wX (jg E) a0 s0) res) : f_X11_itemsOfLaws s0 = some res → J E 3 (wX (jg E) a0 s0) 0 [(0, .ref (a0 0))] [] := by
  intro  h
  unfold f_X11_itemsOfLaws at h
  refine j_iconst (pc' := 1) (v := (0 : Int32)) K dX11_itemsOfLaws_0 (by decide) rfl ?_
  refine j_istore_n (pc' := 2) (lv' := [(1, .int (0 : Int32)), (0, .ref (a0 0))]) K dX11_itemsOfLaws_1 rfl (by decide) rfl rfl ?_
  refine j_iconst (pc' := 3) (v := (0 : Int32)) K dX11_itemsOfLaws_2 (by decide) rfl ?_
  refine j_istore_n (pc' := 4) (lv' := [(2, .int (0 : Int32)), (1, .int (0 : Int32)), (0, .ref (a0 0))]) K dX11_itemsOfLaws_3 rfl (by decide) rfl rfl ?_
  refine j_sub [2, 1, 0] rfl ?_
  exact b_X11_itemsOfLaws_4 a0 s0 K HR jFU (0 : Int32) (0 : Int32) h
set_option maxRecDepth 100000 in
set_option maxHeartbeats 4000000 in
theorem M_X11_itemsOfLaws (l : Launch) (G : jG) (a0 : Nat → Nat) (s0 : XS) {r : Int32} (h : f_X11_itemsOfLaws s0 = some r) : MC l yX11_itemsOfLaws cX11_itemsOfLaws 3 (some .int) 1 G jNo False (wX G a0 s0) (wX G a0 s0) [.ref (a0 0)] (some (.int r)) := by
  refine mc_int (by decide +kernel) (Nat.le_of_ble_eq_true rfl) fun E hl hg hA hrw K HR => ?_
  subst hl
  subst hg
  exact b_X11_itemsOfLaws a0 s0 K HR h
theorem ok_X11_coefficientsInUse : yX11_coefficientsInUse.cls ≠ "java/lang/invoke/MethodHandle" ∧ yX11_coefficientsInUse.cls ≠ "java/lang/invoke/VarHandle" ∧ (parseMethodDescriptor yX11_coefficientsInUse.desc).map (fun d => d.parameters.length) = some 0 := ⟨by decide, by decide, by decide +kernel⟩
def f_X11_coefficientsInUse_4 : Nat → Int32 → Int32 → XS → Option (Int32)
  | 0, _, _, _ => none
  | n + 1, v1, v2, s0 =>
   if (4 : Int32) ≤ v2 then
   some v1
  else
   jgd v2 4 (
    if v2 = 0 then (
     jbd (f_X8_inUse (X_poly0 s0)) (fun r16 =>
      (f_X11_coefficientsInUse_4 n) (v1 + r16) (v2 + (1 : Int32)) s0)) else if v2 = 1 then (
     jbd (f_X8_inUse (X_poly1 s0)) (fun r16 =>
      (f_X11_coefficientsInUse_4 n) (v1 + r16) (v2 + (1 : Int32)) s0)) else if v2 = 2 then (
     jbd (f_X8_inUse (X_poly2 s0)) (fun r16 =>
      (f_X11_coefficientsInUse_4 n) (v1 + r16) (v2 + (1 : Int32)) s0)) else (
     jbd (f_X8_inUse (X_poly3 s0)) (fun r16 =>
      (f_X11_coefficientsInUse_4 n) (v1 + r16) (v2 + (1 : Int32)) s0)))
def f_X11_coefficientsInUse (s0 : XS) : Option (Int32) :=
   f_X11_coefficientsInUse_4 jFU (0 : Int32) (0 : Int32) s0
set_option maxRecDepth 100000 in
set_option maxHeartbeats 4000000 in
theorem b_X11_coefficientsInUse_4 {E : jE} (a0 : Nat → Nat) (s0 : XS) {res : Int32} (K : jC E cX11_coefficientsInUse 3 RX11 1) (HR : jRI E cX11_coefficientsInUse 3 (wX (jg E) a0 s0) res) : ∀ (n : Nat) (v1 : Int32) (v2 : Int32), f_X11_coefficientsInUse_4 n v1 v2 s0 = some res → J E 3 (wX (jg E) a0 s0) 4 [(0, .ref (a0 0)), (1, .int v1), (2, .int v2)] [] := by
  intro n
  induction n with
  | zero => intro _ _ h; cases h
  | succ n ih =>
    intro v1 v2 h
    rw [f_X11_coefficientsInUse_4] at h
    refine j_iload_n (pc' := 5) K dX11_coefficientsInUse_4 rfl 2 rfl rfl ?_
    refine j_iconst (pc' := 6) (v := (4 : Int32)) K dX11_coefficientsInUse_5 (by decide) rfl ?_
    refine j_icmp_ge (pc' := 9) (tgt := 27) K dX11_coefficientsInUse_6 (by decide) rfl (fun hc => ?_) (fun hc => ?_)
    · have h := jit hc h
      refine j_iload_n (pc' := 28) K dX11_coefficientsInUse_27 rfl 1 rfl rfl ?_
      obtain rfl := Option.some.inj h
      exact HR _ _ dX11_coefficientsInUse_28
    · have h := jif hc h
      refine j_iload_n (pc' := 10) K dX11_coefficientsInUse_9 rfl 1 rfl rfl ?_
      refine j_aload_n (pc' := 11) K dX11_coefficientsInUse_10 rfl 0 rfl rfl ?_
      refine j_get (pc' := 14) K dX11_coefficientsInUse_11 inX11 0 rfl rfl 4 (by decide) u_1_201 rfl rfl rfl ?_
      refine j_iload_n (pc' := 15) K dX11_coefficientsInUse_14 rfl 2 rfl rfl ?_
      obtain ⟨hg, h⟩ := jgd_some h
      by_cases hc : v2 = 0
      · have h := jit hc h
        refine j_aald (pc' := 16) K dX11_coefficientsInUse_15 43 6 rfl rfl hg (by rw [hc]; rfl) rfl ?_
        obtain ⟨r16, hr16, h⟩ := jbd_some h
        refine j_ro (pc' := 19) K (fun H hP => jrun_V K dX11_coefficientsInUse_16 (M_X8_inUse (jl E) (jg E) (a0 44) (a0 45) (a0 46) (X_poly0 s0) hr16) u_4_28 u_4_25 u_4_26 u_4_27 u_1_12 ⟨ok_X8_inUse, by decide, by decide⟩ rfl (Nat.le_of_ble_eq_true rfl) 44 rfl rfl H hP) [44, 45, 46] (cl_46_f ..) rfl ?_
        refine j_iadd (pc' := 20) K dX11_coefficientsInUse_19 rfl ?_
        refine j_istore_n (pc' := 21) (lv' := [(1, .int (v1 + r16)), (0, .ref (a0 0)), (2, .int v2)]) K dX11_coefficientsInUse_20 rfl (by decide) rfl rfl ?_
        refine j_iinc (pc' := 24) (j := 2) (v := (v2 + (1 : Int32))) (lv' := [(2, .int (v2 + (1 : Int32))), (1, .int (v1 + r16)), (0, .ref (a0 0))]) K dX11_coefficientsInUse_21 rfl rfl (by decide) rfl rfl ?_
        refine j_goto (tgt := 4) K dX11_coefficientsInUse_24 (by decide) ?_
        refine j_sub [2, 1, 0] rfl ?_
        exact ih (v1 + r16) (v2 + (1 : Int32)) h
      have hc0 := hc
      have h := jif hc h
      by_cases hc : v2 = 1
      · have h := jit hc h
        refine j_aald (pc' := 16) K dX11_coefficientsInUse_15 43 6 rfl rfl hg (by rw [hc]; rfl) rfl ?_
        obtain ⟨r16, hr16, h⟩ := jbd_some h
        refine j_ro (pc' := 19) K (fun H hP => jrun_V K dX11_coefficientsInUse_16 (M_X8_inUse (jl E) (jg E) (a0 47) (a0 48) (a0 49) (X_poly1 s0) hr16) u_4_28 u_4_25 u_4_26 u_4_27 u_1_12 ⟨ok_X8_inUse, by decide, by decide⟩ rfl (Nat.le_of_ble_eq_true rfl) 47 rfl rfl H hP) [47, 48, 49] (cl_51_f ..) rfl ?_
        refine j_iadd (pc' := 20) K dX11_coefficientsInUse_19 rfl ?_
        refine j_istore_n (pc' := 21) (lv' := [(1, .int (v1 + r16)), (0, .ref (a0 0)), (2, .int v2)]) K dX11_coefficientsInUse_20 rfl (by decide) rfl rfl ?_
        refine j_iinc (pc' := 24) (j := 2) (v := (v2 + (1 : Int32))) (lv' := [(2, .int (v2 + (1 : Int32))), (1, .int (v1 + r16)), (0, .ref (a0 0))]) K dX11_coefficientsInUse_21 rfl rfl (by decide) rfl rfl ?_
        refine j_goto (tgt := 4) K dX11_coefficientsInUse_24 (by decide) ?_
        refine j_sub [2, 1, 0] rfl ?_
        exact ih (v1 + r16) (v2 + (1 : Int32)) h
      have hc1 := hc
      have h := jif hc h
      by_cases hc : v2 = 2
      · have h := jit hc h
        refine j_aald (pc' := 16) K dX11_coefficientsInUse_15 43 6 rfl rfl hg (by rw [hc]; rfl) rfl ?_
        obtain ⟨r16, hr16, h⟩ := jbd_some h
        refine j_ro (pc' := 19) K (fun H hP => jrun_V K dX11_coefficientsInUse_16 (M_X8_inUse (jl E) (jg E) (a0 50) (a0 51) (a0 52) (X_poly2 s0) hr16) u_4_28 u_4_25 u_4_26 u_4_27 u_1_12 ⟨ok_X8_inUse, by decide, by decide⟩ rfl (Nat.le_of_ble_eq_true rfl) 50 rfl rfl H hP) [50, 51, 52] (cl_52_f ..) rfl ?_
        refine j_iadd (pc' := 20) K dX11_coefficientsInUse_19 rfl ?_
        refine j_istore_n (pc' := 21) (lv' := [(1, .int (v1 + r16)), (0, .ref (a0 0)), (2, .int v2)]) K dX11_coefficientsInUse_20 rfl (by decide) rfl rfl ?_
        refine j_iinc (pc' := 24) (j := 2) (v := (v2 + (1 : Int32))) (lv' := [(2, .int (v2 + (1 : Int32))), (1, .int (v1 + r16)), (0, .ref (a0 0))]) K dX11_coefficientsInUse_21 rfl rfl (by decide) rfl rfl ?_
        refine j_goto (tgt := 4) K dX11_coefficientsInUse_24 (by decide) ?_
        refine j_sub [2, 1, 0] rfl ?_
        exact ih (v1 + r16) (v2 + (1 : Int32)) h
      have hc2 := hc
      have h := jif hc h
      have hc : v2 = 3 := jin4 hg hc0 hc1 hc2
      refine j_aald (pc' := 16) K dX11_coefficientsInUse_15 43 6 rfl rfl hg (by rw [hc]; rfl) rfl ?_
      obtain ⟨r16, hr16, h⟩ := jbd_some h
      refine j_ro (pc' := 19) K (fun H hP => jrun_V K dX11_coefficientsInUse_16 (M_X8_inUse (jl E) (jg E) (a0 53) (a0 54) (a0 55) (X_poly3 s0) hr16) u_4_28 u_4_25 u_4_26 u_4_27 u_1_12 ⟨ok_X8_inUse, by decide, by decide⟩ rfl (Nat.le_of_ble_eq_true rfl) 53 rfl rfl H hP) [53, 54, 55] (cl_53_f ..) rfl ?_
      refine j_iadd (pc' := 20) K dX11_coefficientsInUse_19 rfl ?_
      refine j_istore_n (pc' := 21) (lv' := [(1, .int (v1 + r16)), (0, .ref (a0 0)), (2, .int v2)]) K dX11_coefficientsInUse_20 rfl (by decide) rfl rfl ?_
      refine j_iinc (pc' := 24) (j := 2) (v := (v2 + (1 : Int32))) (lv' := [(2, .int (v2 + (1 : Int32))), (1, .int (v1 + r16)), (0, .ref (a0 0))]) K dX11_coefficientsInUse_21 rfl rfl (by decide) rfl rfl ?_
      refine j_goto (tgt := 4) K dX11_coefficientsInUse_24 (by decide) ?_
      refine j_sub [2, 1, 0] rfl ?_
      exact ih (v1 + r16) (v2 + (1 : Int32)) h
set_option maxRecDepth 100000 in
set_option maxHeartbeats 4000000 in
theorem b_X11_coefficientsInUse {E : jE} (a0 : Nat → Nat) (s0 : XS) {res : Int32} (K : jC E cX11_coefficientsInUse 3 RX11 1) (HR : jRI E cX11_coefficientsInUse 3 (wX (jg E) a0 s0) res) : f_X11_coefficientsInUse s0 = some res → J E 3 (wX (jg E) a0 s0) 0 [(0, .ref (a0 0))] [] := by
  intro  h
  unfold f_X11_coefficientsInUse at h
  refine j_iconst (pc' := 1) (v := (0 : Int32)) K dX11_coefficientsInUse_0 (by decide) rfl ?_
  refine j_istore_n (pc' := 2) (lv' := [(1, .int (0 : Int32)), (0, .ref (a0 0))]) K dX11_coefficientsInUse_1 rfl (by decide) rfl rfl ?_
  refine j_iconst (pc' := 3) (v := (0 : Int32)) K dX11_coefficientsInUse_2 (by decide) rfl ?_
  refine j_istore_n (pc' := 4) (lv' := [(2, .int (0 : Int32)), (1, .int (0 : Int32)), (0, .ref (a0 0))]) K dX11_coefficientsInUse_3 rfl (by decide) rfl rfl ?_
  refine j_sub [2, 1, 0] rfl ?_
  exact b_X11_coefficientsInUse_4 a0 s0 K HR jFU (0 : Int32) (0 : Int32) h
set_option maxRecDepth 100000 in
set_option maxHeartbeats 4000000 in
theorem M_X11_coefficientsInUse (l : Launch) (G : jG) (a0 : Nat → Nat) (s0 : XS) {r : Int32} (h : f_X11_coefficientsInUse s0 = some r) : MC l yX11_coefficientsInUse cX11_coefficientsInUse 3 (some .int) 1 G jNo False (wX G a0 s0) (wX G a0 s0) [.ref (a0 0)] (some (.int r)) := by
  refine mc_int (by decide +kernel) (Nat.le_of_ble_eq_true rfl) fun E hl hg hA hrw K HR => ?_
  subst hl
  subst hg
  exact b_X11_coefficientsInUse a0 s0 K HR h
theorem ok_X11_count : yX11_count.cls ≠ "java/lang/invoke/MethodHandle" ∧ yX11_count.cls ≠ "java/lang/invoke/VarHandle" ∧ (parseMethodDescriptor yX11_count.desc).map (fun d => d.parameters.length) = some 1 := ⟨by decide, by decide, by decide +kernel⟩
def f_X11_count (v1 : Int32) (s0 : XS) : Option (Int32) :=
   if v1 = 0 then (
   jbd (f_X10_length (X_text s0)) (fun r32 =>
    some r32)) else if v1 = 1 then (
   jbd (f_X11_itemsOfLaws s0) (fun r37 =>
    some r37)) else if v1 = 2 then (
   jbd (f_X11_coefficientsInUse s0) (fun r42 =>
    some r42)) else (
   some (-1 : Int32))
set_option maxRecDepth 100000 in
set_option maxHeartbeats 4000000 in
theorem b_X11_count {E : jE} (a0 : Nat → Nat) (s0 : XS) {res : Int32} (K : jC E cX11_count 2 RX11 2) (HR : jRI E cX11_count 2 (wX (jg E) a0 s0) res) : ∀ (v1 : Int32), f_X11_count v1 s0 = some res → J E 2 (wX (jg E) a0 s0) 0 [(0, .ref (a0 0)), (1, .int v1)] [] := by
  intro v1 h
  unfold f_X11_count at h
  refine j_iload_n (pc' := 1) K dX11_count_0 rfl 1 rfl rfl ?_
  by_cases hc : v1 = 0
  · have h := jit hc h
    refine j_tabIn (tgt := 28) K dX11_count_1 (by rw [hc]; decide) (by rw [hc]; decide) (by rw [hc]; rfl) (by decide) ?_
    refine j_aload_n (pc' := 29) K dX11_count_28 rfl 0 rfl rfl ?_
    refine j_get (pc' := 32) K dX11_count_29 inX11 0 rfl rfl 0 (by decide) u_1_197 rfl rfl rfl ?_
    obtain ⟨r32, hr32, h⟩ := jbd_some h
    refine j_ro (pc' := 35) K (fun H hP => jrun_V K dX11_count_32 (M_X10_length (jl E) (jg E) (a0 1) (a0 2) (X_text s0) hr32) u_1_225 u_1_222 u_1_223 u_1_224 u_1_2 ⟨ok_X10_length, by decide, by decide⟩ rfl (Nat.le_of_ble_eq_true rfl) 1 rfl rfl H hP) [1, 2] (cl_13_f ..) rfl ?_
    obtain rfl := Option.some.inj h
    exact HR _ _ dX11_count_35
  have hc0 := hc
  have h := jif hc h
  by_cases hc : v1 = 1
  · have h := jit hc h
    refine j_tabIn (tgt := 36) K dX11_count_1 (by rw [hc]; decide) (by rw [hc]; decide) (by rw [hc]; rfl) (by decide) ?_
    refine j_aload_n (pc' := 37) K dX11_count_36 rfl 0 rfl rfl ?_
    obtain ⟨r37, hr37, h⟩ := jbd_some h
    refine j_ro (pc' := 40) K (fun H hP => jrun_V K dX11_count_37 (M_X11_itemsOfLaws (jl E) (jg E) a0 s0 hr37) u_4_20 u_4_17 u_4_19 u_p_18 u_1_1 ⟨ok_X11_itemsOfLaws, by decide, by decide⟩ rfl (Nat.le_of_ble_eq_true rfl) 0 rfl rfl H hP) [0, 1, 2, 3, 4, 5, 6, 7, 8, 9, 10, 11, 12, 13, 14, 15, 16, 17, 18, 19, 20, 21, 22, 23, 24, 25, 26, 27, 28, 29, 30, 31, 32, 33, 34, 35, 36, 37, 38, 39, 40, 41, 42, 43, 44, 45, 46, 47, 48, 49, 50, 51, 52, 53, 54, 55] (cl_45_f ..) rfl ?_
    obtain rfl := Option.some.inj h
    exact HR _ _ dX11_count_40
  have hc1 := hc
  have h := jif hc h
  by_cases hc : v1 = 2
  · have h := jit hc h
    refine j_tabIn (tgt := 41) K dX11_count_1 (by rw [hc]; decide) (by rw [hc]; decide) (by rw [hc]; rfl) (by decide) ?_
    refine j_aload_n (pc' := 42) K dX11_count_41 rfl 0 rfl rfl ?_
    obtain ⟨r42, hr42, h⟩ := jbd_some h
    refine j_ro (pc' := 45) K (fun H hP => jrun_V K dX11_count_42 (M_X11_coefficientsInUse (jl E) (jg E) a0 s0 hr42) u_4_24 u_4_21 u_4_23 u_p_19 u_1_1 ⟨ok_X11_coefficientsInUse, by decide, by decide⟩ rfl (Nat.le_of_ble_eq_true rfl) 0 rfl rfl H hP) [0, 1, 2, 3, 4, 5, 6, 7, 8, 9, 10, 11, 12, 13, 14, 15, 16, 17, 18, 19, 20, 21, 22, 23, 24, 25, 26, 27, 28, 29, 30, 31, 32, 33, 34, 35, 36, 37, 38, 39, 40, 41, 42, 43, 44, 45, 46, 47, 48, 49, 50, 51, 52, 53, 54, 55] (cl_45_f ..) rfl ?_
    obtain rfl := Option.some.inj h
    exact HR _ _ dX11_count_45
  have hc2 := hc
  have h := jif hc h
  refine j_tabOut (tgt := 46) K dX11_count_1 (jtab3 hc0 hc1 hc2) (by decide) ?_
  refine j_iconst (pc' := 47) (v := (-1 : Int32)) K dX11_count_46 (by decide) rfl ?_
  obtain rfl := Option.some.inj h
  exact HR _ _ dX11_count_47
set_option maxRecDepth 100000 in
set_option maxHeartbeats 4000000 in
theorem M_X11_count (l : Launch) (G : jG) (a0 : Nat → Nat) (v1 : Int32) (s0 : XS) {r : Int32} (h : f_X11_count v1 s0 = some r) : MC l yX11_count cX11_count 2 (some .int) 2 G jNo False (wX G a0 s0) (wX G a0 s0) [.ref (a0 0), .int v1] (some (.int r)) := by
  refine mc_int (by decide +kernel) (Nat.le_of_ble_eq_true rfl) fun E hl hg hA hrw K HR => ?_
  subst hl
  subst hg
  exact b_X11_count a0 s0 K HR v1 h
