theorem ok_X2_factor : yX2_factor.cls ≠ "java/lang/invoke/MethodHandle" ∧ yX2_factor.cls ≠ "java/lang/invoke/VarHandle" ∧ (parseMethodDescriptor yX2_factor.desc).map (fun d => d.parameters.length) = some 3 := ⟨by decide, by decide, by decide +kernel⟩
def f_X2_factor (v1 : Int32) (v2 : Int32) (s0 : ArrI3S) : Option (Int32) :=
   jgd (0 : Int32) 3 (
   jgd (1 : Int32) 3 (
    jgd (2 : Int32) 3 (
     some (((s0 (Int32.toNatClampNeg (0 : Int32))) + ((s0 (Int32.toNatClampNeg (1 : Int32))) * v1)) + ((s0 (Int32.toNatClampNeg (2 : Int32))) * v2)))))
set_option maxRecDepth 100000 in
set_option maxHeartbeats 4000000 in
theorem b_X2_factor {E : jE} (p0_0 : Nat) (s0 : ArrI3S) {res : Int32} (K : jC E cX2_factor 3 RX2 0) (HR : jRI E cX2_factor 3 (wArrI3 (jg E) p0_0 s0) res) : ∀ (v1 : Int32) (v2 : Int32), f_X2_factor v1 v2 s0 = some res → J E 3 (wArrI3 (jg E) p0_0 s0) 0 [(0, .ref p0_0), (1, .int v1), (2, .int v2)] [] := by
  intro v1 v2 h
  unfold f_X2_factor at h
  refine j_aload_n (pc' := 1) K dX2_factor_0 rfl 0 rfl rfl ?_
  refine j_iconst (pc' := 2) (v := (0 : Int32)) K dX2_factor_1 (by decide) rfl ?_
  obtain ⟨hg, h⟩ := jgd_some h
  refine j_iald (pc' := 3) K dX2_factor_2 0 rfl hg rfl ?_
  refine j_aload_n (pc' := 4) K dX2_factor_3 rfl 0 rfl rfl ?_
  refine j_iconst (pc' := 5) (v := (1 : Int32)) K dX2_factor_4 (by decide) rfl ?_
  obtain ⟨hg, h⟩ := jgd_some h
  refine j_iald (pc' := 6) K dX2_factor_5 0 rfl hg rfl ?_
  refine j_iload_n (pc' := 7) K dX2_factor_6 rfl 1 rfl rfl ?_
  refine j_imul (pc' := 8) K dX2_factor_7 rfl ?_
  refine j_iadd (pc' := 9) K dX2_factor_8 rfl ?_
  refine j_aload_n (pc' := 10) K dX2_factor_9 rfl 0 rfl rfl ?_
  refine j_iconst (pc' := 11) (v := (2 : Int32)) K dX2_factor_10 (by decide) rfl ?_
  obtain ⟨hg, h⟩ := jgd_some h
  refine j_iald (pc' := 12) K dX2_factor_11 0 rfl hg rfl ?_
  refine j_iload_n (pc' := 13) K dX2_factor_12 rfl 2 rfl rfl ?_
  refine j_imul (pc' := 14) K dX2_factor_13 rfl ?_
  refine j_iadd (pc' := 15) K dX2_factor_14 rfl ?_
  obtain rfl := Option.some.inj h
  exact HR _ _ dX2_factor_15
set_option maxRecDepth 100000 in
set_option maxHeartbeats 4000000 in
theorem M_X2_factor (l : Launch) (G : jG) (p0_0 : Nat) (v1 : Int32) (v2 : Int32) (s0 : ArrI3S) {r : Int32} (h : f_X2_factor v1 v2 s0 = some r) : MC l yX2_factor cX2_factor 3 (some .int) 0 G jNo False (wArrI3 G p0_0 s0) (wArrI3 G p0_0 s0) [.ref p0_0, .int v1, .int v2] (some (.int r)) := by
  refine mc_int (by decide +kernel) (Nat.le_of_ble_eq_true rfl) fun E hl hg hA hrw K HR => ?_
  subst hl
  subst hg
  exact b_X2_factor p0_0 s0 K HR v1 v2 h
theorem ok_X2_product : yX2_product.cls ≠ "java/lang/invoke/MethodHandle" ∧ yX2_product.cls ≠ "java/lang/invoke/VarHandle" ∧ (parseMethodDescriptor yX2_product.desc).map (fun d => d.parameters.length) = some 2 := ⟨by decide, by decide, by decide +kernel⟩
def f_X2_product (v0 : Int64) (v2 : Int64) : Option (Int64) :=
   if (lg_cmp v0 (-9000000000000000000 : Int64)) = 0 then
   some (-9000000000000000000 : Int64)
  else
   if (lg_cmp v2 (-9000000000000000000 : Int64)) = 0 then
    some (-9000000000000000000 : Int64)
   else
    if (lg_cmp v2 (0 : Int64)) = 0 then
     some (v0 * v2)
    else
     jbd (f_J9_abs_067f4 v0) (fun r27 =>
      jbd (f_J9_abs_067f4 v2) (fun r34 =>
       jnzl r34 (
        if (lg_cmp r27 ((100000000000000000 : Int64) / r34)) ≤ 0 then
         some (v0 * v2)
        else
         some (-9000000000000000000 : Int64))))
set_option maxRecDepth 100000 in
set_option maxHeartbeats 4000000 in
theorem b_X2_product {E : jE}  {res : Int64} (K : jC E cX2_product 4 RX2 1) (HR : jRL E cX2_product 4 ([] : va_W) res) : ∀ (v0 : Int64) (v2 : Int64), f_X2_product v0 v2 = some res → J E 4 ([] : va_W) 0 [(0, .long v0), (2, .long v2)] [] := by
  intro v0 v2 h
  unfold f_X2_product at h
  refine j_lload_n (pc' := 1) K dX2_product_0 rfl 0 rfl rfl ?_
  refine j_ldc2 (pc' := 4) K dX2_product_1 u_2_70 rfl ?_
  refine j_lcmp (pc' := 5) K dX2_product_4 rfl ?_
  refine j_if_eq (pc' := 8) (tgt := 16) K dX2_product_5 (by decide) rfl (fun hc => ?_) (fun hc => ?_)
  · have h := jit hc h
    refine j_ldc2 (pc' := 19) K dX2_product_16 u_2_70 rfl ?_
    obtain rfl := Option.some.inj h
    exact HR _ _ dX2_product_19
  · have h := jif hc h
    refine j_lload_n (pc' := 9) K dX2_product_8 rfl 1 rfl rfl ?_
    refine j_ldc2 (pc' := 12) K dX2_product_9 u_2_70 rfl ?_
    refine j_lcmp (pc' := 13) K dX2_product_12 rfl ?_
    refine j_if_ne (pc' := 16) (tgt := 20) K dX2_product_13 (by decide) rfl (fun hc => ?_) (fun hc => ?_)
    · have h := jif hc h
      refine j_lload_n (pc' := 21) K dX2_product_20 rfl 1 rfl rfl ?_
      refine j_lconst (pc' := 22) (v := (0 : Int64)) K dX2_product_21 (by decide) rfl ?_
      refine j_lcmp (pc' := 23) K dX2_product_22 rfl ?_
      refine j_if_eq (pc' := 26) (tgt := 46) K dX2_product_23 (by decide) rfl (fun hc => ?_) (fun hc => ?_)
      · have h := jit hc h
        refine j_lload_n (pc' := 47) K dX2_product_46 rfl 0 rfl rfl ?_
        refine j_lload_n (pc' := 48) K dX2_product_47 rfl 1 rfl rfl ?_
        refine j_lmul (pc' := 49) K dX2_product_48 rfl ?_
        obtain rfl := Option.some.inj h
        exact HR _ _ dX2_product_49
      · have h := jif hc h
        refine j_lload_n (pc' := 27) K dX2_product_26 rfl 0 rfl rfl ?_
        obtain ⟨r27, hr27, h⟩ := jbd_some h
        refine j_ro (pc' := 30) K (fun H hP => jrun_S K dX2_product_27 (M_J9_abs_067f4 (jl E) (jg E) v0 hr27) u_2_73 u_2_71 u_2_72 u_1_15 ⟨ok_J9_abs_067f4, by decide, by decide⟩ rfl (Nat.le_of_ble_eq_true rfl) H) [] rfl rfl ?_
        refine j_ldc2 (pc' := 33) K dX2_product_30 u_2_74 rfl ?_
        refine j_lload_n (pc' := 34) K dX2_product_33 rfl 1 rfl rfl ?_
        obtain ⟨r34, hr34, h⟩ := jbd_some h
        refine j_ro (pc' := 37) K (fun H hP => jrun_S K dX2_product_34 (M_J9_abs_067f4 (jl E) (jg E) v2 hr34) u_2_73 u_2_71 u_2_72 u_1_15 ⟨ok_J9_abs_067f4, by decide, by decide⟩ rfl (Nat.le_of_ble_eq_true rfl) H) [] rfl rfl ?_
        obtain ⟨hg, h⟩ := jnzl_some h
        refine j_ldiv (pc' := 38) K dX2_product_37 hg rfl ?_
        refine j_lcmp (pc' := 39) K dX2_product_38 rfl ?_
        refine j_if_le (pc' := 42) (tgt := 46) K dX2_product_39 (by decide) rfl (fun hc => ?_) (fun hc => ?_)
        · have h := jit hc h
          refine j_lload_n (pc' := 47) K dX2_product_46 rfl 0 rfl rfl ?_
          refine j_lload_n (pc' := 48) K dX2_product_47 rfl 1 rfl rfl ?_
          refine j_lmul (pc' := 49) K dX2_product_48 rfl ?_
          obtain rfl := Option.some.inj h
          exact HR _ _ dX2_product_49
        · have h := jif hc h
          refine j_ldc2 (pc' := 45) K dX2_product_42 u_2_70 rfl ?_
          obtain rfl := Option.some.inj h
          exact HR _ _ dX2_product_45
    · have h := jit hc h
      refine j_ldc2 (pc' := 19) K dX2_product_16 u_2_70 rfl ?_
      obtain rfl := Option.some.inj h
      exact HR _ _ dX2_product_19
set_option maxRecDepth 100000 in
set_option maxHeartbeats 4000000 in
theorem M_X2_product (l : Launch) (G : jG)  (v0 : Int64) (v2 : Int64) {r : Int64} (h : f_X2_product v0 v2 = some r) : MC l yX2_product cX2_product 4 (some .long) 1 G jNo False ([] : va_W) ([] : va_W) [.long v0, .long v2] (some (.long r)) := by
  refine mc_long (by decide +kernel) (Nat.le_of_ble_eq_true rfl) fun E hl hg hA hrw K HR => ?_
  subst hl
  subst hg
  exact b_X2_product K HR v0 v2 h
theorem ok_X2_part : yX2_part.cls ≠ "java/lang/invoke/MethodHandle" ∧ yX2_part.cls ≠ "java/lang/invoke/VarHandle" ∧ (parseMethodDescriptor yX2_part.desc).map (fun d => d.parameters.length) = some 2 := ⟨by decide, by decide, by decide +kernel⟩
def f_X2_part (v0 : Int32) (v1 : Int64) : Option (Int64) :=
   if v0 = 0 then
   some (0 : Int64)
  else
   jbd (f_X2_product (Int32.toInt64 v0) v1) (fun r11 =>
    some r11)
set_option maxRecDepth 100000 in
set_option maxHeartbeats 4000000 in
theorem b_X2_part {E : jE}  {res : Int64} (K : jC E cX2_part 3 RX2 2) (HR : jRL E cX2_part 3 ([] : va_W) res) : ∀ (v0 : Int32) (v1 : Int64), f_X2_part v0 v1 = some res → J E 3 ([] : va_W) 0 [(0, .int v0), (1, .long v1)] [] := by
  intro v0 v1 h
  unfold f_X2_part at h
  refine j_iload_n (pc' := 1) K dX2_part_0 rfl 0 rfl rfl ?_
  refine j_if_ne (pc' := 4) (tgt := 8) K dX2_part_1 (by decide) rfl (fun hc => ?_) (fun hc => ?_)
  · have h := jif hc h
    refine j_iload_n (pc' := 9) K dX2_part_8 rfl 0 rfl rfl ?_
    refine j_i2l (pc' := 10) K dX2_part_9 rfl ?_
    refine j_lload_n (pc' := 11) K dX2_part_10 rfl 1 rfl rfl ?_
    obtain ⟨r11, hr11, h⟩ := jbd_some h
    refine j_ro (pc' := 14) K (fun H hP => jrun_S K dX2_part_11 (M_X2_product (jl E) (jg E) (Int32.toInt64 v0) v1 hr11) u_2_69 u_2_67 u_2_68 u_1_11 ⟨ok_X2_product, by decide, by decide⟩ rfl (Nat.le_of_ble_eq_true rfl) H) [] rfl rfl ?_
    obtain rfl := Option.some.inj h
    exact HR _ _ dX2_part_14
  · have h := jit hc h
    refine j_lconst (pc' := 5) (v := (0 : Int64)) K dX2_part_4 (by decide) rfl ?_
    refine j_goto (tgt := 14) K dX2_part_5 (by decide) ?_
    obtain rfl := Option.some.inj h
    exact HR _ _ dX2_part_14
set_option maxRecDepth 100000 in
set_option maxHeartbeats 4000000 in
theorem M_X2_part (l : Launch) (G : jG)  (v0 : Int32) (v1 : Int64) {r : Int64} (h : f_X2_part v0 v1 = some r) : MC l yX2_part cX2_part 3 (some .long) 2 G jNo False ([] : va_W) ([] : va_W) [.int v0, .long v1] (some (.long r)) := by
  refine mc_long (by decide +kernel) (Nat.le_of_ble_eq_true rfl) fun E hl hg hA hrw K HR => ?_
  subst hl
  subst hg
  exact b_X2_part K HR v0 v1 h
theorem ok_X2_limited : yX2_limited.cls ≠ "java/lang/invoke/MethodHandle" ∧ yX2_limited.cls ≠ "java/lang/invoke/VarHandle" ∧ (parseMethodDescriptor yX2_limited.desc).map (fun d => d.parameters.length) = some 1 := ⟨by decide, by decide, by decide +kernel⟩
def f_X2_limited (v0 : Int64) : Option (Int64) :=
   jbd (f_X11_beyond v0 (100000000000000000 : Int64)) (fun r4 =>
   if r4 = 0 then
    some v0
   else
    some (-9000000000000000000 : Int64))
set_option maxRecDepth 100000 in
set_option maxHeartbeats 4000000 in
theorem b_X2_limited {E : jE}  {res : Int64} (K : jC E cX2_limited 2 RX2 1) (HR : jRL E cX2_limited 2 ([] : va_W) res) : ∀ (v0 : Int64), f_X2_limited v0 = some res → J E 2 ([] : va_W) 0 [(0, .long v0)] [] := by
  intro v0 h
  unfold f_X2_limited at h
  refine j_lload_n (pc' := 1) K dX2_limited_0 rfl 0 rfl rfl ?_
  refine j_ldc2 (pc' := 4) K dX2_limited_1 u_2_74 rfl ?_
  obtain ⟨r4, hr4, h⟩ := jbd_some h
  refine j_ro (pc' := 7) K (fun H hP => jrun_SN K dX2_limited_4 (host := "CountTriangles") (M_X11_beyond (jl E) (jg E) v0 (100000000000000000 : Int64) hr4) u_2_80 (by decide) u_2_79 u_1_1 ⟨ok_X11_beyond, by decide, by decide⟩ rfl (Nat.le_of_ble_eq_true rfl) H) [] rfl rfl ?_
  refine j_if_eq (pc' := 10) (tgt := 16) K dX2_limited_7 (by decide) rfl (fun hc => ?_) (fun hc => ?_)
  · have h := jit hc h
    refine j_lload_n (pc' := 17) K dX2_limited_16 rfl 0 rfl rfl ?_
    obtain rfl := Option.some.inj h
    exact HR _ _ dX2_limited_17
  · have h := jif hc h
    refine j_ldc2 (pc' := 13) K dX2_limited_10 u_2_70 rfl ?_
    refine j_goto (tgt := 17) K dX2_limited_13 (by decide) ?_
    obtain rfl := Option.some.inj h
    exact HR _ _ dX2_limited_17
set_option maxRecDepth 100000 in
set_option maxHeartbeats 4000000 in
theorem M_X2_limited (l : Launch) (G : jG)  (v0 : Int64) {r : Int64} (h : f_X2_limited v0 = some r) : MC l yX2_limited cX2_limited 2 (some .long) 1 G jNo False ([] : va_W) ([] : va_W) [.long v0] (some (.long r)) := by
  refine mc_long (by decide +kernel) (Nat.le_of_ble_eq_true rfl) fun E hl hg hA hrw K HR => ?_
  subst hl
  subst hg
  exact b_X2_limited K HR v0 h
theorem ok_X2_items : yX2_items.cls ≠ "java/lang/invoke/MethodHandle" ∧ yX2_items.cls ≠ "java/lang/invoke/VarHandle" ∧ (parseMethodDescriptor yX2_items.desc).map (fun d => d.parameters.length) = some 0 := ⟨by decide, by decide, by decide +kernel⟩
def f_X2_items (s0 : LawS) : Option (Int32) :=
   some (Law_items s0)
set_option maxRecDepth 100000 in
set_option maxHeartbeats 4000000 in
theorem b_X2_items {E : jE} (p0_0 p0_1 p0_2 p0_3 p0_4 p0_5 : Nat) (s0 : LawS) {res : Int32} (K : jC E cX2_items 1 RX2 0) (HR : jRI E cX2_items 1 (wLaw (jg E) p0_0 p0_1 p0_2 p0_3 p0_4 p0_5 s0) res) : f_X2_items s0 = some res → J E 1 (wLaw (jg E) p0_0 p0_1 p0_2 p0_3 p0_4 p0_5 s0) 0 [(0, .ref p0_0)] [] := by
  intro  h
  unfold f_X2_items at h
  refine j_aload_n (pc' := 1) K dX2_items_0 rfl 0 rfl rfl ?_
  refine j_get (pc' := 4) K dX2_items_1 inX2 0 rfl rfl 6 (by decide) u_1_165 rfl rfl rfl ?_
  obtain rfl := Option.some.inj h
  exact HR _ _ dX2_items_4
set_option maxRecDepth 100000 in
set_option maxHeartbeats 4000000 in
theorem M_X2_items (l : Launch) (G : jG) (p0_0 p0_1 p0_2 p0_3 p0_4 p0_5 : Nat) (s0 : LawS) {r : Int32} (h : f_X2_items s0 = some r) : MC l yX2_items cX2_items 1 (some .int) 0 G jNo False (wLaw G p0_0 p0_1 p0_2 p0_3 p0_4 p0_5 s0) (wLaw G p0_0 p0_1 p0_2 p0_3 p0_4 p0_5 s0) [.ref p0_0] (some (.int r)) := by
  refine mc_int (by decide +kernel) (Nat.le_of_ble_eq_true rfl) fun E hl hg hA hrw K HR => ?_
  subst hl
  subst hg
  exact b_X2_items p0_0 p0_1 p0_2 p0_3 p0_4 p0_5 s0 K HR h
theorem ok_X2_numberAt : yX2_numberAt.cls ≠ "java/lang/invoke/MethodHandle" ∧ yX2_numberAt.cls ≠ "java/lang/invoke/VarHandle" ∧ (parseMethodDescriptor yX2_numberAt.desc).map (fun d => d.parameters.length) = some 2 := ⟨by decide, by decide, by decide +kernel⟩
def f_X2_numberAt (v1 : Int32) (v2 : Int32) (s0 : LawS) : Option (Int64) :=
   jbd (f_X11_isPlace v1 v2 (24 : Int32)) (fun r4 =>
   if r4 = 0 then
    some (0 : Int64)
   else
    jgd (((v1 * (v1 + (1 : Int32))) / (2 : Int32)) + v2) 325 (
     some ((Law_numbers s0) (Int32.toNatClampNeg (((v1 * (v1 + (1 : Int32))) / (2 : Int32)) + v2)))))
set_option maxRecDepth 100000 in
set_option maxHeartbeats 4000000 in
theorem b_X2_numberAt {E : jE} (p0_0 p0_1 p0_2 p0_3 p0_4 p0_5 : Nat) (s0 : LawS) {res : Int64} (K : jC E cX2_numberAt 3 RX2 2) (HR : jRL E cX2_numberAt 3 (wLaw (jg E) p0_0 p0_1 p0_2 p0_3 p0_4 p0_5 s0) res) : ∀ (v1 : Int32) (v2 : Int32), f_X2_numberAt v1 v2 s0 = some res → J E 3 (wLaw (jg E) p0_0 p0_1 p0_2 p0_3 p0_4 p0_5 s0) 0 [(0, .ref p0_0), (1, .int v1), (2, .int v2)] [] := by
  intro v1 v2 h
  unfold f_X2_numberAt at h
  refine j_iload_n (pc' := 1) K dX2_numberAt_0 rfl 1 rfl rfl ?_
  refine j_iload_n (pc' := 2) K dX2_numberAt_1 rfl 2 rfl rfl ?_
  refine j_bipush (pc' := 4) (v := (24 : Int32)) K dX2_numberAt_2 (by decide) rfl ?_
  obtain ⟨r4, hr4, h⟩ := jbd_some h
  refine j_ro (pc' := 7) K (fun H hP => jrun_SN K dX2_numberAt_4 (host := "CountTriangles") (M_X11_isPlace (jl E) (jg E) v1 v2 (24 : Int32) hr4) u_2_63 (by decide) u_2_62 u_1_1 ⟨ok_X11_isPlace, by decide, by decide⟩ rfl (Nat.le_of_ble_eq_true rfl) H) [] rfl rfl ?_
  refine j_if_eq (pc' := 10) (tgt := 27) K dX2_numberAt_7 (by decide) rfl (fun hc => ?_) (fun hc => ?_)
  · have h := jit hc h
    refine j_lconst (pc' := 28) (v := (0 : Int64)) K dX2_numberAt_27 (by decide) rfl ?_
    obtain rfl := Option.some.inj h
    exact HR _ _ dX2_numberAt_28
  · have h := jif hc h
    refine j_aload_n (pc' := 11) K dX2_numberAt_10 rfl 0 rfl rfl ?_
    refine j_get (pc' := 14) K dX2_numberAt_11 inX2 0 rfl rfl 2 (by decide) u_1_161 rfl rfl rfl ?_
    refine j_iload_n (pc' := 15) K dX2_numberAt_14 rfl 1 rfl rfl ?_
    refine j_iload_n (pc' := 16) K dX2_numberAt_15 rfl 1 rfl rfl ?_
    refine j_iconst (pc' := 17) (v := (1 : Int32)) K dX2_numberAt_16 (by decide) rfl ?_
    refine j_iadd (pc' := 18) K dX2_numberAt_17 rfl ?_
    refine j_imul (pc' := 19) K dX2_numberAt_18 rfl ?_
    refine j_iconst (pc' := 20) (v := (2 : Int32)) K dX2_numberAt_19 (by decide) rfl ?_
    refine j_idiv (pc' := 21) K dX2_numberAt_20 (by decide) rfl ?_
    refine j_iload_n (pc' := 22) K dX2_numberAt_21 rfl 2 rfl rfl ?_
    refine j_iadd (pc' := 23) K dX2_numberAt_22 rfl ?_
    obtain ⟨hg, h⟩ := jgd_some h
    refine j_lald (pc' := 24) K dX2_numberAt_23 3 rfl hg rfl ?_
    refine j_goto (tgt := 28) K dX2_numberAt_24 (by decide) ?_
    obtain rfl := Option.some.inj h
    exact HR _ _ dX2_numberAt_28
set_option maxRecDepth 100000 in
set_option maxHeartbeats 4000000 in
theorem M_X2_numberAt (l : Launch) (G : jG) (p0_0 p0_1 p0_2 p0_3 p0_4 p0_5 : Nat) (v1 : Int32) (v2 : Int32) (s0 : LawS) {r : Int64} (h : f_X2_numberAt v1 v2 s0 = some r) : MC l yX2_numberAt cX2_numberAt 3 (some .long) 2 G jNo False (wLaw G p0_0 p0_1 p0_2 p0_3 p0_4 p0_5 s0) (wLaw G p0_0 p0_1 p0_2 p0_3 p0_4 p0_5 s0) [.ref p0_0, .int v1, .int v2] (some (.long r)) := by
  refine mc_long (by decide +kernel) (Nat.le_of_ble_eq_true rfl) fun E hl hg hA hrw K HR => ?_
  subst hl
  subst hg
  exact b_X2_numberAt p0_0 p0_1 p0_2 p0_3 p0_4 p0_5 s0 K HR v1 v2 h
theorem ok_X2_rowKeepsTo : yX2_rowKeepsTo.cls ≠ "java/lang/invoke/MethodHandle" ∧ yX2_rowKeepsTo.cls ≠ "java/lang/invoke/VarHandle" ∧ (parseMethodDescriptor yX2_rowKeepsTo.desc).map (fun d => d.parameters.length) = some 2 := ⟨by decide, by decide, by decide +kernel⟩
def f_X2_rowKeepsTo_3 : Nat → Int32 → Int64 → Int32 → LawS → Option (Int32)
  | 0, _, _, _, _ => none
  | n + 1, v1, v2, v4, s0 =>
   if v1 < v4 then
   jzb (1 : Int32) (
    some (1 : Int32))
  else
   jbd (f_X2_numberAt v1 v4 s0) (fun r13 =>
    jbd (f_X11_beyond r13 v2) (fun r17 =>
     if r17 = 0 then
      (f_X2_rowKeepsTo_3 n) v1 v2 (v4 + (1 : Int32)) s0
     else
      jzb (0 : Int32) (
       some (0 : Int32))))
def f_X2_rowKeepsTo (v1 : Int32) (v2 : Int64) (s0 : LawS) : Option (Int32) :=
   f_X2_rowKeepsTo_3 jFU v1 v2 (0 : Int32) s0
set_option maxRecDepth 100000 in
set_option maxHeartbeats 4000000 in
theorem b_X2_rowKeepsTo_3 {E : jE} (p0_0 p0_1 p0_2 p0_3 p0_4 p0_5 : Nat) (s0 : LawS) {res : Int32} (K : jC E cX2_rowKeepsTo 5 RX2 3) (HR : jRZ E cX2_rowKeepsTo 5 (wLaw (jg E) p0_0 p0_1 p0_2 p0_3 p0_4 p0_5 s0) res) : ∀ (n : Nat) (v1 : Int32) (v2 : Int64) (v4 : Int32), f_X2_rowKeepsTo_3 n v1 v2 v4 s0 = some res → J E 5 (wLaw (jg E) p0_0 p0_1 p0_2 p0_3 p0_4 p0_5 s0) 3 [(0, .ref p0_0), (1, .int v1), (2, .long v2), (4, .int v4)] [] := by
  intro n
  induction n with
  | zero => intro _ _ _ h; cases h
  | succ n ih =>
    intro v1 v2 v4 h
    rw [f_X2_rowKeepsTo_3] at h
    refine j_iload (pc' := 5) K dX2_rowKeepsTo_3 3 rfl rfl ?_
    refine j_iload_n (pc' := 6) K dX2_rowKeepsTo_5 rfl 1 rfl rfl ?_
    refine j_icmp_gt (pc' := 9) (tgt := 31) K dX2_rowKeepsTo_6 (by decide) rfl (fun hc => ?_) (fun hc => ?_)
    · have h := jit hc h
      refine j_iconst (pc' := 32) (v := (1 : Int32)) K dX2_rowKeepsTo_31 (by decide) rfl ?_
      obtain ⟨hg, h⟩ := jzb_some h
      obtain rfl := Option.some.inj h
      exact HR _ _ hg dX2_rowKeepsTo_32
    · have h := jif hc h
      refine j_aload_n (pc' := 10) K dX2_rowKeepsTo_9 rfl 0 rfl rfl ?_
      refine j_iload_n (pc' := 11) K dX2_rowKeepsTo_10 rfl 1 rfl rfl ?_
      refine j_iload (pc' := 13) K dX2_rowKeepsTo_11 3 rfl rfl ?_
      obtain ⟨r13, hr13, h⟩ := jbd_some h
      refine j_ro (pc' := 16) K (fun H hP => jrun_V K dX2_rowKeepsTo_13 (M_X2_numberAt (jl E) (jg E) p0_0 p0_1 p0_2 p0_3 p0_4 p0_5 v1 v4 s0 hr13) u_2_60 u_2_57 u_2_58 u_2_59 u_1_11 ⟨ok_X2_numberAt, by decide, by decide⟩ rfl (Nat.le_of_ble_eq_true rfl) 0 rfl rfl H hP) [0, 1, 2, 3, 4, 5] rfl rfl ?_
      refine j_lload_n (pc' := 17) K dX2_rowKeepsTo_16 rfl 2 rfl rfl ?_
      obtain ⟨r17, hr17, h⟩ := jbd_some h
      refine j_ro (pc' := 20) K (fun H hP => jrun_SN K dX2_rowKeepsTo_17 (host := "CountTriangles") (M_X11_beyond (jl E) (jg E) r13 v2 hr17) u_2_80 (by decide) u_2_79 u_1_1 ⟨ok_X11_beyond, by decide, by decide⟩ rfl (Nat.le_of_ble_eq_true rfl) H) [] rfl rfl ?_
      refine j_if_eq (pc' := 23) (tgt := 25) K dX2_rowKeepsTo_20 (by decide) rfl (fun hc => ?_) (fun hc => ?_)
      · have h := jit hc h
        refine j_iinc (pc' := 28) (j := 3) (v := (v4 + (1 : Int32))) (lv' := [(4, .int (v4 + (1 : Int32))), (0, .ref p0_0), (1, .int v1), (2, .long v2)]) K dX2_rowKeepsTo_25 rfl rfl (by decide) rfl rfl ?_
        refine j_goto (tgt := 3) K dX2_rowKeepsTo_28 (by decide) ?_
        refine j_sub [1, 2, 3, 0] rfl ?_
        exact ih v1 v2 (v4 + (1 : Int32)) h
      · have h := jif hc h
        refine j_iconst (pc' := 24) (v := (0 : Int32)) K dX2_rowKeepsTo_23 (by decide) rfl ?_
        obtain ⟨hg, h⟩ := jzb_some h
        obtain rfl := Option.some.inj h
        exact HR _ _ hg dX2_rowKeepsTo_24
set_option maxRecDepth 100000 in
set_option maxHeartbeats 4000000 in
theorem b_X2_rowKeepsTo {E : jE} (p0_0 p0_1 p0_2 p0_3 p0_4 p0_5 : Nat) (s0 : LawS) {res : Int32} (K : jC E cX2_rowKeepsTo 5 RX2 3) (HR : jRZ E cX2_rowKeepsTo 5 (wLaw (jg E) p0_0 p0_1 p0_2 p0_3 p0_4 p0_5 s0) res) : ∀ (v1 : Int32) (v2 : Int64), f_X2_rowKeepsTo v1 v2 s0 = some res → J E 5 (wLaw (jg E) p0_0 p0_1 p0_2 p0_3 p0_4 p0_5 s0) 0 [(0, .ref p0_0), (1, .int v1), (2, .long v2)] [] := by
  intro v1 v2 h
  unfold f_X2_rowKeepsTo at h
  refine j_iconst (pc' := 1) (v := (0 : Int32)) K dX2_rowKeepsTo_0 (by decide) rfl ?_
  refine j_istore (pc' := 3) (lv' := [(4, .int (0 : Int32)), (0, .ref p0_0), (1, .int v1), (2, .long v2)]) K dX2_rowKeepsTo_1 (by decide) rfl rfl ?_
  refine j_sub [1, 2, 3, 0] rfl ?_
  exact b_X2_rowKeepsTo_3 p0_0 p0_1 p0_2 p0_3 p0_4 p0_5 s0 K HR jFU v1 v2 (0 : Int32) h
set_option maxRecDepth 100000 in
set_option maxHeartbeats 4000000 in
theorem M_X2_rowKeepsTo (l : Launch) (G : jG) (p0_0 p0_1 p0_2 p0_3 p0_4 p0_5 : Nat) (v1 : Int32) (v2 : Int64) (s0 : LawS) {r : Int32} (h : f_X2_rowKeepsTo v1 v2 s0 = some r) : MC l yX2_rowKeepsTo cX2_rowKeepsTo 5 (some .boolean) 3 G jNo False (wLaw G p0_0 p0_1 p0_2 p0_3 p0_4 p0_5 s0) (wLaw G p0_0 p0_1 p0_2 p0_3 p0_4 p0_5 s0) [.ref p0_0, .int v1, .long v2] (some (.int r)) := by
  refine mc_bool (by decide +kernel) (Nat.le_of_ble_eq_true rfl) fun E hl hg hA hrw K HR => ?_
  subst hl
  subst hg
  exact b_X2_rowKeepsTo p0_0 p0_1 p0_2 p0_3 p0_4 p0_5 s0 K HR v1 v2 h
theorem ok_X2_rowSum : yX2_rowSum.cls ≠ "java/lang/invoke/MethodHandle" ∧ yX2_rowSum.cls ≠ "java/lang/invoke/VarHandle" ∧ (parseMethodDescriptor yX2_rowSum.desc).map (fun d => d.parameters.length) = some 2 := ⟨by decide, by decide, by decide +kernel⟩
def f_X2_rowSum_57 (k20 : Int32 → Int32 → Int64 → Int32 → LawS → Option (Int64)) (v1 : Int32) (v2 : Int32) (v5 : Int32) (t0 : Int64) (t1 : Int64) (s0 : LawS) : Option (Int64) :=
   k20 v1 v2 (t0 + t1) (v5 + (1 : Int32)) s0
def f_X2_rowSum_50 (k20 : Int32 → Int32 → Int64 → Int32 → LawS → Option (Int64)) (v1 : Int32) (v2 : Int32) (v5 : Int32) (t0 : Int64) (s0 : LawS) : Option (Int64) :=
   jbd (f_X2_numberAt v1 v5 s0) (fun r54 =>
   f_X2_rowSum_57 k20 v1 v2 v5 t0 r54 s0)
def f_X2_rowSum_20 : Nat → Int32 → Int32 → Int64 → Int32 → LawS → Option (Int64)
  | 0, _, _, _, _, _ => none
  | n + 1, v1, v2, v3, v5, s0 =>
   if v1 < v5 then
   some v3
  else
   if v2 = 0 then
    f_X2_rowSum_50 (f_X2_rowSum_20 n) v1 v2 v5 v3 s0
   else
    if (v5 - v5 / (2 : Int32) * (2 : Int32)) = (1 : Int32) then
     jbd (f_X2_numberAt v1 v5 s0) (fun r43 =>
      f_X2_rowSum_57 (f_X2_rowSum_20 n) v1 v2 v5 v3 (-r43) s0)
    else
     f_X2_rowSum_50 (f_X2_rowSum_20 n) v1 v2 v5 v3 s0
def f_X2_rowSum (v1 : Int32) (v2 : Int32) (s0 : LawS) : Option (Int64) :=
   jbd (f_X2_rowKeepsTo v1 (100000000000000000 : Int64) s0) (fun r5 =>
   if r5 = 0 then
    some (-9000000000000000000 : Int64)
   else
    f_X2_rowSum_20 jFU v1 v2 (0 : Int64) (0 : Int32) s0)
set_option maxRecDepth 100000 in
set_option maxHeartbeats 4000000 in
theorem b_X2_rowSum_57 {E : jE} (p0_0 p0_1 p0_2 p0_3 p0_4 p0_5 : Nat) (s0 : LawS) {res : Int64} (K : jC E cX2_rowSum 6 RX2 4) (HR : jRL E cX2_rowSum 6 (wLaw (jg E) p0_0 p0_1 p0_2 p0_3 p0_4 p0_5 s0) res) (k20 : Int32 → Int32 → Int64 → Int32 → LawS → Option (Int64)) (hk20 : ∀ (v1 : Int32) (v2 : Int32) (v3 : Int64) (v5 : Int32), k20 v1 v2 v3 v5 s0 = some res → J E 6 (wLaw (jg E) p0_0 p0_1 p0_2 p0_3 p0_4 p0_5 s0) 20 [(0, .ref p0_0), (1, .int v1), (2, .int v2), (3, .long v3), (5, .int v5)] []) : ∀ (v1 : Int32) (v2 : Int32) (v5 : Int32) (t0 : Int64) (t1 : Int64), f_X2_rowSum_57 k20 v1 v2 v5 t0 t1 s0 = some res → J E 6 (wLaw (jg E) p0_0 p0_1 p0_2 p0_3 p0_4 p0_5 s0) 57 [(0, .ref p0_0), (1, .int v1), (2, .int v2), (5, .int v5)] [.long t1, .long t0] := by
  intro v1 v2 v5 t0 t1 h
  unfold f_X2_rowSum_57 at h
  refine j_ladd (pc' := 58) K dX2_rowSum_57 rfl ?_
  refine j_lstore_n (pc' := 59) (lv' := [(3, .long (t0 + t1)), (0, .ref p0_0), (1, .int v1), (2, .int v2), (5, .int v5)]) K dX2_rowSum_58 rfl (by decide) rfl rfl ?_
  refine j_iinc (pc' := 62) (j := 4) (v := (v5 + (1 : Int32))) (lv' := [(5, .int (v5 + (1 : Int32))), (3, .long (t0 + t1)), (0, .ref p0_0), (1, .int v1), (2, .int v2)]) K dX2_rowSum_59 rfl rfl (by decide) rfl rfl ?_
  refine j_goto (tgt := 20) K dX2_rowSum_62 (by decide) ?_
  refine j_sub [2, 3, 4, 1, 0] rfl ?_
  exact hk20 v1 v2 (t0 + t1) (v5 + (1 : Int32)) h
set_option maxRecDepth 100000 in
set_option maxHeartbeats 4000000 in
theorem b_X2_rowSum_50 {E : jE} (p0_0 p0_1 p0_2 p0_3 p0_4 p0_5 : Nat) (s0 : LawS) {res : Int64} (K : jC E cX2_rowSum 6 RX2 4) (HR : jRL E cX2_rowSum 6 (wLaw (jg E) p0_0 p0_1 p0_2 p0_3 p0_4 p0_5 s0) res) (k20 : Int32 → Int32 → Int64 → Int32 → LawS → Option (Int64)) (hk20 : ∀ (v1 : Int32) (v2 : Int32) (v3 : Int64) (v5 : Int32), k20 v1 v2 v3 v5 s0 = some res → J E 6 (wLaw (jg E) p0_0 p0_1 p0_2 p0_3 p0_4 p0_5 s0) 20 [(0, .ref p0_0), (1, .int v1), (2, .int v2), (3, .long v3), (5, .int v5)] []) : ∀ (v1 : Int32) (v2 : Int32) (v5 : Int32) (t0 : Int64), f_X2_rowSum_50 k20 v1 v2 v5 t0 s0 = some res → J E 6 (wLaw (jg E) p0_0 p0_1 p0_2 p0_3 p0_4 p0_5 s0) 50 [(0, .ref p0_0), (1, .int v1), (2, .int v2), (5, .int v5)] [.long t0] := by
  intro v1 v2 v5 t0 h
  unfold f_X2_rowSum_50 at h
  refine j_aload_n (pc' := 51) K dX2_rowSum_50 rfl 0 rfl rfl ?_
  refine j_iload_n (pc' := 52) K dX2_rowSum_51 rfl 1 rfl rfl ?_
  refine j_iload (pc' := 54) K dX2_rowSum_52 3 rfl rfl ?_
  obtain ⟨r54, hr54, h⟩ := jbd_some h
  refine j_ro (pc' := 57) K (fun H hP => jrun_V K dX2_rowSum_54 (M_X2_numberAt (jl E) (jg E) p0_0 p0_1 p0_2 p0_3 p0_4 p0_5 v1 v5 s0 hr54) u_2_60 u_2_57 u_2_58 u_2_59 u_1_11 ⟨ok_X2_numberAt, by decide, by decide⟩ rfl (Nat.le_of_ble_eq_true rfl) 0 rfl rfl H hP) [0, 1, 2, 3, 4, 5] rfl rfl ?_
  refine j_sub [0, 1, 2, 3] rfl ?_
  exact b_X2_rowSum_57 p0_0 p0_1 p0_2 p0_3 p0_4 p0_5 s0 K HR k20 hk20 v1 v2 v5 t0 r54 h
set_option maxRecDepth 100000 in
set_option maxHeartbeats 4000000 in
theorem b_X2_rowSum_20 {E : jE} (p0_0 p0_1 p0_2 p0_3 p0_4 p0_5 : Nat) (s0 : LawS) {res : Int64} (K : jC E cX2_rowSum 6 RX2 4) (HR : jRL E cX2_rowSum 6 (wLaw (jg E) p0_0 p0_1 p0_2 p0_3 p0_4 p0_5 s0) res) : ∀ (n : Nat) (v1 : Int32) (v2 : Int32) (v3 : Int64) (v5 : Int32), f_X2_rowSum_20 n v1 v2 v3 v5 s0 = some res → J E 6 (wLaw (jg E) p0_0 p0_1 p0_2 p0_3 p0_4 p0_5 s0) 20 [(0, .ref p0_0), (1, .int v1), (2, .int v2), (3, .long v3), (5, .int v5)] [] := by
  intro n
  induction n with
  | zero => intro _ _ _ _ h; cases h
  | succ n ih =>
    intro v1 v2 v3 v5 h
    rw [f_X2_rowSum_20] at h
    refine j_iload (pc' := 22) K dX2_rowSum_20 4 rfl rfl ?_
    refine j_iload_n (pc' := 23) K dX2_rowSum_22 rfl 1 rfl rfl ?_
    refine j_icmp_gt (pc' := 26) (tgt := 65) K dX2_rowSum_23 (by decide) rfl (fun hc => ?_) (fun hc => ?_)
    · have h := jit hc h
      refine j_lload_n (pc' := 66) K dX2_rowSum_65 rfl 3 rfl rfl ?_
      obtain rfl := Option.some.inj h
      exact HR _ _ dX2_rowSum_66
    · have h := jif hc h
      refine j_lload_n (pc' := 27) K dX2_rowSum_26 rfl 3 rfl rfl ?_
      refine j_iload_n (pc' := 28) K dX2_rowSum_27 rfl 2 rfl rfl ?_
      refine j_if_eq (pc' := 31) (tgt := 50) K dX2_rowSum_28 (by decide) rfl (fun hc => ?_) (fun hc => ?_)
      · have h := jit hc h
        refine j_sub [0, 1, 2, 4] rfl ?_
        exact b_X2_rowSum_50 p0_0 p0_1 p0_2 p0_3 p0_4 p0_5 s0 K HR (f_X2_rowSum_20 n) (ih) v1 v2 v5 v3 h
      · have h := jif hc h
        refine j_iload (pc' := 33) K dX2_rowSum_31 4 rfl rfl ?_
        refine j_iconst (pc' := 34) (v := (2 : Int32)) K dX2_rowSum_33 (by decide) rfl ?_
        refine j_irem (pc' := 35) K dX2_rowSum_34 (by decide) rfl ?_
        refine j_iconst (pc' := 36) (v := (1 : Int32)) K dX2_rowSum_35 (by decide) rfl ?_
        refine j_icmp_ne (pc' := 39) (tgt := 50) K dX2_rowSum_36 (by decide) rfl (fun hc => ?_) (fun hc => ?_)
        · have h := jif hc h
          refine j_sub [0, 1, 2, 4] rfl ?_
          exact b_X2_rowSum_50 p0_0 p0_1 p0_2 p0_3 p0_4 p0_5 s0 K HR (f_X2_rowSum_20 n) (ih) v1 v2 v5 v3 h
        · have h := jit hc h
          refine j_aload_n (pc' := 40) K dX2_rowSum_39 rfl 0 rfl rfl ?_
          refine j_iload_n (pc' := 41) K dX2_rowSum_40 rfl 1 rfl rfl ?_
          refine j_iload (pc' := 43) K dX2_rowSum_41 4 rfl rfl ?_
          obtain ⟨r43, hr43, h⟩ := jbd_some h
          refine j_ro (pc' := 46) K (fun H hP => jrun_V K dX2_rowSum_43 (M_X2_numberAt (jl E) (jg E) p0_0 p0_1 p0_2 p0_3 p0_4 p0_5 v1 v5 s0 hr43) u_2_60 u_2_57 u_2_58 u_2_59 u_1_11 ⟨ok_X2_numberAt, by decide, by decide⟩ rfl (Nat.le_of_ble_eq_true rfl) 0 rfl rfl H hP) [0, 1, 2, 3, 4, 5] rfl rfl ?_
          refine j_lneg (pc' := 47) K dX2_rowSum_46 rfl ?_
          refine j_goto (tgt := 57) K dX2_rowSum_47 (by decide) ?_
          refine j_sub [0, 1, 2, 4] rfl ?_
          exact b_X2_rowSum_57 p0_0 p0_1 p0_2 p0_3 p0_4 p0_5 s0 K HR (f_X2_rowSum_20 n) (ih) v1 v2 v5 v3 (-r43) h
set_option maxRecDepth 100000 in
set_option maxHeartbeats 4000000 in
theorem b_X2_rowSum {E : jE} (p0_0 p0_1 p0_2 p0_3 p0_4 p0_5 : Nat) (s0 : LawS) {res : Int64} (K : jC E cX2_rowSum 6 RX2 4) (HR : jRL E cX2_rowSum 6 (wLaw (jg E) p0_0 p0_1 p0_2 p0_3 p0_4 p0_5 s0) res) : ∀ (v1 : Int32) (v2 : Int32), f_X2_rowSum v1 v2 s0 = some res → J E 6 (wLaw (jg E) p0_0 p0_1 p0_2 p0_3 p0_4 p0_5 s0) 0 [(0, .ref p0_0), (1, .int v1), (2, .int v2)] [] := by
  intro v1 v2 h
  unfold f_X2_rowSum at h
  refine j_aload_n (pc' := 1) K dX2_rowSum_0 rfl 0 rfl rfl ?_
  refine j_iload_n (pc' := 2) K dX2_rowSum_1 rfl 1 rfl rfl ?_
  refine j_ldc2 (pc' := 5) K dX2_rowSum_2 u_2_74 rfl ?_
  obtain ⟨r5, hr5, h⟩ := jbd_some h
  refine j_ro (pc' := 8) K (fun H hP => jrun_V K dX2_rowSum_5 (M_X2_rowKeepsTo (jl E) (jg E) p0_0 p0_1 p0_2 p0_3 p0_4 p0_5 v1 (100000000000000000 : Int64) s0 hr5) u_2_108 u_2_105 u_2_106 u_2_107 u_1_11 ⟨ok_X2_rowKeepsTo, by decide, by decide⟩ rfl (Nat.le_of_ble_eq_true rfl) 0 rfl rfl H hP) [0, 1, 2, 3, 4, 5] rfl rfl ?_
  refine j_if_ne (pc' := 11) (tgt := 15) K dX2_rowSum_8 (by decide) rfl (fun hc => ?_) (fun hc => ?_)
  · have h := jif hc h
    refine j_lconst (pc' := 16) (v := (0 : Int64)) K dX2_rowSum_15 (by decide) rfl ?_
    refine j_lstore_n (pc' := 17) (lv' := [(3, .long (0 : Int64)), (0, .ref p0_0), (1, .int v1), (2, .int v2)]) K dX2_rowSum_16 rfl (by decide) rfl rfl ?_
    refine j_iconst (pc' := 18) (v := (0 : Int32)) K dX2_rowSum_17 (by decide) rfl ?_
    refine j_istore (pc' := 20) (lv' := [(5, .int (0 : Int32)), (3, .long (0 : Int64)), (0, .ref p0_0), (1, .int v1), (2, .int v2)]) K dX2_rowSum_18 (by decide) rfl rfl ?_
    refine j_sub [2, 3, 4, 1, 0] rfl ?_
    exact b_X2_rowSum_20 p0_0 p0_1 p0_2 p0_3 p0_4 p0_5 s0 K HR jFU v1 v2 (0 : Int64) (0 : Int32) h
  · have h := jit hc h
    refine j_ldc2 (pc' := 14) K dX2_rowSum_11 u_2_70 rfl ?_
    obtain rfl := Option.some.inj h
    exact HR _ _ dX2_rowSum_14
set_option maxRecDepth 100000 in
set_option maxHeartbeats 4000000 in
theorem M_X2_rowSum (l : Launch) (G : jG) (p0_0 p0_1 p0_2 p0_3 p0_4 p0_5 : Nat) (v1 : Int32) (v2 : Int32) (s0 : LawS) {r : Int64} (h : f_X2_rowSum v1 v2 s0 = some r) : MC l yX2_rowSum cX2_rowSum 6 (some .long) 4 G jNo False (wLaw G p0_0 p0_1 p0_2 p0_3 p0_4 p0_5 s0) (wLaw G p0_0 p0_1 p0_2 p0_3 p0_4 p0_5 s0) [.ref p0_0, .int v1, .int v2] (some (.long r)) := by
  refine mc_long (by decide +kernel) (Nat.le_of_ble_eq_true rfl) fun E hl hg hA hrw K HR => ?_
  subst hl
  subst hg
  exact b_X2_rowSum p0_0 p0_1 p0_2 p0_3 p0_4 p0_5 s0 K HR v1 v2 h
theorem ok_X2_slantSum : yX2_slantSum.cls ≠ "java/lang/invoke/MethodHandle" ∧ yX2_slantSum.cls ≠ "java/lang/invoke/VarHandle" ∧ (parseMethodDescriptor yX2_slantSum.desc).map (fun d => d.parameters.length) = some 1 := ⟨by decide, by decide, by decide +kernel⟩
def f_X2_slantSum_5 : Nat → Int32 → Int64 → Int32 → LawS → Option (Int64)
  | 0, _, _, _, _ => none
  | n + 1, v1, v2, v4, s0 =>
   if (v1 - v4) < v4 then
   some v2
  else
   jbd (f_X2_numberAt (v1 - v4) v4 s0) (fun r21 =>
    if (lg_cmp r21 (-9000000000000000000 : Int64)) = 0 then
     some (-9000000000000000000 : Int64)
    else
     (f_X2_slantSum_5 n) v1 (v2 + r21) (v4 + (1 : Int32)) s0)
def f_X2_slantSum (v1 : Int32) (s0 : LawS) : Option (Int64) :=
   f_X2_slantSum_5 jFU v1 (0 : Int64) (0 : Int32) s0
set_option maxRecDepth 100000 in
set_option maxHeartbeats 4000000 in
theorem b_X2_slantSum_5 {E : jE} (p0_0 p0_1 p0_2 p0_3 p0_4 p0_5 : Nat) (s0 : LawS) {res : Int64} (K : jC E cX2_slantSum 7 RX2 3) (HR : jRL E cX2_slantSum 7 (wLaw (jg E) p0_0 p0_1 p0_2 p0_3 p0_4 p0_5 s0) res) : ∀ (n : Nat) (v1 : Int32) (v2 : Int64) (v4 : Int32), f_X2_slantSum_5 n v1 v2 v4 s0 = some res → J E 7 (wLaw (jg E) p0_0 p0_1 p0_2 p0_3 p0_4 p0_5 s0) 5 [(0, .ref p0_0), (1, .int v1), (2, .long v2), (4, .int v4)] [] := by
  intro n
  induction n with
  | zero => intro _ _ _ h; cases h
  | succ n ih =>
    intro v1 v2 v4 h
    rw [f_X2_slantSum_5] at h
    refine j_iload (pc' := 7) K dX2_slantSum_5 3 rfl rfl ?_
    refine j_iload_n (pc' := 8) K dX2_slantSum_7 rfl 1 rfl rfl ?_
    refine j_iload (pc' := 10) K dX2_slantSum_8 3 rfl rfl ?_
    refine j_isub (pc' := 11) K dX2_slantSum_10 rfl ?_
    refine j_icmp_gt (pc' := 14) (tgt := 50) K dX2_slantSum_11 (by decide) rfl (fun hc => ?_) (fun hc => ?_)
    · have h := jit hc h
      refine j_lload_n (pc' := 51) K dX2_slantSum_50 rfl 2 rfl rfl ?_
      obtain rfl := Option.some.inj h
      exact HR _ _ dX2_slantSum_51
    · have h := jif hc h
      refine j_aload_n (pc' := 15) K dX2_slantSum_14 rfl 0 rfl rfl ?_
      refine j_iload_n (pc' := 16) K dX2_slantSum_15 rfl 1 rfl rfl ?_
      refine j_iload (pc' := 18) K dX2_slantSum_16 3 rfl rfl ?_
      refine j_isub (pc' := 19) K dX2_slantSum_18 rfl ?_
      refine j_iload (pc' := 21) K dX2_slantSum_19 3 rfl rfl ?_
      obtain ⟨r21, hr21, h⟩ := jbd_some h
      refine j_ro (pc' := 24) K (fun H hP => jrun_V K dX2_slantSum_21 (M_X2_numberAt (jl E) (jg E) p0_0 p0_1 p0_2 p0_3 p0_4 p0_5 (v1 - v4) v4 s0 hr21) u_2_60 u_2_57 u_2_58 u_2_59 u_1_11 ⟨ok_X2_numberAt, by decide, by decide⟩ rfl (Nat.le_of_ble_eq_true rfl) 0 rfl rfl H hP) [0, 1, 2, 3, 4, 5] rfl rfl ?_
      refine j_lstore (pc' := 26) (lv' := [(5, .long r21), (0, .ref p0_0), (1, .int v1), (2, .long v2), (4, .int v4)]) K dX2_slantSum_24 (by decide) rfl rfl ?_
      refine j_lload (pc' := 28) K dX2_slantSum_26 0 rfl rfl ?_
      refine j_ldc2 (pc' := 31) K dX2_slantSum_28 u_2_70 rfl ?_
      refine j_lcmp (pc' := 32) K dX2_slantSum_31 rfl ?_
      refine j_if_ne (pc' := 35) (tgt := 39) K dX2_slantSum_32 (by decide) rfl (fun hc => ?_) (fun hc => ?_)
      · have h := jif hc h
        refine j_lload_n (pc' := 40) K dX2_slantSum_39 rfl 3 rfl rfl ?_
        refine j_lload (pc' := 42) K dX2_slantSum_40 0 rfl rfl ?_
        refine j_ladd (pc' := 43) K dX2_slantSum_42 rfl ?_
        refine j_lstore_n (pc' := 44) (lv' := [(2, .long (v2 + r21)), (5, .long r21), (0, .ref p0_0), (1, .int v1), (4, .int v4)]) K dX2_slantSum_43 rfl (by decide) rfl rfl ?_
        refine j_iinc (pc' := 47) (j := 4) (v := (v4 + (1 : Int32))) (lv' := [(4, .int (v4 + (1 : Int32))), (2, .long (v2 + r21)), (5, .long r21), (0, .ref p0_0), (1, .int v1)]) K dX2_slantSum_44 rfl rfl (by decide) rfl rfl ?_
        refine j_goto (tgt := 5) K dX2_slantSum_47 (by decide) ?_
        refine j_sub [3, 4, 1, 0] rfl ?_
        exact ih v1 (v2 + r21) (v4 + (1 : Int32)) h
      · have h := jit hc h
        refine j_ldc2 (pc' := 38) K dX2_slantSum_35 u_2_70 rfl ?_
        obtain rfl := Option.some.inj h
        exact HR _ _ dX2_slantSum_38
set_option maxRecDepth 100000 in
set_option maxHeartbeats 4000000 in
theorem b_X2_slantSum {E : jE} (p0_0 p0_1 p0_2 p0_3 p0_4 p0_5 : Nat) (s0 : LawS) {res : Int64} (K : jC E cX2_slantSum 7 RX2 3) (HR : jRL E cX2_slantSum 7 (wLaw (jg E) p0_0 p0_1 p0_2 p0_3 p0_4 p0_5 s0) res) : ∀ (v1 : Int32), f_X2_slantSum v1 s0 = some res → J E 7 (wLaw (jg E) p0_0 p0_1 p0_2 p0_3 p0_4 p0_5 s0) 0 [(0, .ref p0_0), (1, .int v1)] [] := by
  intro v1 h
  unfold f_X2_slantSum at h
  refine j_lconst (pc' := 1) (v := (0 : Int64)) K dX2_slantSum_0 (by decide) rfl ?_
  refine j_lstore_n (pc' := 2) (lv' := [(2, .long (0 : Int64)), (0, .ref p0_0), (1, .int v1)]) K dX2_slantSum_1 rfl (by decide) rfl rfl ?_
  refine j_iconst (pc' := 3) (v := (0 : Int32)) K dX2_slantSum_2 (by decide) rfl ?_
  refine j_istore (pc' := 5) (lv' := [(4, .int (0 : Int32)), (2, .long (0 : Int64)), (0, .ref p0_0), (1, .int v1)]) K dX2_slantSum_3 (by decide) rfl rfl ?_
  refine j_sub [2, 3, 1, 0] rfl ?_
  exact b_X2_slantSum_5 p0_0 p0_1 p0_2 p0_3 p0_4 p0_5 s0 K HR jFU v1 (0 : Int64) (0 : Int32) h
set_option maxRecDepth 100000 in
set_option maxHeartbeats 4000000 in
theorem M_X2_slantSum (l : Launch) (G : jG) (p0_0 p0_1 p0_2 p0_3 p0_4 p0_5 : Nat) (v1 : Int32) (s0 : LawS) {r : Int64} (h : f_X2_slantSum v1 s0 = some r) : MC l yX2_slantSum cX2_slantSum 7 (some .long) 3 G jNo False (wLaw G p0_0 p0_1 p0_2 p0_3 p0_4 p0_5 s0) (wLaw G p0_0 p0_1 p0_2 p0_3 p0_4 p0_5 s0) [.ref p0_0, .int v1] (some (.long r)) := by
  refine mc_long (by decide +kernel) (Nat.le_of_ble_eq_true rfl) fun E hl hg hA hrw K HR => ?_
  subst hl
  subst hg
  exact b_X2_slantSum p0_0 p0_1 p0_2 p0_3 p0_4 p0_5 s0 K HR v1 h
theorem ok_X2_squareSum : yX2_squareSum.cls ≠ "java/lang/invoke/MethodHandle" ∧ yX2_squareSum.cls ≠ "java/lang/invoke/VarHandle" ∧ (parseMethodDescriptor yX2_squareSum.desc).map (fun d => d.parameters.length) = some 1 := ⟨by decide, by decide, by decide +kernel⟩
def f_X2_squareSum_20 : Nat → Int32 → Int64 → Int32 → LawS → Option (Int64)
  | 0, _, _, _, _ => none
  | n + 1, v1, v2, v4, s0 =>
   if v1 < v4 then
   some v2
  else
   jbd (f_X2_numberAt v1 v4 s0) (fun r31 =>
    jbd (f_X2_numberAt v1 v4 s0) (fun r38 =>
     (f_X2_squareSum_20 n) v1 (v2 + (r31 * r38)) (v4 + (1 : Int32)) s0))
def f_X2_squareSum (v1 : Int32) (s0 : LawS) : Option (Int64) :=
   jbd (f_X2_rowKeepsTo v1 (100000000 : Int64) s0) (fun r5 =>
   if r5 = 0 then
    some (-9000000000000000000 : Int64)
   else
    f_X2_squareSum_20 jFU v1 (0 : Int64) (0 : Int32) s0)
set_option maxRecDepth 100000 in
set_option maxHeartbeats 4000000 in
theorem b_X2_squareSum_20 {E : jE} (p0_0 p0_1 p0_2 p0_3 p0_4 p0_5 : Nat) (s0 : LawS) {res : Int64} (K : jC E cX2_squareSum 5 RX2 4) (HR : jRL E cX2_squareSum 5 (wLaw (jg E) p0_0 p0_1 p0_2 p0_3 p0_4 p0_5 s0) res) : ∀ (n : Nat) (v1 : Int32) (v2 : Int64) (v4 : Int32), f_X2_squareSum_20 n v1 v2 v4 s0 = some res → J E 5 (wLaw (jg E) p0_0 p0_1 p0_2 p0_3 p0_4 p0_5 s0) 20 [(0, .ref p0_0), (1, .int v1), (2, .long v2), (4, .int v4)] [] := by
  intro n
  induction n with
  | zero => intro _ _ _ h; cases h
  | succ n ih =>
    intro v1 v2 v4 h
    rw [f_X2_squareSum_20] at h
    refine j_iload (pc' := 22) K dX2_squareSum_20 3 rfl rfl ?_
    refine j_iload_n (pc' := 23) K dX2_squareSum_22 rfl 1 rfl rfl ?_
    refine j_icmp_gt (pc' := 26) (tgt := 50) K dX2_squareSum_23 (by decide) rfl (fun hc => ?_) (fun hc => ?_)
    · have h := jit hc h
      refine j_lload_n (pc' := 51) K dX2_squareSum_50 rfl 2 rfl rfl ?_
      obtain rfl := Option.some.inj h
      exact HR _ _ dX2_squareSum_51
    · have h := jif hc h
      refine j_lload_n (pc' := 27) K dX2_squareSum_26 rfl 2 rfl rfl ?_
      refine j_aload_n (pc' := 28) K dX2_squareSum_27 rfl 0 rfl rfl ?_
      refine j_iload_n (pc' := 29) K dX2_squareSum_28 rfl 1 rfl rfl ?_
      refine j_iload (pc' := 31) K dX2_squareSum_29 3 rfl rfl ?_
      obtain ⟨r31, hr31, h⟩ := jbd_some h
      refine j_ro (pc' := 34) K (fun H hP => jrun_V K dX2_squareSum_31 (M_X2_numberAt (jl E) (jg E) p0_0 p0_1 p0_2 p0_3 p0_4 p0_5 v1 v4 s0 hr31) u_2_60 u_2_57 u_2_58 u_2_59 u_1_11 ⟨ok_X2_numberAt, by decide, by decide⟩ rfl (Nat.le_of_ble_eq_true rfl) 0 rfl rfl H hP) [0, 1, 2, 3, 4, 5] rfl rfl ?_
      refine j_aload_n (pc' := 35) K dX2_squareSum_34 rfl 0 rfl rfl ?_
      refine j_iload_n (pc' := 36) K dX2_squareSum_35 rfl 1 rfl rfl ?_
      refine j_iload (pc' := 38) K dX2_squareSum_36 3 rfl rfl ?_
      obtain ⟨r38, hr38, h⟩ := jbd_some h
      refine j_ro (pc' := 41) K (fun H hP => jrun_V K dX2_squareSum_38 (M_X2_numberAt (jl E) (jg E) p0_0 p0_1 p0_2 p0_3 p0_4 p0_5 v1 v4 s0 hr38) u_2_60 u_2_57 u_2_58 u_2_59 u_1_11 ⟨ok_X2_numberAt, by decide, by decide⟩ rfl (Nat.le_of_ble_eq_true rfl) 0 rfl rfl H hP) [0, 1, 2, 3, 4, 5] rfl rfl ?_
      refine j_lmul (pc' := 42) K dX2_squareSum_41 rfl ?_
      refine j_ladd (pc' := 43) K dX2_squareSum_42 rfl ?_
      refine j_lstore_n (pc' := 44) (lv' := [(2, .long (v2 + (r31 * r38))), (0, .ref p0_0), (1, .int v1), (4, .int v4)]) K dX2_squareSum_43 rfl (by decide) rfl rfl ?_
      refine j_iinc (pc' := 47) (j := 3) (v := (v4 + (1 : Int32))) (lv' := [(4, .int (v4 + (1 : Int32))), (2, .long (v2 + (r31 * r38))), (0, .ref p0_0), (1, .int v1)]) K dX2_squareSum_44 rfl rfl (by decide) rfl rfl ?_
      refine j_goto (tgt := 20) K dX2_squareSum_47 (by decide) ?_
      refine j_sub [2, 3, 1, 0] rfl ?_
      exact ih v1 (v2 + (r31 * r38)) (v4 + (1 : Int32)) h
set_option maxRecDepth 100000 in
set_option maxHeartbeats 4000000 in
theorem b_X2_squareSum {E : jE} (p0_0 p0_1 p0_2 p0_3 p0_4 p0_5 : Nat) (s0 : LawS) {res : Int64} (K : jC E cX2_squareSum 5 RX2 4) (HR : jRL E cX2_squareSum 5 (wLaw (jg E) p0_0 p0_1 p0_2 p0_3 p0_4 p0_5 s0) res) : ∀ (v1 : Int32), f_X2_squareSum v1 s0 = some res → J E 5 (wLaw (jg E) p0_0 p0_1 p0_2 p0_3 p0_4 p0_5 s0) 0 [(0, .ref p0_0), (1, .int v1)] [] := by
  intro v1 h
  unfold f_X2_squareSum at h
  refine j_aload_n (pc' := 1) K dX2_squareSum_0 rfl 0 rfl rfl ?_
  refine j_iload_n (pc' := 2) K dX2_squareSum_1 rfl 1 rfl rfl ?_
  refine j_ldc2 (pc' := 5) K dX2_squareSum_2 u_2_117 rfl ?_
  obtain ⟨r5, hr5, h⟩ := jbd_some h
  refine j_ro (pc' := 8) K (fun H hP => jrun_V K dX2_squareSum_5 (M_X2_rowKeepsTo (jl E) (jg E) p0_0 p0_1 p0_2 p0_3 p0_4 p0_5 v1 (100000000 : Int64) s0 hr5) u_2_108 u_2_105 u_2_106 u_2_107 u_1_11 ⟨ok_X2_rowKeepsTo, by decide, by decide⟩ rfl (Nat.le_of_ble_eq_true rfl) 0 rfl rfl H hP) [0, 1, 2, 3, 4, 5] rfl rfl ?_
  refine j_if_ne (pc' := 11) (tgt := 15) K dX2_squareSum_8 (by decide) rfl (fun hc => ?_) (fun hc => ?_)
  · have h := jif hc h
    refine j_lconst (pc' := 16) (v := (0 : Int64)) K dX2_squareSum_15 (by decide) rfl ?_
    refine j_lstore_n (pc' := 17) (lv' := [(2, .long (0 : Int64)), (0, .ref p0_0), (1, .int v1)]) K dX2_squareSum_16 rfl (by decide) rfl rfl ?_
    refine j_iconst (pc' := 18) (v := (0 : Int32)) K dX2_squareSum_17 (by decide) rfl ?_
    refine j_istore (pc' := 20) (lv' := [(4, .int (0 : Int32)), (2, .long (0 : Int64)), (0, .ref p0_0), (1, .int v1)]) K dX2_squareSum_18 (by decide) rfl rfl ?_
    refine j_sub [2, 3, 1, 0] rfl ?_
    exact b_X2_squareSum_20 p0_0 p0_1 p0_2 p0_3 p0_4 p0_5 s0 K HR jFU v1 (0 : Int64) (0 : Int32) h
  · have h := jit hc h
    refine j_ldc2 (pc' := 14) K dX2_squareSum_11 u_2_70 rfl ?_
    obtain rfl := Option.some.inj h
    exact HR _ _ dX2_squareSum_14
set_option maxRecDepth 100000 in
set_option maxHeartbeats 4000000 in
theorem M_X2_squareSum (l : Launch) (G : jG) (p0_0 p0_1 p0_2 p0_3 p0_4 p0_5 : Nat) (v1 : Int32) (s0 : LawS) {r : Int64} (h : f_X2_squareSum v1 s0 = some r) : MC l yX2_squareSum cX2_squareSum 5 (some .long) 4 G jNo False (wLaw G p0_0 p0_1 p0_2 p0_3 p0_4 p0_5 s0) (wLaw G p0_0 p0_1 p0_2 p0_3 p0_4 p0_5 s0) [.ref p0_0, .int v1] (some (.long r)) := by
  refine mc_long (by decide +kernel) (Nat.le_of_ble_eq_true rfl) fun E hl hg hA hrw K HR => ?_
  subst hl
  subst hg
  exact b_X2_squareSum p0_0 p0_1 p0_2 p0_3 p0_4 p0_5 s0 K HR v1 h
theorem ok_X2_greatestPlace : yX2_greatestPlace.cls ≠ "java/lang/invoke/MethodHandle" ∧ yX2_greatestPlace.cls ≠ "java/lang/invoke/VarHandle" ∧ (parseMethodDescriptor yX2_greatestPlace.desc).map (fun d => d.parameters.length) = some 1 := ⟨by decide, by decide, by decide +kernel⟩
def f_X2_greatestPlace_27 (k4 : Int32 → Int32 → Int32 → LawS → Option (Int32)) (v1 : Int32) (v2 : Int32) (v3 : Int32) (s0 : LawS) : Option (Int32) :=
   k4 v1 v2 (v3 + (1 : Int32)) s0
def f_X2_greatestPlace_4 : Nat → Int32 → Int32 → Int32 → LawS → Option (Int32)
  | 0, _, _, _, _ => none
  | n + 1, v1, v2, v3, s0 =>
   if v1 < v3 then
   some v2
  else
   jbd (f_X2_numberAt v1 v3 s0) (fun r12 =>
    jbd (f_X2_numberAt v1 v2 s0) (fun r18 =>
     if (lg_cmp r12 r18) ≤ 0 then
      f_X2_greatestPlace_27 (f_X2_greatestPlace_4 n) v1 v2 v3 s0
     else
      f_X2_greatestPlace_27 (f_X2_greatestPlace_4 n) v1 v3 v3 s0))
def f_X2_greatestPlace (v1 : Int32) (s0 : LawS) : Option (Int32) :=
   f_X2_greatestPlace_4 jFU v1 (0 : Int32) (1 : Int32) s0
set_option maxRecDepth 100000 in
set_option maxHeartbeats 4000000 in
theorem b_X2_greatestPlace_27 {E : jE} (p0_0 p0_1 p0_2 p0_3 p0_4 p0_5 : Nat) (s0 : LawS) {res : Int32} (K : jC E cX2_greatestPlace 4 RX2 3) (HR : jRI E cX2_greatestPlace 4 (wLaw (jg E) p0_0 p0_1 p0_2 p0_3 p0_4 p0_5 s0) res) (k4 : Int32 → Int32 → Int32 → LawS → Option (Int32)) (hk4 : ∀ (v1 : Int32) (v2 : Int32) (v3 : Int32), k4 v1 v2 v3 s0 = some res → J E 4 (wLaw (jg E) p0_0 p0_1 p0_2 p0_3 p0_4 p0_5 s0) 4 [(0, .ref p0_0), (1, .int v1), (2, .int v2), (3, .int v3)] []) : ∀ (v1 : Int32) (v2 : Int32) (v3 : Int32), f_X2_greatestPlace_27 k4 v1 v2 v3 s0 = some res → J E 4 (wLaw (jg E) p0_0 p0_1 p0_2 p0_3 p0_4 p0_5 s0) 27 [(0, .ref p0_0), (1, .int v1), (2, .int v2), (3, .int v3)] [] := by
  intro v1 v2 v3 h
  unfold f_X2_greatestPlace_27 at h
  refine j_iinc (pc' := 30) (j := 3) (v := (v3 + (1 : Int32))) (lv' := [(3, .int (v3 + (1 : Int32))), (0, .ref p0_0), (1, .int v1), (2, .int v2)]) K dX2_greatestPlace_27 rfl rfl (by decide) rfl rfl ?_
  refine j_goto (tgt := 4) K dX2_greatestPlace_30 (by decide) ?_
  refine j_sub [1, 2, 3, 0] rfl ?_
  exact hk4 v1 v2 (v3 + (1 : Int32)) h
set_option maxRecDepth 100000 in
set_option maxHeartbeats 4000000 in
theorem b_X2_greatestPlace_4 {E : jE} (p0_0 p0_1 p0_2 p0_3 p0_4 p0_5 : Nat) (s0 : LawS) {res : Int32} (K : jC E cX2_greatestPlace 4 RX2 3) (HR : jRI E cX2_greatestPlace 4 (wLaw (jg E) p0_0 p0_1 p0_2 p0_3 p0_4 p0_5 s0) res) : ∀ (n : Nat) (v1 : Int32) (v2 : Int32) (v3 : Int32), f_X2_greatestPlace_4 n v1 v2 v3 s0 = some res → J E 4 (wLaw (jg E) p0_0 p0_1 p0_2 p0_3 p0_4 p0_5 s0) 4 [(0, .ref p0_0), (1, .int v1), (2, .int v2), (3, .int v3)] [] := by
  intro n
  induction n with
  | zero => intro _ _ _ h; cases h
  | succ n ih =>
    intro v1 v2 v3 h
    rw [f_X2_greatestPlace_4] at h
    refine j_iload_n (pc' := 5) K dX2_greatestPlace_4 rfl 3 rfl rfl ?_
    refine j_iload_n (pc' := 6) K dX2_greatestPlace_5 rfl 1 rfl rfl ?_
    refine j_icmp_gt (pc' := 9) (tgt := 33) K dX2_greatestPlace_6 (by decide) rfl (fun hc => ?_) (fun hc => ?_)
    · have h := jit hc h
      refine j_iload_n (pc' := 34) K dX2_greatestPlace_33 rfl 2 rfl rfl ?_
      obtain rfl := Option.some.inj h
      exact HR _ _ dX2_greatestPlace_34
    · have h := jif hc h
      refine j_aload_n (pc' := 10) K dX2_greatestPlace_9 rfl 0 rfl rfl ?_
      refine j_iload_n (pc' := 11) K dX2_greatestPlace_10 rfl 1 rfl rfl ?_
      refine j_iload_n (pc' := 12) K dX2_greatestPlace_11 rfl 3 rfl rfl ?_
      obtain ⟨r12, hr12, h⟩ := jbd_some h
      refine j_ro (pc' := 15) K (fun H hP => jrun_V K dX2_greatestPlace_12 (M_X2_numberAt (jl E) (jg E) p0_0 p0_1 p0_2 p0_3 p0_4 p0_5 v1 v3 s0 hr12) u_2_60 u_2_57 u_2_58 u_2_59 u_1_11 ⟨ok_X2_numberAt, by decide, by decide⟩ rfl (Nat.le_of_ble_eq_true rfl) 0 rfl rfl H hP) [0, 1, 2, 3, 4, 5] rfl rfl ?_
      refine j_aload_n (pc' := 16) K dX2_greatestPlace_15 rfl 0 rfl rfl ?_
      refine j_iload_n (pc' := 17) K dX2_greatestPlace_16 rfl 1 rfl rfl ?_
      refine j_iload_n (pc' := 18) K dX2_greatestPlace_17 rfl 2 rfl rfl ?_
      obtain ⟨r18, hr18, h⟩ := jbd_some h
      refine j_ro (pc' := 21) K (fun H hP => jrun_V K dX2_greatestPlace_18 (M_X2_numberAt (jl E) (jg E) p0_0 p0_1 p0_2 p0_3 p0_4 p0_5 v1 v2 s0 hr18) u_2_60 u_2_57 u_2_58 u_2_59 u_1_11 ⟨ok_X2_numberAt, by decide, by decide⟩ rfl (Nat.le_of_ble_eq_true rfl) 0 rfl rfl H hP) [0, 1, 2, 3, 4, 5] rfl rfl ?_
      refine j_lcmp (pc' := 22) K dX2_greatestPlace_21 rfl ?_
      refine j_if_le (pc' := 25) (tgt := 27) K dX2_greatestPlace_22 (by decide) rfl (fun hc => ?_) (fun hc => ?_)
      · have h := jit hc h
        refine j_sub [0, 1, 2, 3] rfl ?_
        exact b_X2_greatestPlace_27 p0_0 p0_1 p0_2 p0_3 p0_4 p0_5 s0 K HR (f_X2_greatestPlace_4 n) (ih) v1 v2 v3 h
      · have h := jif hc h
        refine j_iload_n (pc' := 26) K dX2_greatestPlace_25 rfl 3 rfl rfl ?_
        refine j_istore_n (pc' := 27) (lv' := [(2, .int v3), (0, .ref p0_0), (1, .int v1), (3, .int v3)]) K dX2_greatestPlace_26 rfl (by decide) rfl rfl ?_
        refine j_sub [1, 2, 0, 3] rfl ?_
        exact b_X2_greatestPlace_27 p0_0 p0_1 p0_2 p0_3 p0_4 p0_5 s0 K HR (f_X2_greatestPlace_4 n) (ih) v1 v3 v3 h
set_option maxRecDepth 100000 in
set_option maxHeartbeats 4000000 in
theorem b_X2_greatestPlace {E : jE} (p0_0 p0_1 p0_2 p0_3 p0_4 p0_5 : Nat) (s0 : LawS) {res : Int32} (K : jC E cX2_greatestPlace 4 RX2 3) (HR : jRI E cX2_greatestPlace 4 (wLaw (jg E) p0_0 p0_1 p0_2 p0_3 p0_4 p0_5 s0) res) : ∀ (v1 : Int32), f_X2_greatestPlace v1 s0 = some res → J E 4 (wLaw (jg E) p0_0 p0_1 p0_2 p0_3 p0_4 p0_5 s0) 0 [(0, .ref p0_0), (1, .int v1)] [] := by
  intro v1 h
  unfold f_X2_greatestPlace at h
  refine j_iconst (pc' := 1) (v := (0 : Int32)) K dX2_greatestPlace_0 (by decide) rfl ?_
  refine j_istore_n (pc' := 2) (lv' := [(2, .int (0 : Int32)), (0, .ref p0_0), (1, .int v1)]) K dX2_greatestPlace_1 rfl (by decide) rfl rfl ?_
  refine j_iconst (pc' := 3) (v := (1 : Int32)) K dX2_greatestPlace_2 (by decide) rfl ?_
  refine j_istore_n (pc' := 4) (lv' := [(3, .int (1 : Int32)), (2, .int (0 : Int32)), (0, .ref p0_0), (1, .int v1)]) K dX2_greatestPlace_3 rfl (by decide) rfl rfl ?_
  refine j_sub [2, 3, 1, 0] rfl ?_
  exact b_X2_greatestPlace_4 p0_0 p0_1 p0_2 p0_3 p0_4 p0_5 s0 K HR jFU v1 (0 : Int32) (1 : Int32) h
set_option maxRecDepth 100000 in
set_option maxHeartbeats 4000000 in
theorem M_X2_greatestPlace (l : Launch) (G : jG) (p0_0 p0_1 p0_2 p0_3 p0_4 p0_5 : Nat) (v1 : Int32) (s0 : LawS) {r : Int32} (h : f_X2_greatestPlace v1 s0 = some r) : MC l yX2_greatestPlace cX2_greatestPlace 4 (some .int) 3 G jNo False (wLaw G p0_0 p0_1 p0_2 p0_3 p0_4 p0_5 s0) (wLaw G p0_0 p0_1 p0_2 p0_3 p0_4 p0_5 s0) [.ref p0_0, .int v1] (some (.int r)) := by
  refine mc_int (by decide +kernel) (Nat.le_of_ble_eq_true rfl) fun E hl hg hA hrw K HR => ?_
  subst hl
  subst hg
  exact b_X2_greatestPlace p0_0 p0_1 p0_2 p0_3 p0_4 p0_5 s0 K HR v1 h
theorem ok_X2_breakPlace : yX2_breakPlace.cls ≠ "java/lang/invoke/MethodHandle" ∧ yX2_breakPlace.cls ≠ "java/lang/invoke/VarHandle" ∧ (parseMethodDescriptor yX2_breakPlace.desc).map (fun d => d.parameters.length) = some 1 := ⟨by decide, by decide, by decide +kernel⟩
def f_X2_breakPlace_60 (k4 : Int32 → Int32 → Int32 → LawS → Option (Int32)) (v1 : Int32) (v3 : Int32) (t0 : Int32) (s0 : LawS) : Option (Int32) :=
   k4 v1 t0 (v3 + (1 : Int32)) s0
def f_X2_breakPlace_55 (k4 : Int32 → Int32 → Int32 → LawS → Option (Int32)) (v1 : Int32) (v3 : Int32) (s0 : LawS) : Option (Int32) :=
   f_X2_breakPlace_60 k4 v1 v3 (1 : Int32) s0
def f_X2_breakPlace_33 (k4 : Int32 → Int32 → Int32 → LawS → Option (Int32)) (v1 : Int32) (v2 : Int32) (v3 : Int32) (s0 : LawS) : Option (Int32) :=
   if v2 = 0 then
   jbd (f_X2_numberAt v1 (v3 + (1 : Int32)) s0) (fun r42 =>
    jbd (f_X2_numberAt v1 v3 s0) (fun r48 =>
     if 0 ≤ (lg_cmp r42 r48) then
      f_X2_breakPlace_60 k4 v1 v3 (0 : Int32) s0
     else
      f_X2_breakPlace_55 k4 v1 v3 s0))
  else
   f_X2_breakPlace_55 k4 v1 v3 s0
def f_X2_breakPlace_4 : Nat → Int32 → Int32 → Int32 → LawS → Option (Int32)
  | 0, _, _, _, _ => none
  | n + 1, v1, v2, v3, s0 =>
   if v1 ≤ v3 then
   some (-4 : Int32)
  else
   if v2 = 0 then
    f_X2_breakPlace_33 (f_X2_breakPlace_4 n) v1 v2 v3 s0
   else
    jbd (f_X2_numberAt v1 (v3 + (1 : Int32)) s0) (fun r18 =>
     jbd (f_X2_numberAt v1 v3 s0) (fun r24 =>
      if (lg_cmp r18 r24) ≤ 0 then
       f_X2_breakPlace_33 (f_X2_breakPlace_4 n) v1 v2 v3 s0
      else
       some v3))
def f_X2_breakPlace (v1 : Int32) (s0 : LawS) : Option (Int32) :=
   f_X2_breakPlace_4 jFU v1 (0 : Int32) (0 : Int32) s0
set_option maxRecDepth 100000 in
set_option maxHeartbeats 4000000 in
theorem b_X2_breakPlace_60 {E : jE} (p0_0 p0_1 p0_2 p0_3 p0_4 p0_5 : Nat) (s0 : LawS) {res : Int32} (K : jC E cX2_breakPlace 4 RX2 3) (HR : jRI E cX2_breakPlace 4 (wLaw (jg E) p0_0 p0_1 p0_2 p0_3 p0_4 p0_5 s0) res) (k4 : Int32 → Int32 → Int32 → LawS → Option (Int32)) (hk4 : ∀ (v1 : Int32) (v2 : Int32) (v3 : Int32), k4 v1 v2 v3 s0 = some res → J E 4 (wLaw (jg E) p0_0 p0_1 p0_2 p0_3 p0_4 p0_5 s0) 4 [(0, .ref p0_0), (1, .int v1), (2, .int v2), (3, .int v3)] []) : ∀ (v1 : Int32) (v3 : Int32) (t0 : Int32), f_X2_breakPlace_60 k4 v1 v3 t0 s0 = some res → J E 4 (wLaw (jg E) p0_0 p0_1 p0_2 p0_3 p0_4 p0_5 s0) 60 [(0, .ref p0_0), (1, .int v1), (3, .int v3)] [.int t0] := by
  intro v1 v3 t0 h
  unfold f_X2_breakPlace_60 at h
  refine j_istore_n (pc' := 61) (lv' := [(2, .int t0), (0, .ref p0_0), (1, .int v1), (3, .int v3)]) K dX2_breakPlace_60 rfl (by decide) rfl rfl ?_
  refine j_iinc (pc' := 64) (j := 3) (v := (v3 + (1 : Int32))) (lv' := [(3, .int (v3 + (1 : Int32))), (2, .int t0), (0, .ref p0_0), (1, .int v1)]) K dX2_breakPlace_61 rfl rfl (by decide) rfl rfl ?_
  refine j_goto (tgt := 4) K dX2_breakPlace_64 (by decide) ?_
  refine j_sub [2, 3, 1, 0] rfl ?_
  exact hk4 v1 t0 (v3 + (1 : Int32)) h
set_option maxRecDepth 100000 in
set_option maxHeartbeats 4000000 in
theorem b_X2_breakPlace_55 {E : jE} (p0_0 p0_1 p0_2 p0_3 p0_4 p0_5 : Nat) (s0 : LawS) {res : Int32} (K : jC E cX2_breakPlace 4 RX2 3) (HR : jRI E cX2_breakPlace 4 (wLaw (jg E) p0_0 p0_1 p0_2 p0_3 p0_4 p0_5 s0) res) (k4 : Int32 → Int32 → Int32 → LawS → Option (Int32)) (hk4 : ∀ (v1 : Int32) (v2 : Int32) (v3 : Int32), k4 v1 v2 v3 s0 = some res → J E 4 (wLaw (jg E) p0_0 p0_1 p0_2 p0_3 p0_4 p0_5 s0) 4 [(0, .ref p0_0), (1, .int v1), (2, .int v2), (3, .int v3)] []) : ∀ (v1 : Int32) (v3 : Int32), f_X2_breakPlace_55 k4 v1 v3 s0 = some res → J E 4 (wLaw (jg E) p0_0 p0_1 p0_2 p0_3 p0_4 p0_5 s0) 55 [(0, .ref p0_0), (1, .int v1), (3, .int v3)] [] := by
  intro v1 v3 h
  unfold f_X2_breakPlace_55 at h
  refine j_iconst (pc' := 56) (v := (1 : Int32)) K dX2_breakPlace_55 (by decide) rfl ?_
  refine j_goto (tgt := 60) K dX2_breakPlace_56 (by decide) ?_
  refine j_sub [0, 1, 2] rfl ?_
  exact b_X2_breakPlace_60 p0_0 p0_1 p0_2 p0_3 p0_4 p0_5 s0 K HR k4 hk4 v1 v3 (1 : Int32) h
set_option maxRecDepth 100000 in
set_option maxHeartbeats 4000000 in
theorem b_X2_breakPlace_33 {E : jE} (p0_0 p0_1 p0_2 p0_3 p0_4 p0_5 : Nat) (s0 : LawS) {res : Int32} (K : jC E cX2_breakPlace 4 RX2 3) (HR : jRI E cX2_breakPlace 4 (wLaw (jg E) p0_0 p0_1 p0_2 p0_3 p0_4 p0_5 s0) res) (k4 : Int32 → Int32 → Int32 → LawS → Option (Int32)) (hk4 : ∀ (v1 : Int32) (v2 : Int32) (v3 : Int32), k4 v1 v2 v3 s0 = some res → J E 4 (wLaw (jg E) p0_0 p0_1 p0_2 p0_3 p0_4 p0_5 s0) 4 [(0, .ref p0_0), (1, .int v1), (2, .int v2), (3, .int v3)] []) : ∀ (v1 : Int32) (v2 : Int32) (v3 : Int32), f_X2_breakPlace_33 k4 v1 v2 v3 s0 = some res → J E 4 (wLaw (jg E) p0_0 p0_1 p0_2 p0_3 p0_4 p0_5 s0) 33 [(0, .ref p0_0), (1, .int v1), (2, .int v2), (3, .int v3)] [] := by
  intro v1 v2 v3 h
  unfold f_X2_breakPlace_33 at h
  refine j_iload_n (pc' := 34) K dX2_breakPlace_33 rfl 2 rfl rfl ?_
  refine j_if_ne (pc' := 37) (tgt := 55) K dX2_breakPlace_34 (by decide) rfl (fun hc => ?_) (fun hc => ?_)
  · have h := jif hc h
    refine j_sub [0, 1, 3] rfl ?_
    exact b_X2_breakPlace_55 p0_0 p0_1 p0_2 p0_3 p0_4 p0_5 s0 K HR k4 hk4 v1 v3 h
  · have h := jit hc h
    refine j_aload_n (pc' := 38) K dX2_breakPlace_37 rfl 0 rfl rfl ?_
    refine j_iload_n (pc' := 39) K dX2_breakPlace_38 rfl 1 rfl rfl ?_
    refine j_iload_n (pc' := 40) K dX2_breakPlace_39 rfl 3 rfl rfl ?_
    refine j_iconst (pc' := 41) (v := (1 : Int32)) K dX2_breakPlace_40 (by decide) rfl ?_
    refine j_iadd (pc' := 42) K dX2_breakPlace_41 rfl ?_
    obtain ⟨r42, hr42, h⟩ := jbd_some h
    refine j_ro (pc' := 45) K (fun H hP => jrun_V K dX2_breakPlace_42 (M_X2_numberAt (jl E) (jg E) p0_0 p0_1 p0_2 p0_3 p0_4 p0_5 v1 (v3 + (1 : Int32)) s0 hr42) u_2_60 u_2_57 u_2_58 u_2_59 u_1_11 ⟨ok_X2_numberAt, by decide, by decide⟩ rfl (Nat.le_of_ble_eq_true rfl) 0 rfl rfl H hP) [0, 1, 2, 3, 4, 5] rfl rfl ?_
    refine j_aload_n (pc' := 46) K dX2_breakPlace_45 rfl 0 rfl rfl ?_
    refine j_iload_n (pc' := 47) K dX2_breakPlace_46 rfl 1 rfl rfl ?_
    refine j_iload_n (pc' := 48) K dX2_breakPlace_47 rfl 3 rfl rfl ?_
    obtain ⟨r48, hr48, h⟩ := jbd_some h
    refine j_ro (pc' := 51) K (fun H hP => jrun_V K dX2_breakPlace_48 (M_X2_numberAt (jl E) (jg E) p0_0 p0_1 p0_2 p0_3 p0_4 p0_5 v1 v3 s0 hr48) u_2_60 u_2_57 u_2_58 u_2_59 u_1_11 ⟨ok_X2_numberAt, by decide, by decide⟩ rfl (Nat.le_of_ble_eq_true rfl) 0 rfl rfl H hP) [0, 1, 2, 3, 4, 5] rfl rfl ?_
    refine j_lcmp (pc' := 52) K dX2_breakPlace_51 rfl ?_
    refine j_if_ge (pc' := 55) (tgt := 59) K dX2_breakPlace_52 (by decide) rfl (fun hc => ?_) (fun hc => ?_)
    · have h := jit hc h
      refine j_iconst (pc' := 60) (v := (0 : Int32)) K dX2_breakPlace_59 (by decide) rfl ?_
      refine j_sub [0, 1, 3] rfl ?_
      exact b_X2_breakPlace_60 p0_0 p0_1 p0_2 p0_3 p0_4 p0_5 s0 K HR k4 hk4 v1 v3 (0 : Int32) h
    · have h := jif hc h
      refine j_sub [0, 1, 3] rfl ?_
      exact b_X2_breakPlace_55 p0_0 p0_1 p0_2 p0_3 p0_4 p0_5 s0 K HR k4 hk4 v1 v3 h
set_option maxRecDepth 100000 in
set_option maxHeartbeats 4000000 in
theorem b_X2_breakPlace_4 {E : jE} (p0_0 p0_1 p0_2 p0_3 p0_4 p0_5 : Nat) (s0 : LawS) {res : Int32} (K : jC E cX2_breakPlace 4 RX2 3) (HR : jRI E cX2_breakPlace 4 (wLaw (jg E) p0_0 p0_1 p0_2 p0_3 p0_4 p0_5 s0) res) : ∀ (n : Nat) (v1 : Int32) (v2 : Int32) (v3 : Int32), f_X2_breakPlace_4 n v1 v2 v3 s0 = some res → J E 4 (wLaw (jg E) p0_0 p0_1 p0_2 p0_3 p0_4 p0_5 s0) 4 [(0, .ref p0_0), (1, .int v1), (2, .int v2), (3, .int v3)] [] := by
  intro n
  induction n with
  | zero => intro _ _ _ h; cases h
  | succ n ih =>
    intro v1 v2 v3 h
    rw [f_X2_breakPlace_4] at h
    refine j_iload_n (pc' := 5) K dX2_breakPlace_4 rfl 3 rfl rfl ?_
    refine j_iload_n (pc' := 6) K dX2_breakPlace_5 rfl 1 rfl rfl ?_
    refine j_icmp_ge (pc' := 9) (tgt := 67) K dX2_breakPlace_6 (by decide) rfl (fun hc => ?_) (fun hc => ?_)
    · have h := jit hc h
      refine j_bipush (pc' := 69) (v := (-4 : Int32)) K dX2_breakPlace_67 (by decide) rfl ?_
      obtain rfl := Option.some.inj h
      exact HR _ _ dX2_breakPlace_69
    · have h := jif hc h
      refine j_iload_n (pc' := 10) K dX2_breakPlace_9 rfl 2 rfl rfl ?_
      refine j_if_eq (pc' := 13) (tgt := 33) K dX2_breakPlace_10 (by decide) rfl (fun hc => ?_) (fun hc => ?_)
      · have h := jit hc h
        refine j_sub [0, 1, 2, 3] rfl ?_
        exact b_X2_breakPlace_33 p0_0 p0_1 p0_2 p0_3 p0_4 p0_5 s0 K HR (f_X2_breakPlace_4 n) (ih) v1 v2 v3 h
      · have h := jif hc h
        refine j_aload_n (pc' := 14) K dX2_breakPlace_13 rfl 0 rfl rfl ?_
        refine j_iload_n (pc' := 15) K dX2_breakPlace_14 rfl 1 rfl rfl ?_
        refine j_iload_n (pc' := 16) K dX2_breakPlace_15 rfl 3 rfl rfl ?_
        refine j_iconst (pc' := 17) (v := (1 : Int32)) K dX2_breakPlace_16 (by decide) rfl ?_
        refine j_iadd (pc' := 18) K dX2_breakPlace_17 rfl ?_
        obtain ⟨r18, hr18, h⟩ := jbd_some h
        refine j_ro (pc' := 21) K (fun H hP => jrun_V K dX2_breakPlace_18 (M_X2_numberAt (jl E) (jg E) p0_0 p0_1 p0_2 p0_3 p0_4 p0_5 v1 (v3 + (1 : Int32)) s0 hr18) u_2_60 u_2_57 u_2_58 u_2_59 u_1_11 ⟨ok_X2_numberAt, by decide, by decide⟩ rfl (Nat.le_of_ble_eq_true rfl) 0 rfl rfl H hP) [0, 1, 2, 3, 4, 5] rfl rfl ?_
        refine j_aload_n (pc' := 22) K dX2_breakPlace_21 rfl 0 rfl rfl ?_
        refine j_iload_n (pc' := 23) K dX2_breakPlace_22 rfl 1 rfl rfl ?_
        refine j_iload_n (pc' := 24) K dX2_breakPlace_23 rfl 3 rfl rfl ?_
        obtain ⟨r24, hr24, h⟩ := jbd_some h
        refine j_ro (pc' := 27) K (fun H hP => jrun_V K dX2_breakPlace_24 (M_X2_numberAt (jl E) (jg E) p0_0 p0_1 p0_2 p0_3 p0_4 p0_5 v1 v3 s0 hr24) u_2_60 u_2_57 u_2_58 u_2_59 u_1_11 ⟨ok_X2_numberAt, by decide, by decide⟩ rfl (Nat.le_of_ble_eq_true rfl) 0 rfl rfl H hP) [0, 1, 2, 3, 4, 5] rfl rfl ?_
        refine j_lcmp (pc' := 28) K dX2_breakPlace_27 rfl ?_
        refine j_if_le (pc' := 31) (tgt := 33) K dX2_breakPlace_28 (by decide) rfl (fun hc => ?_) (fun hc => ?_)
        · have h := jit hc h
          refine j_sub [0, 1, 2, 3] rfl ?_
          exact b_X2_breakPlace_33 p0_0 p0_1 p0_2 p0_3 p0_4 p0_5 s0 K HR (f_X2_breakPlace_4 n) (ih) v1 v2 v3 h
        · have h := jif hc h
          refine j_iload_n (pc' := 32) K dX2_breakPlace_31 rfl 3 rfl rfl ?_
          obtain rfl := Option.some.inj h
          exact HR _ _ dX2_breakPlace_32
set_option maxRecDepth 100000 in
set_option maxHeartbeats 4000000 in
theorem b_X2_breakPlace {E : jE} (p0_0 p0_1 p0_2 p0_3 p0_4 p0_5 : Nat) (s0 : LawS) {res : Int32} (K : jC E cX2_breakPlace 4 RX2 3) (HR : jRI E cX2_breakPlace 4 (wLaw (jg E) p0_0 p0_1 p0_2 p0_3 p0_4 p0_5 s0) res) : ∀ (v1 : Int32), f_X2_breakPlace v1 s0 = some res → J E 4 (wLaw (jg E) p0_0 p0_1 p0_2 p0_3 p0_4 p0_5 s0) 0 [(0, .ref p0_0), (1, .int v1)] [] := by
  intro v1 h
  unfold f_X2_breakPlace at h
  refine j_iconst (pc' := 1) (v := (0 : Int32)) K dX2_breakPlace_0 (by decide) rfl ?_
  refine j_istore_n (pc' := 2) (lv' := [(2, .int (0 : Int32)), (0, .ref p0_0), (1, .int v1)]) K dX2_breakPlace_1 rfl (by decide) rfl rfl ?_
  refine j_iconst (pc' := 3) (v := (0 : Int32)) K dX2_breakPlace_2 (by decide) rfl ?_
  refine j_istore_n (pc' := 4) (lv' := [(3, .int (0 : Int32)), (2, .int (0 : Int32)), (0, .ref p0_0), (1, .int v1)]) K dX2_breakPlace_3 rfl (by decide) rfl rfl ?_
  refine j_sub [2, 3, 1, 0] rfl ?_
  exact b_X2_breakPlace_4 p0_0 p0_1 p0_2 p0_3 p0_4 p0_5 s0 K HR jFU v1 (0 : Int32) (0 : Int32) h
set_option maxRecDepth 100000 in
set_option maxHeartbeats 4000000 in
theorem M_X2_breakPlace (l : Launch) (G : jG) (p0_0 p0_1 p0_2 p0_3 p0_4 p0_5 : Nat) (v1 : Int32) (s0 : LawS) {r : Int32} (h : f_X2_breakPlace v1 s0 = some r) : MC l yX2_breakPlace cX2_breakPlace 4 (some .int) 3 G jNo False (wLaw G p0_0 p0_1 p0_2 p0_3 p0_4 p0_5 s0) (wLaw G p0_0 p0_1 p0_2 p0_3 p0_4 p0_5 s0) [.ref p0_0, .int v1] (some (.int r)) := by
  refine mc_int (by decide +kernel) (Nat.le_of_ble_eq_true rfl) fun E hl hg hA hrw K HR => ?_
  subst hl
  subst hg
  exact b_X2_breakPlace p0_0 p0_1 p0_2 p0_3 p0_4 p0_5 s0 K HR v1 h
theorem ok_X2_bowedPlace : yX2_bowedPlace.cls ≠ "java/lang/invoke/MethodHandle" ∧ yX2_bowedPlace.cls ≠ "java/lang/invoke/VarHandle" ∧ (parseMethodDescriptor yX2_bowedPlace.desc).map (fun d => d.parameters.length) = some 1 := ⟨by decide, by decide, by decide +kernel⟩
def f_X2_bowedPlace_2 : Nat → Int32 → Int32 → LawS → Option (Int32)
  | 0, _, _, _ => none
  | n + 1, v1, v2, s0 =>
   if v1 ≤ v2 then
   some (-4 : Int32)
  else
   jbd (f_X2_numberAt v1 v2 s0) (fun r10 =>
    jbd (f_X2_numberAt v1 v2 s0) (fun r16 =>
     jbd (f_X2_numberAt v1 (v2 - (1 : Int32)) s0) (fun r27 =>
      jbd (f_X2_numberAt v1 (v2 + (1 : Int32)) s0) (fun r35 =>
       if 0 ≤ (lg_cmp (r10 * r16) (r27 * r35)) then
        (f_X2_bowedPlace_2 n) v1 (v2 + (1 : Int32)) s0
       else
        some v2))))
def f_X2_bowedPlace (v1 : Int32) (s0 : LawS) : Option (Int32) :=
   f_X2_bowedPlace_2 jFU v1 (1 : Int32) s0
set_option maxRecDepth 100000 in
set_option maxHeartbeats 4000000 in
theorem b_X2_bowedPlace_2 {E : jE} (p0_0 p0_1 p0_2 p0_3 p0_4 p0_5 : Nat) (s0 : LawS) {res : Int32} (K : jC E cX2_bowedPlace 5 RX2 3) (HR : jRI E cX2_bowedPlace 5 (wLaw (jg E) p0_0 p0_1 p0_2 p0_3 p0_4 p0_5 s0) res) : ∀ (n : Nat) (v1 : Int32) (v2 : Int32), f_X2_bowedPlace_2 n v1 v2 s0 = some res → J E 5 (wLaw (jg E) p0_0 p0_1 p0_2 p0_3 p0_4 p0_5 s0) 2 [(0, .ref p0_0), (1, .int v1), (2, .int v2)] [] := by
  intro n
  induction n with
  | zero => intro _ _ h; cases h
  | succ n ih =>
    intro v1 v2 h
    rw [f_X2_bowedPlace_2] at h
    refine j_iload_n (pc' := 3) K dX2_bowedPlace_2 rfl 2 rfl rfl ?_
    refine j_iload_n (pc' := 4) K dX2_bowedPlace_3 rfl 1 rfl rfl ?_
    refine j_icmp_ge (pc' := 7) (tgt := 51) K dX2_bowedPlace_4 (by decide) rfl (fun hc => ?_) (fun hc => ?_)
    · have h := jit hc h
      refine j_bipush (pc' := 53) (v := (-4 : Int32)) K dX2_bowedPlace_51 (by decide) rfl ?_
      obtain rfl := Option.some.inj h
      exact HR _ _ dX2_bowedPlace_53
    · have h := jif hc h
      refine j_aload_n (pc' := 8) K dX2_bowedPlace_7 rfl 0 rfl rfl ?_
      refine j_iload_n (pc' := 9) K dX2_bowedPlace_8 rfl 1 rfl rfl ?_
      refine j_iload_n (pc' := 10) K dX2_bowedPlace_9 rfl 2 rfl rfl ?_
      obtain ⟨r10, hr10, h⟩ := jbd_some h
      refine j_ro (pc' := 13) K (fun H hP => jrun_V K dX2_bowedPlace_10 (M_X2_numberAt (jl E) (jg E) p0_0 p0_1 p0_2 p0_3 p0_4 p0_5 v1 v2 s0 hr10) u_2_60 u_2_57 u_2_58 u_2_59 u_1_11 ⟨ok_X2_numberAt, by decide, by decide⟩ rfl (Nat.le_of_ble_eq_true rfl) 0 rfl rfl H hP) [0, 1, 2, 3, 4, 5] rfl rfl ?_
      refine j_aload_n (pc' := 14) K dX2_bowedPlace_13 rfl 0 rfl rfl ?_
      refine j_iload_n (pc' := 15) K dX2_bowedPlace_14 rfl 1 rfl rfl ?_
      refine j_iload_n (pc' := 16) K dX2_bowedPlace_15 rfl 2 rfl rfl ?_
      obtain ⟨r16, hr16, h⟩ := jbd_some h
      refine j_ro (pc' := 19) K (fun H hP => jrun_V K dX2_bowedPlace_16 (M_X2_numberAt (jl E) (jg E) p0_0 p0_1 p0_2 p0_3 p0_4 p0_5 v1 v2 s0 hr16) u_2_60 u_2_57 u_2_58 u_2_59 u_1_11 ⟨ok_X2_numberAt, by decide, by decide⟩ rfl (Nat.le_of_ble_eq_true rfl) 0 rfl rfl H hP) [0, 1, 2, 3, 4, 5] rfl rfl ?_
      refine j_lmul (pc' := 20) K dX2_bowedPlace_19 rfl ?_
      refine j_lstore_n (pc' := 21) (lv' := [(3, .long (r10 * r16)), (0, .ref p0_0), (1, .int v1), (2, .int v2)]) K dX2_bowedPlace_20 rfl (by decide) rfl rfl ?_
      refine j_lload_n (pc' := 22) K dX2_bowedPlace_21 rfl 0 rfl rfl ?_
      refine j_aload_n (pc' := 23) K dX2_bowedPlace_22 rfl 1 rfl rfl ?_
      refine j_iload_n (pc' := 24) K dX2_bowedPlace_23 rfl 2 rfl rfl ?_
      refine j_iload_n (pc' := 25) K dX2_bowedPlace_24 rfl 3 rfl rfl ?_
      refine j_iconst (pc' := 26) (v := (1 : Int32)) K dX2_bowedPlace_25 (by decide) rfl ?_
      refine j_isub (pc' := 27) K dX2_bowedPlace_26 rfl ?_
      obtain ⟨r27, hr27, h⟩ := jbd_some h
      refine j_ro (pc' := 30) K (fun H hP => jrun_V K dX2_bowedPlace_27 (M_X2_numberAt (jl E) (jg E) p0_0 p0_1 p0_2 p0_3 p0_4 p0_5 v1 (v2 - (1 : Int32)) s0 hr27) u_2_60 u_2_57 u_2_58 u_2_59 u_1_11 ⟨ok_X2_numberAt, by decide, by decide⟩ rfl (Nat.le_of_ble_eq_true rfl) 0 rfl rfl H hP) [0, 1, 2, 3, 4, 5] rfl rfl ?_
      refine j_aload_n (pc' := 31) K dX2_bowedPlace_30 rfl 1 rfl rfl ?_
      refine j_iload_n (pc' := 32) K dX2_bowedPlace_31 rfl 2 rfl rfl ?_
      refine j_iload_n (pc' := 33) K dX2_bowedPlace_32 rfl 3 rfl rfl ?_
      refine j_iconst (pc' := 34) (v := (1 : Int32)) K dX2_bowedPlace_33 (by decide) rfl ?_
      refine j_iadd (pc' := 35) K dX2_bowedPlace_34 rfl ?_
      obtain ⟨r35, hr35, h⟩ := jbd_some h
      refine j_ro (pc' := 38) K (fun H hP => jrun_V K dX2_bowedPlace_35 (M_X2_numberAt (jl E) (jg E) p0_0 p0_1 p0_2 p0_3 p0_4 p0_5 v1 (v2 + (1 : Int32)) s0 hr35) u_2_60 u_2_57 u_2_58 u_2_59 u_1_11 ⟨ok_X2_numberAt, by decide, by decide⟩ rfl (Nat.le_of_ble_eq_true rfl) 0 rfl rfl H hP) [0, 1, 2, 3, 4, 5] rfl rfl ?_
      refine j_lmul (pc' := 39) K dX2_bowedPlace_38 rfl ?_
      refine j_lcmp (pc' := 40) K dX2_bowedPlace_39 rfl ?_
      refine j_if_ge (pc' := 43) (tgt := 45) K dX2_bowedPlace_40 (by decide) rfl (fun hc => ?_) (fun hc => ?_)
      · have h := jit hc h
        refine j_iinc (pc' := 48) (j := 3) (v := (v2 + (1 : Int32))) (lv' := [(2, .int (v2 + (1 : Int32))), (3, .long (r10 * r16)), (0, .ref p0_0), (1, .int v1)]) K dX2_bowedPlace_45 rfl rfl (by decide) rfl rfl ?_
        refine j_goto (tgt := 2) K dX2_bowedPlace_48 (by decide) ?_
        refine j_sub [2, 3, 0] rfl ?_
        exact ih v1 (v2 + (1 : Int32)) h
      · have h := jif hc h
        refine j_iload_n (pc' := 44) K dX2_bowedPlace_43 rfl 3 rfl rfl ?_
        obtain rfl := Option.some.inj h
        exact HR _ _ dX2_bowedPlace_44
set_option maxRecDepth 100000 in
set_option maxHeartbeats 4000000 in
theorem b_X2_bowedPlace {E : jE} (p0_0 p0_1 p0_2 p0_3 p0_4 p0_5 : Nat) (s0 : LawS) {res : Int32} (K : jC E cX2_bowedPlace 5 RX2 3) (HR : jRI E cX2_bowedPlace 5 (wLaw (jg E) p0_0 p0_1 p0_2 p0_3 p0_4 p0_5 s0) res) : ∀ (v1 : Int32), f_X2_bowedPlace v1 s0 = some res → J E 5 (wLaw (jg E) p0_0 p0_1 p0_2 p0_3 p0_4 p0_5 s0) 0 [(0, .ref p0_0), (1, .int v1)] [] := by
  intro v1 h
  unfold f_X2_bowedPlace at h
  refine j_iconst (pc' := 1) (v := (1 : Int32)) K dX2_bowedPlace_0 (by decide) rfl ?_
  refine j_istore_n (pc' := 2) (lv' := [(2, .int (1 : Int32)), (0, .ref p0_0), (1, .int v1)]) K dX2_bowedPlace_1 rfl (by decide) rfl rfl ?_
  refine j_sub [1, 2, 0] rfl ?_
  exact b_X2_bowedPlace_2 p0_0 p0_1 p0_2 p0_3 p0_4 p0_5 s0 K HR jFU v1 (1 : Int32) h
set_option maxRecDepth 100000 in
set_option maxHeartbeats 4000000 in
theorem M_X2_bowedPlace (l : Launch) (G : jG) (p0_0 p0_1 p0_2 p0_3 p0_4 p0_5 : Nat) (v1 : Int32) (s0 : LawS) {r : Int32} (h : f_X2_bowedPlace v1 s0 = some r) : MC l yX2_bowedPlace cX2_bowedPlace 5 (some .int) 3 G jNo False (wLaw G p0_0 p0_1 p0_2 p0_3 p0_4 p0_5 s0) (wLaw G p0_0 p0_1 p0_2 p0_3 p0_4 p0_5 s0) [.ref p0_0, .int v1] (some (.int r)) := by
  refine mc_int (by decide +kernel) (Nat.le_of_ble_eq_true rfl) fun E hl hg hA hrw K HR => ?_
  subst hl
  subst hg
  exact b_X2_bowedPlace p0_0 p0_1 p0_2 p0_3 p0_4 p0_5 s0 K HR v1 h
theorem ok_X2_endsInOnes : yX2_endsInOnes.cls ≠ "java/lang/invoke/MethodHandle" ∧ yX2_endsInOnes.cls ≠ "java/lang/invoke/VarHandle" ∧ (parseMethodDescriptor yX2_endsInOnes.desc).map (fun d => d.parameters.length) = some 1 := ⟨by decide, by decide, by decide +kernel⟩
def f_X2_endsInOnes_33 (k2 : Int32 → Int32 → LawS → Option (Int32)) (v1 : Int32) (v2 : Int32) (s0 : LawS) : Option (Int32) :=
   k2 v1 (v2 + (1 : Int32)) s0
def f_X2_endsInOnes_2 : Nat → Int32 → Int32 → LawS → Option (Int32)
  | 0, _, _, _ => none
  | n + 1, v1, v2, s0 =>
   if v1 < v2 then
   jzb (1 : Int32) (
    some (1 : Int32))
  else
   jbd (f_X2_numberAt v2 v2 s0) (fun r10 =>
    if (lg_cmp r10 (1 : Int64)) = 0 then
     f_X2_endsInOnes_33 (f_X2_endsInOnes_2 n) v1 v2 s0
    else
     jbd (f_X2_numberAt v2 v2 s0) (fun r21 =>
      if (lg_cmp r21 (-1 : Int64)) = 0 then
       f_X2_endsInOnes_33 (f_X2_endsInOnes_2 n) v1 v2 s0
      else
       jzb (0 : Int32) (
        some (0 : Int32))))
def f_X2_endsInOnes (v1 : Int32) (s0 : LawS) : Option (Int32) :=
   f_X2_endsInOnes_2 jFU v1 (0 : Int32) s0
set_option maxRecDepth 100000 in
set_option maxHeartbeats 4000000 in
theorem b_X2_endsInOnes_33 {E : jE} (p0_0 p0_1 p0_2 p0_3 p0_4 p0_5 : Nat) (s0 : LawS) {res : Int32} (K : jC E cX2_endsInOnes 3 RX2 3) (HR : jRZ E cX2_endsInOnes 3 (wLaw (jg E) p0_0 p0_1 p0_2 p0_3 p0_4 p0_5 s0) res) (k2 : Int32 → Int32 → LawS → Option (Int32)) (hk2 : ∀ (v1 : Int32) (v2 : Int32), k2 v1 v2 s0 = some res → J E 3 (wLaw (jg E) p0_0 p0_1 p0_2 p0_3 p0_4 p0_5 s0) 2 [(0, .ref p0_0), (1, .int v1), (2, .int v2)] []) : ∀ (v1 : Int32) (v2 : Int32), f_X2_endsInOnes_33 k2 v1 v2 s0 = some res → J E 3 (wLaw (jg E) p0_0 p0_1 p0_2 p0_3 p0_4 p0_5 s0) 33 [(0, .ref p0_0), (1, .int v1), (2, .int v2)] [] := by
  intro v1 v2 h
  unfold f_X2_endsInOnes_33 at h
  refine j_iinc (pc' := 36) (j := 2) (v := (v2 + (1 : Int32))) (lv' := [(2, .int (v2 + (1 : Int32))), (0, .ref p0_0), (1, .int v1)]) K dX2_endsInOnes_33 rfl rfl (by decide) rfl rfl ?_
  refine j_goto (tgt := 2) K dX2_endsInOnes_36 (by decide) ?_
  refine j_sub [1, 2, 0] rfl ?_
  exact hk2 v1 (v2 + (1 : Int32)) h
set_option maxRecDepth 100000 in
set_option maxHeartbeats 4000000 in
theorem b_X2_endsInOnes_2 {E : jE} (p0_0 p0_1 p0_2 p0_3 p0_4 p0_5 : Nat) (s0 : LawS) {res : Int32} (K : jC E cX2_endsInOnes 3 RX2 3) (HR : jRZ E cX2_endsInOnes 3 (wLaw (jg E) p0_0 p0_1 p0_2 p0_3 p0_4 p0_5 s0) res) : ∀ (n : Nat) (v1 : Int32) (v2 : Int32), f_X2_endsInOnes_2 n v1 v2 s0 = some res → J E 3 (wLaw (jg E) p0_0 p0_1 p0_2 p0_3 p0_4 p0_5 s0) 2 [(0, .ref p0_0), (1, .int v1), (2, .int v2)] [] := by
  intro n
  induction n with
  | zero => intro _ _ h; cases h
  | succ n ih =>
    intro v1 v2 h
    rw [f_X2_endsInOnes_2] at h
    refine j_iload_n (pc' := 3) K dX2_endsInOnes_2 rfl 2 rfl rfl ?_
    refine j_iload_n (pc' := 4) K dX2_endsInOnes_3 rfl 1 rfl rfl ?_
    refine j_icmp_gt (pc' := 7) (tgt := 39) K dX2_endsInOnes_4 (by decide) rfl (fun hc => ?_) (fun hc => ?_)
    · have h := jit hc h
      refine j_iconst (pc' := 40) (v := (1 : Int32)) K dX2_endsInOnes_39 (by decide) rfl ?_
      obtain ⟨hg, h⟩ := jzb_some h
      obtain rfl := Option.some.inj h
      exact HR _ _ hg dX2_endsInOnes_40
    · have h := jif hc h
      refine j_aload_n (pc' := 8) K dX2_endsInOnes_7 rfl 0 rfl rfl ?_
      refine j_iload_n (pc' := 9) K dX2_endsInOnes_8 rfl 2 rfl rfl ?_
      refine j_iload_n (pc' := 10) K dX2_endsInOnes_9 rfl 2 rfl rfl ?_
      obtain ⟨r10, hr10, h⟩ := jbd_some h
      refine j_ro (pc' := 13) K (fun H hP => jrun_V K dX2_endsInOnes_10 (M_X2_numberAt (jl E) (jg E) p0_0 p0_1 p0_2 p0_3 p0_4 p0_5 v2 v2 s0 hr10) u_2_60 u_2_57 u_2_58 u_2_59 u_1_11 ⟨ok_X2_numberAt, by decide, by decide⟩ rfl (Nat.le_of_ble_eq_true rfl) 0 rfl rfl H hP) [0, 1, 2, 3, 4, 5] rfl rfl ?_
      refine j_lconst (pc' := 14) (v := (1 : Int64)) K dX2_endsInOnes_13 (by decide) rfl ?_
      refine j_lcmp (pc' := 15) K dX2_endsInOnes_14 rfl ?_
      refine j_if_eq (pc' := 18) (tgt := 33) K dX2_endsInOnes_15 (by decide) rfl (fun hc => ?_) (fun hc => ?_)
      · have h := jit hc h
        refine j_sub [0, 1, 2] rfl ?_
        exact b_X2_endsInOnes_33 p0_0 p0_1 p0_2 p0_3 p0_4 p0_5 s0 K HR (f_X2_endsInOnes_2 n) (ih) v1 v2 h
      · have h := jif hc h
        refine j_aload_n (pc' := 19) K dX2_endsInOnes_18 rfl 0 rfl rfl ?_
        refine j_iload_n (pc' := 20) K dX2_endsInOnes_19 rfl 2 rfl rfl ?_
        refine j_iload_n (pc' := 21) K dX2_endsInOnes_20 rfl 2 rfl rfl ?_
        obtain ⟨r21, hr21, h⟩ := jbd_some h
        refine j_ro (pc' := 24) K (fun H hP => jrun_V K dX2_endsInOnes_21 (M_X2_numberAt (jl E) (jg E) p0_0 p0_1 p0_2 p0_3 p0_4 p0_5 v2 v2 s0 hr21) u_2_60 u_2_57 u_2_58 u_2_59 u_1_11 ⟨ok_X2_numberAt, by decide, by decide⟩ rfl (Nat.le_of_ble_eq_true rfl) 0 rfl rfl H hP) [0, 1, 2, 3, 4, 5] rfl rfl ?_
        refine j_ldc2 (pc' := 27) K dX2_endsInOnes_24 u_2_180 rfl ?_
        refine j_lcmp (pc' := 28) K dX2_endsInOnes_27 rfl ?_
        refine j_if_eq (pc' := 31) (tgt := 33) K dX2_endsInOnes_28 (by decide) rfl (fun hc => ?_) (fun hc => ?_)
        · have h := jit hc h
          refine j_sub [0, 1, 2] rfl ?_
          exact b_X2_endsInOnes_33 p0_0 p0_1 p0_2 p0_3 p0_4 p0_5 s0 K HR (f_X2_endsInOnes_2 n) (ih) v1 v2 h
        · have h := jif hc h
          refine j_iconst (pc' := 32) (v := (0 : Int32)) K dX2_endsInOnes_31 (by decide) rfl ?_
          obtain ⟨hg, h⟩ := jzb_some h
          obtain rfl := Option.some.inj h
          exact HR _ _ hg dX2_endsInOnes_32
set_option maxRecDepth 100000 in
set_option maxHeartbeats 4000000 in
theorem b_X2_endsInOnes {E : jE} (p0_0 p0_1 p0_2 p0_3 p0_4 p0_5 : Nat) (s0 : LawS) {res : Int32} (K : jC E cX2_endsInOnes 3 RX2 3) (HR : jRZ E cX2_endsInOnes 3 (wLaw (jg E) p0_0 p0_1 p0_2 p0_3 p0_4 p0_5 s0) res) : ∀ (v1 : Int32), f_X2_endsInOnes v1 s0 = some res → J E 3 (wLaw (jg E) p0_0 p0_1 p0_2 p0_3 p0_4 p0_5 s0) 0 [(0, .ref p0_0), (1, .int v1)] [] := by
  intro v1 h
  unfold f_X2_endsInOnes at h
  refine j_iconst (pc' := 1) (v := (0 : Int32)) K dX2_endsInOnes_0 (by decide) rfl ?_
  refine j_istore_n (pc' := 2) (lv' := [(2, .int (0 : Int32)), (0, .ref p0_0), (1, .int v1)]) K dX2_endsInOnes_1 rfl (by decide) rfl rfl ?_
  refine j_sub [1, 2, 0] rfl ?_
  exact b_X2_endsInOnes_2 p0_0 p0_1 p0_2 p0_3 p0_4 p0_5 s0 K HR jFU v1 (0 : Int32) h
set_option maxRecDepth 100000 in
set_option maxHeartbeats 4000000 in
theorem M_X2_endsInOnes (l : Launch) (G : jG) (p0_0 p0_1 p0_2 p0_3 p0_4 p0_5 : Nat) (v1 : Int32) (s0 : LawS) {r : Int32} (h : f_X2_endsInOnes v1 s0 = some r) : MC l yX2_endsInOnes cX2_endsInOnes 3 (some .boolean) 3 G jNo False (wLaw G p0_0 p0_1 p0_2 p0_3 p0_4 p0_5 s0) (wLaw G p0_0 p0_1 p0_2 p0_3 p0_4 p0_5 s0) [.ref p0_0, .int v1] (some (.int r)) := by
  refine mc_bool (by decide +kernel) (Nat.le_of_ble_eq_true rfl) fun E hl hg hA hrw K HR => ?_
  subst hl
  subst hg
  exact b_X2_endsInOnes p0_0 p0_1 p0_2 p0_3 p0_4 p0_5 s0 K HR v1 h
theorem ok_X2_columnSum : yX2_columnSum.cls ≠ "java/lang/invoke/MethodHandle" ∧ yX2_columnSum.cls ≠ "java/lang/invoke/VarHandle" ∧ (parseMethodDescriptor yX2_columnSum.desc).map (fun d => d.parameters.length) = some 2 := ⟨by decide, by decide, by decide +kernel⟩
def f_X2_columnSum_61 (v3 : Int64) (s0 : LawS) : Option (Int64) :=
   jbd (f_X2_limited v3) (fun r62 =>
   some r62)
def f_X2_columnSum_5 : Nat → Int32 → Int64 → Int32 → LawS → Option (Int64)
  | 0, _, _, _, _ => none
  | n + 1, v1, v3, v5, s0 =>
   if v1 ≤ v5 then
   f_X2_columnSum_61 v3 s0
  else
   if (24 : Int32) < v5 then
    f_X2_columnSum_61 v3 s0
   else
    jbd (f_X2_numberAt v1 v5 s0) (fun r22 =>
     jgd v5 25 (
      jbd (f_X2_product r22 ((Law_column s0) (Int32.toNatClampNeg v5))) (fun r32 =>
       if (lg_cmp r32 (-9000000000000000000 : Int64)) = 0 then
        some (-9000000000000000000 : Int64)
       else
        (f_X2_columnSum_5 n) v1 (v3 + r32) (v5 + (1 : Int32)) s0)))
def f_X2_columnSum (v1 : Int32) (v2 : Int32) (s0 : LawS) : Option (Int64) :=
   f_X2_columnSum_5 jFU v1 (0 : Int64) v2 s0
set_option maxRecDepth 100000 in
set_option maxHeartbeats 4000000 in
theorem b_X2_columnSum_61 {E : jE} (p0_0 p0_1 p0_2 p0_3 p0_4 p0_5 : Nat) (s0 : LawS) {res : Int64} (K : jC E cX2_columnSum 8 RX2 3) (HR : jRL E cX2_columnSum 8 (wLaw (jg E) p0_0 p0_1 p0_2 p0_3 p0_4 p0_5 s0) res) : ∀ (v3 : Int64), f_X2_columnSum_61 v3 s0 = some res → J E 8 (wLaw (jg E) p0_0 p0_1 p0_2 p0_3 p0_4 p0_5 s0) 61 [(3, .long v3)] [] := by
  intro v3 h
  unfold f_X2_columnSum_61 at h
  refine j_lload_n (pc' := 62) K dX2_columnSum_61 rfl 0 rfl rfl ?_
  obtain ⟨r62, hr62, h⟩ := jbd_some h
  refine j_ro (pc' := 65) K (fun H hP => jrun_S K dX2_columnSum_62 (M_X2_limited (jl E) (jg E) v3 hr62) u_2_77 u_2_75 u_2_76 u_1_11 ⟨ok_X2_limited, by decide, by decide⟩ rfl (Nat.le_of_ble_eq_true rfl) H) [] rfl rfl ?_
  obtain rfl := Option.some.inj h
  exact HR _ _ dX2_columnSum_65
set_option maxRecDepth 100000 in
set_option maxHeartbeats 4000000 in
theorem b_X2_columnSum_5 {E : jE} (p0_0 p0_1 p0_2 p0_3 p0_4 p0_5 : Nat) (s0 : LawS) {res : Int64} (K : jC E cX2_columnSum 8 RX2 3) (HR : jRL E cX2_columnSum 8 (wLaw (jg E) p0_0 p0_1 p0_2 p0_3 p0_4 p0_5 s0) res) : ∀ (n : Nat) (v1 : Int32) (v3 : Int64) (v5 : Int32), f_X2_columnSum_5 n v1 v3 v5 s0 = some res → J E 8 (wLaw (jg E) p0_0 p0_1 p0_2 p0_3 p0_4 p0_5 s0) 5 [(0, .ref p0_0), (1, .int v1), (3, .long v3), (5, .int v5)] [] := by
  intro n
  induction n with
  | zero => intro _ _ _ h; cases h
  | succ n ih =>
    intro v1 v3 v5 h
    rw [f_X2_columnSum_5] at h
    refine j_iload (pc' := 7) K dX2_columnSum_5 3 rfl rfl ?_
    refine j_iload_n (pc' := 8) K dX2_columnSum_7 rfl 1 rfl rfl ?_
    refine j_icmp_ge (pc' := 11) (tgt := 61) K dX2_columnSum_8 (by decide) rfl (fun hc => ?_) (fun hc => ?_)
    · have h := jit hc h
      refine j_sub [2] rfl ?_
      exact b_X2_columnSum_61 p0_0 p0_1 p0_2 p0_3 p0_4 p0_5 s0 K HR v3 h
    · have h := jif hc h
      refine j_iload (pc' := 13) K dX2_columnSum_11 3 rfl rfl ?_
      refine j_bipush (pc' := 15) (v := (24 : Int32)) K dX2_columnSum_13 (by decide) rfl ?_
      refine j_icmp_gt (pc' := 18) (tgt := 61) K dX2_columnSum_15 (by decide) rfl (fun hc => ?_) (fun hc => ?_)
      · have h := jit hc h
        refine j_sub [2] rfl ?_
        exact b_X2_columnSum_61 p0_0 p0_1 p0_2 p0_3 p0_4 p0_5 s0 K HR v3 h
      · have h := jif hc h
        refine j_aload_n (pc' := 19) K dX2_columnSum_18 rfl 0 rfl rfl ?_
        refine j_iload_n (pc' := 20) K dX2_columnSum_19 rfl 1 rfl rfl ?_
        refine j_iload (pc' := 22) K dX2_columnSum_20 3 rfl rfl ?_
        obtain ⟨r22, hr22, h⟩ := jbd_some h
        refine j_ro (pc' := 25) K (fun H hP => jrun_V K dX2_columnSum_22 (M_X2_numberAt (jl E) (jg E) p0_0 p0_1 p0_2 p0_3 p0_4 p0_5 v1 v5 s0 hr22) u_2_60 u_2_57 u_2_58 u_2_59 u_1_11 ⟨ok_X2_numberAt, by decide, by decide⟩ rfl (Nat.le_of_ble_eq_true rfl) 0 rfl rfl H hP) [0, 1, 2, 3, 4, 5] rfl rfl ?_
        refine j_aload_n (pc' := 26) K dX2_columnSum_25 rfl 0 rfl rfl ?_
        refine j_get (pc' := 29) K dX2_columnSum_26 inX2 0 rfl rfl 3 (by decide) u_1_162 rfl rfl rfl ?_
        refine j_iload (pc' := 31) K dX2_columnSum_29 3 rfl rfl ?_
        obtain ⟨hg, h⟩ := jgd_some h
        refine j_lald (pc' := 32) K dX2_columnSum_31 4 rfl hg rfl ?_
        obtain ⟨r32, hr32, h⟩ := jbd_some h
        refine j_ro (pc' := 35) K (fun H hP => jrun_S K dX2_columnSum_32 (M_X2_product (jl E) (jg E) r22 ((Law_column s0) (Int32.toNatClampNeg v5)) hr32) u_2_69 u_2_67 u_2_68 u_1_11 ⟨ok_X2_product, by decide, by decide⟩ rfl (Nat.le_of_ble_eq_true rfl) H) [] rfl rfl ?_
        refine j_lstore (pc' := 37) (lv' := [(6, .long r32), (0, .ref p0_0), (1, .int v1), (3, .long v3), (5, .int v5)]) K dX2_columnSum_35 (by decide) rfl rfl ?_
        refine j_lload (pc' := 39) K dX2_columnSum_37 0 rfl rfl ?_
        refine j_ldc2 (pc' := 42) K dX2_columnSum_39 u_2_70 rfl ?_
        refine j_lcmp (pc' := 43) K dX2_columnSum_42 rfl ?_
        refine j_if_ne (pc' := 46) (tgt := 50) K dX2_columnSum_43 (by decide) rfl (fun hc => ?_) (fun hc => ?_)
        · have h := jif hc h
          refine j_lload_n (pc' := 51) K dX2_columnSum_50 rfl 3 rfl rfl ?_
          refine j_lload (pc' := 53) K dX2_columnSum_51 0 rfl rfl ?_
          refine j_ladd (pc' := 54) K dX2_columnSum_53 rfl ?_
          refine j_lstore_n (pc' := 55) (lv' := [(3, .long (v3 + r32)), (6, .long r32), (0, .ref p0_0), (1, .int v1), (5, .int v5)]) K dX2_columnSum_54 rfl (by decide) rfl rfl ?_
          refine j_iinc (pc' := 58) (j := 4) (v := (v5 + (1 : Int32))) (lv' := [(5, .int (v5 + (1 : Int32))), (3, .long (v3 + r32)), (6, .long r32), (0, .ref p0_0), (1, .int v1)]) K dX2_columnSum_55 rfl rfl (by decide) rfl rfl ?_
          refine j_goto (tgt := 5) K dX2_columnSum_58 (by decide) ?_
          refine j_sub [3, 4, 1, 0] rfl ?_
          exact ih v1 (v3 + r32) (v5 + (1 : Int32)) h
        · have h := jit hc h
          refine j_ldc2 (pc' := 49) K dX2_columnSum_46 u_2_70 rfl ?_
          obtain rfl := Option.some.inj h
          exact HR _ _ dX2_columnSum_49
set_option maxRecDepth 100000 in
set_option maxHeartbeats 4000000 in
theorem b_X2_columnSum {E : jE} (p0_0 p0_1 p0_2 p0_3 p0_4 p0_5 : Nat) (s0 : LawS) {res : Int64} (K : jC E cX2_columnSum 8 RX2 3) (HR : jRL E cX2_columnSum 8 (wLaw (jg E) p0_0 p0_1 p0_2 p0_3 p0_4 p0_5 s0) res) : ∀ (v1 : Int32) (v2 : Int32), f_X2_columnSum v1 v2 s0 = some res → J E 8 (wLaw (jg E) p0_0 p0_1 p0_2 p0_3 p0_4 p0_5 s0) 0 [(0, .ref p0_0), (1, .int v1), (2, .int v2)] [] := by
  intro v1 v2 h
  unfold f_X2_columnSum at h
  refine j_lconst (pc' := 1) (v := (0 : Int64)) K dX2_columnSum_0 (by decide) rfl ?_
  refine j_lstore_n (pc' := 2) (lv' := [(3, .long (0 : Int64)), (0, .ref p0_0), (1, .int v1), (2, .int v2)]) K dX2_columnSum_1 rfl (by decide) rfl rfl ?_
  refine j_iload_n (pc' := 3) K dX2_columnSum_2 rfl 3 rfl rfl ?_
  refine j_istore (pc' := 5) (lv' := [(5, .int v2), (3, .long (0 : Int64)), (0, .ref p0_0), (1, .int v1), (2, .int v2)]) K dX2_columnSum_3 (by decide) rfl rfl ?_
  refine j_sub [2, 3, 1, 0] rfl ?_
  exact b_X2_columnSum_5 p0_0 p0_1 p0_2 p0_3 p0_4 p0_5 s0 K HR jFU v1 (0 : Int64) v2 h
set_option maxRecDepth 100000 in
set_option maxHeartbeats 4000000 in
theorem M_X2_columnSum (l : Launch) (G : jG) (p0_0 p0_1 p0_2 p0_3 p0_4 p0_5 : Nat) (v1 : Int32) (v2 : Int32) (s0 : LawS) {r : Int64} (h : f_X2_columnSum v1 v2 s0 = some r) : MC l yX2_columnSum cX2_columnSum 8 (some .long) 3 G jNo False (wLaw G p0_0 p0_1 p0_2 p0_3 p0_4 p0_5 s0) (wLaw G p0_0 p0_1 p0_2 p0_3 p0_4 p0_5 s0) [.ref p0_0, .int v1, .int v2] (some (.long r)) := by
  refine mc_long (by decide +kernel) (Nat.le_of_ble_eq_true rfl) fun E hl hg hA hrw K HR => ?_
  subst hl
  subst hg
  exact b_X2_columnSum p0_0 p0_1 p0_2 p0_3 p0_4 p0_5 s0 K HR v1 v2 h
theorem ok_X2_inverseAt : yX2_inverseAt.cls ≠ "java/lang/invoke/MethodHandle" ∧ yX2_inverseAt.cls ≠ "java/lang/invoke/VarHandle" ∧ (parseMethodDescriptor yX2_inverseAt.desc).map (fun d => d.parameters.length) = some 2 := ⟨by decide, by decide, by decide +kernel⟩
def f_X2_inverseAt_86 (v1 : Int32) (s0 : LawS) : Option (Int64 × LawS) :=
   jgd v1 25 (
   some (((Law_column s0) (Int32.toNatClampNeg v1)), s0))
def f_X2_inverseAt_38 : Nat → Int32 → Int32 → Int32 → LawS → Option (Int64 × LawS)
  | 0, _, _, _, _ => none
  | n + 1, v1, v2, v3, s0 =>
   if v1 < v3 then
   f_X2_inverseAt_86 v1 s0
  else
   jbd (f_X2_columnSum v3 v2 s0) (fun r46 =>
    if (lg_cmp r46 (-9000000000000000000 : Int64)) = 0 then
     some ((-9000000000000000000 : Int64), s0)
    else
     jbd (f_X2_numberAt v3 v3 s0) (fun r72 =>
      jgd v3 25 (
       (f_X2_inverseAt_38 n) v1 v2 (v3 + (1 : Int32)) (Law_column_s s0 (vp_updL (Law_column s0) (Int32.toNatClampNeg v3) ((-r72) * r46))))))
def f_X2_inverseAt (v1 : Int32) (v2 : Int32) (s0 : LawS) : Option (Int64 × LawS) :=
   jbd (f_X11_isPlace v1 v2 (24 : Int32)) (fun r4 =>
   if r4 = 0 then
    some ((-9000000000000000000 : Int64), s0)
   else
    jbd (f_X2_endsInOnes v1 s0) (fun r12 =>
     if r12 = 0 then
      some ((-9000000000000000000 : Int64), s0)
     else
      jbd (f_X2_numberAt v2 v2 s0) (fun r30 =>
       jgd v2 25 (
        f_X2_inverseAt_38 jFU v1 v2 (v2 + (1 : Int32)) (Law_column_s s0 (vp_updL (Law_column s0) (Int32.toNatClampNeg v2) r30))))))
set_option maxRecDepth 100000 in
set_option maxHeartbeats 4000000 in
theorem b_X2_inverseAt_86 {E : jE} (p0_0 p0_1 p0_2 p0_3 p0_4 p0_5 : Nat) {res : Int64 × LawS} (K : jC E cX2_inverseAt 6 RX2 4) (hrw : jrw E) (HR : jRL E cX2_inverseAt 6 (wLaw (jg E) p0_0 p0_1 p0_2 p0_3 p0_4 p0_5 (res.2)) (res.1)) : ∀ (v1 : Int32) (s0 : LawS), f_X2_inverseAt_86 v1 s0 = some res → J E 6 (wLaw (jg E) p0_0 p0_1 p0_2 p0_3 p0_4 p0_5 s0) 86 [(0, .ref p0_0), (1, .int v1)] [] := by
  intro v1 s0 h
  unfold f_X2_inverseAt_86 at h
  refine j_aload_n (pc' := 87) K dX2_inverseAt_86 rfl 0 rfl rfl ?_
  refine j_get (pc' := 90) K dX2_inverseAt_87 inX2 0 rfl rfl 3 (by decide) u_1_162 rfl rfl rfl ?_
  refine j_iload_n (pc' := 91) K dX2_inverseAt_90 rfl 1 rfl rfl ?_
  obtain ⟨hg, h⟩ := jgd_some h
  refine j_lald (pc' := 92) K dX2_inverseAt_91 4 rfl hg rfl ?_
  obtain rfl := Option.some.inj h
  exact HR _ _ dX2_inverseAt_92
set_option maxRecDepth 100000 in
set_option maxHeartbeats 4000000 in
theorem b_X2_inverseAt_38 {E : jE} (p0_0 p0_1 p0_2 p0_3 p0_4 p0_5 : Nat) {res : Int64 × LawS} (K : jC E cX2_inverseAt 6 RX2 4) (hrw : jrw E) (HR : jRL E cX2_inverseAt 6 (wLaw (jg E) p0_0 p0_1 p0_2 p0_3 p0_4 p0_5 (res.2)) (res.1)) : ∀ (n : Nat) (v1 : Int32) (v2 : Int32) (v3 : Int32) (s0 : LawS), f_X2_inverseAt_38 n v1 v2 v3 s0 = some res → J E 6 (wLaw (jg E) p0_0 p0_1 p0_2 p0_3 p0_4 p0_5 s0) 38 [(0, .ref p0_0), (1, .int v1), (2, .int v2), (3, .int v3)] [] := by
  intro n
  induction n with
  | zero => intro _ _ _ _ h; cases h
  | succ n ih =>
    intro v1 v2 v3 s0 h
    rw [f_X2_inverseAt_38] at h
    refine j_iload_n (pc' := 39) K dX2_inverseAt_38 rfl 3 rfl rfl ?_
    refine j_iload_n (pc' := 40) K dX2_inverseAt_39 rfl 1 rfl rfl ?_
    refine j_icmp_gt (pc' := 43) (tgt := 86) K dX2_inverseAt_40 (by decide) rfl (fun hc => ?_) (fun hc => ?_)
    · have h := jit hc h
      refine j_sub [0, 1] rfl ?_
      exact b_X2_inverseAt_86 p0_0 p0_1 p0_2 p0_3 p0_4 p0_5 K hrw HR v1 s0 h
    · have h := jif hc h
      refine j_aload_n (pc' := 44) K dX2_inverseAt_43 rfl 0 rfl rfl ?_
      refine j_iload_n (pc' := 45) K dX2_inverseAt_44 rfl 3 rfl rfl ?_
      refine j_iload_n (pc' := 46) K dX2_inverseAt_45 rfl 2 rfl rfl ?_
      obtain ⟨r46, hr46, h⟩ := jbd_some h
      refine j_ro (pc' := 49) K (fun H hP => jrun_V K dX2_inverseAt_46 (M_X2_columnSum (jl E) (jg E) p0_0 p0_1 p0_2 p0_3 p0_4 p0_5 v3 v2 s0 hr46) u_2_184 u_2_181 u_2_183 u_p_7 u_1_11 ⟨ok_X2_columnSum, by decide, by decide⟩ rfl (Nat.le_of_ble_eq_true rfl) 0 rfl rfl H hP) [0, 1, 2, 3, 4, 5] rfl rfl ?_
      refine j_lstore (pc' := 51) (lv' := [(4, .long r46), (0, .ref p0_0), (1, .int v1), (2, .int v2), (3, .int v3)]) K dX2_inverseAt_49 (by decide) rfl rfl ?_
      refine j_lload (pc' := 53) K dX2_inverseAt_51 0 rfl rfl ?_
      refine j_ldc2 (pc' := 56) K dX2_inverseAt_53 u_2_70 rfl ?_
      refine j_lcmp (pc' := 57) K dX2_inverseAt_56 rfl ?_
      refine j_if_ne (pc' := 60) (tgt := 64) K dX2_inverseAt_57 (by decide) rfl (fun hc => ?_) (fun hc => ?_)
      · have h := jif hc h
        refine j_aload_n (pc' := 65) K dX2_inverseAt_64 rfl 1 rfl rfl ?_
        refine j_get (pc' := 68) K dX2_inverseAt_65 inX2 0 rfl rfl 3 (by decide) u_1_162 rfl rfl rfl ?_
        refine j_iload_n (pc' := 69) K dX2_inverseAt_68 rfl 4 rfl rfl ?_
        refine j_aload_n (pc' := 70) K dX2_inverseAt_69 rfl 1 rfl rfl ?_
        refine j_iload_n (pc' := 71) K dX2_inverseAt_70 rfl 4 rfl rfl ?_
        refine j_iload_n (pc' := 72) K dX2_inverseAt_71 rfl 4 rfl rfl ?_
        obtain ⟨r72, hr72, h⟩ := jbd_some h
        refine j_ro (pc' := 75) K (fun H hP => jrun_V K dX2_inverseAt_72 (M_X2_numberAt (jl E) (jg E) p0_0 p0_1 p0_2 p0_3 p0_4 p0_5 v3 v3 s0 hr72) u_2_60 u_2_57 u_2_58 u_2_59 u_1_11 ⟨ok_X2_numberAt, by decide, by decide⟩ rfl (Nat.le_of_ble_eq_true rfl) 0 rfl rfl H hP) [0, 1, 2, 3, 4, 5] rfl rfl ?_
        refine j_lneg (pc' := 76) K dX2_inverseAt_75 rfl ?_
        refine j_lload (pc' := 78) K dX2_inverseAt_76 0 rfl rfl ?_
        refine j_lmul (pc' := 79) K dX2_inverseAt_78 rfl ?_
        obtain ⟨hg, h⟩ := jgd_some h
        refine j_last (pc' := 80) (ws' := (wLaw (jg E) p0_0 p0_1 p0_2 p0_3 p0_4 p0_5 (Law_column_s s0 (vp_updL (Law_column s0) (Int32.toNatClampNeg v3) ((-r72) * r46))))) K dX2_inverseAt_79 hrw 4 rfl hg (st_Law_4 ..) rfl ?_
        refine j_iinc (pc' := 83) (j := 4) (v := (v3 + (1 : Int32))) (lv' := [(3, .int (v3 + (1 : Int32))), (4, .long r46), (0, .ref p0_0), (1, .int v1), (2, .int v2)]) K dX2_inverseAt_80 rfl rfl (by decide) rfl rfl ?_
        refine j_goto (tgt := 38) K dX2_inverseAt_83 (by decide) ?_
        refine j_sub [2, 3, 4, 0] rfl ?_
        exact ih v1 v2 (v3 + (1 : Int32)) (Law_column_s s0 (vp_updL (Law_column s0) (Int32.toNatClampNeg v3) ((-r72) * r46))) h
      · have h := jit hc h
        refine j_ldc2 (pc' := 63) K dX2_inverseAt_60 u_2_70 rfl ?_
        obtain rfl := Option.some.inj h
        exact HR _ _ dX2_inverseAt_63
set_option maxRecDepth 100000 in
set_option maxHeartbeats 4000000 in
theorem b_X2_inverseAt {E : jE} (p0_0 p0_1 p0_2 p0_3 p0_4 p0_5 : Nat) {res : Int64 × LawS} (K : jC E cX2_inverseAt 6 RX2 4) (hrw : jrw E) (HR : jRL E cX2_inverseAt 6 (wLaw (jg E) p0_0 p0_1 p0_2 p0_3 p0_4 p0_5 (res.2)) (res.1)) : ∀ (v1 : Int32) (v2 : Int32) (s0 : LawS), f_X2_inverseAt v1 v2 s0 = some res → J E 6 (wLaw (jg E) p0_0 p0_1 p0_2 p0_3 p0_4 p0_5 s0) 0 [(0, .ref p0_0), (1, .int v1), (2, .int v2)] [] := by
  intro v1 v2 s0 h
  unfold f_X2_inverseAt at h
  refine j_iload_n (pc' := 1) K dX2_inverseAt_0 rfl 1 rfl rfl ?_
  refine j_iload_n (pc' := 2) K dX2_inverseAt_1 rfl 2 rfl rfl ?_
  refine j_bipush (pc' := 4) (v := (24 : Int32)) K dX2_inverseAt_2 (by decide) rfl ?_
  obtain ⟨r4, hr4, h⟩ := jbd_some h
  refine j_ro (pc' := 7) K (fun H hP => jrun_SN K dX2_inverseAt_4 (host := "CountTriangles") (M_X11_isPlace (jl E) (jg E) v1 v2 (24 : Int32) hr4) u_2_63 (by decide) u_2_62 u_1_1 ⟨ok_X11_isPlace, by decide, by decide⟩ rfl (Nat.le_of_ble_eq_true rfl) H) [] rfl rfl ?_
  refine j_if_eq (pc' := 10) (tgt := 18) K dX2_inverseAt_7 (by decide) rfl (fun hc => ?_) (fun hc => ?_)
  · have h := jit hc h
    refine j_ldc2 (pc' := 21) K dX2_inverseAt_18 u_2_70 rfl ?_
    obtain rfl := Option.some.inj h
    exact HR _ _ dX2_inverseAt_21
  · have h := jif hc h
    refine j_aload_n (pc' := 11) K dX2_inverseAt_10 rfl 0 rfl rfl ?_
    refine j_iload_n (pc' := 12) K dX2_inverseAt_11 rfl 1 rfl rfl ?_
    obtain ⟨r12, hr12, h⟩ := jbd_some h
    refine j_ro (pc' := 15) K (fun H hP => jrun_V K dX2_inverseAt_12 (M_X2_endsInOnes (jl E) (jg E) p0_0 p0_1 p0_2 p0_3 p0_4 p0_5 v1 s0 hr12) u_2_179 u_2_176 u_2_178 u_p_6 u_1_11 ⟨ok_X2_endsInOnes, by decide, by decide⟩ rfl (Nat.le_of_ble_eq_true rfl) 0 rfl rfl H hP) [0, 1, 2, 3, 4, 5] rfl rfl ?_
    refine j_if_ne (pc' := 18) (tgt := 22) K dX2_inverseAt_15 (by decide) rfl (fun hc => ?_) (fun hc => ?_)
    · have h := jif hc h
      refine j_aload_n (pc' := 23) K dX2_inverseAt_22 rfl 0 rfl rfl ?_
      refine j_get (pc' := 26) K dX2_inverseAt_23 inX2 0 rfl rfl 3 (by decide) u_1_162 rfl rfl rfl ?_
      refine j_iload_n (pc' := 27) K dX2_inverseAt_26 rfl 2 rfl rfl ?_
      refine j_aload_n (pc' := 28) K dX2_inverseAt_27 rfl 0 rfl rfl ?_
      refine j_iload_n (pc' := 29) K dX2_inverseAt_28 rfl 2 rfl rfl ?_
      refine j_iload_n (pc' := 30) K dX2_inverseAt_29 rfl 2 rfl rfl ?_
      obtain ⟨r30, hr30, h⟩ := jbd_some h
      refine j_ro (pc' := 33) K (fun H hP => jrun_V K dX2_inverseAt_30 (M_X2_numberAt (jl E) (jg E) p0_0 p0_1 p0_2 p0_3 p0_4 p0_5 v2 v2 s0 hr30) u_2_60 u_2_57 u_2_58 u_2_59 u_1_11 ⟨ok_X2_numberAt, by decide, by decide⟩ rfl (Nat.le_of_ble_eq_true rfl) 0 rfl rfl H hP) [0, 1, 2, 3, 4, 5] rfl rfl ?_
      obtain ⟨hg, h⟩ := jgd_some h
      refine j_last (pc' := 34) (ws' := (wLaw (jg E) p0_0 p0_1 p0_2 p0_3 p0_4 p0_5 (Law_column_s s0 (vp_updL (Law_column s0) (Int32.toNatClampNeg v2) r30)))) K dX2_inverseAt_33 hrw 4 rfl hg (st_Law_4 ..) rfl ?_
      refine j_iload_n (pc' := 35) K dX2_inverseAt_34 rfl 2 rfl rfl ?_
      refine j_iconst (pc' := 36) (v := (1 : Int32)) K dX2_inverseAt_35 (by decide) rfl ?_
      refine j_iadd (pc' := 37) K dX2_inverseAt_36 rfl ?_
      refine j_istore_n (pc' := 38) (lv' := [(3, .int (v2 + (1 : Int32))), (0, .ref p0_0), (1, .int v1), (2, .int v2)]) K dX2_inverseAt_37 rfl (by decide) rfl rfl ?_
      refine j_sub [1, 2, 3, 0] rfl ?_
      exact b_X2_inverseAt_38 p0_0 p0_1 p0_2 p0_3 p0_4 p0_5 K hrw HR jFU v1 v2 (v2 + (1 : Int32)) (Law_column_s s0 (vp_updL (Law_column s0) (Int32.toNatClampNeg v2) r30)) h
    · have h := jit hc h
      refine j_ldc2 (pc' := 21) K dX2_inverseAt_18 u_2_70 rfl ?_
      obtain rfl := Option.some.inj h
      exact HR _ _ dX2_inverseAt_21
set_option maxRecDepth 100000 in
set_option maxHeartbeats 4000000 in
theorem M_X2_inverseAt (l : Launch) (G : jG) (p0_0 p0_1 p0_2 p0_3 p0_4 p0_5 : Nat) (v1 : Int32) (v2 : Int32) (s0 : LawS) {r : Int64 × LawS} (h : f_X2_inverseAt v1 v2 s0 = some r) : MC l yX2_inverseAt cX2_inverseAt 6 (some .long) 4 G (jad (wLaw G p0_0 p0_1 p0_2 p0_3 p0_4 p0_5 s0)) True (wLaw G p0_0 p0_1 p0_2 p0_3 p0_4 p0_5 s0) (wLaw G p0_0 p0_1 p0_2 p0_3 p0_4 p0_5 (r.2)) [.ref p0_0, .int v1, .int v2] (some (.long (r.1))) := by
  refine mc_long (by decide +kernel) (Nat.le_of_ble_eq_true rfl) fun E hl hg hA hrw K HR => ?_
  subst hl
  subst hg
  have hrw : jrw E := by rw [hrw]; trivial
  exact b_X2_inverseAt p0_0 p0_1 p0_2 p0_3 p0_4 p0_5 K hrw HR v1 v2 s0 h
theorem ok_X2_restAt : yX2_restAt.cls ≠ "java/lang/invoke/MethodHandle" ∧ yX2_restAt.cls ≠ "java/lang/invoke/VarHandle" ∧ (parseMethodDescriptor yX2_restAt.desc).map (fun d => d.parameters.length) = some 3 := ⟨by decide, by decide, by decide +kernel⟩
def f_X2_restAt_156 (v2 : Int32) (s0 : LawS) : Option (Int32 × LawS) :=
   jgd v2 61 (
   some (((Law_rests s0) (Int32.toNatClampNeg v2)), s0))
def f_X2_restAt_123 (k42 : Int32 → Int32 → Int32 → Int32 → LawS → Option (Int32 × LawS)) (v1 : Int32) (v2 : Int32) (v3 : Int32) (v4 : Int32) (s0 : LawS) : Option (Int32 × LawS) :=
   jbd (f_X2_factor v4 (0 : Int32) (Law_above s0)) (fun r135 =>
   jgd (0 : Int32) 61 (
    jbd (f_J9_floorMod_7cf53 (r135 * ((Law_rests s0) (Int32.toNatClampNeg (0 : Int32)))) v3) (fun r146 =>
     jgd (0 : Int32) 61 (
      k42 v1 v2 v3 (v4 + (1 : Int32)) (Law_rests_s s0 (upd (Law_rests s0) (Int32.toNatClampNeg (0 : Int32)) r146))))))
def f_X2_restAt_56 (k42 : Int32 → Int32 → Int32 → Int32 → LawS → Option (Int32 × LawS)) : Nat → Int32 → Int32 → Int32 → Int32 → Int32 → LawS → Option (Int32 × LawS)
  | 0, _, _, _, _, _, _ => none
  | n + 1, v1, v2, v3, v4, v5, s0 =>
   if v5 ≤ 0 then
   f_X2_restAt_123 k42 v1 v2 v3 v4 s0
  else
   jbd (f_X2_factor v4 v5 (Law_left s0)) (fun r69 =>
    jgd (v5 - (1 : Int32)) 61 (
     jbd (f_X2_factor v4 v5 (Law_above s0)) (fun r90 =>
      jgd v5 61 (
       jbd (f_J9_floorMod_7cf53 ((r69 * ((Law_rests s0) (Int32.toNatClampNeg (v5 - (1 : Int32))))) + (r90 * ((Law_rests s0) (Int32.toNatClampNeg v5)))) v3) (fun r113 =>
        jgd v5 61 (
         (f_X2_restAt_56 k42 n) v1 v2 v3 v4 (v5 + (-1 : Int32)) (Law_rests_s s0 (upd (Law_rests s0) (Int32.toNatClampNeg v5) r113))))))))
def f_X2_restAt_42 : Nat → Int32 → Int32 → Int32 → Int32 → LawS → Option (Int32 × LawS)
  | 0, _, _, _, _, _ => none
  | n + 1, v1, v2, v3, v4, s0 =>
   if v1 < v4 then
   f_X2_restAt_156 v2 s0
  else
   jbd (f_J9_min_7cf53 v4 v2) (fun r51 =>
    f_X2_restAt_56 (f_X2_restAt_42 n) jFU v1 v2 v3 v4 r51 s0)
def f_X2_restAt (v1 : Int32) (v2 : Int32) (v3 : Int32) (s0 : LawS) : Option (Int32 × LawS) :=
   if v3 < (1 : Int32) then
   some ((0 : Int32), s0)
  else
   jbd (f_X11_isPlace v1 v2 (60 : Int32)) (fun r9 =>
    if r9 = 0 then
     some ((0 : Int32), s0)
    else
     jbd (f_J7_fill_53178_n61 (0 : Int32) (Law_rests s0)) (fun r22 =>
      jbd (f_J9_floorMod_7cf53 (Law_top (Law_rests_s s0 r22)) v3) (fun r35 =>
       jgd (0 : Int32) 61 (
        f_X2_restAt_42 jFU v1 v2 v3 (1 : Int32) (Law_rests_s (Law_rests_s s0 r22) (upd (Law_rests (Law_rests_s s0 r22)) (Int32.toNatClampNeg (0 : Int32)) r35))))))
set_option maxRecDepth 100000 in
set_option maxHeartbeats 4000000 in
theorem b_X2_restAt_156 {E : jE} (p0_0 p0_1 p0_2 p0_3 p0_4 p0_5 : Nat) {res : Int32 × LawS} (K : jC E cX2_restAt 7 RX2 2) (hrw : jrw E) (HR : jRI E cX2_restAt 7 (wLaw (jg E) p0_0 p0_1 p0_2 p0_3 p0_4 p0_5 (res.2)) (res.1)) : ∀ (v2 : Int32) (s0 : LawS), f_X2_restAt_156 v2 s0 = some res → J E 7 (wLaw (jg E) p0_0 p0_1 p0_2 p0_3 p0_4 p0_5 s0) 156 [(0, .ref p0_0), (2, .int v2)] [] := by
  intro v2 s0 h
  unfold f_X2_restAt_156 at h
  refine j_aload_n (pc' := 157) K dX2_restAt_156 rfl 0 rfl rfl ?_
  refine j_get (pc' := 160) K dX2_restAt_157 inX2 0 rfl rfl 4 (by decide) u_1_163 rfl rfl rfl ?_
  refine j_iload_n (pc' := 161) K dX2_restAt_160 rfl 1 rfl rfl ?_
  obtain ⟨hg, h⟩ := jgd_some h
  refine j_iald (pc' := 162) K dX2_restAt_161 5 rfl hg rfl ?_
  obtain rfl := Option.some.inj h
  exact HR _ _ dX2_restAt_162
set_option maxRecDepth 100000 in
set_option maxHeartbeats 4000000 in
theorem b_X2_restAt_123 {E : jE} (p0_0 p0_1 p0_2 p0_3 p0_4 p0_5 : Nat) {res : Int32 × LawS} (K : jC E cX2_restAt 7 RX2 2) (hrw : jrw E) (HR : jRI E cX2_restAt 7 (wLaw (jg E) p0_0 p0_1 p0_2 p0_3 p0_4 p0_5 (res.2)) (res.1)) (k42 : Int32 → Int32 → Int32 → Int32 → LawS → Option (Int32 × LawS)) (hk42 : ∀ (v1 : Int32) (v2 : Int32) (v3 : Int32) (v4 : Int32) (s0 : LawS), k42 v1 v2 v3 v4 s0 = some res → J E 7 (wLaw (jg E) p0_0 p0_1 p0_2 p0_3 p0_4 p0_5 s0) 42 [(0, .ref p0_0), (1, .int v1), (2, .int v2), (3, .int v3), (4, .int v4)] []) : ∀ (v1 : Int32) (v2 : Int32) (v3 : Int32) (v4 : Int32) (s0 : LawS), f_X2_restAt_123 k42 v1 v2 v3 v4 s0 = some res → J E 7 (wLaw (jg E) p0_0 p0_1 p0_2 p0_3 p0_4 p0_5 s0) 123 [(0, .ref p0_0), (1, .int v1), (2, .int v2), (3, .int v3), (4, .int v4)] [] := by
  intro v1 v2 v3 v4 s0 h
  unfold f_X2_restAt_123 at h
  refine j_aload_n (pc' := 124) K dX2_restAt_123 rfl 0 rfl rfl ?_
  refine j_get (pc' := 127) K dX2_restAt_124 inX2 0 rfl rfl 4 (by decide) u_1_163 rfl rfl rfl ?_
  refine j_iconst (pc' := 128) (v := (0 : Int32)) K dX2_restAt_127 (by decide) rfl ?_
  refine j_aload_n (pc' := 129) K dX2_restAt_128 rfl 0 rfl rfl ?_
  refine j_get (pc' := 132) K dX2_restAt_129 inX2 0 rfl rfl 1 (by decide) u_1_160 rfl rfl rfl ?_
  refine j_iload (pc' := 134) K dX2_restAt_132 4 rfl rfl ?_
  refine j_iconst (pc' := 135) (v := (0 : Int32)) K dX2_restAt_134 (by decide) rfl ?_
  obtain ⟨r135, hr135, h⟩ := jbd_some h
  refine j_ro (pc' := 138) K (fun H hP => jrun_S K dX2_restAt_135 (M_X2_factor (jl E) (jg E) p0_2 v4 (0 : Int32) (Law_above s0) hr135) u_2_56 u_2_54 u_2_55 u_1_11 ⟨ok_X2_factor, by decide, by decide⟩ rfl (Nat.le_of_ble_eq_true rfl) H) [2] rfl rfl ?_
  refine j_aload_n (pc' := 139) K dX2_restAt_138 rfl 0 rfl rfl ?_
  refine j_get (pc' := 142) K dX2_restAt_139 inX2 0 rfl rfl 4 (by decide) u_1_163 rfl rfl rfl ?_
  refine j_iconst (pc' := 143) (v := (0 : Int32)) K dX2_restAt_142 (by decide) rfl ?_
  obtain ⟨hg, h⟩ := jgd_some h
  refine j_iald (pc' := 144) K dX2_restAt_143 5 rfl hg rfl ?_
  refine j_imul (pc' := 145) K dX2_restAt_144 rfl ?_
  refine j_iload_n (pc' := 146) K dX2_restAt_145 rfl 3 rfl rfl ?_
  obtain ⟨r146, hr146, h⟩ := jbd_some h
  refine j_ro (pc' := 149) K (fun H hP => jrun_S K dX2_restAt_146 (M_J9_floorMod_7cf53 (jl E) (jg E) (r135 * ((Law_rests s0) (Int32.toNatClampNeg (0 : Int32)))) v3 hr146) u_2_147 u_2_145 u_2_146 u_1_15 ⟨ok_J9_floorMod_7cf53, by decide, by decide⟩ rfl (Nat.le_of_ble_eq_true rfl) H) [] rfl rfl ?_
  obtain ⟨hg, h⟩ := jgd_some h
  refine j_iast (pc' := 150) (ws' := (wLaw (jg E) p0_0 p0_1 p0_2 p0_3 p0_4 p0_5 (Law_rests_s s0 (upd (Law_rests s0) (Int32.toNatClampNeg (0 : Int32)) r146)))) K dX2_restAt_149 hrw 5 rfl hg (st_Law_5 ..) rfl ?_
  refine j_iinc (pc' := 153) (j := 4) (v := (v4 + (1 : Int32))) (lv' := [(4, .int (v4 + (1 : Int32))), (0, .ref p0_0), (1, .int v1), (2, .int v2), (3, .int v3)]) K dX2_restAt_150 rfl rfl (by decide) rfl rfl ?_
  refine j_goto (tgt := 42) K dX2_restAt_153 (by decide) ?_
  refine j_sub [1, 2, 3, 4, 0] rfl ?_
  exact hk42 v1 v2 v3 (v4 + (1 : Int32)) (Law_rests_s s0 (upd (Law_rests s0) (Int32.toNatClampNeg (0 : Int32)) r146)) h
set_option maxRecDepth 100000 in
set_option maxHeartbeats 4000000 in
theorem b_X2_restAt_56 {E : jE} (p0_0 p0_1 p0_2 p0_3 p0_4 p0_5 : Nat) {res : Int32 × LawS} (K : jC E cX2_restAt 7 RX2 2) (hrw : jrw E) (HR : jRI E cX2_restAt 7 (wLaw (jg E) p0_0 p0_1 p0_2 p0_3 p0_4 p0_5 (res.2)) (res.1)) (k42 : Int32 → Int32 → Int32 → Int32 → LawS → Option (Int32 × LawS)) (hk42 : ∀ (v1 : Int32) (v2 : Int32) (v3 : Int32) (v4 : Int32) (s0 : LawS), k42 v1 v2 v3 v4 s0 = some res → J E 7 (wLaw (jg E) p0_0 p0_1 p0_2 p0_3 p0_4 p0_5 s0) 42 [(0, .ref p0_0), (1, .int v1), (2, .int v2), (3, .int v3), (4, .int v4)] []) : ∀ (n : Nat) (v1 : Int32) (v2 : Int32) (v3 : Int32) (v4 : Int32) (v5 : Int32) (s0 : LawS), f_X2_restAt_56 k42 n v1 v2 v3 v4 v5 s0 = some res → J E 7 (wLaw (jg E) p0_0 p0_1 p0_2 p0_3 p0_4 p0_5 s0) 56 [(0, .ref p0_0), (1, .int v1), (2, .int v2), (3, .int v3), (4, .int v4), (5, .int v5)] [] := by
  intro n
  induction n with
  | zero => intro _ _ _ _ _ _ h; cases h
  | succ n ih =>
    intro v1 v2 v3 v4 v5 s0 h
    rw [f_X2_restAt_56] at h
    refine j_iload (pc' := 58) K dX2_restAt_56 5 rfl rfl ?_
    refine j_if_le (pc' := 61) (tgt := 123) K dX2_restAt_58 (by decide) rfl (fun hc => ?_) (fun hc => ?_)
    · have h := jit hc h
      refine j_sub [0, 1, 2, 3, 4] rfl ?_
      exact b_X2_restAt_123 p0_0 p0_1 p0_2 p0_3 p0_4 p0_5 K hrw HR k42 hk42 v1 v2 v3 v4 s0 h
    · have h := jif hc h
      refine j_aload_n (pc' := 62) K dX2_restAt_61 rfl 0 rfl rfl ?_
      refine j_get (pc' := 65) K dX2_restAt_62 inX2 0 rfl rfl 0 (by decide) u_1_159 rfl rfl rfl ?_
      refine j_iload (pc' := 67) K dX2_restAt_65 4 rfl rfl ?_
      refine j_iload (pc' := 69) K dX2_restAt_67 5 rfl rfl ?_
      obtain ⟨r69, hr69, h⟩ := jbd_some h
      refine j_ro (pc' := 72) K (fun H hP => jrun_S K dX2_restAt_69 (M_X2_factor (jl E) (jg E) p0_1 v4 v5 (Law_left s0) hr69) u_2_56 u_2_54 u_2_55 u_1_11 ⟨ok_X2_factor, by decide, by decide⟩ rfl (Nat.le_of_ble_eq_true rfl) H) [1] rfl rfl ?_
      refine j_aload_n (pc' := 73) K dX2_restAt_72 rfl 0 rfl rfl ?_
      refine j_get (pc' := 76) K dX2_restAt_73 inX2 0 rfl rfl 4 (by decide) u_1_163 rfl rfl rfl ?_
      refine j_iload (pc' := 78) K dX2_restAt_76 5 rfl rfl ?_
      refine j_iconst (pc' := 79) (v := (1 : Int32)) K dX2_restAt_78 (by decide) rfl ?_
      refine j_isub (pc' := 80) K dX2_restAt_79 rfl ?_
      obtain ⟨hg, h⟩ := jgd_some h
      refine j_iald (pc' := 81) K dX2_restAt_80 5 rfl hg rfl ?_
      refine j_imul (pc' := 82) K dX2_restAt_81 rfl ?_
      refine j_aload_n (pc' := 83) K dX2_restAt_82 rfl 0 rfl rfl ?_
      refine j_get (pc' := 86) K dX2_restAt_83 inX2 0 rfl rfl 1 (by decide) u_1_160 rfl rfl rfl ?_
      refine j_iload (pc' := 88) K dX2_restAt_86 4 rfl rfl ?_
      refine j_iload (pc' := 90) K dX2_restAt_88 5 rfl rfl ?_
      obtain ⟨r90, hr90, h⟩ := jbd_some h
      refine j_ro (pc' := 93) K (fun H hP => jrun_S K dX2_restAt_90 (M_X2_factor (jl E) (jg E) p0_2 v4 v5 (Law_above s0) hr90) u_2_56 u_2_54 u_2_55 u_1_11 ⟨ok_X2_factor, by decide, by decide⟩ rfl (Nat.le_of_ble_eq_true rfl) H) [2] rfl rfl ?_
      refine j_aload_n (pc' := 94) K dX2_restAt_93 rfl 0 rfl rfl ?_
      refine j_get (pc' := 97) K dX2_restAt_94 inX2 0 rfl rfl 4 (by decide) u_1_163 rfl rfl rfl ?_
      refine j_iload (pc' := 99) K dX2_restAt_97 5 rfl rfl ?_
      obtain ⟨hg, h⟩ := jgd_some h
      refine j_iald (pc' := 100) K dX2_restAt_99 5 rfl hg rfl ?_
      refine j_imul (pc' := 101) K dX2_restAt_100 rfl ?_
      refine j_iadd (pc' := 102) K dX2_restAt_101 rfl ?_
      refine j_istore (pc' := 104) (lv' := [(6, .int ((r69 * ((Law_rests s0) (Int32.toNatClampNeg (v5 - (1 : Int32))))) + (r90 * ((Law_rests s0) (Int32.toNatClampNeg v5))))), (0, .ref p0_0), (1, .int v1), (2, .int v2), (3, .int v3), (4, .int v4), (5, .int v5)]) K dX2_restAt_102 (by decide) rfl rfl ?_
      refine j_aload_n (pc' := 105) K dX2_restAt_104 rfl 1 rfl rfl ?_
      refine j_get (pc' := 108) K dX2_restAt_105 inX2 0 rfl rfl 4 (by decide) u_1_163 rfl rfl rfl ?_
      refine j_iload (pc' := 110) K dX2_restAt_108 6 rfl rfl ?_
      refine j_iload (pc' := 112) K dX2_restAt_110 0 rfl rfl ?_
      refine j_iload_n (pc' := 113) K dX2_restAt_112 rfl 4 rfl rfl ?_
      obtain ⟨r113, hr113, h⟩ := jbd_some h
      refine j_ro (pc' := 116) K (fun H hP => jrun_S K dX2_restAt_113 (M_J9_floorMod_7cf53 (jl E) (jg E) ((r69 * ((Law_rests s0) (Int32.toNatClampNeg (v5 - (1 : Int32))))) + (r90 * ((Law_rests s0) (Int32.toNatClampNeg v5)))) v3 hr113) u_2_147 u_2_145 u_2_146 u_1_15 ⟨ok_J9_floorMod_7cf53, by decide, by decide⟩ rfl (Nat.le_of_ble_eq_true rfl) H) [] rfl rfl ?_
      obtain ⟨hg, h⟩ := jgd_some h
      refine j_iast (pc' := 117) (ws' := (wLaw (jg E) p0_0 p0_1 p0_2 p0_3 p0_4 p0_5 (Law_rests_s s0 (upd (Law_rests s0) (Int32.toNatClampNeg v5) r113)))) K dX2_restAt_116 hrw 5 rfl hg (st_Law_5 ..) rfl ?_
      refine j_iinc (pc' := 120) (j := 6) (v := (v5 + (-1 : Int32))) (lv' := [(5, .int (v5 + (-1 : Int32))), (6, .int ((r69 * ((Law_rests s0) (Int32.toNatClampNeg (v5 - (1 : Int32))))) + (r90 * ((Law_rests s0) (Int32.toNatClampNeg v5))))), (0, .ref p0_0), (1, .int v1), (2, .int v2), (3, .int v3), (4, .int v4)]) K dX2_restAt_117 rfl rfl (by decide) rfl rfl ?_
      refine j_goto (tgt := 56) K dX2_restAt_120 (by decide) ?_
      refine j_sub [2, 3, 4, 5, 6, 0] rfl ?_
      exact ih v1 v2 v3 v4 (v5 + (-1 : Int32)) (Law_rests_s s0 (upd (Law_rests s0) (Int32.toNatClampNeg v5) r113)) h
set_option maxRecDepth 100000 in
set_option maxHeartbeats 4000000 in
theorem b_X2_restAt_42 {E : jE} (p0_0 p0_1 p0_2 p0_3 p0_4 p0_5 : Nat) {res : Int32 × LawS} (K : jC E cX2_restAt 7 RX2 2) (hrw : jrw E) (HR : jRI E cX2_restAt 7 (wLaw (jg E) p0_0 p0_1 p0_2 p0_3 p0_4 p0_5 (res.2)) (res.1)) : ∀ (n : Nat) (v1 : Int32) (v2 : Int32) (v3 : Int32) (v4 : Int32) (s0 : LawS), f_X2_restAt_42 n v1 v2 v3 v4 s0 = some res → J E 7 (wLaw (jg E) p0_0 p0_1 p0_2 p0_3 p0_4 p0_5 s0) 42 [(0, .ref p0_0), (1, .int v1), (2, .int v2), (3, .int v3), (4, .int v4)] [] := by
  intro n
  induction n with
  | zero => intro _ _ _ _ _ h; cases h
  | succ n ih =>
    intro v1 v2 v3 v4 s0 h
    rw [f_X2_restAt_42] at h
    refine j_iload (pc' := 44) K dX2_restAt_42 4 rfl rfl ?_
    refine j_iload_n (pc' := 45) K dX2_restAt_44 rfl 1 rfl rfl ?_
    refine j_icmp_gt (pc' := 48) (tgt := 156) K dX2_restAt_45 (by decide) rfl (fun hc => ?_) (fun hc => ?_)
    · have h := jit hc h
      refine j_sub [0, 2] rfl ?_
      exact b_X2_restAt_156 p0_0 p0_1 p0_2 p0_3 p0_4 p0_5 K hrw HR v2 s0 h
    · have h := jif hc h
      refine j_iload (pc' := 50) K dX2_restAt_48 4 rfl rfl ?_
      refine j_iload_n (pc' := 51) K dX2_restAt_50 rfl 2 rfl rfl ?_
      obtain ⟨r51, hr51, h⟩ := jbd_some h
      refine j_ro (pc' := 54) K (fun H hP => jrun_S K dX2_restAt_51 (M_J9_min_7cf53 (jl E) (jg E) v4 v2 hr51) u_2_150 u_2_148 u_2_149 u_1_15 ⟨ok_J9_min_7cf53, by decide, by decide⟩ rfl (Nat.le_of_ble_eq_true rfl) H) [] rfl rfl ?_
      refine j_istore (pc' := 56) (lv' := [(5, .int r51), (0, .ref p0_0), (1, .int v1), (2, .int v2), (3, .int v3), (4, .int v4)]) K dX2_restAt_54 (by decide) rfl rfl ?_
      refine j_sub [1, 2, 3, 4, 5, 0] rfl ?_
      exact b_X2_restAt_56 p0_0 p0_1 p0_2 p0_3 p0_4 p0_5 K hrw HR (f_X2_restAt_42 n) (ih) jFU v1 v2 v3 v4 r51 s0 h
set_option maxRecDepth 100000 in
set_option maxHeartbeats 4000000 in
theorem b_X2_restAt {E : jE} (p0_0 p0_1 p0_2 p0_3 p0_4 p0_5 : Nat) {res : Int32 × LawS} (K : jC E cX2_restAt 7 RX2 2) (hrw : jrw E) (HR : jRI E cX2_restAt 7 (wLaw (jg E) p0_0 p0_1 p0_2 p0_3 p0_4 p0_5 (res.2)) (res.1)) : ∀ (v1 : Int32) (v2 : Int32) (v3 : Int32) (s0 : LawS), f_X2_restAt v1 v2 v3 s0 = some res → J E 7 (wLaw (jg E) p0_0 p0_1 p0_2 p0_3 p0_4 p0_5 s0) 0 [(0, .ref p0_0), (1, .int v1), (2, .int v2), (3, .int v3)] [] := by
  intro v1 v2 v3 s0 h
  unfold f_X2_restAt at h
  refine j_iload_n (pc' := 1) K dX2_restAt_0 rfl 3 rfl rfl ?_
  refine j_iconst (pc' := 2) (v := (1 : Int32)) K dX2_restAt_1 (by decide) rfl ?_
  refine j_icmp_lt (pc' := 5) (tgt := 15) K dX2_restAt_2 (by decide) rfl (fun hc => ?_) (fun hc => ?_)
  · have h := jit hc h
    refine j_iconst (pc' := 16) (v := (0 : Int32)) K dX2_restAt_15 (by decide) rfl ?_
    obtain rfl := Option.some.inj h
    exact HR _ _ dX2_restAt_16
  · have h := jif hc h
    refine j_iload_n (pc' := 6) K dX2_restAt_5 rfl 1 rfl rfl ?_
    refine j_iload_n (pc' := 7) K dX2_restAt_6 rfl 2 rfl rfl ?_
    refine j_bipush (pc' := 9) (v := (60 : Int32)) K dX2_restAt_7 (by decide) rfl ?_
    obtain ⟨r9, hr9, h⟩ := jbd_some h
    refine j_ro (pc' := 12) K (fun H hP => jrun_SN K dX2_restAt_9 (host := "CountTriangles") (M_X11_isPlace (jl E) (jg E) v1 v2 (60 : Int32) hr9) u_2_63 (by decide) u_2_62 u_1_1 ⟨ok_X11_isPlace, by decide, by decide⟩ rfl (Nat.le_of_ble_eq_true rfl) H) [] rfl rfl ?_
    refine j_if_ne (pc' := 15) (tgt := 17) K dX2_restAt_12 (by decide) rfl (fun hc => ?_) (fun hc => ?_)
    · have h := jif hc h
      refine j_aload_n (pc' := 18) K dX2_restAt_17 rfl 0 rfl rfl ?_
      refine j_get (pc' := 21) K dX2_restAt_18 inX2 0 rfl rfl 4 (by decide) u_1_163 rfl rfl rfl ?_
      refine j_iconst (pc' := 22) (v := (0 : Int32)) K dX2_restAt_21 (by decide) rfl ?_
      obtain ⟨r22, hr22, h⟩ := jbd_some h
      refine j_rw (pc' := 25) (ws' := (wLaw (jg E) p0_0 p0_1 p0_2 p0_3 p0_4 p0_5 (Law_rests_s s0 r22))) K (fun H hP => jrun_S K dX2_restAt_22 (M_J7_fill_53178_n61 (jl E) (jg E) p0_5 (0 : Int32) (Law_rests s0) hr22) u_2_30 u_2_28 u_2_29 u_1_14 ⟨ok_J7_fill_53178, by decide, by decide⟩ rfl (Nat.le_of_ble_eq_true rfl) H) hrw [5] rfl rfl rfl rfl rfl rfl ?_
      refine j_aload_n (pc' := 26) K dX2_restAt_25 rfl 0 rfl rfl ?_
      refine j_get (pc' := 29) K dX2_restAt_26 inX2 0 rfl rfl 4 (by decide) u_1_163 rfl rfl rfl ?_
      refine j_iconst (pc' := 30) (v := (0 : Int32)) K dX2_restAt_29 (by decide) rfl ?_
      refine j_aload_n (pc' := 31) K dX2_restAt_30 rfl 0 rfl rfl ?_
      refine j_get (pc' := 34) K dX2_restAt_31 inX2 0 rfl rfl 5 (by decide) u_1_164 rfl rfl rfl ?_
      refine j_iload_n (pc' := 35) K dX2_restAt_34 rfl 3 rfl rfl ?_
      obtain ⟨r35, hr35, h⟩ := jbd_some h
      refine j_ro (pc' := 38) K (fun H hP => jrun_S K dX2_restAt_35 (M_J9_floorMod_7cf53 (jl E) (jg E) (Law_top (Law_rests_s s0 r22)) v3 hr35) u_2_147 u_2_145 u_2_146 u_1_15 ⟨ok_J9_floorMod_7cf53, by decide, by decide⟩ rfl (Nat.le_of_ble_eq_true rfl) H) [] rfl rfl ?_
      obtain ⟨hg, h⟩ := jgd_some h
      refine j_iast (pc' := 39) (ws' := (wLaw (jg E) p0_0 p0_1 p0_2 p0_3 p0_4 p0_5 (Law_rests_s (Law_rests_s s0 r22) (upd (Law_rests (Law_rests_s s0 r22)) (Int32.toNatClampNeg (0 : Int32)) r35)))) K dX2_restAt_38 hrw 5 rfl hg (st_Law_5 ..) rfl ?_
      refine j_iconst (pc' := 40) (v := (1 : Int32)) K dX2_restAt_39 (by decide) rfl ?_
      refine j_istore (pc' := 42) (lv' := [(4, .int (1 : Int32)), (0, .ref p0_0), (1, .int v1), (2, .int v2), (3, .int v3)]) K dX2_restAt_40 (by decide) rfl rfl ?_
      refine j_sub [1, 2, 3, 4, 0] rfl ?_
      exact b_X2_restAt_42 p0_0 p0_1 p0_2 p0_3 p0_4 p0_5 K hrw HR jFU v1 v2 v3 (1 : Int32) (Law_rests_s (Law_rests_s s0 r22) (upd (Law_rests (Law_rests_s s0 r22)) (Int32.toNatClampNeg (0 : Int32)) r35)) h
    · have h := jit hc h
      refine j_iconst (pc' := 16) (v := (0 : Int32)) K dX2_restAt_15 (by decide) rfl ?_
      obtain rfl := Option.some.inj h
      exact HR _ _ dX2_restAt_16
set_option maxRecDepth 100000 in
set_option maxHeartbeats 4000000 in
theorem M_X2_restAt (l : Launch) (G : jG) (p0_0 p0_1 p0_2 p0_3 p0_4 p0_5 : Nat) (v1 : Int32) (v2 : Int32) (v3 : Int32) (s0 : LawS) {r : Int32 × LawS} (h : f_X2_restAt v1 v2 v3 s0 = some r) : MC l yX2_restAt cX2_restAt 7 (some .int) 2 G (jad (wLaw G p0_0 p0_1 p0_2 p0_3 p0_4 p0_5 s0)) True (wLaw G p0_0 p0_1 p0_2 p0_3 p0_4 p0_5 s0) (wLaw G p0_0 p0_1 p0_2 p0_3 p0_4 p0_5 (r.2)) [.ref p0_0, .int v1, .int v2, .int v3] (some (.int (r.1))) := by
  refine mc_int (by decide +kernel) (Nat.le_of_ble_eq_true rfl) fun E hl hg hA hrw K HR => ?_
  subst hl
  subst hg
  have hrw : jrw E := by rw [hrw]; trivial
  exact b_X2_restAt p0_0 p0_1 p0_2 p0_3 p0_4 p0_5 K hrw HR v1 v2 v3 s0 h
theorem ok_X2_madeOfAbove : yX2_madeOfAbove.cls ≠ "java/lang/invoke/MethodHandle" ∧ yX2_madeOfAbove.cls ≠ "java/lang/invoke/VarHandle" ∧ (parseMethodDescriptor yX2_madeOfAbove.desc).map (fun d => d.parameters.length) = some 2 := ⟨by decide, by decide, by decide +kernel⟩
def f_X2_madeOfAbove (v1 : Int32) (v2 : Int32) (s0 : LawS) : Option (Int64) :=
   jbd (f_X2_factor v1 v2 (Law_left s0)) (fun r6 =>
   jbd (f_X2_numberAt (v1 - (1 : Int32)) (v2 - (1 : Int32)) s0) (fun r16 =>
    jbd (f_X2_part r6 r16) (fun r19 =>
     jbd (f_X2_factor v1 v2 (Law_above s0)) (fun r29 =>
      jbd (f_X2_numberAt (v1 - (1 : Int32)) v2 s0) (fun r37 =>
       jbd (f_X2_part r29 r37) (fun r40 =>
        if (lg_cmp r19 (-9000000000000000000 : Int64)) = 0 then
         some (-9000000000000000000 : Int64)
        else
         if (lg_cmp r40 (-9000000000000000000 : Int64)) = 0 then
          some (-9000000000000000000 : Int64)
         else
          jbd (f_X2_limited (r19 + r40)) (fun r70 =>
           some r70)))))))
set_option maxRecDepth 100000 in
set_option maxHeartbeats 4000000 in
theorem b_X2_madeOfAbove {E : jE} (p0_0 p0_1 p0_2 p0_3 p0_4 p0_5 : Nat) (s0 : LawS) {res : Int64} (K : jC E cX2_madeOfAbove 7 RX2 3) (HR : jRL E cX2_madeOfAbove 7 (wLaw (jg E) p0_0 p0_1 p0_2 p0_3 p0_4 p0_5 s0) res) : ∀ (v1 : Int32) (v2 : Int32), f_X2_madeOfAbove v1 v2 s0 = some res → J E 7 (wLaw (jg E) p0_0 p0_1 p0_2 p0_3 p0_4 p0_5 s0) 0 [(0, .ref p0_0), (1, .int v1), (2, .int v2)] [] := by
  intro v1 v2 h
  unfold f_X2_madeOfAbove at h
  refine j_aload_n (pc' := 1) K dX2_madeOfAbove_0 rfl 0 rfl rfl ?_
  refine j_get (pc' := 4) K dX2_madeOfAbove_1 inX2 0 rfl rfl 0 (by decide) u_1_159 rfl rfl rfl ?_
  refine j_iload_n (pc' := 5) K dX2_madeOfAbove_4 rfl 1 rfl rfl ?_
  refine j_iload_n (pc' := 6) K dX2_madeOfAbove_5 rfl 2 rfl rfl ?_
  obtain ⟨r6, hr6, h⟩ := jbd_some h
  refine j_ro (pc' := 9) K (fun H hP => jrun_S K dX2_madeOfAbove_6 (M_X2_factor (jl E) (jg E) p0_1 v1 v2 (Law_left s0) hr6) u_2_56 u_2_54 u_2_55 u_1_11 ⟨ok_X2_factor, by decide, by decide⟩ rfl (Nat.le_of_ble_eq_true rfl) H) [1] rfl rfl ?_
  refine j_aload_n (pc' := 10) K dX2_madeOfAbove_9 rfl 0 rfl rfl ?_
  refine j_iload_n (pc' := 11) K dX2_madeOfAbove_10 rfl 1 rfl rfl ?_
  refine j_iconst (pc' := 12) (v := (1 : Int32)) K dX2_madeOfAbove_11 (by decide) rfl ?_
  refine j_isub (pc' := 13) K dX2_madeOfAbove_12 rfl ?_
  refine j_iload_n (pc' := 14) K dX2_madeOfAbove_13 rfl 2 rfl rfl ?_
  refine j_iconst (pc' := 15) (v := (1 : Int32)) K dX2_madeOfAbove_14 (by decide) rfl ?_
  refine j_isub (pc' := 16) K dX2_madeOfAbove_15 rfl ?_
  obtain ⟨r16, hr16, h⟩ := jbd_some h
  refine j_ro (pc' := 19) K (fun H hP => jrun_V K dX2_madeOfAbove_16 (M_X2_numberAt (jl E) (jg E) p0_0 p0_1 p0_2 p0_3 p0_4 p0_5 (v1 - (1 : Int32)) (v2 - (1 : Int32)) s0 hr16) u_2_60 u_2_57 u_2_58 u_2_59 u_1_11 ⟨ok_X2_numberAt, by decide, by decide⟩ rfl (Nat.le_of_ble_eq_true rfl) 0 rfl rfl H hP) [0, 1, 2, 3, 4, 5] rfl rfl ?_
  obtain ⟨r19, hr19, h⟩ := jbd_some h
  refine j_ro (pc' := 22) K (fun H hP => jrun_S K dX2_madeOfAbove_19 (M_X2_part (jl E) (jg E) r6 r16 hr19) u_2_66 u_2_64 u_2_65 u_1_11 ⟨ok_X2_part, by decide, by decide⟩ rfl (Nat.le_of_ble_eq_true rfl) H) [] rfl rfl ?_
  refine j_lstore_n (pc' := 23) (lv' := [(3, .long r19), (0, .ref p0_0), (1, .int v1), (2, .int v2)]) K dX2_madeOfAbove_22 rfl (by decide) rfl rfl ?_
  refine j_aload_n (pc' := 24) K dX2_madeOfAbove_23 rfl 1 rfl rfl ?_
  refine j_get (pc' := 27) K dX2_madeOfAbove_24 inX2 0 rfl rfl 1 (by decide) u_1_160 rfl rfl rfl ?_
  refine j_iload_n (pc' := 28) K dX2_madeOfAbove_27 rfl 2 rfl rfl ?_
  refine j_iload_n (pc' := 29) K dX2_madeOfAbove_28 rfl 3 rfl rfl ?_
  obtain ⟨r29, hr29, h⟩ := jbd_some h
  refine j_ro (pc' := 32) K (fun H hP => jrun_S K dX2_madeOfAbove_29 (M_X2_factor (jl E) (jg E) p0_2 v1 v2 (Law_above s0) hr29) u_2_56 u_2_54 u_2_55 u_1_11 ⟨ok_X2_factor, by decide, by decide⟩ rfl (Nat.le_of_ble_eq_true rfl) H) [2] rfl rfl ?_
  refine j_aload_n (pc' := 33) K dX2_madeOfAbove_32 rfl 1 rfl rfl ?_
  refine j_iload_n (pc' := 34) K dX2_madeOfAbove_33 rfl 2 rfl rfl ?_
  refine j_iconst (pc' := 35) (v := (1 : Int32)) K dX2_madeOfAbove_34 (by decide) rfl ?_
  refine j_isub (pc' := 36) K dX2_madeOfAbove_35 rfl ?_
  refine j_iload_n (pc' := 37) K dX2_madeOfAbove_36 rfl 3 rfl rfl ?_
  obtain ⟨r37, hr37, h⟩ := jbd_some h
  refine j_ro (pc' := 40) K (fun H hP => jrun_V K dX2_madeOfAbove_37 (M_X2_numberAt (jl E) (jg E) p0_0 p0_1 p0_2 p0_3 p0_4 p0_5 (v1 - (1 : Int32)) v2 s0 hr37) u_2_60 u_2_57 u_2_58 u_2_59 u_1_11 ⟨ok_X2_numberAt, by decide, by decide⟩ rfl (Nat.le_of_ble_eq_true rfl) 0 rfl rfl H hP) [0, 1, 2, 3, 4, 5] rfl rfl ?_
  obtain ⟨r40, hr40, h⟩ := jbd_some h
  refine j_ro (pc' := 43) K (fun H hP => jrun_S K dX2_madeOfAbove_40 (M_X2_part (jl E) (jg E) r29 r37 hr40) u_2_66 u_2_64 u_2_65 u_1_11 ⟨ok_X2_part, by decide, by decide⟩ rfl (Nat.le_of_ble_eq_true rfl) H) [] rfl rfl ?_
  refine j_lstore (pc' := 45) (lv' := [(5, .long r40), (3, .long r19), (0, .ref p0_0), (1, .int v1), (2, .int v2)]) K dX2_madeOfAbove_43 (by decide) rfl rfl ?_
  refine j_lload_n (pc' := 46) K dX2_madeOfAbove_45 rfl 1 rfl rfl ?_
  refine j_ldc2 (pc' := 49) K dX2_madeOfAbove_46 u_2_70 rfl ?_
  refine j_lcmp (pc' := 50) K dX2_madeOfAbove_49 rfl ?_
  refine j_if_eq (pc' := 53) (tgt := 62) K dX2_madeOfAbove_50 (by decide) rfl (fun hc => ?_) (fun hc => ?_)
  · have h := jit hc h
    refine j_ldc2 (pc' := 65) K dX2_madeOfAbove_62 u_2_70 rfl ?_
    obtain rfl := Option.some.inj h
    exact HR _ _ dX2_madeOfAbove_65
  · have h := jif hc h
    refine j_lload (pc' := 55) K dX2_madeOfAbove_53 0 rfl rfl ?_
    refine j_ldc2 (pc' := 58) K dX2_madeOfAbove_55 u_2_70 rfl ?_
    refine j_lcmp (pc' := 59) K dX2_madeOfAbove_58 rfl ?_
    refine j_if_ne (pc' := 62) (tgt := 66) K dX2_madeOfAbove_59 (by decide) rfl (fun hc => ?_) (fun hc => ?_)
    · have h := jif hc h
      refine j_lload_n (pc' := 67) K dX2_madeOfAbove_66 rfl 1 rfl rfl ?_
      refine j_lload (pc' := 69) K dX2_madeOfAbove_67 0 rfl rfl ?_
      refine j_ladd (pc' := 70) K dX2_madeOfAbove_69 rfl ?_
      obtain ⟨r70, hr70, h⟩ := jbd_some h
      refine j_ro (pc' := 73) K (fun H hP => jrun_S K dX2_madeOfAbove_70 (M_X2_limited (jl E) (jg E) (r19 + r40) hr70) u_2_77 u_2_75 u_2_76 u_1_11 ⟨ok_X2_limited, by decide, by decide⟩ rfl (Nat.le_of_ble_eq_true rfl) H) [] rfl rfl ?_
      obtain rfl := Option.some.inj h
      exact HR _ _ dX2_madeOfAbove_73
    · have h := jit hc h
      refine j_ldc2 (pc' := 65) K dX2_madeOfAbove_62 u_2_70 rfl ?_
      obtain rfl := Option.some.inj h
      exact HR _ _ dX2_madeOfAbove_65
set_option maxRecDepth 100000 in
set_option maxHeartbeats 4000000 in
theorem M_X2_madeOfAbove (l : Launch) (G : jG) (p0_0 p0_1 p0_2 p0_3 p0_4 p0_5 : Nat) (v1 : Int32) (v2 : Int32) (s0 : LawS) {r : Int64} (h : f_X2_madeOfAbove v1 v2 s0 = some r) : MC l yX2_madeOfAbove cX2_madeOfAbove 7 (some .long) 3 G jNo False (wLaw G p0_0 p0_1 p0_2 p0_3 p0_4 p0_5 s0) (wLaw G p0_0 p0_1 p0_2 p0_3 p0_4 p0_5 s0) [.ref p0_0, .int v1, .int v2] (some (.long r)) := by
  refine mc_long (by decide +kernel) (Nat.le_of_ble_eq_true rfl) fun E hl hg hA hrw K HR => ?_
  subst hl
  subst hg
  exact b_X2_madeOfAbove p0_0 p0_1 p0_2 p0_3 p0_4 p0_5 s0 K HR v1 v2 h
theorem ok_X2_fillNumbers : yX2_fillNumbers.cls ≠ "java/lang/invoke/MethodHandle" ∧ yX2_fillNumbers.cls ≠ "java/lang/invoke/VarHandle" ∧ (parseMethodDescriptor yX2_fillNumbers.desc).map (fun d => d.parameters.length) = some 0 := ⟨by decide, by decide, by decide +kernel⟩
def f_X2_fillNumbers_58 (k15 : Int32 → Int32 → LawS → Option (LawS)) (v1 : Int32) (v2 : Int32) (s0 : LawS) : Option (LawS) :=
   k15 v1 (v2 + (1 : Int32)) s0
def f_X2_fillNumbers_23 (k15 : Int32 → Int32 → LawS → Option (LawS)) : Nat → Int32 → Int32 → Int32 → LawS → Option (LawS)
  | 0, _, _, _, _ => none
  | n + 1, v1, v2, v3, s0 =>
   if v2 < v3 then
   f_X2_fillNumbers_58 k15 v1 v2 s0
  else
   if (325 : Int32) ≤ v1 then
    f_X2_fillNumbers_58 k15 v1 v2 s0
   else
    jbd (f_X2_madeOfAbove v2 v3 s0) (fun r45 =>
     jgd v1 325 (
      (f_X2_fillNumbers_23 k15 n) (v1 + (1 : Int32)) v2 (v3 + (1 : Int32)) (Law_numbers_s s0 (vp_updL (Law_numbers s0) (Int32.toNatClampNeg v1) r45))))
def f_X2_fillNumbers_15 : Nat → Int32 → Int32 → LawS → Option (LawS)
  | 0, _, _, _ => none
  | n + 1, v1, v2, s0 =>
   if (24 : Int32) < v2 then
   some s0
  else
   f_X2_fillNumbers_23 (f_X2_fillNumbers_15 n) jFU v1 v2 (0 : Int32) s0
def f_X2_fillNumbers (s0 : LawS) : Option (LawS) :=
   jgd (0 : Int32) 325 (
   f_X2_fillNumbers_15 jFU (1 : Int32) (1 : Int32) (Law_numbers_s s0 (vp_updL (Law_numbers s0) (Int32.toNatClampNeg (0 : Int32)) (Int32.toInt64 (Law_top s0)))))
set_option maxRecDepth 100000 in
set_option maxHeartbeats 4000000 in
theorem b_X2_fillNumbers_58 {E : jE} (p0_0 p0_1 p0_2 p0_3 p0_4 p0_5 : Nat) {res : LawS} (K : jC E cX2_fillNumbers 4 RX2 4) (hrw : jrw E) (HR : jRV E cX2_fillNumbers 4 (wLaw (jg E) p0_0 p0_1 p0_2 p0_3 p0_4 p0_5 res)) (k15 : Int32 → Int32 → LawS → Option (LawS)) (hk15 : ∀ (v1 : Int32) (v2 : Int32) (s0 : LawS), k15 v1 v2 s0 = some res → J E 4 (wLaw (jg E) p0_0 p0_1 p0_2 p0_3 p0_4 p0_5 s0) 15 [(0, .ref p0_0), (1, .int v1), (2, .int v2)] []) : ∀ (v1 : Int32) (v2 : Int32) (s0 : LawS), f_X2_fillNumbers_58 k15 v1 v2 s0 = some res → J E 4 (wLaw (jg E) p0_0 p0_1 p0_2 p0_3 p0_4 p0_5 s0) 58 [(0, .ref p0_0), (1, .int v1), (2, .int v2)] [] := by
  intro v1 v2 s0 h
  unfold f_X2_fillNumbers_58 at h
  refine j_iinc (pc' := 61) (j := 2) (v := (v2 + (1 : Int32))) (lv' := [(2, .int (v2 + (1 : Int32))), (0, .ref p0_0), (1, .int v1)]) K dX2_fillNumbers_58 rfl rfl (by decide) rfl rfl ?_
  refine j_goto (tgt := 15) K dX2_fillNumbers_61 (by decide) ?_
  refine j_sub [1, 2, 0] rfl ?_
  exact hk15 v1 (v2 + (1 : Int32)) s0 h
set_option maxRecDepth 100000 in
set_option maxHeartbeats 4000000 in
theorem b_X2_fillNumbers_23 {E : jE} (p0_0 p0_1 p0_2 p0_3 p0_4 p0_5 : Nat) {res : LawS} (K : jC E cX2_fillNumbers 4 RX2 4) (hrw : jrw E) (HR : jRV E cX2_fillNumbers 4 (wLaw (jg E) p0_0 p0_1 p0_2 p0_3 p0_4 p0_5 res)) (k15 : Int32 → Int32 → LawS → Option (LawS)) (hk15 : ∀ (v1 : Int32) (v2 : Int32) (s0 : LawS), k15 v1 v2 s0 = some res → J E 4 (wLaw (jg E) p0_0 p0_1 p0_2 p0_3 p0_4 p0_5 s0) 15 [(0, .ref p0_0), (1, .int v1), (2, .int v2)] []) : ∀ (n : Nat) (v1 : Int32) (v2 : Int32) (v3 : Int32) (s0 : LawS), f_X2_fillNumbers_23 k15 n v1 v2 v3 s0 = some res → J E 4 (wLaw (jg E) p0_0 p0_1 p0_2 p0_3 p0_4 p0_5 s0) 23 [(0, .ref p0_0), (1, .int v1), (2, .int v2), (3, .int v3)] [] := by
  intro n
  induction n with
  | zero => intro _ _ _ _ h; cases h
  | succ n ih =>
    intro v1 v2 v3 s0 h
    rw [f_X2_fillNumbers_23] at h
    refine j_iload_n (pc' := 24) K dX2_fillNumbers_23 rfl 3 rfl rfl ?_
    refine j_iload_n (pc' := 25) K dX2_fillNumbers_24 rfl 2 rfl rfl ?_
    refine j_icmp_gt (pc' := 28) (tgt := 58) K dX2_fillNumbers_25 (by decide) rfl (fun hc => ?_) (fun hc => ?_)
    · have h := jit hc h
      refine j_sub [0, 1, 2] rfl ?_
      exact b_X2_fillNumbers_58 p0_0 p0_1 p0_2 p0_3 p0_4 p0_5 K hrw HR k15 hk15 v1 v2 s0 h
    · have h := jif hc h
      refine j_iload_n (pc' := 29) K dX2_fillNumbers_28 rfl 1 rfl rfl ?_
      refine j_aload_n (pc' := 30) K dX2_fillNumbers_29 rfl 0 rfl rfl ?_
      refine j_get (pc' := 33) K dX2_fillNumbers_30 inX2 0 rfl rfl 2 (by decide) u_1_161 rfl rfl rfl ?_
      refine j_alen (pc' := 34) (v := (325 : Int32)) K dX2_fillNumbers_33 3 1 rfl rfl rfl rfl ?_
      refine j_icmp_ge (pc' := 37) (tgt := 58) K dX2_fillNumbers_34 (by decide) rfl (fun hc => ?_) (fun hc => ?_)
      · have h := jit hc h
        refine j_sub [0, 1, 2] rfl ?_
        exact b_X2_fillNumbers_58 p0_0 p0_1 p0_2 p0_3 p0_4 p0_5 K hrw HR k15 hk15 v1 v2 s0 h
      · have h := jif hc h
        refine j_aload_n (pc' := 38) K dX2_fillNumbers_37 rfl 0 rfl rfl ?_
        refine j_get (pc' := 41) K dX2_fillNumbers_38 inX2 0 rfl rfl 2 (by decide) u_1_161 rfl rfl rfl ?_
        refine j_iload_n (pc' := 42) K dX2_fillNumbers_41 rfl 1 rfl rfl ?_
        refine j_aload_n (pc' := 43) K dX2_fillNumbers_42 rfl 0 rfl rfl ?_
        refine j_iload_n (pc' := 44) K dX2_fillNumbers_43 rfl 2 rfl rfl ?_
        refine j_iload_n (pc' := 45) K dX2_fillNumbers_44 rfl 3 rfl rfl ?_
        obtain ⟨r45, hr45, h⟩ := jbd_some h
        refine j_ro (pc' := 48) K (fun H hP => jrun_V K dX2_fillNumbers_45 (M_X2_madeOfAbove (jl E) (jg E) p0_0 p0_1 p0_2 p0_3 p0_4 p0_5 v2 v3 s0 hr45) u_2_53 u_2_50 u_2_52 u_p_5 u_1_11 ⟨ok_X2_madeOfAbove, by decide, by decide⟩ rfl (Nat.le_of_ble_eq_true rfl) 0 rfl rfl H hP) [0, 1, 2, 3, 4, 5] rfl rfl ?_
        obtain ⟨hg, h⟩ := jgd_some h
        refine j_last (pc' := 49) (ws' := (wLaw (jg E) p0_0 p0_1 p0_2 p0_3 p0_4 p0_5 (Law_numbers_s s0 (vp_updL (Law_numbers s0) (Int32.toNatClampNeg v1) r45)))) K dX2_fillNumbers_48 hrw 3 rfl hg (st_Law_3 ..) rfl ?_
        refine j_iinc (pc' := 52) (j := 1) (v := (v1 + (1 : Int32))) (lv' := [(1, .int (v1 + (1 : Int32))), (0, .ref p0_0), (2, .int v2), (3, .int v3)]) K dX2_fillNumbers_49 rfl rfl (by decide) rfl rfl ?_
        refine j_iinc (pc' := 55) (j := 3) (v := (v3 + (1 : Int32))) (lv' := [(3, .int (v3 + (1 : Int32))), (1, .int (v1 + (1 : Int32))), (0, .ref p0_0), (2, .int v2)]) K dX2_fillNumbers_52 rfl rfl (by decide) rfl rfl ?_
        refine j_goto (tgt := 23) K dX2_fillNumbers_55 (by decide) ?_
        refine j_sub [2, 1, 3, 0] rfl ?_
        exact ih (v1 + (1 : Int32)) v2 (v3 + (1 : Int32)) (Law_numbers_s s0 (vp_updL (Law_numbers s0) (Int32.toNatClampNeg v1) r45)) h
set_option maxRecDepth 100000 in
set_option maxHeartbeats 4000000 in
theorem b_X2_fillNumbers_15 {E : jE} (p0_0 p0_1 p0_2 p0_3 p0_4 p0_5 : Nat) {res : LawS} (K : jC E cX2_fillNumbers 4 RX2 4) (hrw : jrw E) (HR : jRV E cX2_fillNumbers 4 (wLaw (jg E) p0_0 p0_1 p0_2 p0_3 p0_4 p0_5 res)) : ∀ (n : Nat) (v1 : Int32) (v2 : Int32) (s0 : LawS), f_X2_fillNumbers_15 n v1 v2 s0 = some res → J E 4 (wLaw (jg E) p0_0 p0_1 p0_2 p0_3 p0_4 p0_5 s0) 15 [(0, .ref p0_0), (1, .int v1), (2, .int v2)] [] := by
  intro n
  induction n with
  | zero => intro _ _ _ h; cases h
  | succ n ih =>
    intro v1 v2 s0 h
    rw [f_X2_fillNumbers_15] at h
    refine j_iload_n (pc' := 16) K dX2_fillNumbers_15 rfl 2 rfl rfl ?_
    refine j_bipush (pc' := 18) (v := (24 : Int32)) K dX2_fillNumbers_16 (by decide) rfl ?_
    refine j_icmp_gt (pc' := 21) (tgt := 64) K dX2_fillNumbers_18 (by decide) rfl (fun hc => ?_) (fun hc => ?_)
    · have h := jit hc h
      obtain rfl := Option.some.inj h
      exact HR _ _ dX2_fillNumbers_64
    · have h := jif hc h
      refine j_iconst (pc' := 22) (v := (0 : Int32)) K dX2_fillNumbers_21 (by decide) rfl ?_
      refine j_istore_n (pc' := 23) (lv' := [(3, .int (0 : Int32)), (0, .ref p0_0), (1, .int v1), (2, .int v2)]) K dX2_fillNumbers_22 rfl (by decide) rfl rfl ?_
      refine j_sub [1, 2, 3, 0] rfl ?_
      exact b_X2_fillNumbers_23 p0_0 p0_1 p0_2 p0_3 p0_4 p0_5 K hrw HR (f_X2_fillNumbers_15 n) (ih) jFU v1 v2 (0 : Int32) s0 h
set_option maxRecDepth 100000 in
set_option maxHeartbeats 4000000 in
theorem b_X2_fillNumbers {E : jE} (p0_0 p0_1 p0_2 p0_3 p0_4 p0_5 : Nat) {res : LawS} (K : jC E cX2_fillNumbers 4 RX2 4) (hrw : jrw E) (HR : jRV E cX2_fillNumbers 4 (wLaw (jg E) p0_0 p0_1 p0_2 p0_3 p0_4 p0_5 res)) : ∀ (s0 : LawS), f_X2_fillNumbers s0 = some res → J E 4 (wLaw (jg E) p0_0 p0_1 p0_2 p0_3 p0_4 p0_5 s0) 0 [(0, .ref p0_0)] [] := by
  intro s0 h
  unfold f_X2_fillNumbers at h
  refine j_aload_n (pc' := 1) K dX2_fillNumbers_0 rfl 0 rfl rfl ?_
  refine j_get (pc' := 4) K dX2_fillNumbers_1 inX2 0 rfl rfl 2 (by decide) u_1_161 rfl rfl rfl ?_
  refine j_iconst (pc' := 5) (v := (0 : Int32)) K dX2_fillNumbers_4 (by decide) rfl ?_
  refine j_aload_n (pc' := 6) K dX2_fillNumbers_5 rfl 0 rfl rfl ?_
  refine j_get (pc' := 9) K dX2_fillNumbers_6 inX2 0 rfl rfl 5 (by decide) u_1_164 rfl rfl rfl ?_
  refine j_i2l (pc' := 10) K dX2_fillNumbers_9 rfl ?_
  obtain ⟨hg, h⟩ := jgd_some h
  refine j_last (pc' := 11) (ws' := (wLaw (jg E) p0_0 p0_1 p0_2 p0_3 p0_4 p0_5 (Law_numbers_s s0 (vp_updL (Law_numbers s0) (Int32.toNatClampNeg (0 : Int32)) (Int32.toInt64 (Law_top s0)))))) K dX2_fillNumbers_10 hrw 3 rfl hg (st_Law_3 ..) rfl ?_
  refine j_iconst (pc' := 12) (v := (1 : Int32)) K dX2_fillNumbers_11 (by decide) rfl ?_
  refine j_istore_n (pc' := 13) (lv' := [(1, .int (1 : Int32)), (0, .ref p0_0)]) K dX2_fillNumbers_12 rfl (by decide) rfl rfl ?_
  refine j_iconst (pc' := 14) (v := (1 : Int32)) K dX2_fillNumbers_13 (by decide) rfl ?_
  refine j_istore_n (pc' := 15) (lv' := [(2, .int (1 : Int32)), (1, .int (1 : Int32)), (0, .ref p0_0)]) K dX2_fillNumbers_14 rfl (by decide) rfl rfl ?_
  refine j_sub [2, 1, 0] rfl ?_
  exact b_X2_fillNumbers_15 p0_0 p0_1 p0_2 p0_3 p0_4 p0_5 K hrw HR jFU (1 : Int32) (1 : Int32) (Law_numbers_s s0 (vp_updL (Law_numbers s0) (Int32.toNatClampNeg (0 : Int32)) (Int32.toInt64 (Law_top s0)))) h
set_option maxRecDepth 100000 in
set_option maxHeartbeats 4000000 in
theorem M_X2_fillNumbers (l : Launch) (G : jG) (p0_0 p0_1 p0_2 p0_3 p0_4 p0_5 : Nat) (s0 : LawS) {r : LawS} (h : f_X2_fillNumbers s0 = some r) : MC l yX2_fillNumbers cX2_fillNumbers 4 none 4 G (jad (wLaw G p0_0 p0_1 p0_2 p0_3 p0_4 p0_5 s0)) True (wLaw G p0_0 p0_1 p0_2 p0_3 p0_4 p0_5 s0) (wLaw G p0_0 p0_1 p0_2 p0_3 p0_4 p0_5 r) [.ref p0_0] none := by
  refine mc_void (by decide +kernel) (Nat.le_of_ble_eq_true rfl) fun E hl hg hA hrw K HR => ?_
  subst hl
  subst hg
  have hrw : jrw E := by rw [hrw]; trivial
  exact b_X2_fillNumbers p0_0 p0_1 p0_2 p0_3 p0_4 p0_5 K hrw HR s0 h
