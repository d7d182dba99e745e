theorem jk_c {E : jE} {kc ks nL pc : Nat} {ws : va_W} {lv : List (Nat × Value)} {st : List Value} (kc2 ks2 : Nat) (h1 : kc = kc2) (h2 : ks = ks2) (k : J (jk E kc2 ks2) nL ws pc lv st) : J (jk E kc ks) nL ws pc lv st := by
  subst h1
  subst h2
  exact k
theorem j_ws {E : jE} {nL pc : Nat} {ws ws2 : va_W} {lv : List (Nat × Value)} {st : List Value} (h : ws = ws2) (k : J E nL ws2 pc lv st) : J E nL ws pc lv st := h ▸ k
theorem u_obj : Cond.code objectInit ⟨#[0xb1]⟩ 1 none ∈ UW := u_1_25
theorem dfX0 : ∀ j, j < 1 → defaultValue (tyX0 j) = vp_V [.null] j := fun j hj => by
  rcases (show j = 0 by omega) with rfl <;> rfl
theorem dfX1 : ∀ j, j < 1 → defaultValue (tyX1 j) = vp_V [.null] j := fun j hj => by
  rcases (show j = 0 by omega) with rfl <;> rfl
theorem dfX2 : ∀ j, j < 7 → defaultValue (tyX2 j) = vp_V [.null, .null, .null, .null, .null, .int 0, .int 0] j := fun j hj => by
  rcases (show j = 0 ∨ j = 1 ∨ j = 2 ∨ j = 3 ∨ j = 4 ∨ j = 5 ∨ j = 6 by omega) with rfl | rfl | rfl | rfl | rfl | rfl | rfl <;> rfl
theorem dfX3 : ∀ j, j < 1 → defaultValue (tyX3 j) = vp_V [.null] j := fun j hj => by
  rcases (show j = 0 by omega) with rfl <;> rfl
theorem dfX4 : ∀ j, j < 2 → defaultValue (tyX4 j) = vp_V [.null, .int 0] j := fun j hj => by
  rcases (show j = 0 ∨ j = 1 by omega) with rfl | rfl <;> rfl
theorem dfX6 : ∀ j, j < 3 → defaultValue (tyX6 j) = vp_V [.null, .null, .null] j := fun j hj => by
  rcases (show j = 0 ∨ j = 1 ∨ j = 2 by omega) with rfl | rfl | rfl <;> rfl
theorem dfX7 : ∀ j, j < 1 → defaultValue (tyX7 j) = vp_V [.null] j := fun j hj => by
  rcases (show j = 0 by omega) with rfl <;> rfl
theorem dfX8 : ∀ j, j < 3 → defaultValue (tyX8 j) = vp_V [.null, .null, .int 0] j := fun j hj => by
  rcases (show j = 0 ∨ j = 1 ∨ j = 2 by omega) with rfl | rfl | rfl <;> rfl
theorem dfX9 : ∀ j, j < 1 → defaultValue (tyX9 j) = vp_V [.null] j := fun j hj => by
  rcases (show j = 0 by omega) with rfl <;> rfl
theorem dfX10 : ∀ j, j < 2 → defaultValue (tyX10 j) = vp_V [.null, .int 0] j := fun j hj => by
  rcases (show j = 0 ∨ j = 1 by omega) with rfl | rfl <;> rfl
theorem dfX11 : ∀ j, j < 5 → defaultValue (tyX11 j) = vp_V [.null, .null, .null, .null, .null] j := fun j hj => by
  rcases (show j = 0 ∨ j = 1 ∨ j = 2 ∨ j = 3 ∨ j = 4 by omega) with rfl | rfl | rfl | rfl | rfl <;> rfl
theorem dfX12 : ∀ j, j < 21 → defaultValue (tyX12 j) = vp_V [.int 0, .null, .int 0, .int 0, .int 0, .null, .null, .null, .null, .null, .null, .null, .int 0, .null, .null, .null, .null, .null, .null, .null, .null] j := fun j hj => by
  rcases (show j = 0 ∨ j = 1 ∨ j = 2 ∨ j = 3 ∨ j = 4 ∨ j = 5 ∨ j = 6 ∨ j = 7 ∨ j = 8 ∨ j = 9 ∨ j = 10 ∨ j = 11 ∨ j = 12 ∨ j = 13 ∨ j = 14 ∨ j = 15 ∨ j = 16 ∨ j = 17 ∨ j = 18 ∨ j = 19 ∨ j = 20 by omega) with rfl | rfl | rfl | rfl | rfl | rfl | rfl | rfl | rfl | rfl | rfl | rfl | rfl | rfl | rfl | rfl | rfl | rfl | rfl | rfl | rfl <;> rfl
theorem jrefs4 (a b c d : Nat) : (va_up (va_up (va_up (va_up (fun _ => none) (Int32.toNatClampNeg (0 : Int32)) (some a)) (Int32.toNatClampNeg (1 : Int32)) (some b)) (Int32.toNatClampNeg (2 : Int32)) (some c)) (Int32.toNatClampNeg (3 : Int32)) (some d)) = fun j => ([a, b, c, d] : List Nat)[j]? := by
  funext j
  match j with
  | 0 => rfl
  | 1 => rfl
  | 2 => rfl
  | 3 => rfl
  | j + 4 =>
    simp only [va_up]
    rw [if_neg (by simp; try omega), if_neg (by simp; try omega), if_neg (by simp; try omega), if_neg (by simp; try omega)]
    simp
theorem jrefs5 (a b c d e : Nat) : (va_up (va_up (va_up (va_up (va_up (fun _ => none) (Int32.toNatClampNeg (0 : Int32)) (some a)) (Int32.toNatClampNeg (1 : Int32)) (some b)) (Int32.toNatClampNeg (2 : Int32)) (some c)) (Int32.toNatClampNeg (3 : Int32)) (some d)) (Int32.toNatClampNeg (4 : Int32)) (some e)) = fun j => ([a, b, c, d, e] : List Nat)[j]? := by
  funext j
  match j with
  | 0 => rfl
  | 1 => rfl
  | 2 => rfl
  | 3 => rfl
  | 4 => rfl
  | j + 5 =>
    simp only [va_up]
    rw [if_neg (by simp; try omega), if_neg (by simp; try omega), if_neg (by simp; try omega), if_neg (by simp; try omega), if_neg (by simp; try omega)]
    simp
theorem ok_X5_init : yX5_init.cls ≠ "java/lang/invoke/MethodHandle" ∧ yX5_init.cls ≠ "java/lang/invoke/VarHandle" ∧ (parseMethodDescriptor yX5_init.desc).map (fun d => d.parameters.length) = some 0 := ⟨by decide, by decide, by decide +kernel⟩
theorem ok_X10_init : yX10_init.cls ≠ "java/lang/invoke/MethodHandle" ∧ yX10_init.cls ≠ "java/lang/invoke/VarHandle" ∧ (parseMethodDescriptor yX10_init.desc).map (fun d => d.parameters.length) = some 0 := ⟨by decide, by decide, by decide +kernel⟩
theorem ok_X7_init : yX7_init.cls ≠ "java/lang/invoke/MethodHandle" ∧ yX7_init.cls ≠ "java/lang/invoke/VarHandle" ∧ (parseMethodDescriptor yX7_init.desc).map (fun d => d.parameters.length) = some 0 := ⟨by decide, by decide, by decide +kernel⟩
theorem ok_X9_init : yX9_init.cls ≠ "java/lang/invoke/MethodHandle" ∧ yX9_init.cls ≠ "java/lang/invoke/VarHandle" ∧ (parseMethodDescriptor yX9_init.desc).map (fun d => d.parameters.length) = some 0 := ⟨by decide, by decide, by decide +kernel⟩
theorem ok_X0_init : yX0_init.cls ≠ "java/lang/invoke/MethodHandle" ∧ yX0_init.cls ≠ "java/lang/invoke/VarHandle" ∧ (parseMethodDescriptor yX0_init.desc).map (fun d => d.parameters.length) = some 0 := ⟨by decide, by decide, by decide +kernel⟩
theorem ok_X3_init : yX3_init.cls ≠ "java/lang/invoke/MethodHandle" ∧ yX3_init.cls ≠ "java/lang/invoke/VarHandle" ∧ (parseMethodDescriptor yX3_init.desc).map (fun d => d.parameters.length) = some 0 := ⟨by decide, by decide, by decide +kernel⟩
theorem ok_X1_init : yX1_init.cls ≠ "java/lang/invoke/MethodHandle" ∧ yX1_init.cls ≠ "java/lang/invoke/VarHandle" ∧ (parseMethodDescriptor yX1_init.desc).map (fun d => d.parameters.length) = some 1 := ⟨by decide, by decide, by decide +kernel⟩
theorem ok_X4_init : yX4_init.cls ≠ "java/lang/invoke/MethodHandle" ∧ yX4_init.cls ≠ "java/lang/invoke/VarHandle" ∧ (parseMethodDescriptor yX4_init.desc).map (fun d => d.parameters.length) = some 0 := ⟨by decide, by decide, by decide +kernel⟩
theorem ok_X8_init : yX8_init.cls ≠ "java/lang/invoke/MethodHandle" ∧ yX8_init.cls ≠ "java/lang/invoke/VarHandle" ∧ (parseMethodDescriptor yX8_init.desc).map (fun d => d.parameters.length) = some 0 := ⟨by decide, by decide, by decide +kernel⟩
theorem ok_X2_init : yX2_init.cls ≠ "java/lang/invoke/MethodHandle" ∧ yX2_init.cls ≠ "java/lang/invoke/VarHandle" ∧ (parseMethodDescriptor yX2_init.desc).map (fun d => d.parameters.length) = some 0 := ⟨by decide, by decide, by decide +kernel⟩
theorem ok_X6_init : yX6_init.cls ≠ "java/lang/invoke/MethodHandle" ∧ yX6_init.cls ≠ "java/lang/invoke/VarHandle" ∧ (parseMethodDescriptor yX6_init.desc).map (fun d => d.parameters.length) = some 0 := ⟨by decide, by decide, by decide +kernel⟩
theorem ok_X11_init : yX11_init.cls ≠ "java/lang/invoke/MethodHandle" ∧ yX11_init.cls ≠ "java/lang/invoke/VarHandle" ∧ (parseMethodDescriptor yX11_init.desc).map (fun d => d.parameters.length) = some 0 := ⟨by decide, by decide, by decide +kernel⟩
theorem ok_X12_init : yX12_init.cls ≠ "java/lang/invoke/MethodHandle" ∧ yX12_init.cls ≠ "java/lang/invoke/VarHandle" ∧ (parseMethodDescriptor yX12_init.desc).map (fun d => d.parameters.length) = some 0 := ⟨by decide, by decide, by decide +kernel⟩
theorem M_X5_init (l : Launch) (G : jG) (q0 : Nat) : MC l yX5_init cX5_init 1 none 1 G jNo False [] [] [.ref q0] none := by
  refine mc_void (by decide +kernel) (Nat.le_of_ble_eq_true rfl) fun E hl hg hA hrw K HR => ?_
  refine j_aload_n (pc' := 1) K dX5_init_0 rfl 0 rfl rfl ?_
  refine j_objInit (pc' := 4) K dX5_init_1 u_1_69 u_1_24 u_obj (by decide) (Nat.le_of_ble_eq_true rfl) rfl ?_
  exact HR _ _ dX5_init_4
set_option maxRecDepth 100000 in
set_option maxHeartbeats 4000000 in
theorem C_X10_init (l : Launch) (G : jG) (h0 : Nat) (sz : Nat) : MK l yX10_init cX10_init 1 1 1 120 G [(h0, .inr (9, [.null, .int 0]))] sz [.ref h0] (fun w => ∃ q7 : Nat, w = wText G h0 q7 ((fun _ => 0), 0)) := by
  refine mk_of (by decide +kernel) rfl (Nat.le_of_ble_eq_true rfl) fun E hl hg hA hrw hnew hI hX K HR => ?_
  subst hl
  subst hg
  refine j_aload_n (pc' := 1) (K 0 0 (by decide) (by decide)) dX10_init_0 rfl 0 rfl rfl ?_
  refine j_objInit (pc' := 4) (K 0 0 (by decide) (by decide)) dX10_init_1 u_1_31 u_1_24 u_obj (by decide) (Nat.le_of_ble_eq_true rfl) rfl ?_
  refine j_aload_n (pc' := 5) (K 0 0 (by decide) (by decide)) dX10_init_4 rfl 0 rfl rfl ?_
  refine j_bipush (pc' := 7) (v := (120 : Int32)) (K 0 0 (by decide) (by decide)) dX10_init_5 (by decide) rfl ?_
  refine j_newa (pc' := 9) (N := 120) (a0 := (120, .inl (fun _ => 0))) (K 0 0 (by decide) (by decide)) (K 1 120 (by decide) (by decide)) hrw hnew dX10_init_7 rfl u_1_39 2 rfl (fun _ => rfl) (by decide) (by decide) (by decide) rfl (fun q7 => ?_)
  refine j_ws (ws2 := [(h0, .inr (9, [.null, .int 0])), (q7, .inl ((jg E).2.1 2, 120, .inl (fun _ => 0)))]) rfl ?_
  refine jk_c 1 120 rfl rfl ?_
  refine j_putF (pc' := 12) (ws' := [(h0, .inr (9, [.ref q7, .int 0])), (q7, .inl ((jg E).2.1 2, 120, .inl (fun _ => 0)))]) (K 1 120 (by decide) (by decide)) dX10_init_9 hrw hI inX10 tyX10 tyX10_ok nmX10 0 rfl rfl 0 (by decide) u_1_32 rfl rfl rfl rfl rfl (Nat.le_of_ble_eq_true rfl) rfl rfl ?_
  refine j_aload_n (pc' := 13) (K 1 120 (by decide) (by decide)) dX10_init_12 rfl 0 rfl rfl ?_
  refine j_iconst (pc' := 14) (v := (0 : Int32)) (K 1 120 (by decide) (by decide)) dX10_init_13 (by decide) rfl ?_
  refine j_put (pc' := 17) (ws' := [(h0, .inr (9, [.ref q7, .int (0 : Int32)])), (q7, .inl ((jg E).2.1 2, 120, .inl (fun _ => 0)))]) (K 1 120 (by decide) (by decide)) dX10_init_14 hrw inX10 tyX10 tyX10_ok nmX10 0 rfl rfl 1 (by decide) u_1_33 rfl rfl rfl rfl (Nat.le_of_ble_eq_true rfl) rfl rfl ?_
  exact HR _ _ _ ⟨q7, rfl⟩ dX10_init_17
set_option maxRecDepth 100000 in
set_option maxHeartbeats 4000000 in
theorem C_X7_init (l : Launch) (G : jG) (h0 : Nat) (sz : Nat) : MK l yX7_init cX7_init 1 1 1 81 G [(h0, .inr (6, [.null]))] sz [.ref h0] (fun w => ∃ q7 : Nat, w = wPartings G h0 q7 (fun _ => 0)) := by
  refine mk_of (by decide +kernel) rfl (Nat.le_of_ble_eq_true rfl) fun E hl hg hA hrw hnew hI hX K HR => ?_
  subst hl
  subst hg
  refine j_aload_n (pc' := 1) (K 0 0 (by decide) (by decide)) dX7_init_0 rfl 0 rfl rfl ?_
  refine j_objInit (pc' := 4) (K 0 0 (by decide) (by decide)) dX7_init_1 u_1_47 u_1_24 u_obj (by decide) (Nat.le_of_ble_eq_true rfl) rfl ?_
  refine j_aload_n (pc' := 5) (K 0 0 (by decide) (by decide)) dX7_init_4 rfl 0 rfl rfl ?_
  refine j_bipush (pc' := 7) (v := (81 : Int32)) (K 0 0 (by decide) (by decide)) dX7_init_5 (by decide) rfl ?_
  refine j_newa (pc' := 9) (N := 81) (a0 := (81, .inl (fun _ => 0))) (K 0 0 (by decide) (by decide)) (K 1 81 (by decide) (by decide)) hrw hnew dX7_init_7 rfl u_1_52 0 rfl (fun _ => rfl) (by decide) (by decide) (by decide) rfl (fun q7 => ?_)
  refine j_ws (ws2 := [(h0, .inr (6, [.null])), (q7, .inl ((jg E).2.1 0, 81, .inl (fun _ => 0)))]) rfl ?_
  refine jk_c 1 81 rfl rfl ?_
  refine j_putF (pc' := 12) (ws' := [(h0, .inr (6, [.ref q7])), (q7, .inl ((jg E).2.1 0, 81, .inl (fun _ => 0)))]) (K 1 81 (by decide) (by decide)) dX7_init_9 hrw hI inX7 tyX7 tyX7_ok nmX7 0 rfl rfl 0 (by decide) u_1_48 rfl rfl rfl rfl rfl (Nat.le_of_ble_eq_true rfl) rfl rfl ?_
  exact HR _ _ _ ⟨q7, rfl⟩ dX7_init_12
set_option maxRecDepth 100000 in
set_option maxHeartbeats 4000000 in
theorem C_X4_init (l : Launch) (G : jG) (h0 : Nat) (sz : Nat) : MK l yX4_init cX4_init 1 2 1 512 G [(h0, .inr (4, [.null, .int 0]))] sz [.ref h0] (fun w => ∃ q8 : Nat, w = wLongestRise G h0 q8 ((fun _ => 0), 0)) := by
  refine mk_of (by decide +kernel) rfl (Nat.le_of_ble_eq_true rfl) fun E hl hg hA hrw hnew hI hX K HR => ?_
  subst hl
  subst hg
  refine j_aload_n (pc' := 1) (K 0 0 (by decide) (by decide)) dX4_init_0 rfl 0 rfl rfl ?_
  refine j_ro (pc' := 4) (K 0 0 (by decide) (by decide)) (fun H hP => jrun_IN (host := "CountTriangles") (K 0 0 (by decide) (by decide)) dX4_init_1 (M_X5_init (jl E) (jg E) h0) u_1_68 (by decide) u_1_67 u_1_5 rfl ⟨ok_X5_init, by decide, by decide⟩ (Nat.le_of_ble_eq_true rfl) H) [] rfl rfl ?_
  refine j_aload_n (pc' := 5) (K 0 0 (by decide) (by decide)) dX4_init_4 rfl 0 rfl rfl ?_
  refine j_sipush (pc' := 8) (v := (512 : Int32)) (K 0 0 (by decide) (by decide)) dX4_init_5 (by decide) rfl ?_
  refine j_newa (pc' := 10) (N := 512) (a0 := (512, .inl (fun _ => 0))) (K 0 0 (by decide) (by decide)) (K 1 512 (by decide) (by decide)) hrw hnew dX4_init_8 rfl u_1_52 0 rfl (fun _ => rfl) (by decide) (by decide) (by decide) rfl (fun q8 => ?_)
  refine j_ws (ws2 := [(h0, .inr (4, [.null, .int 0])), (q8, .inl ((jg E).2.1 0, 512, .inl (fun _ => 0)))]) rfl ?_
  refine jk_c 1 512 rfl rfl ?_
  refine j_putF (pc' := 13) (ws' := [(h0, .inr (4, [.ref q8, .int 0])), (q8, .inl ((jg E).2.1 0, 512, .inl (fun _ => 0)))]) (K 1 512 (by decide) (by decide)) dX4_init_10 hrw hI inX4 tyX4 tyX4_ok nmX4 0 rfl rfl 0 (by decide) u_1_135 rfl rfl rfl rfl rfl (Nat.le_of_ble_eq_true rfl) rfl rfl ?_
  refine j_aload_n (pc' := 14) (K 1 512 (by decide) (by decide)) dX4_init_13 rfl 0 rfl rfl ?_
  refine j_iconst (pc' := 15) (v := (0 : Int32)) (K 1 512 (by decide) (by decide)) dX4_init_14 (by decide) rfl ?_
  refine j_put (pc' := 18) (ws' := [(h0, .inr (4, [.ref q8, .int (0 : Int32)])), (q8, .inl ((jg E).2.1 0, 512, .inl (fun _ => 0)))]) (K 1 512 (by decide) (by decide)) dX4_init_15 hrw inX4 tyX4 tyX4_ok nmX4 0 rfl rfl 1 (by decide) u_1_136 rfl rfl rfl rfl (Nat.le_of_ble_eq_true rfl) rfl rfl ?_
  exact HR _ _ _ ⟨q8, rfl⟩ dX4_init_18
set_option maxRecDepth 100000 in
set_option maxHeartbeats 4000000 in
theorem C_X8_init (l : Launch) (G : jG) (h0 : Nat) (sz : Nat) : MK l yX8_init cX8_init 1 1 2 18 G [(h0, .inr (7, [.null, .null, .int 0]))] sz [.ref h0] (fun w => ∃ q7 q15 : Nat, w = wPolynomial G h0 q7 q15 ((fun _ => 0), (fun _ => 0), 0)) := by
  refine mk_of (by decide +kernel) rfl (Nat.le_of_ble_eq_true rfl) fun E hl hg hA hrw hnew hI hX K HR => ?_
  subst hl
  subst hg
  refine j_aload_n (pc' := 1) (K 0 0 (by decide) (by decide)) dX8_init_0 rfl 0 rfl rfl ?_
  refine j_objInit (pc' := 4) (K 0 0 (by decide) (by decide)) dX8_init_1 u_1_186 u_1_24 u_obj (by decide) (Nat.le_of_ble_eq_true rfl) rfl ?_
  refine j_aload_n (pc' := 5) (K 0 0 (by decide) (by decide)) dX8_init_4 rfl 0 rfl rfl ?_
  refine j_bipush (pc' := 7) (v := (9 : Int32)) (K 0 0 (by decide) (by decide)) dX8_init_5 (by decide) rfl ?_
  refine j_newa (pc' := 9) (N := 9) (a0 := (9, .inr (.inl (fun _ => 0)))) (K 0 0 (by decide) (by decide)) (K 1 9 (by decide) (by decide)) hrw hnew dX8_init_7 rfl u_1_181 1 rfl (fun _ => rfl) (by decide) (by decide) (by decide) rfl (fun q7 => ?_)
  refine j_ws (ws2 := [(h0, .inr (7, [.null, .null, .int 0])), (q7, .inl ((jg E).2.1 1, 9, .inr (.inl (fun _ => 0))))]) rfl ?_
  refine jk_c 1 9 rfl rfl ?_
  refine j_putF (pc' := 12) (ws' := [(h0, .inr (7, [.ref q7, .null, .int 0])), (q7, .inl ((jg E).2.1 1, 9, .inr (.inl (fun _ => 0))))]) (K 1 9 (by decide) (by decide)) dX8_init_9 hrw hI inX8 tyX8 tyX8_ok nmX8 0 rfl rfl 0 (by decide) u_1_187 rfl rfl rfl rfl rfl (Nat.le_of_ble_eq_true rfl) rfl rfl ?_
  refine j_aload_n (pc' := 13) (K 1 9 (by decide) (by decide)) dX8_init_12 rfl 0 rfl rfl ?_
  refine j_bipush (pc' := 15) (v := (9 : Int32)) (K 1 9 (by decide) (by decide)) dX8_init_13 (by decide) rfl ?_
  refine j_newa (pc' := 17) (N := 9) (a0 := (9, .inr (.inl (fun _ => 0)))) (K 1 9 (by decide) (by decide)) (K 2 18 (by decide) (by decide)) hrw hnew dX8_init_15 rfl u_1_181 1 rfl (fun _ => rfl) (by decide) (by decide) (by decide) rfl (fun q15 => ?_)
  refine j_ws (ws2 := [(h0, .inr (7, [.ref q7, .null, .int 0])), (q7, .inl ((jg E).2.1 1, 9, .inr (.inl (fun _ => 0)))), (q15, .inl ((jg E).2.1 1, 9, .inr (.inl (fun _ => 0))))]) rfl ?_
  refine jk_c 2 18 rfl rfl ?_
  refine j_putF (pc' := 20) (ws' := [(h0, .inr (7, [.ref q7, .ref q15, .int 0])), (q7, .inl ((jg E).2.1 1, 9, .inr (.inl (fun _ => 0)))), (q15, .inl ((jg E).2.1 1, 9, .inr (.inl (fun _ => 0))))]) (K 2 18 (by decide) (by decide)) dX8_init_17 hrw hI inX8 tyX8 tyX8_ok nmX8 0 rfl rfl 1 (by decide) u_1_188 rfl rfl rfl rfl rfl (Nat.le_of_ble_eq_true rfl) rfl rfl ?_
  refine j_aload_n (pc' := 21) (K 2 18 (by decide) (by decide)) dX8_init_20 rfl 0 rfl rfl ?_
  refine j_iconst (pc' := 22) (v := (0 : Int32)) (K 2 18 (by decide) (by decide)) dX8_init_21 (by decide) rfl ?_
  refine j_put (pc' := 25) (ws' := [(h0, .inr (7, [.ref q7, .ref q15, .int (0 : Int32)])), (q7, .inl ((jg E).2.1 1, 9, .inr (.inl (fun _ => 0)))), (q15, .inl ((jg E).2.1 1, 9, .inr (.inl (fun _ => 0))))]) (K 2 18 (by decide) (by decide)) dX8_init_22 hrw inX8 tyX8 tyX8_ok nmX8 0 rfl rfl 2 (by decide) u_1_189 rfl rfl rfl rfl (Nat.le_of_ble_eq_true rfl) rfl rfl ?_
  exact HR _ _ _ ⟨q7, q15, rfl⟩ dX8_init_25
set_option maxRecDepth 100000 in
set_option maxHeartbeats 4000000 in
theorem C_X2_init (l : Launch) (G : jG) (h0 : Nat) (sz : Nat) : MK l yX2_init cX2_init 1 1 5 417 G [(h0, .inr (2, [.null, .null, .null, .null, .null, .int 0, .int 0]))] sz [.ref h0] (fun w => ∃ q6 q13 q22 q30 q38 : Nat, w = wLaw G h0 q6 q13 q22 q30 q38 ((fun _ => 0), (fun _ => 0), vp_updL (fun _ => 0) (Int32.toNatClampNeg (0 : Int32)) (Int32.toInt64 (1 : Int32)), (fun _ => 0), (fun _ => 0), 1, 0)) := by
  refine mk_of (by decide +kernel) rfl (Nat.le_of_ble_eq_true rfl) fun E hl hg hA hrw hnew hI hX K HR => ?_
  subst hl
  subst hg
  refine j_aload_n (pc' := 1) (K 0 0 (by decide) (by decide)) dX2_init_0 rfl 0 rfl rfl ?_
  refine j_objInit (pc' := 4) (K 0 0 (by decide) (by decide)) dX2_init_1 u_1_158 u_1_24 u_obj (by decide) (Nat.le_of_ble_eq_true rfl) rfl ?_
  refine j_aload_n (pc' := 5) (K 0 0 (by decide) (by decide)) dX2_init_4 rfl 0 rfl rfl ?_
  refine j_iconst (pc' := 6) (v := (3 : Int32)) (K 0 0 (by decide) (by decide)) dX2_init_5 (by decide) rfl ?_
  refine j_newa (pc' := 8) (N := 3) (a0 := (3, .inl (fun _ => 0))) (K 0 0 (by decide) (by decide)) (K 1 3 (by decide) (by decide)) hrw hnew dX2_init_6 rfl u_1_52 0 rfl (fun _ => rfl) (by decide) (by decide) (by decide) rfl (fun q6 => ?_)
  refine j_ws (ws2 := [(h0, .inr (2, [.null, .null, .null, .null, .null, .int 0, .int 0])), (q6, .inl ((jg E).2.1 0, 3, .inl (fun _ => 0)))]) rfl ?_
  refine jk_c 1 3 rfl rfl ?_
  refine j_putF (pc' := 11) (ws' := [(h0, .inr (2, [.ref q6, .null, .null, .null, .null, .int 0, .int 0])), (q6, .inl ((jg E).2.1 0, 3, .inl (fun _ => 0)))]) (K 1 3 (by decide) (by decide)) dX2_init_8 hrw hI inX2 tyX2 tyX2_ok nmX2 0 rfl rfl 0 (by decide) u_1_159 rfl rfl rfl rfl rfl (Nat.le_of_ble_eq_true rfl) rfl rfl ?_
  refine j_aload_n (pc' := 12) (K 1 3 (by decide) (by decide)) dX2_init_11 rfl 0 rfl rfl ?_
  refine j_iconst (pc' := 13) (v := (3 : Int32)) (K 1 3 (by decide) (by decide)) dX2_init_12 (by decide) rfl ?_
  refine j_newa (pc' := 15) (N := 3) (a0 := (3, .inl (fun _ => 0))) (K 1 3 (by decide) (by decide)) (K 2 6 (by decide) (by decide)) hrw hnew dX2_init_13 rfl u_1_52 0 rfl (fun _ => rfl) (by decide) (by decide) (by decide) rfl (fun q13 => ?_)
  refine j_ws (ws2 := [(h0, .inr (2, [.ref q6, .null, .null, .null, .null, .int 0, .int 0])), (q6, .inl ((jg E).2.1 0, 3, .inl (fun _ => 0))), (q13, .inl ((jg E).2.1 0, 3, .inl (fun _ => 0)))]) rfl ?_
  refine jk_c 2 6 rfl rfl ?_
  refine j_putF (pc' := 18) (ws' := [(h0, .inr (2, [.ref q6, .ref q13, .null, .null, .null, .int 0, .int 0])), (q6, .inl ((jg E).2.1 0, 3, .inl (fun _ => 0))), (q13, .inl ((jg E).2.1 0, 3, .inl (fun _ => 0)))]) (K 2 6 (by decide) (by decide)) dX2_init_15 hrw hI inX2 tyX2 tyX2_ok nmX2 0 rfl rfl 1 (by decide) u_1_160 rfl rfl rfl rfl rfl (Nat.le_of_ble_eq_true rfl) rfl rfl ?_
  refine j_aload_n (pc' := 19) (K 2 6 (by decide) (by decide)) dX2_init_18 rfl 0 rfl rfl ?_
  refine j_sipush (pc' := 22) (v := (325 : Int32)) (K 2 6 (by decide) (by decide)) dX2_init_19 (by decide) rfl ?_
  refine j_newa (pc' := 24) (N := 325) (a0 := (325, .inr (.inl (fun _ => 0)))) (K 2 6 (by decide) (by decide)) (K 3 331 (by decide) (by decide)) hrw hnew dX2_init_22 rfl u_1_181 1 rfl (fun _ => rfl) (by decide) (by decide) (by decide) rfl (fun q22 => ?_)
  refine j_ws (ws2 := [(h0, .inr (2, [.ref q6, .ref q13, .null, .null, .null, .int 0, .int 0])), (q6, .inl ((jg E).2.1 0, 3, .inl (fun _ => 0))), (q13, .inl ((jg E).2.1 0, 3, .inl (fun _ => 0))), (q22, .inl ((jg E).2.1 1, 325, .inr (.inl (fun _ => 0))))]) rfl ?_
  refine jk_c 3 331 rfl rfl ?_
  refine j_putF (pc' := 27) (ws' := [(h0, .inr (2, [.ref q6, .ref q13, .ref q22, .null, .null, .int 0, .int 0])), (q6, .inl ((jg E).2.1 0, 3, .inl (fun _ => 0))), (q13, .inl ((jg E).2.1 0, 3, .inl (fun _ => 0))), (q22, .inl ((jg E).2.1 1, 325, .inr (.inl (fun _ => 0))))]) (K 3 331 (by decide) (by decide)) dX2_init_24 hrw hI inX2 tyX2 tyX2_ok nmX2 0 rfl rfl 2 (by decide) u_1_161 rfl rfl rfl rfl rfl (Nat.le_of_ble_eq_true rfl) rfl rfl ?_
  refine j_aload_n (pc' := 28) (K 3 331 (by decide) (by decide)) dX2_init_27 rfl 0 rfl rfl ?_
  refine j_bipush (pc' := 30) (v := (25 : Int32)) (K 3 331 (by decide) (by decide)) dX2_init_28 (by decide) rfl ?_
  refine j_newa (pc' := 32) (N := 25) (a0 := (25, .inr (.inl (fun _ => 0)))) (K 3 331 (by decide) (by decide)) (K 4 356 (by decide) (by decide)) hrw hnew dX2_init_30 rfl u_1_181 1 rfl (fun _ => rfl) (by decide) (by decide) (by decide) rfl (fun q30 => ?_)
  refine j_ws (ws2 := [(h0, .inr (2, [.ref q6, .ref q13, .ref q22, .null, .null, .int 0, .int 0])), (q6, .inl ((jg E).2.1 0, 3, .inl (fun _ => 0))), (q13, .inl ((jg E).2.1 0, 3, .inl (fun _ => 0))), (q22, .inl ((jg E).2.1 1, 325, .inr (.inl (fun _ => 0)))), (q30, .inl ((jg E).2.1 1, 25, .inr (.inl (fun _ => 0))))]) rfl ?_
  refine jk_c 4 356 rfl rfl ?_
  refine j_putF (pc' := 35) (ws' := [(h0, .inr (2, [.ref q6, .ref q13, .ref q22, .ref q30, .null, .int 0, .int 0])), (q6, .inl ((jg E).2.1 0, 3, .inl (fun _ => 0))), (q13, .inl ((jg E).2.1 0, 3, .inl (fun _ => 0))), (q22, .inl ((jg E).2.1 1, 325, .inr (.inl (fun _ => 0)))), (q30, .inl ((jg E).2.1 1, 25, .inr (.inl (fun _ => 0))))]) (K 4 356 (by decide) (by decide)) dX2_init_32 hrw hI inX2 tyX2 tyX2_ok nmX2 0 rfl rfl 3 (by decide) u_1_162 rfl rfl rfl rfl rfl (Nat.le_of_ble_eq_true rfl) rfl rfl ?_
  refine j_aload_n (pc' := 36) (K 4 356 (by decide) (by decide)) dX2_init_35 rfl 0 rfl rfl ?_
  refine j_bipush (pc' := 38) (v := (61 : Int32)) (K 4 356 (by decide) (by decide)) dX2_init_36 (by decide) rfl ?_
  refine j_newa (pc' := 40) (N := 61) (a0 := (61, .inl (fun _ => 0))) (K 4 356 (by decide) (by decide)) (K 5 417 (by decide) (by decide)) hrw hnew dX2_init_38 rfl u_1_52 0 rfl (fun _ => rfl) (by decide) (by decide) (by decide) rfl (fun q38 => ?_)
  refine j_ws (ws2 := [(h0, .inr (2, [.ref q6, .ref q13, .ref q22, .ref q30, .null, .int 0, .int 0])), (q6, .inl ((jg E).2.1 0, 3, .inl (fun _ => 0))), (q13, .inl ((jg E).2.1 0, 3, .inl (fun _ => 0))), (q22, .inl ((jg E).2.1 1, 325, .inr (.inl (fun _ => 0)))), (q30, .inl ((jg E).2.1 1, 25, .inr (.inl (fun _ => 0)))), (q38, .inl ((jg E).2.1 0, 61, .inl (fun _ => 0)))]) rfl ?_
  refine jk_c 5 417 rfl rfl ?_
  refine j_putF (pc' := 43) (ws' := [(h0, .inr (2, [.ref q6, .ref q13, .ref q22, .ref q30, .ref q38, .int 0, .int 0])), (q6, .inl ((jg E).2.1 0, 3, .inl (fun _ => 0))), (q13, .inl ((jg E).2.1 0, 3, .inl (fun _ => 0))), (q22, .inl ((jg E).2.1 1, 325, .inr (.inl (fun _ => 0)))), (q30, .inl ((jg E).2.1 1, 25, .inr (.inl (fun _ => 0)))), (q38, .inl ((jg E).2.1 0, 61, .inl (fun _ => 0)))]) (K 5 417 (by decide) (by decide)) dX2_init_40 hrw hI inX2 tyX2 tyX2_ok nmX2 0 rfl rfl 4 (by decide) u_1_163 rfl rfl rfl rfl rfl (Nat.le_of_ble_eq_true rfl) rfl rfl ?_
  refine j_aload_n (pc' := 44) (K 5 417 (by decide) (by decide)) dX2_init_43 rfl 0 rfl rfl ?_
  refine j_iconst (pc' := 45) (v := (1 : Int32)) (K 5 417 (by decide) (by decide)) dX2_init_44 (by decide) rfl ?_
  refine j_put (pc' := 48) (ws' := [(h0, .inr (2, [.ref q6, .ref q13, .ref q22, .ref q30, .ref q38, .int (1 : Int32), .int 0])), (q6, .inl ((jg E).2.1 0, 3, .inl (fun _ => 0))), (q13, .inl ((jg E).2.1 0, 3, .inl (fun _ => 0))), (q22, .inl ((jg E).2.1 1, 325, .inr (.inl (fun _ => 0)))), (q30, .inl ((jg E).2.1 1, 25, .inr (.inl (fun _ => 0)))), (q38, .inl ((jg E).2.1 0, 61, .inl (fun _ => 0)))]) (K 5 417 (by decide) (by decide)) dX2_init_45 hrw inX2 tyX2 tyX2_ok nmX2 0 rfl rfl 5 (by decide) u_1_164 rfl rfl rfl rfl (Nat.le_of_ble_eq_true rfl) rfl rfl ?_
  refine j_aload_n (pc' := 49) (K 5 417 (by decide) (by decide)) dX2_init_48 rfl 0 rfl rfl ?_
  refine j_iconst (pc' := 50) (v := (0 : Int32)) (K 5 417 (by decide) (by decide)) dX2_init_49 (by decide) rfl ?_
  refine j_put (pc' := 53) (ws' := [(h0, .inr (2, [.ref q6, .ref q13, .ref q22, .ref q30, .ref q38, .int (1 : Int32), .int (0 : Int32)])), (q6, .inl ((jg E).2.1 0, 3, .inl (fun _ => 0))), (q13, .inl ((jg E).2.1 0, 3, .inl (fun _ => 0))), (q22, .inl ((jg E).2.1 1, 325, .inr (.inl (fun _ => 0)))), (q30, .inl ((jg E).2.1 1, 25, .inr (.inl (fun _ => 0)))), (q38, .inl ((jg E).2.1 0, 61, .inl (fun _ => 0)))]) (K 5 417 (by decide) (by decide)) dX2_init_50 hrw inX2 tyX2 tyX2_ok nmX2 0 rfl rfl 6 (by decide) u_1_165 rfl rfl rfl rfl (Nat.le_of_ble_eq_true rfl) rfl rfl ?_
  refine j_aload_n (pc' := 54) (K 5 417 (by decide) (by decide)) dX2_init_53 rfl 0 rfl rfl ?_
  refine j_get (pc' := 57) (K 5 417 (by decide) (by decide)) dX2_init_54 inX2 0 rfl rfl 2 (by decide) u_1_161 rfl rfl rfl ?_
  refine j_iconst (pc' := 58) (v := (0 : Int32)) (K 5 417 (by decide) (by decide)) dX2_init_57 (by decide) rfl ?_
  refine j_aload_n (pc' := 59) (K 5 417 (by decide) (by decide)) dX2_init_58 rfl 0 rfl rfl ?_
  refine j_get (pc' := 62) (K 5 417 (by decide) (by decide)) dX2_init_59 inX2 0 rfl rfl 5 (by decide) u_1_164 rfl rfl rfl ?_
  refine j_i2l (pc' := 63) (K 5 417 (by decide) (by decide)) dX2_init_62 rfl ?_
  refine j_last (pc' := 64) (ws' := [(h0, .inr (2, [.ref q6, .ref q13, .ref q22, .ref q30, .ref q38, .int (1 : Int32), .int (0 : Int32)])), (q6, .inl ((jg E).2.1 0, 3, .inl (fun _ => 0))), (q13, .inl ((jg E).2.1 0, 3, .inl (fun _ => 0))), (q22, .inl ((jg E).2.1 1, 325, .inr (.inl (vp_updL (fun _ => 0) (Int32.toNatClampNeg (0 : Int32)) (Int32.toInt64 (1 : Int32)))))), (q30, .inl ((jg E).2.1 1, 25, .inr (.inl (fun _ => 0)))), (q38, .inl ((jg E).2.1 0, 61, .inl (fun _ => 0)))]) (K 5 417 (by decide) (by decide)) dX2_init_63 hrw 3 rfl (by unfold vp_in; decide) rfl rfl ?_
  exact HR _ _ _ ⟨q6, q13, q22, q30, q38, rfl⟩ dX2_init_64
set_option maxRecDepth 100000 in
set_option maxHeartbeats 4000000 in
theorem C_X1_init (l : Launch) (G : jG) (h0 : Nat) (r0 : Nat) (sz : Nat) : MK l yX1_init cX1_init 2 2 0 0 G [(h0, .inr (1, [.null]))] sz [.ref h0, .ref r0] (fun w => w = [(h0, .inr (1, [.ref r0]))]) := by
  refine mk_of (by decide +kernel) rfl (Nat.le_of_ble_eq_true rfl) fun E hl hg hA hrw hnew hI hX K HR => ?_
  subst hl
  subst hg
  refine j_aload_n (pc' := 1) (K 0 0 (by decide) (by decide)) dX1_init_0 rfl 0 rfl rfl ?_
  refine j_ro (pc' := 4) (K 0 0 (by decide) (by decide)) (fun H hP => jrun_IN (host := "CountTriangles") (K 0 0 (by decide) (by decide)) dX1_init_1 (M_X5_init (jl E) (jg E) h0) u_1_68 (by decide) u_1_67 u_1_5 rfl ⟨ok_X5_init, by decide, by decide⟩ (Nat.le_of_ble_eq_true rfl) H) [] rfl rfl ?_
  refine j_aload_n (pc' := 5) (K 0 0 (by decide) (by decide)) dX1_init_4 rfl 0 rfl rfl ?_
  refine j_aload_n (pc' := 6) (K 0 0 (by decide) (by decide)) dX1_init_5 rfl 1 rfl rfl ?_
  refine j_putF (pc' := 9) (ws' := [(h0, .inr (1, [.ref r0]))]) (K 0 0 (by decide) (by decide)) dX1_init_6 hrw hI inX1 tyX1 tyX1_ok nmX1 0 rfl rfl 0 (by decide) u_1_125 rfl rfl rfl rfl rfl (Nat.le_of_ble_eq_true rfl) rfl rfl ?_
  exact HR _ _ _ rfl dX1_init_9
def f_X9_init_77 (k21 : Int32 → RingsS → Option (RingsS)) (v1 : Int32) (s0 : RingsS) : Option (RingsS) :=
   k21 (v1 + (1 : Int32)) s0
def f_X9_init_29 (k21 : Int32 → RingsS → Option (RingsS)) : Nat → Int32 → Int32 → RingsS → Option (RingsS)
  | 0, _, _, _ => none
  | n + 1, v1, v2, s0 =>
   if (9 : Int32) ≤ v2 then
   f_X9_init_77 k21 v1 s0
  else
   jbd (f_X9_ways (0 : Int32) (v1 - (1 : Int32)) (v2 - (1 : Int32)) s0) (fun r53 =>
    jbd (f_X9_ways (0 : Int32) (v1 - (1 : Int32)) v2 s0) (fun r65 =>
     jgd ((v1 * (9 : Int32)) + v2) 81 (
      (f_X9_init_29 k21 n) v1 (v2 + (1 : Int32)) (upd s0 (Int32.toNatClampNeg ((v1 * (9 : Int32)) + v2)) (r53 + ((v1 - (1 : Int32)) * r65))))))
def f_X9_init_21 : Nat → Int32 → RingsS → Option (RingsS)
  | 0, _, _ => none
  | n + 1, v1, s0 =>
   if (9 : Int32) ≤ v1 then
   some s0
  else
   f_X9_init_29 (f_X9_init_21 n) jFU v1 (0 : Int32) s0
def f_X9_init_12 (s0 : RingsS) : Option (RingsS) :=
   jgd (0 : Int32) 81 (
   f_X9_init_21 jFU (1 : Int32) (upd s0 (Int32.toNatClampNeg (0 : Int32)) (1 : Int32)))
set_option maxRecDepth 100000 in
set_option maxHeartbeats 4000000 in
theorem b_X9_init_77 {E : jE} (p0_0 p0_1 : Nat) {res : RingsS} (K : jC E cX9_init 3 RX9 2) (hrw : jrw E) (HR : jRV E cX9_init 3 (wRings (jg E) p0_0 p0_1 res)) (k21 : Int32 → RingsS → Option (RingsS)) (hk21 : ∀ (v1 : Int32) (s0 : RingsS), k21 v1 s0 = some res → J E 3 (wRings (jg E) p0_0 p0_1 s0) 21 [(0, .ref p0_0), (1, .int v1)] []) : ∀ (v1 : Int32) (s0 : RingsS), f_X9_init_77 k21 v1 s0 = some res → J E 3 (wRings (jg E) p0_0 p0_1 s0) 77 [(0, .ref p0_0), (1, .int v1)] [] := by
  intro v1 s0 h
  unfold f_X9_init_77 at h
  refine j_iinc (pc' := 80) (j := 1) (v := (v1 + (1 : Int32))) (lv' := [(1, .int (v1 + (1 : Int32))), (0, .ref p0_0)]) K dX9_init_77 rfl rfl (by decide) rfl rfl ?_
  refine j_goto (tgt := 21) K dX9_init_80 (by decide) ?_
  refine j_sub [1, 0] rfl ?_
  exact hk21 (v1 + (1 : Int32)) s0 h
set_option maxRecDepth 100000 in
set_option maxHeartbeats 4000000 in
theorem b_X9_init_29 {E : jE} (p0_0 p0_1 : Nat) {res : RingsS} (K : jC E cX9_init 3 RX9 2) (hrw : jrw E) (HR : jRV E cX9_init 3 (wRings (jg E) p0_0 p0_1 res)) (k21 : Int32 → RingsS → Option (RingsS)) (hk21 : ∀ (v1 : Int32) (s0 : RingsS), k21 v1 s0 = some res → J E 3 (wRings (jg E) p0_0 p0_1 s0) 21 [(0, .ref p0_0), (1, .int v1)] []) : ∀ (n : Nat) (v1 : Int32) (v2 : Int32) (s0 : RingsS), f_X9_init_29 k21 n v1 v2 s0 = some res → J E 3 (wRings (jg E) p0_0 p0_1 s0) 29 [(0, .ref p0_0), (1, .int v1), (2, .int v2)] [] := by
  intro n
  induction n with
  | zero => intro _ _ _ h; cases h
  | succ n ih =>
    intro v1 v2 s0 h
    rw [f_X9_init_29] at h
    refine j_iload_n (pc' := 30) K dX9_init_29 rfl 2 rfl rfl ?_
    refine j_bipush (pc' := 32) (v := (9 : Int32)) K dX9_init_30 (by decide) rfl ?_
    refine j_icmp_ge (pc' := 35) (tgt := 77) K dX9_init_32 (by decide) rfl (fun hc => ?_) (fun hc => ?_)
    · have h := jit hc h
      refine j_sub [0, 1] rfl ?_
      exact b_X9_init_77 p0_0 p0_1 K hrw HR k21 hk21 v1 s0 h
    · have h := jif hc h
      refine j_aload_n (pc' := 36) K dX9_init_35 rfl 0 rfl rfl ?_
      refine j_get (pc' := 39) K dX9_init_36 inX9 0 rfl rfl 0 (by decide) u_1_77 rfl rfl rfl ?_
      refine j_iload_n (pc' := 40) K dX9_init_39 rfl 1 rfl rfl ?_
      refine j_bipush (pc' := 42) (v := (9 : Int32)) K dX9_init_40 (by decide) rfl ?_
      refine j_imul (pc' := 43) K dX9_init_42 rfl ?_
      refine j_iload_n (pc' := 44) K dX9_init_43 rfl 2 rfl rfl ?_
      refine j_iadd (pc' := 45) K dX9_init_44 rfl ?_
      refine j_aload_n (pc' := 46) K dX9_init_45 rfl 0 rfl rfl ?_
      refine j_iconst (pc' := 47) (v := (0 : Int32)) K dX9_init_46 (by decide) rfl ?_
      refine j_iload_n (pc' := 48) K dX9_init_47 rfl 1 rfl rfl ?_
      refine j_iconst (pc' := 49) (v := (1 : Int32)) K dX9_init_48 (by decide) rfl ?_
      refine j_isub (pc' := 50) K dX9_init_49 rfl ?_
      refine j_iload_n (pc' := 51) K dX9_init_50 rfl 2 rfl rfl ?_
      refine j_iconst (pc' := 52) (v := (1 : Int32)) K dX9_init_51 (by decide) rfl ?_
      refine j_isub (pc' := 53) K dX9_init_52 rfl ?_
      obtain ⟨r53, hr53, h⟩ := jbd_some h
      refine j_ro (pc' := 56) K (fun H hP => jrun_V K dX9_init_53 (M_X9_ways (jl E) (jg E) p0_0 p0_1 (0 : Int32) (v1 - (1 : Int32)) (v2 - (1 : Int32)) s0 hr53) u_1_73 u_1_70 u_1_71 u_1_72 u_1_6 ⟨ok_X9_ways, by decide, by decide⟩ rfl (Nat.le_of_ble_eq_true rfl) 0 rfl rfl H hP) [0, 1] rfl rfl ?_
      refine j_iload_n (pc' := 57) K dX9_init_56 rfl 1 rfl rfl ?_
      refine j_iconst (pc' := 58) (v := (1 : Int32)) K dX9_init_57 (by decide) rfl ?_
      refine j_isub (pc' := 59) K dX9_init_58 rfl ?_
      refine j_aload_n (pc' := 60) K dX9_init_59 rfl 0 rfl rfl ?_
      refine j_iconst (pc' := 61) (v := (0 : Int32)) K dX9_init_60 (by decide) rfl ?_
      refine j_iload_n (pc' := 62) K dX9_init_61 rfl 1 rfl rfl ?_
      refine j_iconst (pc' := 63) (v := (1 : Int32)) K dX9_init_62 (by decide) rfl ?_
      refine j_isub (pc' := 64) K dX9_init_63 rfl ?_
      refine j_iload_n (pc' := 65) K dX9_init_64 rfl 2 rfl rfl ?_
      obtain ⟨r65, hr65, h⟩ := jbd_some h
      refine j_ro (pc' := 68) K (fun H hP => jrun_V K dX9_init_65 (M_X9_ways (jl E) (jg E) p0_0 p0_1 (0 : Int32) (v1 - (1 : Int32)) v2 s0 hr65) u_1_73 u_1_70 u_1_71 u_1_72 u_1_6 ⟨ok_X9_ways, by decide, by decide⟩ rfl (Nat.le_of_ble_eq_true rfl) 0 rfl rfl H hP) [0, 1] rfl rfl ?_
      refine j_imul (pc' := 69) K dX9_init_68 rfl ?_
      refine j_iadd (pc' := 70) K dX9_init_69 rfl ?_
      obtain ⟨hg, h⟩ := jgd_some h
      refine j_iast (pc' := 71) (ws' := (wRings (jg E) p0_0 p0_1 (upd s0 (Int32.toNatClampNeg ((v1 * (9 : Int32)) + v2)) (r53 + ((v1 - (1 : Int32)) * r65))))) K dX9_init_70 hrw 1 rfl hg (st_Rings_1 ..) rfl ?_
      refine j_iinc (pc' := 74) (j := 2) (v := (v2 + (1 : Int32))) (lv' := [(2, .int (v2 + (1 : Int32))), (0, .ref p0_0), (1, .int v1)]) K dX9_init_71 rfl rfl (by decide) rfl rfl ?_
      refine j_goto (tgt := 29) K dX9_init_74 (by decide) ?_
      refine j_sub [1, 2, 0] rfl ?_
      exact ih v1 (v2 + (1 : Int32)) (upd s0 (Int32.toNatClampNeg ((v1 * (9 : Int32)) + v2)) (r53 + ((v1 - (1 : Int32)) * r65))) h
set_option maxRecDepth 100000 in
set_option maxHeartbeats 4000000 in
theorem b_X9_init_21 {E : jE} (p0_0 p0_1 : Nat) {res : RingsS} (K : jC E cX9_init 3 RX9 2) (hrw : jrw E) (HR : jRV E cX9_init 3 (wRings (jg E) p0_0 p0_1 res)) : ∀ (n : Nat) (v1 : Int32) (s0 : RingsS), f_X9_init_21 n v1 s0 = some res → J E 3 (wRings (jg E) p0_0 p0_1 s0) 21 [(0, .ref p0_0), (1, .int v1)] [] := by
  intro n
  induction n with
  | zero => intro _ _ h; cases h
  | succ n ih =>
    intro v1 s0 h
    rw [f_X9_init_21] at h
    refine j_iload_n (pc' := 22) K dX9_init_21 rfl 1 rfl rfl ?_
    refine j_bipush (pc' := 24) (v := (9 : Int32)) K dX9_init_22 (by decide) rfl ?_
    refine j_icmp_ge (pc' := 27) (tgt := 83) K dX9_init_24 (by decide) rfl (fun hc => ?_) (fun hc => ?_)
    · have h := jit hc h
      obtain rfl := Option.some.inj h
      exact HR _ _ dX9_init_83
    · have h := jif hc h
      refine j_iconst (pc' := 28) (v := (0 : Int32)) K dX9_init_27 (by decide) rfl ?_
      refine j_istore_n (pc' := 29) (lv' := [(2, .int (0 : Int32)), (0, .ref p0_0), (1, .int v1)]) K dX9_init_28 rfl (by decide) rfl rfl ?_
      refine j_sub [1, 2, 0] rfl ?_
      exact b_X9_init_29 p0_0 p0_1 K hrw HR (f_X9_init_21 n) (ih) jFU v1 (0 : Int32) s0 h
set_option maxRecDepth 100000 in
set_option maxHeartbeats 4000000 in
theorem b_X9_init_12 {E : jE} (p0_0 p0_1 : Nat) {res : RingsS} (K : jC E cX9_init 3 RX9 2) (hrw : jrw E) (HR : jRV E cX9_init 3 (wRings (jg E) p0_0 p0_1 res)) : ∀ (s0 : RingsS), f_X9_init_12 s0 = some res → J E 3 (wRings (jg E) p0_0 p0_1 s0) 12 [(0, .ref p0_0)] [] := by
  intro s0 h
  unfold f_X9_init_12 at h
  refine j_aload_n (pc' := 13) K dX9_init_12 rfl 0 rfl rfl ?_
  refine j_get (pc' := 16) K dX9_init_13 inX9 0 rfl rfl 0 (by decide) u_1_77 rfl rfl rfl ?_
  refine j_iconst (pc' := 17) (v := (0 : Int32)) K dX9_init_16 (by decide) rfl ?_
  refine j_iconst (pc' := 18) (v := (1 : Int32)) K dX9_init_17 (by decide) rfl ?_
  obtain ⟨hg, h⟩ := jgd_some h
  refine j_iast (pc' := 19) (ws' := (wRings (jg E) p0_0 p0_1 (upd s0 (Int32.toNatClampNeg (0 : Int32)) (1 : Int32)))) K dX9_init_18 hrw 1 rfl hg (st_Rings_1 ..) rfl ?_
  refine j_iconst (pc' := 20) (v := (1 : Int32)) K dX9_init_19 (by decide) rfl ?_
  refine j_istore_n (pc' := 21) (lv' := [(1, .int (1 : Int32)), (0, .ref p0_0)]) K dX9_init_20 rfl (by decide) rfl rfl ?_
  refine j_sub [1, 0] rfl ?_
  exact b_X9_init_21 p0_0 p0_1 K hrw HR jFU (1 : Int32) (upd s0 (Int32.toNatClampNeg (0 : Int32)) (1 : Int32)) h
set_option maxRecDepth 100000 in
set_option maxHeartbeats 4000000 in
theorem C_X9_init (l : Launch) (G : jG) (h0 : Nat) (sz : Nat) {tR : RingsS} (h_tR : f_X9_init_12 (fun _ => 0) = some tR) : MK l yX9_init cX9_init 3 2 1 81 G [(h0, .inr (8, [.null]))] sz [.ref h0] (fun w => ∃ q7 : Nat, w = wRings G h0 q7 tR) := by
  refine mk_of (by decide +kernel) rfl (Nat.le_of_ble_eq_true rfl) fun E hl hg hA hrw hnew hI hX K HR => ?_
  subst hl
  subst hg
  refine j_aload_n (pc' := 1) (K 0 0 (by decide) (by decide)) dX9_init_0 rfl 0 rfl rfl ?_
  refine j_ro (pc' := 4) (K 0 0 (by decide) (by decide)) (fun H hP => jrun_IN (host := "CountTriangles") (K 0 0 (by decide) (by decide)) dX9_init_1 (M_X5_init (jl E) (jg E) h0) u_1_68 (by decide) u_1_67 u_1_5 rfl ⟨ok_X5_init, by decide, by decide⟩ (Nat.le_of_ble_eq_true rfl) H) [] rfl rfl ?_
  refine j_aload_n (pc' := 5) (K 0 0 (by decide) (by decide)) dX9_init_4 rfl 0 rfl rfl ?_
  refine j_bipush (pc' := 7) (v := (81 : Int32)) (K 0 0 (by decide) (by decide)) dX9_init_5 (by decide) rfl ?_
  refine j_newa (pc' := 9) (N := 81) (a0 := (81, .inl (fun _ => 0))) (K 0 0 (by decide) (by decide)) (K 1 81 (by decide) (by decide)) hrw hnew dX9_init_7 rfl u_1_52 0 rfl (fun _ => rfl) (by decide) (by decide) (by decide) rfl (fun q7 => ?_)
  refine j_ws (ws2 := [(h0, .inr (8, [.null])), (q7, .inl ((jg E).2.1 0, 81, .inl (fun _ => 0)))]) rfl ?_
  refine jk_c 1 81 rfl rfl ?_
  refine j_putF (pc' := 12) (ws' := [(h0, .inr (8, [.ref q7])), (q7, .inl ((jg E).2.1 0, 81, .inl (fun _ => 0)))]) (K 1 81 (by decide) (by decide)) dX9_init_9 hrw hI inX9 tyX9 tyX9_ok nmX9 0 rfl rfl 0 (by decide) u_1_77 rfl rfl rfl rfl rfl (Nat.le_of_ble_eq_true rfl) rfl rfl ?_
  exact b_X9_init_12 (E := jk E 1 81) h0 q7 (K 1 81 (by decide) (by decide)) hrw (fun pc lv hd => HR _ pc lv ⟨q7, rfl⟩ hd) (fun _ => 0) h_tR
def f_X0_init_78 (k22 : Int32 → FallsS → Option (FallsS)) (v1 : Int32) (s0 : FallsS) : Option (FallsS) :=
   k22 (v1 + (1 : Int32)) s0
def f_X0_init_72 (k22 : Int32 → FallsS → Option (FallsS)) (k30 : Int32 → Int32 → FallsS → Option (FallsS)) (v1 : Int32) (v2 : Int32) (s0 : FallsS) : Option (FallsS) :=
   k30 v1 (v2 + (1 : Int32)) s0
def f_X0_init_37 (k22 : Int32 → FallsS → Option (FallsS)) (k30 : Int32 → Int32 → FallsS → Option (FallsS)) : Nat → Int32 → Int32 → Int32 → FallsS → Option (FallsS)
  | 0, _, _, _, _ => none
  | n + 1, v1, v2, v3, s0 =>
   if (9 : Int32) ≤ v3 then
   f_X0_init_72 k22 k30 v1 v2 s0
  else
   jbd (f_X0_waysByNext v2 v1 v3 s0) (fun r62 =>
    jgd ((((v1 * (9 : Int32)) + v2) * (9 : Int32)) + v3) 729 (
     (f_X0_init_37 k22 k30 n) v1 v2 (v3 + (1 : Int32)) (upd s0 (Int32.toNatClampNeg ((((v1 * (9 : Int32)) + v2) * (9 : Int32)) + v3)) r62)))
def f_X0_init_30 (k22 : Int32 → FallsS → Option (FallsS)) : Nat → Int32 → Int32 → FallsS → Option (FallsS)
  | 0, _, _, _ => none
  | n + 1, v1, v2, s0 =>
   if v1 < v2 then
   f_X0_init_78 k22 v1 s0
  else
   f_X0_init_37 k22 (f_X0_init_30 k22 n) jFU v1 v2 (0 : Int32) s0
def f_X0_init_22 : Nat → Int32 → FallsS → Option (FallsS)
  | 0, _, _ => none
  | n + 1, v1, s0 =>
   if (9 : Int32) ≤ v1 then
   some s0
  else
   f_X0_init_30 (f_X0_init_22 n) jFU v1 (0 : Int32) s0
def f_X0_init_13 (s0 : FallsS) : Option (FallsS) :=
   jgd (0 : Int32) 729 (
   f_X0_init_22 jFU (1 : Int32) (upd s0 (Int32.toNatClampNeg (0 : Int32)) (1 : Int32)))
set_option maxRecDepth 100000 in
set_option maxHeartbeats 4000000 in
theorem b_X0_init_78 {E : jE} (p0_0 p0_1 : Nat) {res : FallsS} (K : jC E cX0_init 4 RX0 3) (hrw : jrw E) (HR : jRV E cX0_init 4 (wFalls (jg E) p0_0 p0_1 res)) (k22 : Int32 → FallsS → Option (FallsS)) (hk22 : ∀ (v1 : Int32) (s0 : FallsS), k22 v1 s0 = some res → J E 4 (wFalls (jg E) p0_0 p0_1 s0) 22 [(0, .ref p0_0), (1, .int v1)] []) : ∀ (v1 : Int32) (s0 : FallsS), f_X0_init_78 k22 v1 s0 = some res → J E 4 (wFalls (jg E) p0_0 p0_1 s0) 78 [(0, .ref p0_0), (1, .int v1)] [] := by
  intro v1 s0 h
  unfold f_X0_init_78 at h
  refine j_iinc (pc' := 81) (j := 1) (v := (v1 + (1 : Int32))) (lv' := [(1, .int (v1 + (1 : Int32))), (0, .ref p0_0)]) K dX0_init_78 rfl rfl (by decide) rfl rfl ?_
  refine j_goto (tgt := 22) K dX0_init_81 (by decide) ?_
  refine j_sub [1, 0] rfl ?_
  exact hk22 (v1 + (1 : Int32)) s0 h
set_option maxRecDepth 100000 in
set_option maxHeartbeats 4000000 in
theorem b_X0_init_72 {E : jE} (p0_0 p0_1 : Nat) {res : FallsS} (K : jC E cX0_init 4 RX0 3) (hrw : jrw E) (HR : jRV E cX0_init 4 (wFalls (jg E) p0_0 p0_1 res)) (k22 : Int32 → FallsS → Option (FallsS)) (k30 : Int32 → Int32 → FallsS → Option (FallsS)) (hk22 : ∀ (v1 : Int32) (s0 : FallsS), k22 v1 s0 = some res → J E 4 (wFalls (jg E) p0_0 p0_1 s0) 22 [(0, .ref p0_0), (1, .int v1)] []) (hk30 : ∀ (v1 : Int32) (v2 : Int32) (s0 : FallsS), k30 v1 v2 s0 = some res → J E 4 (wFalls (jg E) p0_0 p0_1 s0) 30 [(0, .ref p0_0), (1, .int v1), (2, .int v2)] []) : ∀ (v1 : Int32) (v2 : Int32) (s0 : FallsS), f_X0_init_72 k22 k30 v1 v2 s0 = some res → J E 4 (wFalls (jg E) p0_0 p0_1 s0) 72 [(0, .ref p0_0), (1, .int v1), (2, .int v2)] [] := by
  intro v1 v2 s0 h
  unfold f_X0_init_72 at h
  refine j_iinc (pc' := 75) (j := 2) (v := (v2 + (1 : Int32))) (lv' := [(2, .int (v2 + (1 : Int32))), (0, .ref p0_0), (1, .int v1)]) K dX0_init_72 rfl rfl (by decide) rfl rfl ?_
  refine j_goto (tgt := 30) K dX0_init_75 (by decide) ?_
  refine j_sub [1, 2, 0] rfl ?_
  exact hk30 v1 (v2 + (1 : Int32)) s0 h
set_option maxRecDepth 100000 in
set_option maxHeartbeats 4000000 in
theorem b_X0_init_37 {E : jE} (p0_0 p0_1 : Nat) {res : FallsS} (K : jC E cX0_init 4 RX0 3) (hrw : jrw E) (HR : jRV E cX0_init 4 (wFalls (jg E) p0_0 p0_1 res)) (k22 : Int32 → FallsS → Option (FallsS)) (k30 : Int32 → Int32 → FallsS → Option (FallsS)) (hk22 : ∀ (v1 : Int32) (s0 : FallsS), k22 v1 s0 = some res → J E 4 (wFalls (jg E) p0_0 p0_1 s0) 22 [(0, .ref p0_0), (1, .int v1)] []) (hk30 : ∀ (v1 : Int32) (v2 : Int32) (s0 : FallsS), k30 v1 v2 s0 = some res → J E 4 (wFalls (jg E) p0_0 p0_1 s0) 30 [(0, .ref p0_0), (1, .int v1), (2, .int v2)] []) : ∀ (n : Nat) (v1 : Int32) (v2 : Int32) (v3 : Int32) (s0 : FallsS), f_X0_init_37 k22 k30 n v1 v2 v3 s0 = some res → J E 4 (wFalls (jg E) p0_0 p0_1 s0) 37 [(0, .ref p0_0), (1, .int v1), (2, .int v2), (3, .int v3)] [] := by
  intro n
  induction n with
  | zero => intro _ _ _ _ h; cases h
  | succ n ih =>
    intro v1 v2 v3 s0 h
    rw [f_X0_init_37] at h
    refine j_iload_n (pc' := 38) K dX0_init_37 rfl 3 rfl rfl ?_
    refine j_bipush (pc' := 40) (v := (9 : Int32)) K dX0_init_38 (by decide) rfl ?_
    refine j_icmp_ge (pc' := 43) (tgt := 72) K dX0_init_40 (by decide) rfl (fun hc => ?_) (fun hc => ?_)
    · have h := jit hc h
      refine j_sub [0, 1, 2] rfl ?_
      exact b_X0_init_72 p0_0 p0_1 K hrw HR k22 k30 hk22 hk30 v1 v2 s0 h
    · have h := jif hc h
      refine j_aload_n (pc' := 44) K dX0_init_43 rfl 0 rfl rfl ?_
      refine j_get (pc' := 47) K dX0_init_44 inX0 0 rfl rfl 0 (by decide) u_1_96 rfl rfl rfl ?_
      refine j_iload_n (pc' := 48) K dX0_init_47 rfl 1 rfl rfl ?_
      refine j_bipush (pc' := 50) (v := (9 : Int32)) K dX0_init_48 (by decide) rfl ?_
      refine j_imul (pc' := 51) K dX0_init_50 rfl ?_
      refine j_iload_n (pc' := 52) K dX0_init_51 rfl 2 rfl rfl ?_
      refine j_iadd (pc' := 53) K dX0_init_52 rfl ?_
      refine j_bipush (pc' := 55) (v := (9 : Int32)) K dX0_init_53 (by decide) rfl ?_
      refine j_imul (pc' := 56) K dX0_init_55 rfl ?_
      refine j_iload_n (pc' := 57) K dX0_init_56 rfl 3 rfl rfl ?_
      refine j_iadd (pc' := 58) K dX0_init_57 rfl ?_
      refine j_aload_n (pc' := 59) K dX0_init_58 rfl 0 rfl rfl ?_
      refine j_iload_n (pc' := 60) K dX0_init_59 rfl 2 rfl rfl ?_
      refine j_iload_n (pc' := 61) K dX0_init_60 rfl 1 rfl rfl ?_
      refine j_iload_n (pc' := 62) K dX0_init_61 rfl 3 rfl rfl ?_
      obtain ⟨r62, hr62, h⟩ := jbd_some h
      refine j_ro (pc' := 65) K (fun H hP => jrun_V K dX0_init_62 (M_X0_waysByNext (jl E) (jg E) p0_0 p0_1 v2 v1 v3 s0 hr62) u_1_90 u_1_87 u_1_89 u_p_0 u_1_7 ⟨ok_X0_waysByNext, by decide, by decide⟩ rfl (Nat.le_of_ble_eq_true rfl) 0 rfl rfl H hP) [0, 1] rfl rfl ?_
      obtain ⟨hg, h⟩ := jgd_some h
      refine j_iast (pc' := 66) (ws' := (wFalls (jg E) p0_0 p0_1 (upd s0 (Int32.toNatClampNeg ((((v1 * (9 : Int32)) + v2) * (9 : Int32)) + v3)) r62))) K dX0_init_65 hrw 1 rfl hg (st_Falls_1 ..) rfl ?_
      refine j_iinc (pc' := 69) (j := 3) (v := (v3 + (1 : Int32))) (lv' := [(3, .int (v3 + (1 : Int32))), (0, .ref p0_0), (1, .int v1), (2, .int v2)]) K dX0_init_66 rfl rfl (by decide) rfl rfl ?_
      refine j_goto (tgt := 37) K dX0_init_69 (by decide) ?_
      refine j_sub [1, 2, 3, 0] rfl ?_
      exact ih v1 v2 (v3 + (1 : Int32)) (upd s0 (Int32.toNatClampNeg ((((v1 * (9 : Int32)) + v2) * (9 : Int32)) + v3)) r62) h
set_option maxRecDepth 100000 in
set_option maxHeartbeats 4000000 in
theorem b_X0_init_30 {E : jE} (p0_0 p0_1 : Nat) {res : FallsS} (K : jC E cX0_init 4 RX0 3) (hrw : jrw E) (HR : jRV E cX0_init 4 (wFalls (jg E) p0_0 p0_1 res)) (k22 : Int32 → FallsS → Option (FallsS)) (hk22 : ∀ (v1 : Int32) (s0 : FallsS), k22 v1 s0 = some res → J E 4 (wFalls (jg E) p0_0 p0_1 s0) 22 [(0, .ref p0_0), (1, .int v1)] []) : ∀ (n : Nat) (v1 : Int32) (v2 : Int32) (s0 : FallsS), f_X0_init_30 k22 n v1 v2 s0 = some res → J E 4 (wFalls (jg E) p0_0 p0_1 s0) 30 [(0, .ref p0_0), (1, .int v1), (2, .int v2)] [] := by
  intro n
  induction n with
  | zero => intro _ _ _ h; cases h
  | succ n ih =>
    intro v1 v2 s0 h
    rw [f_X0_init_30] at h
    refine j_iload_n (pc' := 31) K dX0_init_30 rfl 2 rfl rfl ?_
    refine j_iload_n (pc' := 32) K dX0_init_31 rfl 1 rfl rfl ?_
    refine j_icmp_gt (pc' := 35) (tgt := 78) K dX0_init_32 (by decide) rfl (fun hc => ?_) (fun hc => ?_)
    · have h := jit hc h
      refine j_sub [0, 1] rfl ?_
      exact b_X0_init_78 p0_0 p0_1 K hrw HR k22 hk22 v1 s0 h
    · have h := jif hc h
      refine j_iconst (pc' := 36) (v := (0 : Int32)) K dX0_init_35 (by decide) rfl ?_
      refine j_istore_n (pc' := 37) (lv' := [(3, .int (0 : Int32)), (0, .ref p0_0), (1, .int v1), (2, .int v2)]) K dX0_init_36 rfl (by decide) rfl rfl ?_
      refine j_sub [1, 2, 3, 0] rfl ?_
      exact b_X0_init_37 p0_0 p0_1 K hrw HR k22 (f_X0_init_30 k22 n) hk22 (ih) jFU v1 v2 (0 : Int32) s0 h
set_option maxRecDepth 100000 in
set_option maxHeartbeats 4000000 in
theorem b_X0_init_22 {E : jE} (p0_0 p0_1 : Nat) {res : FallsS} (K : jC E cX0_init 4 RX0 3) (hrw : jrw E) (HR : jRV E cX0_init 4 (wFalls (jg E) p0_0 p0_1 res)) : ∀ (n : Nat) (v1 : Int32) (s0 : FallsS), f_X0_init_22 n v1 s0 = some res → J E 4 (wFalls (jg E) p0_0 p0_1 s0) 22 [(0, .ref p0_0), (1, .int v1)] [] := by
  intro n
  induction n with
  | zero => intro _ _ h; cases h
  | succ n ih =>
    intro v1 s0 h
    rw [f_X0_init_22] at h
    refine j_iload_n (pc' := 23) K dX0_init_22 rfl 1 rfl rfl ?_
    refine j_bipush (pc' := 25) (v := (9 : Int32)) K dX0_init_23 (by decide) rfl ?_
    refine j_icmp_ge (pc' := 28) (tgt := 84) K dX0_init_25 (by decide) rfl (fun hc => ?_) (fun hc => ?_)
    · have h := jit hc h
      obtain rfl := Option.some.inj h
      exact HR _ _ dX0_init_84
    · have h := jif hc h
      refine j_iconst (pc' := 29) (v := (0 : Int32)) K dX0_init_28 (by decide) rfl ?_
      refine j_istore_n (pc' := 30) (lv' := [(2, .int (0 : Int32)), (0, .ref p0_0), (1, .int v1)]) K dX0_init_29 rfl (by decide) rfl rfl ?_
      refine j_sub [1, 2, 0] rfl ?_
      exact b_X0_init_30 p0_0 p0_1 K hrw HR (f_X0_init_22 n) (ih) jFU v1 (0 : Int32) s0 h
set_option maxRecDepth 100000 in
set_option maxHeartbeats 4000000 in
theorem b_X0_init_13 {E : jE} (p0_0 p0_1 : Nat) {res : FallsS} (K : jC E cX0_init 4 RX0 3) (hrw : jrw E) (HR : jRV E cX0_init 4 (wFalls (jg E) p0_0 p0_1 res)) : ∀ (s0 : FallsS), f_X0_init_13 s0 = some res → J E 4 (wFalls (jg E) p0_0 p0_1 s0) 13 [(0, .ref p0_0)] [] := by
  intro s0 h
  unfold f_X0_init_13 at h
  refine j_aload_n (pc' := 14) K dX0_init_13 rfl 0 rfl rfl ?_
  refine j_get (pc' := 17) K dX0_init_14 inX0 0 rfl rfl 0 (by decide) u_1_96 rfl rfl rfl ?_
  refine j_iconst (pc' := 18) (v := (0 : Int32)) K dX0_init_17 (by decide) rfl ?_
  refine j_iconst (pc' := 19) (v := (1 : Int32)) K dX0_init_18 (by decide) rfl ?_
  obtain ⟨hg, h⟩ := jgd_some h
  refine j_iast (pc' := 20) (ws' := (wFalls (jg E) p0_0 p0_1 (upd s0 (Int32.toNatClampNeg (0 : Int32)) (1 : Int32)))) K dX0_init_19 hrw 1 rfl hg (st_Falls_1 ..) rfl ?_
  refine j_iconst (pc' := 21) (v := (1 : Int32)) K dX0_init_20 (by decide) rfl ?_
  refine j_istore_n (pc' := 22) (lv' := [(1, .int (1 : Int32)), (0, .ref p0_0)]) K dX0_init_21 rfl (by decide) rfl rfl ?_
  refine j_sub [1, 0] rfl ?_
  exact b_X0_init_22 p0_0 p0_1 K hrw HR jFU (1 : Int32) (upd s0 (Int32.toNatClampNeg (0 : Int32)) (1 : Int32)) h
set_option maxRecDepth 100000 in
set_option maxHeartbeats 4000000 in
theorem C_X0_init (l : Launch) (G : jG) (h0 : Nat) (sz : Nat) {tF : FallsS} (h_tF : f_X0_init_13 (fun _ => 0) = some tF) : MK l yX0_init cX0_init 4 3 1 729 G [(h0, .inr (0, [.null]))] sz [.ref h0] (fun w => ∃ q8 : Nat, w = wFalls G h0 q8 tF) := by
  refine mk_of (by decide +kernel) rfl (Nat.le_of_ble_eq_true rfl) fun E hl hg hA hrw hnew hI hX K HR => ?_
  subst hl
  subst hg
  refine j_aload_n (pc' := 1) (K 0 0 (by decide) (by decide)) dX0_init_0 rfl 0 rfl rfl ?_
  refine j_ro (pc' := 4) (K 0 0 (by decide) (by decide)) (fun H hP => jrun_IN (host := "CountTriangles") (K 0 0 (by decide) (by decide)) dX0_init_1 (M_X5_init (jl E) (jg E) h0) u_1_68 (by decide) u_1_67 u_1_5 rfl ⟨ok_X5_init, by decide, by decide⟩ (Nat.le_of_ble_eq_true rfl) H) [] rfl rfl ?_
  refine j_aload_n (pc' := 5) (K 0 0 (by decide) (by decide)) dX0_init_4 rfl 0 rfl rfl ?_
  refine j_sipush (pc' := 8) (v := (729 : Int32)) (K 0 0 (by decide) (by decide)) dX0_init_5 (by decide) rfl ?_
  refine j_newa (pc' := 10) (N := 729) (a0 := (729, .inl (fun _ => 0))) (K 0 0 (by decide) (by decide)) (K 1 729 (by decide) (by decide)) hrw hnew dX0_init_8 rfl u_1_52 0 rfl (fun _ => rfl) (by decide) (by decide) (by decide) rfl (fun q8 => ?_)
  refine j_ws (ws2 := [(h0, .inr (0, [.null])), (q8, .inl ((jg E).2.1 0, 729, .inl (fun _ => 0)))]) rfl ?_
  refine jk_c 1 729 rfl rfl ?_
  refine j_putF (pc' := 13) (ws' := [(h0, .inr (0, [.ref q8])), (q8, .inl ((jg E).2.1 0, 729, .inl (fun _ => 0)))]) (K 1 729 (by decide) (by decide)) dX0_init_10 hrw hI inX0 tyX0 tyX0_ok nmX0 0 rfl rfl 0 (by decide) u_1_96 rfl rfl rfl rfl rfl (Nat.le_of_ble_eq_true rfl) rfl rfl ?_
  exact b_X0_init_13 (E := jk E 1 729) h0 q8 (K 1 729 (by decide) (by decide)) hrw (fun pc lv hd => HR _ pc lv ⟨q8, rfl⟩ hd) (fun _ => 0) h_tF
def f_X3_init_59 (k22 : Int32 → LesserPairsS → Option (LesserPairsS)) (v1 : Int32) (s0 : LesserPairsS) : Option (LesserPairsS) :=
   k22 (v1 + (1 : Int32)) s0
def f_X3_init_30 (k22 : Int32 → LesserPairsS → Option (LesserPairsS)) : Nat → Int32 → Int32 → LesserPairsS → Option (LesserPairsS)
  | 0, _, _, _ => none
  | n + 1, v1, v2, s0 =>
   if (28 : Int32) < v2 then
   f_X3_init_59 k22 v1 s0
  else
   jbd (f_X3_waysByNext v1 v2 s0) (fun r49 =>
    jgd ((v1 * (29 : Int32)) + v2) 261 (
     (f_X3_init_30 k22 n) v1 (v2 + (1 : Int32)) (upd s0 (Int32.toNatClampNeg ((v1 * (29 : Int32)) + v2)) r49)))
def f_X3_init_22 : Nat → Int32 → LesserPairsS → Option (LesserPairsS)
  | 0, _, _ => none
  | n + 1, v1, s0 =>
   if (9 : Int32) ≤ v1 then
   some s0
  else
   f_X3_init_30 (f_X3_init_22 n) jFU v1 (0 : Int32) s0
def f_X3_init_13 (s0 : LesserPairsS) : Option (LesserPairsS) :=
   jgd (0 : Int32) 261 (
   f_X3_init_22 jFU (1 : Int32) (upd s0 (Int32.toNatClampNeg (0 : Int32)) (1 : Int32)))
set_option maxRecDepth 100000 in
set_option maxHeartbeats 4000000 in
theorem b_X3_init_59 {E : jE} (p0_0 p0_1 : Nat) {res : LesserPairsS} (K : jC E cX3_init 3 RX3 3) (hrw : jrw E) (HR : jRV E cX3_init 3 (wLesserPairs (jg E) p0_0 p0_1 res)) (k22 : Int32 → LesserPairsS → Option (LesserPairsS)) (hk22 : ∀ (v1 : Int32) (s0 : LesserPairsS), k22 v1 s0 = some res → J E 3 (wLesserPairs (jg E) p0_0 p0_1 s0) 22 [(0, .ref p0_0), (1, .int v1)] []) : ∀ (v1 : Int32) (s0 : LesserPairsS), f_X3_init_59 k22 v1 s0 = some res → J E 3 (wLesserPairs (jg E) p0_0 p0_1 s0) 59 [(0, .ref p0_0), (1, .int v1)] [] := by
  intro v1 s0 h
  unfold f_X3_init_59 at h
  refine j_iinc (pc' := 62) (j := 1) (v := (v1 + (1 : Int32))) (lv' := [(1, .int (v1 + (1 : Int32))), (0, .ref p0_0)]) K dX3_init_59 rfl rfl (by decide) rfl rfl ?_
  refine j_goto (tgt := 22) K dX3_init_62 (by decide) ?_
  refine j_sub [1, 0] rfl ?_
  exact hk22 (v1 + (1 : Int32)) s0 h
set_option maxRecDepth 100000 in
set_option maxHeartbeats 4000000 in
theorem b_X3_init_30 {E : jE} (p0_0 p0_1 : Nat) {res : LesserPairsS} (K : jC E cX3_init 3 RX3 3) (hrw : jrw E) (HR : jRV E cX3_init 3 (wLesserPairs (jg E) p0_0 p0_1 res)) (k22 : Int32 → LesserPairsS → Option (LesserPairsS)) (hk22 : ∀ (v1 : Int32) (s0 : LesserPairsS), k22 v1 s0 = some res → J E 3 (wLesserPairs (jg E) p0_0 p0_1 s0) 22 [(0, .ref p0_0), (1, .int v1)] []) : ∀ (n : Nat) (v1 : Int32) (v2 : Int32) (s0 : LesserPairsS), f_X3_init_30 k22 n v1 v2 s0 = some res → J E 3 (wLesserPairs (jg E) p0_0 p0_1 s0) 30 [(0, .ref p0_0), (1, .int v1), (2, .int v2)] [] := by
  intro n
  induction n with
  | zero => intro _ _ _ h; cases h
  | succ n ih =>
    intro v1 v2 s0 h
    rw [f_X3_init_30] at h
    refine j_iload_n (pc' := 31) K dX3_init_30 rfl 2 rfl rfl ?_
    refine j_bipush (pc' := 33) (v := (28 : Int32)) K dX3_init_31 (by decide) rfl ?_
    refine j_icmp_gt (pc' := 36) (tgt := 59) K dX3_init_33 (by decide) rfl (fun hc => ?_) (fun hc => ?_)
    · have h := jit hc h
      refine j_sub [0, 1] rfl ?_
      exact b_X3_init_59 p0_0 p0_1 K hrw HR k22 hk22 v1 s0 h
    · have h := jif hc h
      refine j_aload_n (pc' := 37) K dX3_init_36 rfl 0 rfl rfl ?_
      refine j_get (pc' := 40) K dX3_init_37 inX3 0 rfl rfl 0 (by decide) u_1_115 rfl rfl rfl ?_
      refine j_iload_n (pc' := 41) K dX3_init_40 rfl 1 rfl rfl ?_
      refine j_bipush (pc' := 43) (v := (29 : Int32)) K dX3_init_41 (by decide) rfl ?_
      refine j_imul (pc' := 44) K dX3_init_43 rfl ?_
      refine j_iload_n (pc' := 45) K dX3_init_44 rfl 2 rfl rfl ?_
      refine j_iadd (pc' := 46) K dX3_init_45 rfl ?_
      refine j_aload_n (pc' := 47) K dX3_init_46 rfl 0 rfl rfl ?_
      refine j_iload_n (pc' := 48) K dX3_init_47 rfl 1 rfl rfl ?_
      refine j_iload_n (pc' := 49) K dX3_init_48 rfl 2 rfl rfl ?_
      obtain ⟨r49, hr49, h⟩ := jbd_some h
      refine j_ro (pc' := 52) K (fun H hP => jrun_V K dX3_init_49 (M_X3_waysByNext (jl E) (jg E) p0_0 p0_1 v1 v2 s0 hr49) u_1_109 u_1_106 u_1_108 u_p_1 u_1_8 ⟨ok_X3_waysByNext, by decide, by decide⟩ rfl (Nat.le_of_ble_eq_true rfl) 0 rfl rfl H hP) [0, 1] rfl rfl ?_
      obtain ⟨hg, h⟩ := jgd_some h
      refine j_iast (pc' := 53) (ws' := (wLesserPairs (jg E) p0_0 p0_1 (upd s0 (Int32.toNatClampNeg ((v1 * (29 : Int32)) + v2)) r49))) K dX3_init_52 hrw 1 rfl hg (st_LesserPairs_1 ..) rfl ?_
      refine j_iinc (pc' := 56) (j := 2) (v := (v2 + (1 : Int32))) (lv' := [(2, .int (v2 + (1 : Int32))), (0, .ref p0_0), (1, .int v1)]) K dX3_init_53 rfl rfl (by decide) rfl rfl ?_
      refine j_goto (tgt := 30) K dX3_init_56 (by decide) ?_
      refine j_sub [1, 2, 0] rfl ?_
      exact ih v1 (v2 + (1 : Int32)) (upd s0 (Int32.toNatClampNeg ((v1 * (29 : Int32)) + v2)) r49) h
set_option maxRecDepth 100000 in
set_option maxHeartbeats 4000000 in
theorem b_X3_init_22 {E : jE} (p0_0 p0_1 : Nat) {res : LesserPairsS} (K : jC E cX3_init 3 RX3 3) (hrw : jrw E) (HR : jRV E cX3_init 3 (wLesserPairs (jg E) p0_0 p0_1 res)) : ∀ (n : Nat) (v1 : Int32) (s0 : LesserPairsS), f_X3_init_22 n v1 s0 = some res → J E 3 (wLesserPairs (jg E) p0_0 p0_1 s0) 22 [(0, .ref p0_0), (1, .int v1)] [] := by
  intro n
  induction n with
  | zero => intro _ _ h; cases h
  | succ n ih =>
    intro v1 s0 h
    rw [f_X3_init_22] at h
    refine j_iload_n (pc' := 23) K dX3_init_22 rfl 1 rfl rfl ?_
    refine j_bipush (pc' := 25) (v := (9 : Int32)) K dX3_init_23 (by decide) rfl ?_
    refine j_icmp_ge (pc' := 28) (tgt := 65) K dX3_init_25 (by decide) rfl (fun hc => ?_) (fun hc => ?_)
    · have h := jit hc h
      obtain rfl := Option.some.inj h
      exact HR _ _ dX3_init_65
    · have h := jif hc h
      refine j_iconst (pc' := 29) (v := (0 : Int32)) K dX3_init_28 (by decide) rfl ?_
      refine j_istore_n (pc' := 30) (lv' := [(2, .int (0 : Int32)), (0, .ref p0_0), (1, .int v1)]) K dX3_init_29 rfl (by decide) rfl rfl ?_
      refine j_sub [1, 2, 0] rfl ?_
      exact b_X3_init_30 p0_0 p0_1 K hrw HR (f_X3_init_22 n) (ih) jFU v1 (0 : Int32) s0 h
set_option maxRecDepth 100000 in
set_option maxHeartbeats 4000000 in
theorem b_X3_init_13 {E : jE} (p0_0 p0_1 : Nat) {res : LesserPairsS} (K : jC E cX3_init 3 RX3 3) (hrw : jrw E) (HR : jRV E cX3_init 3 (wLesserPairs (jg E) p0_0 p0_1 res)) : ∀ (s0 : LesserPairsS), f_X3_init_13 s0 = some res → J E 3 (wLesserPairs (jg E) p0_0 p0_1 s0) 13 [(0, .ref p0_0)] [] := by
  intro s0 h
  unfold f_X3_init_13 at h
  refine j_aload_n (pc' := 14) K dX3_init_13 rfl 0 rfl rfl ?_
  refine j_get (pc' := 17) K dX3_init_14 inX3 0 rfl rfl 0 (by decide) u_1_115 rfl rfl rfl ?_
  refine j_iconst (pc' := 18) (v := (0 : Int32)) K dX3_init_17 (by decide) rfl ?_
  refine j_iconst (pc' := 19) (v := (1 : Int32)) K dX3_init_18 (by decide) rfl ?_
  obtain ⟨hg, h⟩ := jgd_some h
  refine j_iast (pc' := 20) (ws' := (wLesserPairs (jg E) p0_0 p0_1 (upd s0 (Int32.toNatClampNeg (0 : Int32)) (1 : Int32)))) K dX3_init_19 hrw 1 rfl hg (st_LesserPairs_1 ..) rfl ?_
  refine j_iconst (pc' := 21) (v := (1 : Int32)) K dX3_init_20 (by decide) rfl ?_
  refine j_istore_n (pc' := 22) (lv' := [(1, .int (1 : Int32)), (0, .ref p0_0)]) K dX3_init_21 rfl (by decide) rfl rfl ?_
  refine j_sub [1, 0] rfl ?_
  exact b_X3_init_22 p0_0 p0_1 K hrw HR jFU (1 : Int32) (upd s0 (Int32.toNatClampNeg (0 : Int32)) (1 : Int32)) h
set_option maxRecDepth 100000 in
set_option maxHeartbeats 4000000 in
theorem C_X3_init (l : Launch) (G : jG) (h0 : Nat) (sz : Nat) {tL : LesserPairsS} (h_tL : f_X3_init_13 (fun _ => 0) = some tL) : MK l yX3_init cX3_init 3 3 1 261 G [(h0, .inr (3, [.null]))] sz [.ref h0] (fun w => ∃ q8 : Nat, w = wLesserPairs G h0 q8 tL) := by
  refine mk_of (by decide +kernel) rfl (Nat.le_of_ble_eq_true rfl) fun E hl hg hA hrw hnew hI hX K HR => ?_
  subst hl
  subst hg
  refine j_aload_n (pc' := 1) (K 0 0 (by decide) (by decide)) dX3_init_0 rfl 0 rfl rfl ?_
  refine j_ro (pc' := 4) (K 0 0 (by decide) (by decide)) (fun H hP => jrun_IN (host := "CountTriangles") (K 0 0 (by decide) (by decide)) dX3_init_1 (M_X5_init (jl E) (jg E) h0) u_1_68 (by decide) u_1_67 u_1_5 rfl ⟨ok_X5_init, by decide, by decide⟩ (Nat.le_of_ble_eq_true rfl) H) [] rfl rfl ?_
  refine j_aload_n (pc' := 5) (K 0 0 (by decide) (by decide)) dX3_init_4 rfl 0 rfl rfl ?_
  refine j_sipush (pc' := 8) (v := (261 : Int32)) (K 0 0 (by decide) (by decide)) dX3_init_5 (by decide) rfl ?_
  refine j_newa (pc' := 10) (N := 261) (a0 := (261, .inl (fun _ => 0))) (K 0 0 (by decide) (by decide)) (K 1 261 (by decide) (by decide)) hrw hnew dX3_init_8 rfl u_1_52 0 rfl (fun _ => rfl) (by decide) (by decide) (by decide) rfl (fun q8 => ?_)
  refine j_ws (ws2 := [(h0, .inr (3, [.null])), (q8, .inl ((jg E).2.1 0, 261, .inl (fun _ => 0)))]) rfl ?_
  refine jk_c 1 261 rfl rfl ?_
  refine j_putF (pc' := 13) (ws' := [(h0, .inr (3, [.ref q8])), (q8, .inl ((jg E).2.1 0, 261, .inl (fun _ => 0)))]) (K 1 261 (by decide) (by decide)) dX3_init_10 hrw hI inX3 tyX3 tyX3_ok nmX3 0 rfl rfl 0 (by decide) u_1_115 rfl rfl rfl rfl rfl (Nat.le_of_ble_eq_true rfl) rfl rfl ?_
  exact b_X3_init_13 (E := jk E 1 261) h0 q8 (K 1 261 (by decide) (by decide)) hrw (fun pc lv hd => HR _ pc lv ⟨q8, rfl⟩ hd) (fun _ => 0) h_tL
set_option maxRecDepth 100000 in
set_option maxHeartbeats 4000000 in
theorem C_X6_init (l : Launch) (G : jG) (h0 : Nat) (sz : Nat) {tR : RingsS} {tF : FallsS} {tL : LesserPairsS} (h_tR : f_X9_init_12 (fun _ => 0) = some tR) (h_tF : f_X0_init_13 (fun _ => 0) = some tF) (h_tL : f_X3_init_13 (fun _ => 0) = some tL) : MK l yX6_init cX6_init 2 4 12 1610 G [(h0, .inr (5, [.null, .null, .null]))] sz [.ref h0] (fun w => ∃ q7 q15 q22 q28 q7_32 q48 q8_52 q61 q8_65 q74 q88 q8_92 : Nat, w = wOrders G h0 q7 q15 q22 q28 q7_32 q48 q8_52 q61 q8_65 q74 q88 q8_92 ((fun _ => 0), (fun _ => 0), tR, tF, tL, ((fun _ => 0), 0))) := by
  refine mk_of (by decide +kernel) rfl (Nat.le_of_ble_eq_true rfl) fun E hl hg hA hrw hnew hI hX K HR => ?_
  subst hl
  subst hg
  refine j_aload_n (pc' := 1) (K 0 0 (by decide) (by decide)) dX6_init_0 rfl 0 rfl rfl ?_
  refine j_objInit (pc' := 4) (K 0 0 (by decide) (by decide)) dX6_init_1 u_1_58 u_1_24 u_obj (by decide) (Nat.le_of_ble_eq_true rfl) rfl ?_
  refine j_aload_n (pc' := 5) (K 0 0 (by decide) (by decide)) dX6_init_4 rfl 0 rfl rfl ?_
  refine j_bipush (pc' := 7) (v := (8 : Int32)) (K 0 0 (by decide) (by decide)) dX6_init_5 (by decide) rfl ?_
  refine j_newa (pc' := 9) (N := 8) (a0 := (8, .inl (fun _ => 0))) (K 0 0 (by decide) (by decide)) (K 1 8 (by decide) (by decide)) hrw hnew dX6_init_7 rfl u_1_52 0 rfl (fun _ => rfl) (by decide) (by decide) (by decide) rfl (fun q7 => ?_)
  refine j_ws (ws2 := [(h0, .inr (5, [.null, .null, .null])), (q7, .inl ((jg E).2.1 0, 8, .inl (fun _ => 0)))]) rfl ?_
  refine jk_c 1 8 rfl rfl ?_
  refine j_putF (pc' := 12) (ws' := [(h0, .inr (5, [.ref q7, .null, .null])), (q7, .inl ((jg E).2.1 0, 8, .inl (fun _ => 0)))]) (K 1 8 (by decide) (by decide)) dX6_init_9 hrw hI inX6 tyX6 tyX6_ok nmX6 0 rfl rfl 0 (by decide) u_1_142 rfl rfl rfl rfl rfl (Nat.le_of_ble_eq_true rfl) rfl rfl ?_
  refine j_aload_n (pc' := 13) (K 1 8 (by decide) (by decide)) dX6_init_12 rfl 0 rfl rfl ?_
  refine j_bipush (pc' := 15) (v := (8 : Int32)) (K 1 8 (by decide) (by decide)) dX6_init_13 (by decide) rfl ?_
  refine j_newa (pc' := 17) (N := 8) (a0 := (8, .inl (fun _ => 0))) (K 1 8 (by decide) (by decide)) (K 2 16 (by decide) (by decide)) hrw hnew dX6_init_15 rfl u_1_52 0 rfl (fun _ => rfl) (by decide) (by decide) (by decide) rfl (fun q15 => ?_)
  refine j_ws (ws2 := [(h0, .inr (5, [.ref q7, .null, .null])), (q7, .inl ((jg E).2.1 0, 8, .inl (fun _ => 0))), (q15, .inl ((jg E).2.1 0, 8, .inl (fun _ => 0)))]) rfl ?_
  refine jk_c 2 16 rfl rfl ?_
  refine j_putF (pc' := 20) (ws' := [(h0, .inr (5, [.ref q7, .ref q15, .null])), (q7, .inl ((jg E).2.1 0, 8, .inl (fun _ => 0))), (q15, .inl ((jg E).2.1 0, 8, .inl (fun _ => 0)))]) (K 2 16 (by decide) (by decide)) dX6_init_17 hrw hI inX6 tyX6 tyX6_ok nmX6 0 rfl rfl 1 (by decide) u_1_143 rfl rfl rfl rfl rfl (Nat.le_of_ble_eq_true rfl) rfl rfl ?_
  refine j_aload_n (pc' := 21) (K 2 16 (by decide) (by decide)) dX6_init_20 rfl 0 rfl rfl ?_
  refine j_iconst (pc' := 22) (v := (5 : Int32)) (K 2 16 (by decide) (by decide)) dX6_init_21 (by decide) rfl ?_
  refine j_newq (pc' := 25) (N := 5) (C := RX5) (K 2 16 (by decide) (by decide)) (K 3 21 (by decide) (by decide)) hrw hnew hX dX6_init_22 u_1_59 (by decide) 5 rfl (by decide) (by decide) (by decide) rfl (fun q22 => ?_)
  refine j_ws (ws2 := [(h0, .inr (5, [.ref q7, .ref q15, .null])), (q7, .inl ((jg E).2.1 0, 8, .inl (fun _ => 0))), (q15, .inl ((jg E).2.1 0, 8, .inl (fun _ => 0))), (q22, .inl ((jg E).2.1 5, 5, .inr (.inr (.inr (.inr (fun _ => none))))))]) rfl ?_
  refine jk_c 3 21 rfl rfl ?_
  refine j_putF (pc' := 28) (ws' := [(h0, .inr (5, [.ref q7, .ref q15, .ref q22])), (q7, .inl ((jg E).2.1 0, 8, .inl (fun _ => 0))), (q15, .inl ((jg E).2.1 0, 8, .inl (fun _ => 0))), (q22, .inl ((jg E).2.1 5, 5, .inr (.inr (.inr (.inr (fun _ => none))))))]) (K 3 21 (by decide) (by decide)) dX6_init_25 hrw hI inX6 tyX6 tyX6_ok nmX6 0 rfl rfl 2 (by decide) u_1_144 rfl rfl rfl rfl rfl (Nat.le_of_ble_eq_true rfl) rfl rfl ?_
  refine j_new (pc' := 31) (ci := 8) (C := RX9) (T := TX9) (N := 1) (fs := [.null]) (K 3 21 (by decide) (by decide)) (K 4 22 (by decide) (by decide)) hrw hnew dX6_init_28 inX9 tyX9 tyX9_ok u_1_61 u_1_62 u_1_6 rfl dfX9 rfl (fun q28 => ?_)
  refine jk_c 4 22 rfl rfl ?_
  refine j_dup (pc' := 32) (K 4 22 (by decide) (by decide)) dX6_init_31 rfl rfl ?_
  refine j_ctor (pc' := 35) (mc := 1) (ms := 81) (av := []) (K 4 22 (by decide) (by decide)) (K 5 103 (by decide) (by decide)) hrw hnew hX dX6_init_32 (fun sz => C_X9_init (jl E) (jg E) q28 sz h_tR) u_1_65 u_1_63 u_1_64 u_1_6 rfl ⟨ok_X9_init, by decide, by decide⟩ rfl (Nat.le_of_ble_eq_true rfl) rfl (fun ws9 hB => ?_)
  obtain ⟨q7_32, rfl⟩ := hB
  refine jk_c 5 103 rfl rfl ?_
  refine j_ws (ws2 := ([(h0, .inr (5, [.ref q7, .ref q15, .ref q22])), (q7, .inl ((jg E).2.1 0, 8, .inl (fun _ => 0))), (q15, .inl ((jg E).2.1 0, 8, .inl (fun _ => 0))), (q22, .inl ((jg E).2.1 5, 5, .inr (.inr (.inr (.inr (fun _ => none))))))] ++ wRings (jg E) q28 q7_32 tR)) rfl ?_
  refine j_astore_n (pc' := 36) (lv' := [(1, .ref q28), (0, .ref h0)]) (K 5 103 (by decide) (by decide)) dX6_init_35 rfl (by decide) rfl rfl ?_
  refine j_aload_n (pc' := 37) (K 5 103 (by decide) (by decide)) dX6_init_36 rfl 1 rfl rfl ?_
  refine j_get (pc' := 40) (K 5 103 (by decide) (by decide)) dX6_init_37 inX6 0 rfl rfl 2 (by decide) u_1_144 rfl rfl rfl ?_
  refine j_iconst (pc' := 41) (v := (0 : Int32)) (K 5 103 (by decide) (by decide)) dX6_init_40 (by decide) rfl ?_
  refine j_aload_n (pc' := 42) (K 5 103 (by decide) (by decide)) dX6_init_41 rfl 0 rfl rfl ?_
  refine j_aastO (pc' := 43) (ws' := ([(h0, .inr (5, [.ref q7, .ref q15, .ref q22])), (q7, .inl ((jg E).2.1 0, 8, .inl (fun _ => 0))), (q15, .inl ((jg E).2.1 0, 8, .inl (fun _ => 0))), (q22, .inl ((jg E).2.1 5, 5, .inr (.inr (.inr (.inr (va_up (fun _ => none) (Int32.toNatClampNeg (0 : Int32)) (some q28)))))))] ++ wRings (jg E) q28 q7_32 tR)) (K 5 103 (by decide) (by decide)) dX6_init_42 hrw hX 3 5 4 8 rfl rfl (by decide) rfl rfl (by unfold vp_in; decide) rfl rfl ?_
  refine j_aload_n (pc' := 44) (K 5 103 (by decide) (by decide)) dX6_init_43 rfl 1 rfl rfl ?_
  refine j_get (pc' := 47) (K 5 103 (by decide) (by decide)) dX6_init_44 inX6 0 rfl rfl 2 (by decide) u_1_144 rfl rfl rfl ?_
  refine j_iconst (pc' := 48) (v := (1 : Int32)) (K 5 103 (by decide) (by decide)) dX6_init_47 (by decide) rfl ?_
  refine j_new (pc' := 51) (ci := 0) (C := RX0) (T := TX0) (N := 1) (fs := [.null]) (K 5 103 (by decide) (by decide)) (K 6 104 (by decide) (by decide)) hrw hnew dX6_init_48 inX0 tyX0 tyX0_ok u_1_81 u_1_82 u_1_7 rfl dfX0 rfl (fun q48 => ?_)
  refine jk_c 6 104 rfl rfl ?_
  refine j_dup (pc' := 52) (K 6 104 (by decide) (by decide)) dX6_init_51 rfl rfl ?_
  refine j_ctor (pc' := 55) (mc := 1) (ms := 729) (av := []) (K 6 104 (by decide) (by decide)) (K 7 833 (by decide) (by decide)) hrw hnew hX dX6_init_52 (fun sz => C_X0_init (jl E) (jg E) q48 sz h_tF) u_1_85 u_1_83 u_1_84 u_1_7 rfl ⟨ok_X0_init, by decide, by decide⟩ rfl (Nat.le_of_ble_eq_true rfl) rfl (fun ws9 hB => ?_)
  obtain ⟨q8_52, rfl⟩ := hB
  refine jk_c 7 833 rfl rfl ?_
  refine j_ws (ws2 := (([(h0, .inr (5, [.ref q7, .ref q15, .ref q22])), (q7, .inl ((jg E).2.1 0, 8, .inl (fun _ => 0))), (q15, .inl ((jg E).2.1 0, 8, .inl (fun _ => 0))), (q22, .inl ((jg E).2.1 5, 5, .inr (.inr (.inr (.inr (va_up (fun _ => none) (Int32.toNatClampNeg (0 : Int32)) (some q28)))))))] ++ wRings (jg E) q28 q7_32 tR) ++ wFalls (jg E) q48 q8_52 tF)) rfl ?_
  refine j_aastO (pc' := 56) (ws' := (([(h0, .inr (5, [.ref q7, .ref q15, .ref q22])), (q7, .inl ((jg E).2.1 0, 8, .inl (fun _ => 0))), (q15, .inl ((jg E).2.1 0, 8, .inl (fun _ => 0))), (q22, .inl ((jg E).2.1 5, 5, .inr (.inr (.inr (.inr (va_up (va_up (fun _ => none) (Int32.toNatClampNeg (0 : Int32)) (some q28)) (Int32.toNatClampNeg (1 : Int32)) (some q48)))))))] ++ wRings (jg E) q28 q7_32 tR) ++ wFalls (jg E) q48 q8_52 tF)) (K 7 833 (by decide) (by decide)) dX6_init_55 hrw hX 3 5 6 0 rfl rfl (by decide) rfl rfl (by unfold vp_in; decide) rfl rfl ?_
  refine j_aload_n (pc' := 57) (K 7 833 (by decide) (by decide)) dX6_init_56 rfl 1 rfl rfl ?_
  refine j_get (pc' := 60) (K 7 833 (by decide) (by decide)) dX6_init_57 inX6 0 rfl rfl 2 (by decide) u_1_144 rfl rfl rfl ?_
  refine j_iconst (pc' := 61) (v := (2 : Int32)) (K 7 833 (by decide) (by decide)) dX6_init_60 (by decide) rfl ?_
  refine j_new (pc' := 64) (ci := 3) (C := RX3) (T := TX3) (N := 1) (fs := [.null]) (K 7 833 (by decide) (by decide)) (K 8 834 (by decide) (by decide)) hrw hnew dX6_init_61 inX3 tyX3 tyX3_ok u_1_100 u_1_101 u_1_8 rfl dfX3 rfl (fun q61 => ?_)
  refine jk_c 8 834 rfl rfl ?_
  refine j_dup (pc' := 65) (K 8 834 (by decide) (by decide)) dX6_init_64 rfl rfl ?_
  refine j_ctor (pc' := 68) (mc := 1) (ms := 261) (av := []) (K 8 834 (by decide) (by decide)) (K 9 1095 (by decide) (by decide)) hrw hnew hX dX6_init_65 (fun sz => C_X3_init (jl E) (jg E) q61 sz h_tL) u_1_104 u_1_102 u_1_103 u_1_8 rfl ⟨ok_X3_init, by decide, by decide⟩ rfl (Nat.le_of_ble_eq_true rfl) rfl (fun ws9 hB => ?_)
  obtain ⟨q8_65, rfl⟩ := hB
  refine jk_c 9 1095 rfl rfl ?_
  refine j_ws (ws2 := ((([(h0, .inr (5, [.ref q7, .ref q15, .ref q22])), (q7, .inl ((jg E).2.1 0, 8, .inl (fun _ => 0))), (q15, .inl ((jg E).2.1 0, 8, .inl (fun _ => 0))), (q22, .inl ((jg E).2.1 5, 5, .inr (.inr (.inr (.inr (va_up (va_up (fun _ => none) (Int32.toNatClampNeg (0 : Int32)) (some q28)) (Int32.toNatClampNeg (1 : Int32)) (some q48)))))))] ++ wRings (jg E) q28 q7_32 tR) ++ wFalls (jg E) q48 q8_52 tF) ++ wLesserPairs (jg E) q61 q8_65 tL)) rfl ?_
  refine j_aastO (pc' := 69) (ws' := ((([(h0, .inr (5, [.ref q7, .ref q15, .ref q22])), (q7, .inl ((jg E).2.1 0, 8, .inl (fun _ => 0))), (q15, .inl ((jg E).2.1 0, 8, .inl (fun _ => 0))), (q22, .inl ((jg E).2.1 5, 5, .inr (.inr (.inr (.inr (va_up (va_up (va_up (fun _ => none) (Int32.toNatClampNeg (0 : Int32)) (some q28)) (Int32.toNatClampNeg (1 : Int32)) (some q48)) (Int32.toNatClampNeg (2 : Int32)) (some q61)))))))] ++ wRings (jg E) q28 q7_32 tR) ++ wFalls (jg E) q48 q8_52 tF) ++ wLesserPairs (jg E) q61 q8_65 tL)) (K 9 1095 (by decide) (by decide)) dX6_init_68 hrw hX 3 5 8 3 rfl rfl (by decide) rfl rfl (by unfold vp_in; decide) rfl rfl ?_
  refine j_aload_n (pc' := 70) (K 9 1095 (by decide) (by decide)) dX6_init_69 rfl 1 rfl rfl ?_
  refine j_get (pc' := 73) (K 9 1095 (by decide) (by decide)) dX6_init_70 inX6 0 rfl rfl 2 (by decide) u_1_144 rfl rfl rfl ?_
  refine j_iconst (pc' := 74) (v := (3 : Int32)) (K 9 1095 (by decide) (by decide)) dX6_init_73 (by decide) rfl ?_
  refine j_new (pc' := 77) (ci := 1) (C := RX1) (T := TX1) (N := 1) (fs := [.null]) (K 9 1095 (by decide) (by decide)) (K 10 1096 (by decide) (by decide)) hrw hnew dX6_init_74 inX1 tyX1 tyX1_ok u_1_119 u_1_120 u_1_9 rfl dfX1 rfl (fun q74 => ?_)
  refine jk_c 10 1096 rfl rfl ?_
  refine j_dup (pc' := 78) (K 10 1096 (by decide) (by decide)) dX6_init_77 rfl rfl ?_
  refine j_aload_n (pc' := 79) (K 10 1096 (by decide) (by decide)) dX6_init_78 rfl 0 rfl rfl ?_
  refine j_ctor (pc' := 82) (mc := 0) (ms := 0) (av := [.ref q28]) (K 10 1096 (by decide) (by decide)) (K 10 1096 (by decide) (by decide)) hrw hnew hX dX6_init_79 (fun sz => C_X1_init (jl E) (jg E) q74 q28 sz) u_1_123 u_1_121 u_1_122 u_1_9 rfl ⟨ok_X1_init, by decide, by decide⟩ rfl (Nat.le_of_ble_eq_true rfl) rfl (fun ws9 hB => ?_)
  subst hB
  refine jk_c 10 1096 rfl rfl ?_
  refine j_ws (ws2 := (((([(h0, .inr (5, [.ref q7, .ref q15, .ref q22])), (q7, .inl ((jg E).2.1 0, 8, .inl (fun _ => 0))), (q15, .inl ((jg E).2.1 0, 8, .inl (fun _ => 0))), (q22, .inl ((jg E).2.1 5, 5, .inr (.inr (.inr (.inr (va_up (va_up (va_up (fun _ => none) (Int32.toNatClampNeg (0 : Int32)) (some q28)) (Int32.toNatClampNeg (1 : Int32)) (some q48)) (Int32.toNatClampNeg (2 : Int32)) (some q61)))))))] ++ wRings (jg E) q28 q7_32 tR) ++ wFalls (jg E) q48 q8_52 tF) ++ wLesserPairs (jg E) q61 q8_65 tL) ++ [(q74, .inr (1, [.ref q28]))])) rfl ?_
  refine j_aastO (pc' := 83) (ws' := (((([(h0, .inr (5, [.ref q7, .ref q15, .ref q22])), (q7, .inl ((jg E).2.1 0, 8, .inl (fun _ => 0))), (q15, .inl ((jg E).2.1 0, 8, .inl (fun _ => 0))), (q22, .inl ((jg E).2.1 5, 5, .inr (.inr (.inr (.inr (va_up (va_up (va_up (va_up (fun _ => none) (Int32.toNatClampNeg (0 : Int32)) (some q28)) (Int32.toNatClampNeg (1 : Int32)) (some q48)) (Int32.toNatClampNeg (2 : Int32)) (some q61)) (Int32.toNatClampNeg (3 : Int32)) (some q74)))))))] ++ wRings (jg E) q28 q7_32 tR) ++ wFalls (jg E) q48 q8_52 tF) ++ wLesserPairs (jg E) q61 q8_65 tL) ++ [(q74, .inr (1, [.ref q28]))])) (K 10 1096 (by decide) (by decide)) dX6_init_82 hrw hX 3 5 10 1 rfl rfl (by decide) rfl rfl (by unfold vp_in; decide) rfl rfl ?_
  refine j_aload_n (pc' := 84) (K 10 1096 (by decide) (by decide)) dX6_init_83 rfl 1 rfl rfl ?_
  refine j_get (pc' := 87) (K 10 1096 (by decide) (by decide)) dX6_init_84 inX6 0 rfl rfl 2 (by decide) u_1_144 rfl rfl rfl ?_
  refine j_iconst (pc' := 88) (v := (4 : Int32)) (K 10 1096 (by decide) (by decide)) dX6_init_87 (by decide) rfl ?_
  refine j_new (pc' := 91) (ci := 4) (C := RX4) (T := TX4) (N := 2) (fs := [.null, .int 0]) (K 10 1096 (by decide) (by decide)) (K 11 1098 (by decide) (by decide)) hrw hnew dX6_init_88 inX4 tyX4 tyX4_ok u_1_129 u_1_130 u_1_10 rfl dfX4 rfl (fun q88 => ?_)
  refine jk_c 11 1098 rfl rfl ?_
  refine j_dup (pc' := 92) (K 11 1098 (by decide) (by decide)) dX6_init_91 rfl rfl ?_
  refine j_ctorN (host := "CountTriangles") (pc' := 95) (mc := 1) (ms := 512) (av := []) (K 11 1098 (by decide) (by decide)) (K 12 1610 (by decide) (by decide)) hrw hnew hX dX6_init_92 (fun sz => C_X4_init (jl E) (jg E) q88 sz) u_1_133 (by decide) u_1_132 u_1_10 rfl ⟨ok_X4_init, by decide, by decide⟩ rfl (Nat.le_of_ble_eq_true rfl) rfl (fun ws9 hB => ?_)
  obtain ⟨q8_92, rfl⟩ := hB
  refine jk_c 12 1610 rfl rfl ?_
  refine j_ws (ws2 := ((((([(h0, .inr (5, [.ref q7, .ref q15, .ref q22])), (q7, .inl ((jg E).2.1 0, 8, .inl (fun _ => 0))), (q15, .inl ((jg E).2.1 0, 8, .inl (fun _ => 0))), (q22, .inl ((jg E).2.1 5, 5, .inr (.inr (.inr (.inr (va_up (va_up (va_up (va_up (fun _ => none) (Int32.toNatClampNeg (0 : Int32)) (some q28)) (Int32.toNatClampNeg (1 : Int32)) (some q48)) (Int32.toNatClampNeg (2 : Int32)) (some q61)) (Int32.toNatClampNeg (3 : Int32)) (some q74)))))))] ++ wRings (jg E) q28 q7_32 tR) ++ wFalls (jg E) q48 q8_52 tF) ++ wLesserPairs (jg E) q61 q8_65 tL) ++ [(q74, .inr (1, [.ref q28]))]) ++ wLongestRise (jg E) q88 q8_92 ((fun _ => 0), 0))) rfl ?_
  refine j_aastO (pc' := 96) (ws' := ((((([(h0, .inr (5, [.ref q7, .ref q15, .ref q22])), (q7, .inl ((jg E).2.1 0, 8, .inl (fun _ => 0))), (q15, .inl ((jg E).2.1 0, 8, .inl (fun _ => 0))), (q22, .inl ((jg E).2.1 5, 5, .inr (.inr (.inr (.inr (va_up (va_up (va_up (va_up (va_up (fun _ => none) (Int32.toNatClampNeg (0 : Int32)) (some q28)) (Int32.toNatClampNeg (1 : Int32)) (some q48)) (Int32.toNatClampNeg (2 : Int32)) (some q61)) (Int32.toNatClampNeg (3 : Int32)) (some q74)) (Int32.toNatClampNeg (4 : Int32)) (some q88)))))))] ++ wRings (jg E) q28 q7_32 tR) ++ wFalls (jg E) q48 q8_52 tF) ++ wLesserPairs (jg E) q61 q8_65 tL) ++ [(q74, .inr (1, [.ref q28]))]) ++ wLongestRise (jg E) q88 q8_92 ((fun _ => 0), 0))) (K 12 1610 (by decide) (by decide)) dX6_init_95 hrw hX 3 5 11 4 rfl rfl (by decide) rfl rfl (by unfold vp_in; decide) rfl rfl ?_
  refine j_ws (ws2 := wOrders (jg E) h0 q7 q15 q22 q28 q7_32 q48 q8_52 q61 q8_65 q74 q88 q8_92 ((fun _ => 0), (fun _ => 0), tR, tF, tL, ((fun _ => 0), 0))) (by rw [jrefs5 q28 q48 q61 q74 q88]; rfl) ?_
  exact HR _ _ _ ⟨q7, q15, q22, q28, q7_32, q48, q8_52, q61, q8_65, q74, q88, q8_92, rfl⟩ dX6_init_96
