def f_X12_init_134 : Nat → Int32 → MS → Option (MS)
  | 0, _, _ => none
  | n + 1, v1, s0 =>
   if (4 : Int32) ≤ v1 then
   some s0
  else
   jgd (((7 : Int32) * v1) + (6 : Int32)) 28 (
    (f_X12_init_134 n) (v1 + (1 : Int32)) (M_law_s s0 (upd (M_law s0) (Int32.toNatClampNeg (((7 : Int32) * v1) + (6 : Int32))) (1 : Int32))))
def f_X12_init_132 (s0 : MS) : Option (MS) :=
   f_X12_init_134 jFU (0 : Int32) s0
set_option maxRecDepth 100000 in
set_option maxHeartbeats 4000000 in
theorem b_X12_init_134 {E : jE} (a0 : Nat → Nat) {res : MS} (K : jC E cX12_init 2 RX12 1) (hrw : jrw E) (HR : jRV E cX12_init 2 (wM (jg E) a0 res)) : ∀ (n : Nat) (v1 : Int32) (s0 : MS), f_X12_init_134 n v1 s0 = some res → J E 2 (wM (jg E) a0 s0) 134 [(0, .ref (a0 0)), (1, .int v1)] [] := by
  intro n
  induction n with
  | zero => intro _ _ h; cases h
  | succ n ih =>
    intro v1 s0 h
    rw [f_X12_init_134] at h
    refine j_iload_n (pc' := 135) K dX12_init_134 rfl 1 rfl rfl ?_
    refine j_iconst (pc' := 136) (v := (4 : Int32)) K dX12_init_135 (by decide) rfl ?_
    refine j_icmp_ge (pc' := 139) (tgt := 158) K dX12_init_136 (by decide) rfl (fun hc => ?_) (fun hc => ?_)
    · have h := jit hc h
      obtain rfl := Option.some.inj h
      exact HR _ _ dX12_init_158
    · have h := jif hc h
      refine j_aload_n (pc' := 140) K dX12_init_139 rfl 0 rfl rfl ?_
      refine j_get (pc' := 143) K dX12_init_140 inX12 0 rfl rfl 6 (by decide) u_4_41 rfl rfl rfl ?_
      refine j_bipush (pc' := 145) (v := (7 : Int32)) K dX12_init_143 (by decide) rfl ?_
      refine j_iload_n (pc' := 146) K dX12_init_145 rfl 1 rfl rfl ?_
      refine j_imul (pc' := 147) K dX12_init_146 rfl ?_
      refine j_bipush (pc' := 149) (v := (6 : Int32)) K dX12_init_147 (by decide) rfl ?_
      refine j_iadd (pc' := 150) K dX12_init_149 rfl ?_
      refine j_iconst (pc' := 151) (v := (1 : Int32)) K dX12_init_150 (by decide) rfl ?_
      obtain ⟨hg, h⟩ := jgd_some h
      refine j_iast (pc' := 152) (ws' := (wM (jg E) a0 (M_law_s s0 (upd (M_law s0) (Int32.toNatClampNeg (((7 : Int32) * v1) + (6 : Int32))) (1 : Int32))))) K dX12_init_151 hrw 3 rfl hg (st_M_3 ..) rfl ?_
      refine j_iinc (pc' := 155) (j := 1) (v := (v1 + (1 : Int32))) (lv' := [(1, .int (v1 + (1 : Int32))), (0, .ref (a0 0))]) K dX12_init_152 rfl rfl (by decide) rfl rfl ?_
      refine j_goto (tgt := 134) K dX12_init_155 (by decide) ?_
      refine j_sub [1, 0] rfl ?_
      exact ih (v1 + (1 : Int32)) (M_law_s s0 (upd (M_law s0) (Int32.toNatClampNeg (((7 : Int32) * v1) + (6 : Int32))) (1 : Int32))) h
set_option maxRecDepth 100000 in
set_option maxHeartbeats 4000000 in
theorem b_X12_init_132 {E : jE} (a0 : Nat → Nat) {res : MS} (K : jC E cX12_init 2 RX12 1) (hrw : jrw E) (HR : jRV E cX12_init 2 (wM (jg E) a0 res)) : ∀ (s0 : MS), f_X12_init_132 s0 = some res → J E 2 (wM (jg E) a0 s0) 132 [(0, .ref (a0 0))] [] := by
  intro s0 h
  unfold f_X12_init_132 at h
  refine j_iconst (pc' := 133) (v := (0 : Int32)) K dX12_init_132 (by decide) rfl ?_
  refine j_istore_n (pc' := 134) (lv' := [(1, .int (0 : Int32)), (0, .ref (a0 0))]) K dX12_init_133 rfl (by decide) rfl rfl ?_
  refine j_sub [1, 0] rfl ?_
  exact b_X12_init_134 a0 K hrw HR jFU (0 : Int32) s0 h
set_option maxRecDepth 100000 in
set_option maxHeartbeats 4000000 in
theorem C_X12_init (l : Launch) (G : jG) (h0 : Nat) (sz : Nat) {tM : MS} (h_tM : f_X12_init_132 (0, (fun _ => 0), 0, 0, 0, (fun _ => 0), (fun _ => 0), (fun _ => 0), (fun _ => 0), (fun _ => 0), (fun _ => 0), (fun _ => 0), 0, (fun _ => 0), (fun _ => 0), (fun _ => 0), (fun _ => 0), (fun _ => 0), (fun _ => 0), (fun _ => 0), (fun _ => 0)) = some tM) : MK l yX12_init cX12_init 2 1 16 1697 G [(h0, .inr (11, [.int 0, .null, .int 0, .int 0, .int 0, .null, .null, .null, .null, .null, .null, .null, .int 0, .null, .null, .null, .null, .null, .null, .null, .null]))] sz [.ref h0] (fun w => ∃ q7 q15 q23 q30 q39 q48 q56 q64 q72 q80 q88 q95 q103 q111 q119 q127 : Nat, w = wM G (fun k => ([h0, q7, q15, q23, q30, q39, q48, q56, q64, q72, q80, q88, q95, q103, q111, q119, q127] : List Nat).getD k 0) tM) := by
  refine mk_of (by decide +kernel) rfl (Nat.le_of_ble_eq_true rfl) fun E hl hg hA hrw hnew hI hX K HR => ?_
  subst hl
  subst hg
  refine j_aload_n (pc' := 1) (K 0 0 (by decide) (by decide)) dX12_init_0 rfl 0 rfl rfl ?_
  refine j_objInit (pc' := 4) (K 0 0 (by decide) (by decide)) dX12_init_1 u_4_34 u_1_24 u_obj (by decide) (Nat.le_of_ble_eq_true rfl) rfl ?_
  refine j_aload_n (pc' := 5) (K 0 0 (by decide) (by decide)) dX12_init_4 rfl 0 rfl rfl ?_
  refine j_bipush (pc' := 7) (v := (120 : Int32)) (K 0 0 (by decide) (by decide)) dX12_init_5 (by decide) rfl ?_
  refine j_newa (pc' := 9) (N := 120) (a0 := (120, .inl (fun _ => 0))) (K 0 0 (by decide) (by decide)) (K 1 120 (by decide) (by decide)) hrw hnew dX12_init_7 rfl u_1_52 0 rfl (fun _ => rfl) (by decide) (by decide) (by decide) rfl (fun q7 => ?_)
  refine jk_c 1 120 rfl rfl ?_
  refine j_putF (pc' := 12) (ws' := ([(h0, .inr (11, [.int 0, .ref q7, .int 0, .int 0, .int 0, .null, .null, .null, .null, .null, .null, .null, .int 0, .null, .null, .null, .null, .null, .null, .null, .null]))] ++ [(q7, .inl ((jg E).2.1 0, 120, .inl (fun _ => 0)))])) (K 1 120 (by decide) (by decide)) dX12_init_9 hrw hI inX12 tyX12 tyX12_ok nmX12 0 rfl rfl 1 (by decide) u_4_36 rfl rfl rfl rfl rfl (Nat.le_of_ble_eq_true rfl) rfl rfl ?_
  refine j_aload_n (pc' := 13) (K 1 120 (by decide) (by decide)) dX12_init_12 rfl 0 rfl rfl ?_
  refine j_bipush (pc' := 15) (v := (7 : Int32)) (K 1 120 (by decide) (by decide)) dX12_init_13 (by decide) rfl ?_
  refine j_newa (pc' := 17) (N := 7) (a0 := (7, .inl (fun _ => 0))) (K 1 120 (by decide) (by decide)) (K 2 127 (by decide) (by decide)) hrw hnew dX12_init_15 rfl u_1_52 0 rfl (fun _ => rfl) (by decide) (by decide) (by decide) rfl (fun q15 => ?_)
  refine jk_c 2 127 rfl rfl ?_
  refine j_putF (pc' := 20) (ws' := (([(h0, .inr (11, [.int 0, .ref q7, .int 0, .int 0, .int 0, .ref q15, .null, .null, .null, .null, .null, .null, .int 0, .null, .null, .null, .null, .null, .null, .null, .null]))] ++ [(q7, .inl ((jg E).2.1 0, 120, .inl (fun _ => 0)))]) ++ [(q15, .inl ((jg E).2.1 0, 7, .inl (fun _ => 0)))])) (K 2 127 (by decide) (by decide)) dX12_init_17 hrw hI inX12 tyX12 tyX12_ok nmX12 0 rfl rfl 5 (by decide) u_4_40 rfl rfl rfl rfl rfl (Nat.le_of_ble_eq_true rfl) rfl rfl ?_
  refine j_aload_n (pc' := 21) (K 2 127 (by decide) (by decide)) dX12_init_20 rfl 0 rfl rfl ?_
  refine j_bipush (pc' := 23) (v := (28 : Int32)) (K 2 127 (by decide) (by decide)) dX12_init_21 (by decide) rfl ?_
  refine j_newa (pc' := 25) (N := 28) (a0 := (28, .inl (fun _ => 0))) (K 2 127 (by decide) (by decide)) (K 3 155 (by decide) (by decide)) hrw hnew dX12_init_23 rfl u_1_52 0 rfl (fun _ => rfl) (by decide) (by decide) (by decide) rfl (fun q23 => ?_)
  refine jk_c 3 155 rfl rfl ?_
  refine j_putF (pc' := 28) (ws' := ((([(h0, .inr (11, [.int 0, .ref q7, .int 0, .int 0, .int 0, .ref q15, .ref q23, .null, .null, .null, .null, .null, .int 0, .null, .null, .null, .null, .null, .null, .null, .null]))] ++ [(q7, .inl ((jg E).2.1 0, 120, .inl (fun _ => 0)))]) ++ [(q15, .inl ((jg E).2.1 0, 7, .inl (fun _ => 0)))]) ++ [(q23, .inl ((jg E).2.1 0, 28, .inl (fun _ => 0)))])) (K 3 155 (by decide) (by decide)) dX12_init_25 hrw hI inX12 tyX12 tyX12_ok nmX12 0 rfl rfl 6 (by decide) u_4_41 rfl rfl rfl rfl rfl (Nat.le_of_ble_eq_true rfl) rfl rfl ?_
  refine j_aload_n (pc' := 29) (K 3 155 (by decide) (by decide)) dX12_init_28 rfl 0 rfl rfl ?_
  refine j_iconst (pc' := 30) (v := (4 : Int32)) (K 3 155 (by decide) (by decide)) dX12_init_29 (by decide) rfl ?_
  refine j_newa (pc' := 32) (N := 4) (a0 := (4, .inl (fun _ => 0))) (K 3 155 (by decide) (by decide)) (K 4 159 (by decide) (by decide)) hrw hnew dX12_init_30 rfl u_1_52 0 rfl (fun _ => rfl) (by decide) (by decide) (by decide) rfl (fun q30 => ?_)
  refine jk_c 4 159 rfl rfl ?_
  refine j_putF (pc' := 35) (ws' := (((([(h0, .inr (11, [.int 0, .ref q7, .int 0, .int 0, .int 0, .ref q15, .ref q23, .ref q30, .null, .null, .null, .null, .int 0, .null, .null, .null, .null, .null, .null, .null, .null]))] ++ [(q7, .inl ((jg E).2.1 0, 120, .inl (fun _ => 0)))]) ++ [(q15, .inl ((jg E).2.1 0, 7, .inl (fun _ => 0)))]) ++ [(q23, .inl ((jg E).2.1 0, 28, .inl (fun _ => 0)))]) ++ [(q30, .inl ((jg E).2.1 0, 4, .inl (fun _ => 0)))])) (K 4 159 (by decide) (by decide)) dX12_init_32 hrw hI inX12 tyX12 tyX12_ok nmX12 0 rfl rfl 7 (by decide) u_4_42 rfl rfl rfl rfl rfl (Nat.le_of_ble_eq_true rfl) rfl rfl ?_
  refine j_aload_n (pc' := 36) (K 4 159 (by decide) (by decide)) dX12_init_35 rfl 0 rfl rfl ?_
  refine j_sipush (pc' := 39) (v := (650 : Int32)) (K 4 159 (by decide) (by decide)) dX12_init_36 (by decide) rfl ?_
  refine j_newa (pc' := 41) (N := 650) (a0 := (650, .inr (.inl (fun _ => 0)))) (K 4 159 (by decide) (by decide)) (K 5 809 (by decide) (by decide)) hrw hnew dX12_init_39 rfl u_1_181 1 rfl (fun _ => rfl) (by decide) (by decide) (by decide) rfl (fun q39 => ?_)
  refine jk_c 5 809 rfl rfl ?_
  refine j_putF (pc' := 44) (ws' := ((((([(h0, .inr (11, [.int 0, .ref q7, .int 0, .int 0, .int 0, .ref q15, .ref q23, .ref q30, .ref q39, .null, .null, .null, .int 0, .null, .null, .null, .null, .null, .null, .null, .null]))] ++ [(q7, .inl ((jg E).2.1 0, 120, .inl (fun _ => 0)))]) ++ [(q15, .inl ((jg E).2.1 0, 7, .inl (fun _ => 0)))]) ++ [(q23, .inl ((jg E).2.1 0, 28, .inl (fun _ => 0)))]) ++ [(q30, .inl ((jg E).2.1 0, 4, .inl (fun _ => 0)))]) ++ [(q39, .inl ((jg E).2.1 1, 650, .inr (.inl (fun _ => 0))))])) (K 5 809 (by decide) (by decide)) dX12_init_41 hrw hI inX12 tyX12 tyX12_ok nmX12 0 rfl rfl 8 (by decide) u_4_43 rfl rfl rfl rfl rfl (Nat.le_of_ble_eq_true rfl) rfl rfl ?_
  refine j_aload_n (pc' := 45) (K 5 809 (by decide) (by decide)) dX12_init_44 rfl 0 rfl rfl ?_
  refine j_sipush (pc' := 48) (v := (650 : Int32)) (K 5 809 (by decide) (by decide)) dX12_init_45 (by decide) rfl ?_
  refine j_newa (pc' := 50) (N := 650) (a0 := (650, .inl (fun _ => 0))) (K 5 809 (by decide) (by decide)) (K 6 1459 (by decide) (by decide)) hrw hnew dX12_init_48 rfl u_4_99 3 rfl (fun _ => rfl) (by decide) (by decide) (by decide) rfl (fun q48 => ?_)
  refine jk_c 6 1459 rfl rfl ?_
  refine j_putF (pc' := 53) (ws' := (((((([(h0, .inr (11, [.int 0, .ref q7, .int 0, .int 0, .int 0, .ref q15, .ref q23, .ref q30, .ref q39, .ref q48, .null, .null, .int 0, .null, .null, .null, .null, .null, .null, .null, .null]))] ++ [(q7, .inl ((jg E).2.1 0, 120, .inl (fun _ => 0)))]) ++ [(q15, .inl ((jg E).2.1 0, 7, .inl (fun _ => 0)))]) ++ [(q23, .inl ((jg E).2.1 0, 28, .inl (fun _ => 0)))]) ++ [(q30, .inl ((jg E).2.1 0, 4, .inl (fun _ => 0)))]) ++ [(q39, .inl ((jg E).2.1 1, 650, .inr (.inl (fun _ => 0))))]) ++ [(q48, .inl ((jg E).2.1 3, 650, .inl (fun _ => 0)))])) (K 6 1459 (by decide) (by decide)) dX12_init_50 hrw hI inX12 tyX12 tyX12_ok nmX12 0 rfl rfl 9 (by decide) u_4_44 rfl rfl rfl rfl rfl (Nat.le_of_ble_eq_true rfl) rfl rfl ?_
  refine j_aload_n (pc' := 54) (K 6 1459 (by decide) (by decide)) dX12_init_53 rfl 0 rfl rfl ?_
  refine j_bipush (pc' := 56) (v := (122 : Int32)) (K 6 1459 (by decide) (by decide)) dX12_init_54 (by decide) rfl ?_
  refine j_newa (pc' := 58) (N := 122) (a0 := (122, .inl (fun _ => 0))) (K 6 1459 (by decide) (by decide)) (K 7 1581 (by decide) (by decide)) hrw hnew dX12_init_56 rfl u_1_52 0 rfl (fun _ => rfl) (by decide) (by decide) (by decide) rfl (fun q56 => ?_)
  refine jk_c 7 1581 rfl rfl ?_
  refine j_putF (pc' := 61) (ws' := ((((((([(h0, .inr (11, [.int 0, .ref q7, .int 0, .int 0, .int 0, .ref q15, .ref q23, .ref q30, .ref q39, .ref q48, .ref q56, .null, .int 0, .null, .null, .null, .null, .null, .null, .null, .null]))] ++ [(q7, .inl ((jg E).2.1 0, 120, .inl (fun _ => 0)))]) ++ [(q15, .inl ((jg E).2.1 0, 7, .inl (fun _ => 0)))]) ++ [(q23, .inl ((jg E).2.1 0, 28, .inl (fun _ => 0)))]) ++ [(q30, .inl ((jg E).2.1 0, 4, .inl (fun _ => 0)))]) ++ [(q39, .inl ((jg E).2.1 1, 650, .inr (.inl (fun _ => 0))))]) ++ [(q48, .inl ((jg E).2.1 3, 650, .inl (fun _ => 0)))]) ++ [(q56, .inl ((jg E).2.1 0, 122, .inl (fun _ => 0)))])) (K 7 1581 (by decide) (by decide)) dX12_init_58 hrw hI inX12 tyX12 tyX12_ok nmX12 0 rfl rfl 10 (by decide) u_4_45 rfl rfl rfl rfl rfl (Nat.le_of_ble_eq_true rfl) rfl rfl ?_
  refine j_aload_n (pc' := 62) (K 7 1581 (by decide) (by decide)) dX12_init_61 rfl 0 rfl rfl ?_
  refine j_bipush (pc' := 64) (v := (25 : Int32)) (K 7 1581 (by decide) (by decide)) dX12_init_62 (by decide) rfl ?_
  refine j_newa (pc' := 66) (N := 25) (a0 := (25, .inr (.inl (fun _ => 0)))) (K 7 1581 (by decide) (by decide)) (K 8 1606 (by decide) (by decide)) hrw hnew dX12_init_64 rfl u_1_181 1 rfl (fun _ => rfl) (by decide) (by decide) (by decide) rfl (fun q64 => ?_)
  refine jk_c 8 1606 rfl rfl ?_
  refine j_putF (pc' := 69) (ws' := (((((((([(h0, .inr (11, [.int 0, .ref q7, .int 0, .int 0, .int 0, .ref q15, .ref q23, .ref q30, .ref q39, .ref q48, .ref q56, .ref q64, .int 0, .null, .null, .null, .null, .null, .null, .null, .null]))] ++ [(q7, .inl ((jg E).2.1 0, 120, .inl (fun _ => 0)))]) ++ [(q15, .inl ((jg E).2.1 0, 7, .inl (fun _ => 0)))]) ++ [(q23, .inl ((jg E).2.1 0, 28, .inl (fun _ => 0)))]) ++ [(q30, .inl ((jg E).2.1 0, 4, .inl (fun _ => 0)))]) ++ [(q39, .inl ((jg E).2.1 1, 650, .inr (.inl (fun _ => 0))))]) ++ [(q48, .inl ((jg E).2.1 3, 650, .inl (fun _ => 0)))]) ++ [(q56, .inl ((jg E).2.1 0, 122, .inl (fun _ => 0)))]) ++ [(q64, .inl ((jg E).2.1 1, 25, .inr (.inl (fun _ => 0))))])) (K 8 1606 (by decide) (by decide)) dX12_init_66 hrw hI inX12 tyX12 tyX12_ok nmX12 0 rfl rfl 11 (by decide) u_4_46 rfl rfl rfl rfl rfl (Nat.le_of_ble_eq_true rfl) rfl rfl ?_
  refine j_aload_n (pc' := 70) (K 8 1606 (by decide) (by decide)) dX12_init_69 rfl 0 rfl rfl ?_
  refine j_bipush (pc' := 72) (v := (8 : Int32)) (K 8 1606 (by decide) (by decide)) dX12_init_70 (by decide) rfl ?_
  refine j_newa (pc' := 74) (N := 8) (a0 := (8, .inl (fun _ => 0))) (K 8 1606 (by decide) (by decide)) (K 9 1614 (by decide) (by decide)) hrw hnew dX12_init_72 rfl u_1_52 0 rfl (fun _ => rfl) (by decide) (by decide) (by decide) rfl (fun q72 => ?_)
  refine jk_c 9 1614 rfl rfl ?_
  refine j_putF (pc' := 77) (ws' := ((((((((([(h0, .inr (11, [.int 0, .ref q7, .int 0, .int 0, .int 0, .ref q15, .ref q23, .ref q30, .ref q39, .ref q48, .ref q56, .ref q64, .int 0, .ref q72, .null, .null, .null, .null, .null, .null, .null]))] ++ [(q7, .inl ((jg E).2.1 0, 120, .inl (fun _ => 0)))]) ++ [(q15, .inl ((jg E).2.1 0, 7, .inl (fun _ => 0)))]) ++ [(q23, .inl ((jg E).2.1 0, 28, .inl (fun _ => 0)))]) ++ [(q30, .inl ((jg E).2.1 0, 4, .inl (fun _ => 0)))]) ++ [(q39, .inl ((jg E).2.1 1, 650, .inr (.inl (fun _ => 0))))]) ++ [(q48, .inl ((jg E).2.1 3, 650, .inl (fun _ => 0)))]) ++ [(q56, .inl ((jg E).2.1 0, 122, .inl (fun _ => 0)))]) ++ [(q64, .inl ((jg E).2.1 1, 25, .inr (.inl (fun _ => 0))))]) ++ [(q72, .inl ((jg E).2.1 0, 8, .inl (fun _ => 0)))])) (K 9 1614 (by decide) (by decide)) dX12_init_74 hrw hI inX12 tyX12 tyX12_ok nmX12 0 rfl rfl 13 (by decide) u_4_48 rfl rfl rfl rfl rfl (Nat.le_of_ble_eq_true rfl) rfl rfl ?_
  refine j_aload_n (pc' := 78) (K 9 1614 (by decide) (by decide)) dX12_init_77 rfl 0 rfl rfl ?_
  refine j_bipush (pc' := 80) (v := (8 : Int32)) (K 9 1614 (by decide) (by decide)) dX12_init_78 (by decide) rfl ?_
  refine j_newa (pc' := 82) (N := 8) (a0 := (8, .inl (fun _ => 0))) (K 9 1614 (by decide) (by decide)) (K 10 1622 (by decide) (by decide)) hrw hnew dX12_init_80 rfl u_1_52 0 rfl (fun _ => rfl) (by decide) (by decide) (by decide) rfl (fun q80 => ?_)
  refine jk_c 10 1622 rfl rfl ?_
  refine j_putF (pc' := 85) (ws' := (((((((((([(h0, .inr (11, [.int 0, .ref q7, .int 0, .int 0, .int 0, .ref q15, .ref q23, .ref q30, .ref q39, .ref q48, .ref q56, .ref q64, .int 0, .ref q72, .ref q80, .null, .null, .null, .null, .null, .null]))] ++ [(q7, .inl ((jg E).2.1 0, 120, .inl (fun _ => 0)))]) ++ [(q15, .inl ((jg E).2.1 0, 7, .inl (fun _ => 0)))]) ++ [(q23, .inl ((jg E).2.1 0, 28, .inl (fun _ => 0)))]) ++ [(q30, .inl ((jg E).2.1 0, 4, .inl (fun _ => 0)))]) ++ [(q39, .inl ((jg E).2.1 1, 650, .inr (.inl (fun _ => 0))))]) ++ [(q48, .inl ((jg E).2.1 3, 650, .inl (fun _ => 0)))]) ++ [(q56, .inl ((jg E).2.1 0, 122, .inl (fun _ => 0)))]) ++ [(q64, .inl ((jg E).2.1 1, 25, .inr (.inl (fun _ => 0))))]) ++ [(q72, .inl ((jg E).2.1 0, 8, .inl (fun _ => 0)))]) ++ [(q80, .inl ((jg E).2.1 0, 8, .inl (fun _ => 0)))])) (K 10 1622 (by decide) (by decide)) dX12_init_82 hrw hI inX12 tyX12 tyX12_ok nmX12 0 rfl rfl 14 (by decide) u_4_49 rfl rfl rfl rfl rfl (Nat.le_of_ble_eq_true rfl) rfl rfl ?_
  refine j_aload_n (pc' := 86) (K 10 1622 (by decide) (by decide)) dX12_init_85 rfl 0 rfl rfl ?_
  refine j_bipush (pc' := 88) (v := (8 : Int32)) (K 10 1622 (by decide) (by decide)) dX12_init_86 (by decide) rfl ?_
  refine j_newa (pc' := 90) (N := 8) (a0 := (8, .inl (fun _ => 0))) (K 10 1622 (by decide) (by decide)) (K 11 1630 (by decide) (by decide)) hrw hnew dX12_init_88 rfl u_1_52 0 rfl (fun _ => rfl) (by decide) (by decide) (by decide) rfl (fun q88 => ?_)
  refine jk_c 11 1630 rfl rfl ?_
  refine j_putF (pc' := 93) (ws' := ((((((((((([(h0, .inr (11, [.int 0, .ref q7, .int 0, .int 0, .int 0, .ref q15, .ref q23, .ref q30, .ref q39, .ref q48, .ref q56, .ref q64, .int 0, .ref q72, .ref q80, .ref q88, .null, .null, .null, .null, .null]))] ++ [(q7, .inl ((jg E).2.1 0, 120, .inl (fun _ => 0)))]) ++ [(q15, .inl ((jg E).2.1 0, 7, .inl (fun _ => 0)))]) ++ [(q23, .inl ((jg E).2.1 0, 28, .inl (fun _ => 0)))]) ++ [(q30, .inl ((jg E).2.1 0, 4, .inl (fun _ => 0)))]) ++ [(q39, .inl ((jg E).2.1 1, 650, .inr (.inl (fun _ => 0))))]) ++ [(q48, .inl ((jg E).2.1 3, 650, .inl (fun _ => 0)))]) ++ [(q56, .inl ((jg E).2.1 0, 122, .inl (fun _ => 0)))]) ++ [(q64, .inl ((jg E).2.1 1, 25, .inr (.inl (fun _ => 0))))]) ++ [(q72, .inl ((jg E).2.1 0, 8, .inl (fun _ => 0)))]) ++ [(q80, .inl ((jg E).2.1 0, 8, .inl (fun _ => 0)))]) ++ [(q88, .inl ((jg E).2.1 0, 8, .inl (fun _ => 0)))])) (K 11 1630 (by decide) (by decide)) dX12_init_90 hrw hI inX12 tyX12 tyX12_ok nmX12 0 rfl rfl 15 (by decide) u_4_50 rfl rfl rfl rfl rfl (Nat.le_of_ble_eq_true rfl) rfl rfl ?_
  refine j_aload_n (pc' := 94) (K 11 1630 (by decide) (by decide)) dX12_init_93 rfl 0 rfl rfl ?_
  refine j_iconst (pc' := 95) (v := (4 : Int32)) (K 11 1630 (by decide) (by decide)) dX12_init_94 (by decide) rfl ?_
  refine j_newa (pc' := 97) (N := 4) (a0 := (4, .inl (fun _ => 0))) (K 11 1630 (by decide) (by decide)) (K 12 1634 (by decide) (by decide)) hrw hnew dX12_init_95 rfl u_1_52 0 rfl (fun _ => rfl) (by decide) (by decide) (by decide) rfl (fun q95 => ?_)
  refine jk_c 12 1634 rfl rfl ?_
  refine j_putF (pc' := 100) (ws' := (((((((((((([(h0, .inr (11, [.int 0, .ref q7, .int 0, .int 0, .int 0, .ref q15, .ref q23, .ref q30, .ref q39, .ref q48, .ref q56, .ref q64, .int 0, .ref q72, .ref q80, .ref q88, .ref q95, .null, .null, .null, .null]))] ++ [(q7, .inl ((jg E).2.1 0, 120, .inl (fun _ => 0)))]) ++ [(q15, .inl ((jg E).2.1 0, 7, .inl (fun _ => 0)))]) ++ [(q23, .inl ((jg E).2.1 0, 28, .inl (fun _ => 0)))]) ++ [(q30, .inl ((jg E).2.1 0, 4, .inl (fun _ => 0)))]) ++ [(q39, .inl ((jg E).2.1 1, 650, .inr (.inl (fun _ => 0))))]) ++ [(q48, .inl ((jg E).2.1 3, 650, .inl (fun _ => 0)))]) ++ [(q56, .inl ((jg E).2.1 0, 122, .inl (fun _ => 0)))]) ++ [(q64, .inl ((jg E).2.1 1, 25, .inr (.inl (fun _ => 0))))]) ++ [(q72, .inl ((jg E).2.1 0, 8, .inl (fun _ => 0)))]) ++ [(q80, .inl ((jg E).2.1 0, 8, .inl (fun _ => 0)))]) ++ [(q88, .inl ((jg E).2.1 0, 8, .inl (fun _ => 0)))]) ++ [(q95, .inl ((jg E).2.1 0, 4, .inl (fun _ => 0)))])) (K 12 1634 (by decide) (by decide)) dX12_init_97 hrw hI inX12 tyX12 tyX12_ok nmX12 0 rfl rfl 16 (by decide) u_4_51 rfl rfl rfl rfl rfl (Nat.le_of_ble_eq_true rfl) rfl rfl ?_
  refine j_aload_n (pc' := 101) (K 12 1634 (by decide) (by decide)) dX12_init_100 rfl 0 rfl rfl ?_
  refine j_bipush (pc' := 103) (v := (36 : Int32)) (K 12 1634 (by decide) (by decide)) dX12_init_101 (by decide) rfl ?_
  refine j_newa (pc' := 105) (N := 36) (a0 := (36, .inr (.inl (fun _ => 0)))) (K 12 1634 (by decide) (by decide)) (K 13 1670 (by decide) (by decide)) hrw hnew dX12_init_103 rfl u_1_181 1 rfl (fun _ => rfl) (by decide) (by decide) (by decide) rfl (fun q103 => ?_)
  refine jk_c 13 1670 rfl rfl ?_
  refine j_putF (pc' := 108) (ws' := ((((((((((((([(h0, .inr (11, [.int 0, .ref q7, .int 0, .int 0, .int 0, .ref q15, .ref q23, .ref q30, .ref q39, .ref q48, .ref q56, .ref q64, .int 0, .ref q72, .ref q80, .ref q88, .ref q95, .ref q103, .null, .null, .null]))] ++ [(q7, .inl ((jg E).2.1 0, 120, .inl (fun _ => 0)))]) ++ [(q15, .inl ((jg E).2.1 0, 7, .inl (fun _ => 0)))]) ++ [(q23, .inl ((jg E).2.1 0, 28, .inl (fun _ => 0)))]) ++ [(q30, .inl ((jg E).2.1 0, 4, .inl (fun _ => 0)))]) ++ [(q39, .inl ((jg E).2.1 1, 650, .inr (.inl (fun _ => 0))))]) ++ [(q48, .inl ((jg E).2.1 3, 650, .inl (fun _ => 0)))]) ++ [(q56, .inl ((jg E).2.1 0, 122, .inl (fun _ => 0)))]) ++ [(q64, .inl ((jg E).2.1 1, 25, .inr (.inl (fun _ => 0))))]) ++ [(q72, .inl ((jg E).2.1 0, 8, .inl (fun _ => 0)))]) ++ [(q80, .inl ((jg E).2.1 0, 8, .inl (fun _ => 0)))]) ++ [(q88, .inl ((jg E).2.1 0, 8, .inl (fun _ => 0)))]) ++ [(q95, .inl ((jg E).2.1 0, 4, .inl (fun _ => 0)))]) ++ [(q103, .inl ((jg E).2.1 1, 36, .inr (.inl (fun _ => 0))))])) (K 13 1670 (by decide) (by decide)) dX12_init_105 hrw hI inX12 tyX12 tyX12_ok nmX12 0 rfl rfl 17 (by decide) u_4_52 rfl rfl rfl rfl rfl (Nat.le_of_ble_eq_true rfl) rfl rfl ?_
  refine j_aload_n (pc' := 109) (K 13 1670 (by decide) (by decide)) dX12_init_108 rfl 0 rfl rfl ?_
  refine j_bipush (pc' := 111) (v := (9 : Int32)) (K 13 1670 (by decide) (by decide)) dX12_init_109 (by decide) rfl ?_
  refine j_newa (pc' := 113) (N := 9) (a0 := (9, .inr (.inl (fun _ => 0)))) (K 13 1670 (by decide) (by decide)) (K 14 1679 (by decide) (by decide)) hrw hnew dX12_init_111 rfl u_1_181 1 rfl (fun _ => rfl) (by decide) (by decide) (by decide) rfl (fun q111 => ?_)
  refine jk_c 14 1679 rfl rfl ?_
  refine j_putF (pc' := 116) (ws' := (((((((((((((([(h0, .inr (11, [.int 0, .ref q7, .int 0, .int 0, .int 0, .ref q15, .ref q23, .ref q30, .ref q39, .ref q48, .ref q56, .ref q64, .int 0, .ref q72, .ref q80, .ref q88, .ref q95, .ref q103, .ref q111, .null, .null]))] ++ [(q7, .inl ((jg E).2.1 0, 120, .inl (fun _ => 0)))]) ++ [(q15, .inl ((jg E).2.1 0, 7, .inl (fun _ => 0)))]) ++ [(q23, .inl ((jg E).2.1 0, 28, .inl (fun _ => 0)))]) ++ [(q30, .inl ((jg E).2.1 0, 4, .inl (fun _ => 0)))]) ++ [(q39, .inl ((jg E).2.1 1, 650, .inr (.inl (fun _ => 0))))]) ++ [(q48, .inl ((jg E).2.1 3, 650, .inl (fun _ => 0)))]) ++ [(q56, .inl ((jg E).2.1 0, 122, .inl (fun _ => 0)))]) ++ [(q64, .inl ((jg E).2.1 1, 25, .inr (.inl (fun _ => 0))))]) ++ [(q72, .inl ((jg E).2.1 0, 8, .inl (fun _ => 0)))]) ++ [(q80, .inl ((jg E).2.1 0, 8, .inl (fun _ => 0)))]) ++ [(q88, .inl ((jg E).2.1 0, 8, .inl (fun _ => 0)))]) ++ [(q95, .inl ((jg E).2.1 0, 4, .inl (fun _ => 0)))]) ++ [(q103, .inl ((jg E).2.1 1, 36, .inr (.inl (fun _ => 0))))]) ++ [(q111, .inl ((jg E).2.1 1, 9, .inr (.inl (fun _ => 0))))])) (K 14 1679 (by decide) (by decide)) dX12_init_113 hrw hI inX12 tyX12 tyX12_ok nmX12 0 rfl rfl 18 (by decide) u_4_53 rfl rfl rfl rfl rfl (Nat.le_of_ble_eq_true rfl) rfl rfl ?_
  refine j_aload_n (pc' := 117) (K 14 1679 (by decide) (by decide)) dX12_init_116 rfl 0 rfl rfl ?_
  refine j_bipush (pc' := 119) (v := (9 : Int32)) (K 14 1679 (by decide) (by decide)) dX12_init_117 (by decide) rfl ?_
  refine j_newa (pc' := 121) (N := 9) (a0 := (9, .inr (.inl (fun _ => 0)))) (K 14 1679 (by decide) (by decide)) (K 15 1688 (by decide) (by decide)) hrw hnew dX12_init_119 rfl u_1_181 1 rfl (fun _ => rfl) (by decide) (by decide) (by decide) rfl (fun q119 => ?_)
  refine jk_c 15 1688 rfl rfl ?_
  refine j_putF (pc' := 124) (ws' := ((((((((((((((([(h0, .inr (11, [.int 0, .ref q7, .int 0, .int 0, .int 0, .ref q15, .ref q23, .ref q30, .ref q39, .ref q48, .ref q56, .ref q64, .int 0, .ref q72, .ref q80, .ref q88, .ref q95, .ref q103, .ref q111, .ref q119, .null]))] ++ [(q7, .inl ((jg E).2.1 0, 120, .inl (fun _ => 0)))]) ++ [(q15, .inl ((jg E).2.1 0, 7, .inl (fun _ => 0)))]) ++ [(q23, .inl ((jg E).2.1 0, 28, .inl (fun _ => 0)))]) ++ [(q30, .inl ((jg E).2.1 0, 4, .inl (fun _ => 0)))]) ++ [(q39, .inl ((jg E).2.1 1, 650, .inr (.inl (fun _ => 0))))]) ++ [(q48, .inl ((jg E).2.1 3, 650, .inl (fun _ => 0)))]) ++ [(q56, .inl ((jg E).2.1 0, 122, .inl (fun _ => 0)))]) ++ [(q64, .inl ((jg E).2.1 1, 25, .inr (.inl (fun _ => 0))))]) ++ [(q72, .inl ((jg E).2.1 0, 8, .inl (fun _ => 0)))]) ++ [(q80, .inl ((jg E).2.1 0, 8, .inl (fun _ => 0)))]) ++ [(q88, .inl ((jg E).2.1 0, 8, .inl (fun _ => 0)))]) ++ [(q95, .inl ((jg E).2.1 0, 4, .inl (fun _ => 0)))]) ++ [(q103, .inl ((jg E).2.1 1, 36, .inr (.inl (fun _ => 0))))]) ++ [(q111, .inl ((jg E).2.1 1, 9, .inr (.inl (fun _ => 0))))]) ++ [(q119, .inl ((jg E).2.1 1, 9, .inr (.inl (fun _ => 0))))])) (K 15 1688 (by decide) (by decide)) dX12_init_121 hrw hI inX12 tyX12 tyX12_ok nmX12 0 rfl rfl 19 (by decide) u_4_54 rfl rfl rfl rfl rfl (Nat.le_of_ble_eq_true rfl) rfl rfl ?_
  refine j_aload_n (pc' := 125) (K 15 1688 (by decide) (by decide)) dX12_init_124 rfl 0 rfl rfl ?_
  refine j_bipush (pc' := 127) (v := (9 : Int32)) (K 15 1688 (by decide) (by decide)) dX12_init_125 (by decide) rfl ?_
  refine j_newa (pc' := 129) (N := 9) (a0 := (9, .inr (.inl (fun _ => 0)))) (K 15 1688 (by decide) (by decide)) (K 16 1697 (by decide) (by decide)) hrw hnew dX12_init_127 rfl u_1_181 1 rfl (fun _ => rfl) (by decide) (by decide) (by decide) rfl (fun q127 => ?_)
  refine jk_c 16 1697 rfl rfl ?_
  refine j_putF (pc' := 132) (ws' := (((((((((((((((([(h0, .inr (11, [.int 0, .ref q7, .int 0, .int 0, .int 0, .ref q15, .ref q23, .ref q30, .ref q39, .ref q48, .ref q56, .ref q64, .int 0, .ref q72, .ref q80, .ref q88, .ref q95, .ref q103, .ref q111, .ref q119, .ref q127]))] ++ [(q7, .inl ((jg E).2.1 0, 120, .inl (fun _ => 0)))]) ++ [(q15, .inl ((jg E).2.1 0, 7, .inl (fun _ => 0)))]) ++ [(q23, .inl ((jg E).2.1 0, 28, .inl (fun _ => 0)))]) ++ [(q30, .inl ((jg E).2.1 0, 4, .inl (fun _ => 0)))]) ++ [(q39, .inl ((jg E).2.1 1, 650, .inr (.inl (fun _ => 0))))]) ++ [(q48, .inl ((jg E).2.1 3, 650, .inl (fun _ => 0)))]) ++ [(q56, .inl ((jg E).2.1 0, 122, .inl (fun _ => 0)))]) ++ [(q64, .inl ((jg E).2.1 1, 25, .inr (.inl (fun _ => 0))))]) ++ [(q72, .inl ((jg E).2.1 0, 8, .inl (fun _ => 0)))]) ++ [(q80, .inl ((jg E).2.1 0, 8, .inl (fun _ => 0)))]) ++ [(q88, .inl ((jg E).2.1 0, 8, .inl (fun _ => 0)))]) ++ [(q95, .inl ((jg E).2.1 0, 4, .inl (fun _ => 0)))]) ++ [(q103, .inl ((jg E).2.1 1, 36, .inr (.inl (fun _ => 0))))]) ++ [(q111, .inl ((jg E).2.1 1, 9, .inr (.inl (fun _ => 0))))]) ++ [(q119, .inl ((jg E).2.1 1, 9, .inr (.inl (fun _ => 0))))]) ++ [(q127, .inl ((jg E).2.1 1, 9, .inr (.inl (fun _ => 0))))])) (K 16 1697 (by decide) (by decide)) dX12_init_129 hrw hI inX12 tyX12 tyX12_ok nmX12 0 rfl rfl 20 (by decide) u_4_55 rfl rfl rfl rfl rfl (Nat.le_of_ble_eq_true rfl) rfl rfl ?_
  exact b_X12_init_132 (E := jk E 16 1697) (fun k => ([h0, q7, q15, q23, q30, q39, q48, q56, q64, q72, q80, q88, q95, q103, q111, q119, q127] : List Nat).getD k 0) (K 16 1697 (by decide) (by decide)) hrw (fun pc lv hd => HR _ pc lv ⟨q7, q15, q23, q30, q39, q48, q56, q64, q72, q80, q88, q95, q103, q111, q119, q127, rfl⟩ hd) (0, (fun _ => 0), 0, 0, 0, (fun _ => 0), (fun _ => 0), (fun _ => 0), (fun _ => 0), (fun _ => 0), (fun _ => 0), (fun _ => 0), 0, (fun _ => 0), (fun _ => 0), (fun _ => 0), (fun _ => 0), (fun _ => 0), (fun _ => 0), (fun _ => 0), (fun _ => 0)) h_tM
