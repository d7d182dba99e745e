theorem ok_X8_zero : yX8_zero.cls ≠ "java/lang/invoke/MethodHandle" ∧ yX8_zero.cls ≠ "java/lang/invoke/VarHandle" ∧ (parseMethodDescriptor yX8_zero.desc).map (fun d => d.parameters.length) = some 2 := ⟨by decide, by decide, by decide +kernel⟩
def f_X8_zero (v0 : Int32) (v1 : Int32) : Option (Int32) :=
   if v0 = 0 then
   some (0 : Int32)
  else
   if v0 = (2 : Int32) then
    some (-v1)
   else
    some v1
set_option maxRecDepth 100000 in
set_option maxHeartbeats 4000000 in
theorem b_X8_zero {E : jE}  {res : Int32} (K : jC E cX8_zero 2 RX8 0) (HR : jRI E cX8_zero 2 ([] : va_W) res) : ∀ (v0 : Int32) (v1 : Int32), f_X8_zero v0 v1 = some res → J E 2 ([] : va_W) 0 [(0, .int v0), (1, .int v1)] [] := by
  intro v0 v1 h
  unfold f_X8_zero at h
  refine j_iload_n (pc' := 1) K dX8_zero_0 rfl 0 rfl rfl ?_
  refine j_if_ne (pc' := 4) (tgt := 6) K dX8_zero_1 (by decide) rfl (fun hc => ?_) (fun hc => ?_)
  · have h := jif hc h
    refine j_iload_n (pc' := 7) K dX8_zero_6 rfl 0 rfl rfl ?_
    refine j_iconst (pc' := 8) (v := (2 : Int32)) K dX8_zero_7 (by decide) rfl ?_
    refine j_icmp_ne (pc' := 11) (tgt := 16) K dX8_zero_8 (by decide) rfl (fun hc => ?_) (fun hc => ?_)
    · have h := jif hc h
      refine j_iload_n (pc' := 17) K dX8_zero_16 rfl 1 rfl rfl ?_
      obtain rfl := Option.some.inj h
      exact HR _ _ dX8_zero_17
    · have h := jit hc h
      refine j_iload_n (pc' := 12) K dX8_zero_11 rfl 1 rfl rfl ?_
      refine j_ineg (pc' := 13) K dX8_zero_12 rfl ?_
      refine j_goto (tgt := 17) K dX8_zero_13 (by decide) ?_
      obtain rfl := Option.some.inj h
      exact HR _ _ dX8_zero_17
  · have h := jit hc h
    refine j_iconst (pc' := 5) (v := (0 : Int32)) K dX8_zero_4 (by decide) rfl ?_
    obtain rfl := Option.some.inj h
    exact HR _ _ dX8_zero_5
set_option maxRecDepth 100000 in
set_option maxHeartbeats 4000000 in
theorem M_X8_zero (l : Launch) (G : jG)  (v0 : Int32) (v1 : Int32) {r : Int32} (h : f_X8_zero v0 v1 = some r) : MC l yX8_zero cX8_zero 2 (some .int) 0 G jNo False ([] : va_W) ([] : va_W) [.int v0, .int v1] (some (.int r)) := by
  refine mc_int (by decide +kernel) (Nat.le_of_ble_eq_true rfl) fun E hl hg hA hrw K HR => ?_
  subst hl
  subst hg
  exact b_X8_zero K HR v0 v1 h
theorem ok_X8_baseNow : yX8_baseNow.cls ≠ "java/lang/invoke/MethodHandle" ∧ yX8_baseNow.cls ≠ "java/lang/invoke/VarHandle" ∧ (parseMethodDescriptor yX8_baseNow.desc).map (fun d => d.parameters.length) = some 0 := ⟨by decide, by decide, by decide +kernel⟩
def f_X8_baseNow (s0 : PolynomialS) : Option (Int32) :=
   some (Polynomial_base s0)
set_option maxRecDepth 100000 in
set_option maxHeartbeats 4000000 in
theorem b_X8_baseNow {E : jE} (p0_0 p0_1 p0_2 : Nat) (s0 : PolynomialS) {res : Int32} (K : jC E cX8_baseNow 1 RX8 0) (HR : jRI E cX8_baseNow 1 (wPolynomial (jg E) p0_0 p0_1 p0_2 s0) res) : f_X8_baseNow s0 = some res → J E 1 (wPolynomial (jg E) p0_0 p0_1 p0_2 s0) 0 [(0, .ref p0_0)] [] := by
  intro  h
  unfold f_X8_baseNow at h
  refine j_aload_n (pc' := 1) K dX8_baseNow_0 rfl 0 rfl rfl ?_
  refine j_get (pc' := 4) K dX8_baseNow_1 inX8 0 rfl rfl 2 (by decide) u_1_189 rfl rfl rfl ?_
  obtain rfl := Option.some.inj h
  exact HR _ _ dX8_baseNow_4
set_option maxRecDepth 100000 in
set_option maxHeartbeats 4000000 in
theorem M_X8_baseNow (l : Launch) (G : jG) (p0_0 p0_1 p0_2 : Nat) (s0 : PolynomialS) {r : Int32} (h : f_X8_baseNow s0 = some r) : MC l yX8_baseNow cX8_baseNow 1 (some .int) 0 G jNo False (wPolynomial G p0_0 p0_1 p0_2 s0) (wPolynomial G p0_0 p0_1 p0_2 s0) [.ref p0_0] (some (.int r)) := by
  refine mc_int (by decide +kernel) (Nat.le_of_ble_eq_true rfl) fun E hl hg hA hrw K HR => ?_
  subst hl
  subst hg
  exact b_X8_baseNow p0_0 p0_1 p0_2 s0 K HR h
theorem ok_X8_clearIn : yX8_clearIn.cls ≠ "java/lang/invoke/MethodHandle" ∧ yX8_clearIn.cls ≠ "java/lang/invoke/VarHandle" ∧ (parseMethodDescriptor yX8_clearIn.desc).map (fun d => d.parameters.length) = some 1 := ⟨by decide, by decide, by decide +kernel⟩
def f_X8_clearIn (v1 : Int32) (s0 : PolynomialS) : Option (PolynomialS) :=
   jbd (f_J7_fill_d0a16_n9 (0 : Int64) (Polynomial_coefficients s0)) (fun r5 =>
   some (Polynomial_base_s (Polynomial_coefficients_s s0 r5) v1))
set_option maxRecDepth 100000 in
set_option maxHeartbeats 4000000 in
theorem b_X8_clearIn {E : jE} (p0_0 p0_1 p0_2 : Nat) {res : PolynomialS} (K : jC E cX8_clearIn 2 RX8 1) (hrw : jrw E) (HR : jRV E cX8_clearIn 2 (wPolynomial (jg E) p0_0 p0_1 p0_2 res)) : ∀ (v1 : Int32) (s0 : PolynomialS), f_X8_clearIn v1 s0 = some res → J E 2 (wPolynomial (jg E) p0_0 p0_1 p0_2 s0) 0 [(0, .ref p0_0), (1, .int v1)] [] := by
  intro v1 s0 h
  unfold f_X8_clearIn at h
  refine j_aload_n (pc' := 1) K dX8_clearIn_0 rfl 0 rfl rfl ?_
  refine j_get (pc' := 4) K dX8_clearIn_1 inX8 0 rfl rfl 0 (by decide) u_1_187 rfl rfl rfl ?_
  refine j_lconst (pc' := 5) (v := (0 : Int64)) K dX8_clearIn_4 (by decide) rfl ?_
  obtain ⟨r5, hr5, h⟩ := jbd_some h
  refine j_rw (pc' := 8) (ws' := (wPolynomial (jg E) p0_0 p0_1 p0_2 (Polynomial_coefficients_s s0 r5))) K (fun H hP => jrun_S K dX8_clearIn_5 (M_J7_fill_d0a16_n9 (jl E) (jg E) p0_1 (0 : Int64) (Polynomial_coefficients s0) hr5) u_3_166 u_3_164 u_3_165 u_1_14 ⟨ok_J7_fill_d0a16, by decide, by decide⟩ rfl (Nat.le_of_ble_eq_true rfl) H) hrw [1] rfl rfl rfl rfl rfl rfl ?_
  refine j_aload_n (pc' := 9) K dX8_clearIn_8 rfl 0 rfl rfl ?_
  refine j_iload_n (pc' := 10) K dX8_clearIn_9 rfl 1 rfl rfl ?_
  refine j_put (pc' := 13) (ws' := (wPolynomial (jg E) p0_0 p0_1 p0_2 (Polynomial_base_s (Polynomial_coefficients_s s0 r5) v1))) K dX8_clearIn_10 hrw inX8 tyX8 tyX8_ok nmX8 0 rfl rfl 2 (by decide) u_1_189 rfl rfl rfl rfl (Nat.le_of_ble_eq_true rfl) (st_Polynomial_0_2 ..) rfl ?_
  obtain rfl := Option.some.inj h
  exact HR _ _ dX8_clearIn_13
set_option maxRecDepth 100000 in
set_option maxHeartbeats 4000000 in
theorem M_X8_clearIn (l : Launch) (G : jG) (p0_0 p0_1 p0_2 : Nat) (v1 : Int32) (s0 : PolynomialS) {r : PolynomialS} (h : f_X8_clearIn v1 s0 = some r) : MC l yX8_clearIn cX8_clearIn 2 none 1 G (jad (wPolynomial G p0_0 p0_1 p0_2 s0)) True (wPolynomial G p0_0 p0_1 p0_2 s0) (wPolynomial G p0_0 p0_1 p0_2 r) [.ref p0_0, .int v1] none := by
  refine mc_void (by decide +kernel) (Nat.le_of_ble_eq_true rfl) fun E hl hg hA hrw K HR => ?_
  subst hl
  subst hg
  have hrw : jrw E := by rw [hrw]; trivial
  exact b_X8_clearIn p0_0 p0_1 p0_2 K hrw HR v1 s0 h
theorem ok_X8_at : yX8_at.cls ≠ "java/lang/invoke/MethodHandle" ∧ yX8_at.cls ≠ "java/lang/invoke/VarHandle" ∧ (parseMethodDescriptor yX8_at.desc).map (fun d => d.parameters.length) = some 1 := ⟨by decide, by decide, by decide +kernel⟩
def f_X8_at (v1 : Int32) (s0 : PolynomialS) : Option (Int64) :=
   jbd (f_X11_within v1 (0 : Int32) (8 : Int32)) (fun r4 =>
   if r4 = 0 then
    some (0 : Int64)
   else
    jgd v1 9 (
     some ((Polynomial_coefficients s0) (Int32.toNatClampNeg v1))))
set_option maxRecDepth 100000 in
set_option maxHeartbeats 4000000 in
theorem b_X8_at {E : jE} (p0_0 p0_1 p0_2 : Nat) (s0 : PolynomialS) {res : Int64} (K : jC E cX8_at 2 RX8 1) (HR : jRL E cX8_at 2 (wPolynomial (jg E) p0_0 p0_1 p0_2 s0) res) : ∀ (v1 : Int32), f_X8_at v1 s0 = some res → J E 2 (wPolynomial (jg E) p0_0 p0_1 p0_2 s0) 0 [(0, .ref p0_0), (1, .int v1)] [] := by
  intro v1 h
  unfold f_X8_at at h
  refine j_iload_n (pc' := 1) K dX8_at_0 rfl 1 rfl rfl ?_
  refine j_iconst (pc' := 2) (v := (0 : Int32)) K dX8_at_1 (by decide) rfl ?_
  refine j_bipush (pc' := 4) (v := (8 : Int32)) K dX8_at_2 (by decide) rfl ?_
  obtain ⟨r4, hr4, h⟩ := jbd_some h
  refine j_ro (pc' := 7) K (fun H hP => jrun_SN K dX8_at_4 (host := "CountTriangles") (M_X11_within (jl E) (jg E) v1 (0 : Int32) (8 : Int32) hr4) u_1_76 (by decide) u_1_75 u_1_1 ⟨ok_X11_within, by decide, by decide⟩ rfl (Nat.le_of_ble_eq_true rfl) H) [] rfl rfl ?_
  refine j_if_eq (pc' := 10) (tgt := 19) K dX8_at_7 (by decide) rfl (fun hc => ?_) (fun hc => ?_)
  · have h := jit hc h
    refine j_lconst (pc' := 20) (v := (0 : Int64)) K dX8_at_19 (by decide) rfl ?_
    obtain rfl := Option.some.inj h
    exact HR _ _ dX8_at_20
  · have h := jif hc h
    refine j_aload_n (pc' := 11) K dX8_at_10 rfl 0 rfl rfl ?_
    refine j_get (pc' := 14) K dX8_at_11 inX8 0 rfl rfl 0 (by decide) u_1_187 rfl rfl rfl ?_
    refine j_iload_n (pc' := 15) K dX8_at_14 rfl 1 rfl rfl ?_
    obtain ⟨hg, h⟩ := jgd_some h
    refine j_lald (pc' := 16) K dX8_at_15 1 rfl hg rfl ?_
    refine j_goto (tgt := 20) K dX8_at_16 (by decide) ?_
    obtain rfl := Option.some.inj h
    exact HR _ _ dX8_at_20
set_option maxRecDepth 100000 in
set_option maxHeartbeats 4000000 in
theorem M_X8_at (l : Launch) (G : jG) (p0_0 p0_1 p0_2 : Nat) (v1 : Int32) (s0 : PolynomialS) {r : Int64} (h : f_X8_at v1 s0 = some r) : MC l yX8_at cX8_at 2 (some .long) 1 G jNo False (wPolynomial G p0_0 p0_1 p0_2 s0) (wPolynomial G p0_0 p0_1 p0_2 s0) [.ref p0_0, .int v1] (some (.long r)) := by
  refine mc_long (by decide +kernel) (Nat.le_of_ble_eq_true rfl) fun E hl hg hA hrw K HR => ?_
  subst hl
  subst hg
  exact b_X8_at p0_0 p0_1 p0_2 s0 K HR v1 h
theorem ok_X8_put : yX8_put.cls ≠ "java/lang/invoke/MethodHandle" ∧ yX8_put.cls ≠ "java/lang/invoke/VarHandle" ∧ (parseMethodDescriptor yX8_put.desc).map (fun d => d.parameters.length) = some 2 := ⟨by decide, by decide, by decide +kernel⟩
def f_X8_put (v1 : Int32) (v2 : Int64) (s0 : PolynomialS) : Option (PolynomialS) :=
   jbd (f_X11_within v1 (0 : Int32) (8 : Int32)) (fun r4 =>
   if r4 = 0 then
    some s0
   else
    jgd v1 9 (
     some (Polynomial_coefficients_s s0 (vp_updL (Polynomial_coefficients s0) (Int32.toNatClampNeg v1) v2))))
set_option maxRecDepth 100000 in
set_option maxHeartbeats 4000000 in
theorem b_X8_put {E : jE} (p0_0 p0_1 p0_2 : Nat) {res : PolynomialS} (K : jC E cX8_put 4 RX8 1) (hrw : jrw E) (HR : jRV E cX8_put 4 (wPolynomial (jg E) p0_0 p0_1 p0_2 res)) : ∀ (v1 : Int32) (v2 : Int64) (s0 : PolynomialS), f_X8_put v1 v2 s0 = some res → J E 4 (wPolynomial (jg E) p0_0 p0_1 p0_2 s0) 0 [(0, .ref p0_0), (1, .int v1), (2, .long v2)] [] := by
  intro v1 v2 s0 h
  unfold f_X8_put at h
  refine j_iload_n (pc' := 1) K dX8_put_0 rfl 1 rfl rfl ?_
  refine j_iconst (pc' := 2) (v := (0 : Int32)) K dX8_put_1 (by decide) rfl ?_
  refine j_bipush (pc' := 4) (v := (8 : Int32)) K dX8_put_2 (by decide) rfl ?_
  obtain ⟨r4, hr4, h⟩ := jbd_some h
  refine j_ro (pc' := 7) K (fun H hP => jrun_SN K dX8_put_4 (host := "CountTriangles") (M_X11_within (jl E) (jg E) v1 (0 : Int32) (8 : Int32) hr4) u_1_76 (by decide) u_1_75 u_1_1 ⟨ok_X11_within, by decide, by decide⟩ rfl (Nat.le_of_ble_eq_true rfl) H) [] rfl rfl ?_
  refine j_if_eq (pc' := 10) (tgt := 17) K dX8_put_7 (by decide) rfl (fun hc => ?_) (fun hc => ?_)
  · have h := jit hc h
    obtain rfl := Option.some.inj h
    exact HR _ _ dX8_put_17
  · have h := jif hc h
    refine j_aload_n (pc' := 11) K dX8_put_10 rfl 0 rfl rfl ?_
    refine j_get (pc' := 14) K dX8_put_11 inX8 0 rfl rfl 0 (by decide) u_1_187 rfl rfl rfl ?_
    refine j_iload_n (pc' := 15) K dX8_put_14 rfl 1 rfl rfl ?_
    refine j_lload_n (pc' := 16) K dX8_put_15 rfl 2 rfl rfl ?_
    obtain ⟨hg, h⟩ := jgd_some h
    refine j_last (pc' := 17) (ws' := (wPolynomial (jg E) p0_0 p0_1 p0_2 (Polynomial_coefficients_s s0 (vp_updL (Polynomial_coefficients s0) (Int32.toNatClampNeg v1) v2)))) K dX8_put_16 hrw 1 rfl hg (st_Polynomial_1 ..) rfl ?_
    obtain rfl := Option.some.inj h
    exact HR _ _ dX8_put_17
set_option maxRecDepth 100000 in
set_option maxHeartbeats 4000000 in
theorem M_X8_put (l : Launch) (G : jG) (p0_0 p0_1 p0_2 : Nat) (v1 : Int32) (v2 : Int64) (s0 : PolynomialS) {r : PolynomialS} (h : f_X8_put v1 v2 s0 = some r) : MC l yX8_put cX8_put 4 none 1 G (jad (wPolynomial G p0_0 p0_1 p0_2 s0)) True (wPolynomial G p0_0 p0_1 p0_2 s0) (wPolynomial G p0_0 p0_1 p0_2 r) [.ref p0_0, .int v1, .long v2] none := by
  refine mc_void (by decide +kernel) (Nat.le_of_ble_eq_true rfl) fun E hl hg hA hrw K HR => ?_
  subst hl
  subst hg
  have hrw : jrw E := by rw [hrw]; trivial
  exact b_X8_put p0_0 p0_1 p0_2 K hrw HR v1 v2 s0 h
theorem ok_X8_degree : yX8_degree.cls ≠ "java/lang/invoke/MethodHandle" ∧ yX8_degree.cls ≠ "java/lang/invoke/VarHandle" ∧ (parseMethodDescriptor yX8_degree.desc).map (fun d => d.parameters.length) = some 0 := ⟨by decide, by decide, by decide +kernel⟩
def f_X8_degree_3 : Nat → Int32 → PolynomialS → Option (Int32)
  | 0, _, _ => none
  | n + 1, v1, s0 =>
   if v1 < 0 then
   some (-4 : Int32)
  else
   jgd v1 9 (
    if (lg_cmp ((Polynomial_coefficients s0) (Int32.toNatClampNeg v1)) (0 : Int64)) = 0 then
     (f_X8_degree_3 n) (v1 + (-1 : Int32)) s0
    else
     some v1)
def f_X8_degree (s0 : PolynomialS) : Option (Int32) :=
   f_X8_degree_3 jFU (8 : Int32) s0
set_option maxRecDepth 100000 in
set_option maxHeartbeats 4000000 in
theorem b_X8_degree_3 {E : jE} (p0_0 p0_1 p0_2 : Nat) (s0 : PolynomialS) {res : Int32} (K : jC E cX8_degree 2 RX8 0) (HR : jRI E cX8_degree 2 (wPolynomial (jg E) p0_0 p0_1 p0_2 s0) res) : ∀ (n : Nat) (v1 : Int32), f_X8_degree_3 n v1 s0 = some res → J E 2 (wPolynomial (jg E) p0_0 p0_1 p0_2 s0) 3 [(0, .ref p0_0), (1, .int v1)] [] := by
  intro n
  induction n with
  | zero => intro _ h; cases h
  | succ n ih =>
    intro v1 h
    rw [f_X8_degree_3] at h
    refine j_iload_n (pc' := 4) K dX8_degree_3 rfl 1 rfl rfl ?_
    refine j_if_lt (pc' := 7) (tgt := 26) K dX8_degree_4 (by decide) rfl (fun hc => ?_) (fun hc => ?_)
    · have h := jit hc h
      refine j_bipush (pc' := 28) (v := (-4 : Int32)) K dX8_degree_26 (by decide) rfl ?_
      obtain rfl := Option.some.inj h
      exact HR _ _ dX8_degree_28
    · have h := jif hc h
      refine j_aload_n (pc' := 8) K dX8_degree_7 rfl 0 rfl rfl ?_
      refine j_get (pc' := 11) K dX8_degree_8 inX8 0 rfl rfl 0 (by decide) u_1_187 rfl rfl rfl ?_
      refine j_iload_n (pc' := 12) K dX8_degree_11 rfl 1 rfl rfl ?_
      obtain ⟨hg, h⟩ := jgd_some h
      refine j_lald (pc' := 13) K dX8_degree_12 1 rfl hg rfl ?_
      refine j_lconst (pc' := 14) (v := (0 : Int64)) K dX8_degree_13 (by decide) rfl ?_
      refine j_lcmp (pc' := 15) K dX8_degree_14 rfl ?_
      refine j_if_eq (pc' := 18) (tgt := 20) K dX8_degree_15 (by decide) rfl (fun hc => ?_) (fun hc => ?_)
      · have h := jit hc h
        refine j_iinc (pc' := 23) (j := 1) (v := (v1 + (-1 : Int32))) (lv' := [(1, .int (v1 + (-1 : Int32))), (0, .ref p0_0)]) K dX8_degree_20 rfl rfl (by decide) rfl rfl ?_
        refine j_goto (tgt := 3) K dX8_degree_23 (by decide) ?_
        refine j_sub [1, 0] rfl ?_
        exact ih (v1 + (-1 : Int32)) h
      · have h := jif hc h
        refine j_iload_n (pc' := 19) K dX8_degree_18 rfl 1 rfl rfl ?_
        obtain rfl := Option.some.inj h
        exact HR _ _ dX8_degree_19
set_option maxRecDepth 100000 in
set_option maxHeartbeats 4000000 in
theorem b_X8_degree {E : jE} (p0_0 p0_1 p0_2 : Nat) (s0 : PolynomialS) {res : Int32} (K : jC E cX8_degree 2 RX8 0) (HR : jRI E cX8_degree 2 (wPolynomial (jg E) p0_0 p0_1 p0_2 s0) res) : f_X8_degree s0 = some res → J E 2 (wPolynomial (jg E) p0_0 p0_1 p0_2 s0) 0 [(0, .ref p0_0)] [] := by
  intro  h
  unfold f_X8_degree at h
  refine j_bipush (pc' := 2) (v := (8 : Int32)) K dX8_degree_0 (by decide) rfl ?_
  refine j_istore_n (pc' := 3) (lv' := [(1, .int (8 : Int32)), (0, .ref p0_0)]) K dX8_degree_2 rfl (by decide) rfl rfl ?_
  refine j_sub [1, 0] rfl ?_
  exact b_X8_degree_3 p0_0 p0_1 p0_2 s0 K HR jFU (8 : Int32) h
set_option maxRecDepth 100000 in
set_option maxHeartbeats 4000000 in
theorem M_X8_degree (l : Launch) (G : jG) (p0_0 p0_1 p0_2 : Nat) (s0 : PolynomialS) {r : Int32} (h : f_X8_degree s0 = some r) : MC l yX8_degree cX8_degree 2 (some .int) 0 G jNo False (wPolynomial G p0_0 p0_1 p0_2 s0) (wPolynomial G p0_0 p0_1 p0_2 s0) [.ref p0_0] (some (.int r)) := by
  refine mc_int (by decide +kernel) (Nat.le_of_ble_eq_true rfl) fun E hl hg hA hrw K HR => ?_
  subst hl
  subst hg
  exact b_X8_degree p0_0 p0_1 p0_2 s0 K HR h
theorem ok_X8_inUse : yX8_inUse.cls ≠ "java/lang/invoke/MethodHandle" ∧ yX8_inUse.cls ≠ "java/lang/invoke/VarHandle" ∧ (parseMethodDescriptor yX8_inUse.desc).map (fun d => d.parameters.length) = some 0 := ⟨by decide, by decide, by decide +kernel⟩
def f_X8_inUse_24 (k4 : Int32 → Int32 → PolynomialS → Option (Int32)) (v1 : Int32) (v2 : Int32) (s0 : PolynomialS) : Option (Int32) :=
   k4 v1 (v2 + (1 : Int32)) s0
def f_X8_inUse_4 : Nat → Int32 → Int32 → PolynomialS → Option (Int32)
  | 0, _, _, _ => none
  | n + 1, v1, v2, s0 =>
   if (8 : Int32) < v2 then
   some v1
  else
   jgd v2 9 (
    if (lg_cmp ((Polynomial_coefficients s0) (Int32.toNatClampNeg v2)) (0 : Int64)) = 0 then
     f_X8_inUse_24 (f_X8_inUse_4 n) v1 v2 s0
    else
     f_X8_inUse_24 (f_X8_inUse_4 n) (v1 + (1 : Int32)) v2 s0)
def f_X8_inUse (s0 : PolynomialS) : Option (Int32) :=
   f_X8_inUse_4 jFU (0 : Int32) (0 : Int32) s0
set_option maxRecDepth 100000 in
set_option maxHeartbeats 4000000 in
theorem b_X8_inUse_24 {E : jE} (p0_0 p0_1 p0_2 : Nat) (s0 : PolynomialS) {res : Int32} (K : jC E cX8_inUse 3 RX8 0) (HR : jRI E cX8_inUse 3 (wPolynomial (jg E) p0_0 p0_1 p0_2 s0) res) (k4 : Int32 → Int32 → PolynomialS → Option (Int32)) (hk4 : ∀ (v1 : Int32) (v2 : Int32), k4 v1 v2 s0 = some res → J E 3 (wPolynomial (jg E) p0_0 p0_1 p0_2 s0) 4 [(0, .ref p0_0), (1, .int v1), (2, .int v2)] []) : ∀ (v1 : Int32) (v2 : Int32), f_X8_inUse_24 k4 v1 v2 s0 = some res → J E 3 (wPolynomial (jg E) p0_0 p0_1 p0_2 s0) 24 [(0, .ref p0_0), (1, .int v1), (2, .int v2)] [] := by
  intro v1 v2 h
  unfold f_X8_inUse_24 at h
  refine j_iinc (pc' := 27) (j := 2) (v := (v2 + (1 : Int32))) (lv' := [(2, .int (v2 + (1 : Int32))), (0, .ref p0_0), (1, .int v1)]) K dX8_inUse_24 rfl rfl (by decide) rfl rfl ?_
  refine j_goto (tgt := 4) K dX8_inUse_27 (by decide) ?_
  refine j_sub [1, 2, 0] rfl ?_
  exact hk4 v1 (v2 + (1 : Int32)) h
set_option maxRecDepth 100000 in
set_option maxHeartbeats 4000000 in
theorem b_X8_inUse_4 {E : jE} (p0_0 p0_1 p0_2 : Nat) (s0 : PolynomialS) {res : Int32} (K : jC E cX8_inUse 3 RX8 0) (HR : jRI E cX8_inUse 3 (wPolynomial (jg E) p0_0 p0_1 p0_2 s0) res) : ∀ (n : Nat) (v1 : Int32) (v2 : Int32), f_X8_inUse_4 n v1 v2 s0 = some res → J E 3 (wPolynomial (jg E) p0_0 p0_1 p0_2 s0) 4 [(0, .ref p0_0), (1, .int v1), (2, .int v2)] [] := by
  intro n
  induction n with
  | zero => intro _ _ h; cases h
  | succ n ih =>
    intro v1 v2 h
    rw [f_X8_inUse_4] at h
    refine j_iload_n (pc' := 5) K dX8_inUse_4 rfl 2 rfl rfl ?_
    refine j_bipush (pc' := 7) (v := (8 : Int32)) K dX8_inUse_5 (by decide) rfl ?_
    refine j_icmp_gt (pc' := 10) (tgt := 30) K dX8_inUse_7 (by decide) rfl (fun hc => ?_) (fun hc => ?_)
    · have h := jit hc h
      refine j_iload_n (pc' := 31) K dX8_inUse_30 rfl 1 rfl rfl ?_
      obtain rfl := Option.some.inj h
      exact HR _ _ dX8_inUse_31
    · have h := jif hc h
      refine j_aload_n (pc' := 11) K dX8_inUse_10 rfl 0 rfl rfl ?_
      refine j_get (pc' := 14) K dX8_inUse_11 inX8 0 rfl rfl 0 (by decide) u_1_187 rfl rfl rfl ?_
      refine j_iload_n (pc' := 15) K dX8_inUse_14 rfl 2 rfl rfl ?_
      obtain ⟨hg, h⟩ := jgd_some h
      refine j_lald (pc' := 16) K dX8_inUse_15 1 rfl hg rfl ?_
      refine j_lconst (pc' := 17) (v := (0 : Int64)) K dX8_inUse_16 (by decide) rfl ?_
      refine j_lcmp (pc' := 18) K dX8_inUse_17 rfl ?_
      refine j_if_eq (pc' := 21) (tgt := 24) K dX8_inUse_18 (by decide) rfl (fun hc => ?_) (fun hc => ?_)
      · have h := jit hc h
        refine j_sub [0, 1, 2] rfl ?_
        exact b_X8_inUse_24 p0_0 p0_1 p0_2 s0 K HR (f_X8_inUse_4 n) (ih) v1 v2 h
      · have h := jif hc h
        refine j_iinc (pc' := 24) (j := 1) (v := (v1 + (1 : Int32))) (lv' := [(1, .int (v1 + (1 : Int32))), (0, .ref p0_0), (2, .int v2)]) K dX8_inUse_21 rfl rfl (by decide) rfl rfl ?_
        refine j_sub [1, 0, 2] rfl ?_
        exact b_X8_inUse_24 p0_0 p0_1 p0_2 s0 K HR (f_X8_inUse_4 n) (ih) (v1 + (1 : Int32)) v2 h
set_option maxRecDepth 100000 in
set_option maxHeartbeats 4000000 in
theorem b_X8_inUse {E : jE} (p0_0 p0_1 p0_2 : Nat) (s0 : PolynomialS) {res : Int32} (K : jC E cX8_inUse 3 RX8 0) (HR : jRI E cX8_inUse 3 (wPolynomial (jg E) p0_0 p0_1 p0_2 s0) res) : f_X8_inUse s0 = some res → J E 3 (wPolynomial (jg E) p0_0 p0_1 p0_2 s0) 0 [(0, .ref p0_0)] [] := by
  intro  h
  unfold f_X8_inUse at h
  refine j_iconst (pc' := 1) (v := (0 : Int32)) K dX8_inUse_0 (by decide) rfl ?_
  refine j_istore_n (pc' := 2) (lv' := [(1, .int (0 : Int32)), (0, .ref p0_0)]) K dX8_inUse_1 rfl (by decide) rfl rfl ?_
  refine j_iconst (pc' := 3) (v := (0 : Int32)) K dX8_inUse_2 (by decide) rfl ?_
  refine j_istore_n (pc' := 4) (lv' := [(2, .int (0 : Int32)), (1, .int (0 : Int32)), (0, .ref p0_0)]) K dX8_inUse_3 rfl (by decide) rfl rfl ?_
  refine j_sub [2, 1, 0] rfl ?_
  exact b_X8_inUse_4 p0_0 p0_1 p0_2 s0 K HR jFU (0 : Int32) (0 : Int32) h
set_option maxRecDepth 100000 in
set_option maxHeartbeats 4000000 in
theorem M_X8_inUse (l : Launch) (G : jG) (p0_0 p0_1 p0_2 : Nat) (s0 : PolynomialS) {r : Int32} (h : f_X8_inUse s0 = some r) : MC l yX8_inUse cX8_inUse 3 (some .int) 0 G jNo False (wPolynomial G p0_0 p0_1 p0_2 s0) (wPolynomial G p0_0 p0_1 p0_2 s0) [.ref p0_0] (some (.int r)) := by
  refine mc_int (by decide +kernel) (Nat.le_of_ble_eq_true rfl) fun E hl hg hA hrw K HR => ?_
  subst hl
  subst hg
  exact b_X8_inUse p0_0 p0_1 p0_2 s0 K HR h
theorem ok_X8_valueAt : yX8_valueAt.cls ≠ "java/lang/invoke/MethodHandle" ∧ yX8_valueAt.cls ≠ "java/lang/invoke/VarHandle" ∧ (parseMethodDescriptor yX8_valueAt.desc).map (fun d => d.parameters.length) = some 1 := ⟨by decide, by decide, by decide +kernel⟩
def f_X8_valueAt_63 (k8 : Int32 → Int64 → Int64 → Int32 → PolynomialS → Option (Int64)) (v1 : Int32) (v2 : Int64) (v4 : Int64) (v6 : Int32) (s0 : PolynomialS) : Option (Int64) :=
   k8 v1 v2 v4 (v6 + (1 : Int32)) s0
def f_X8_valueAt_8 : Nat → Int32 → Int64 → Int64 → Int32 → PolynomialS → Option (Int64)
  | 0, _, _, _, _, _ => none
  | n + 1, v1, v2, v4, v6, s0 =>
   if (8 : Int32) < v6 then
   some v2
  else
   jgd v6 9 (
    jbd (f_X8_zero (Polynomial_base s0) v6) (fun r37 =>
     if (Polynomial_base s0) = (3 : Int32) then
      jnzl (Int32.toInt64 (v6 + (1 : Int32))) (
       f_X8_valueAt_63 (f_X8_valueAt_8 n) v1 (v2 + (((Polynomial_coefficients s0) (Int32.toNatClampNeg v6)) * v4)) ((v4 * (Int32.toInt64 (v1 - r37))) / (Int32.toInt64 (v6 + (1 : Int32)))) v6 s0)
     else
      f_X8_valueAt_63 (f_X8_valueAt_8 n) v1 (v2 + (((Polynomial_coefficients s0) (Int32.toNatClampNeg v6)) * v4)) (v4 * (Int32.toInt64 (v1 - r37))) v6 s0))
def f_X8_valueAt (v1 : Int32) (s0 : PolynomialS) : Option (Int64) :=
   f_X8_valueAt_8 jFU v1 (0 : Int64) (1 : Int64) (0 : Int32) s0
set_option maxRecDepth 100000 in
set_option maxHeartbeats 4000000 in
theorem b_X8_valueAt_63 {E : jE} (p0_0 p0_1 p0_2 : Nat) (s0 : PolynomialS) {res : Int64} (K : jC E cX8_valueAt 7 RX8 1) (HR : jRL E cX8_valueAt 7 (wPolynomial (jg E) p0_0 p0_1 p0_2 s0) res) (k8 : Int32 → Int64 → Int64 → Int32 → PolynomialS → Option (Int64)) (hk8 : ∀ (v1 : Int32) (v2 : Int64) (v4 : Int64) (v6 : Int32), k8 v1 v2 v4 v6 s0 = some res → J E 7 (wPolynomial (jg E) p0_0 p0_1 p0_2 s0) 8 [(0, .ref p0_0), (1, .int v1), (2, .long v2), (4, .long v4), (6, .int v6)] []) : ∀ (v1 : Int32) (v2 : Int64) (v4 : Int64) (v6 : Int32), f_X8_valueAt_63 k8 v1 v2 v4 v6 s0 = some res → J E 7 (wPolynomial (jg E) p0_0 p0_1 p0_2 s0) 63 [(0, .ref p0_0), (1, .int v1), (2, .long v2), (4, .long v4), (6, .int v6)] [] := by
  intro v1 v2 v4 v6 h
  unfold f_X8_valueAt_63 at h
  refine j_iinc (pc' := 66) (j := 4) (v := (v6 + (1 : Int32))) (lv' := [(6, .int (v6 + (1 : Int32))), (0, .ref p0_0), (1, .int v1), (2, .long v2), (4, .long v4)]) K dX8_valueAt_63 rfl rfl (by decide) rfl rfl ?_
  refine j_goto (tgt := 8) K dX8_valueAt_66 (by decide) ?_
  refine j_sub [1, 2, 3, 4, 0] rfl ?_
  exact hk8 v1 v2 v4 (v6 + (1 : Int32)) h
set_option maxRecDepth 100000 in
set_option maxHeartbeats 4000000 in
theorem b_X8_valueAt_8 {E : jE} (p0_0 p0_1 p0_2 : Nat) (s0 : PolynomialS) {res : Int64} (K : jC E cX8_valueAt 7 RX8 1) (HR : jRL E cX8_valueAt 7 (wPolynomial (jg E) p0_0 p0_1 p0_2 s0) res) : ∀ (n : Nat) (v1 : Int32) (v2 : Int64) (v4 : Int64) (v6 : Int32), f_X8_valueAt_8 n v1 v2 v4 v6 s0 = some res → J E 7 (wPolynomial (jg E) p0_0 p0_1 p0_2 s0) 8 [(0, .ref p0_0), (1, .int v1), (2, .long v2), (4, .long v4), (6, .int v6)] [] := by
  intro n
  induction n with
  | zero => intro _ _ _ _ h; cases h
  | succ n ih =>
    intro v1 v2 v4 v6 h
    rw [f_X8_valueAt_8] at h
    refine j_iload (pc' := 10) K dX8_valueAt_8 4 rfl rfl ?_
    refine j_bipush (pc' := 12) (v := (8 : Int32)) K dX8_valueAt_10 (by decide) rfl ?_
    refine j_icmp_gt (pc' := 15) (tgt := 69) K dX8_valueAt_12 (by decide) rfl (fun hc => ?_) (fun hc => ?_)
    · have h := jit hc h
      refine j_lload_n (pc' := 70) K dX8_valueAt_69 rfl 2 rfl rfl ?_
      obtain rfl := Option.some.inj h
      exact HR _ _ dX8_valueAt_70
    · have h := jif hc h
      refine j_lload_n (pc' := 16) K dX8_valueAt_15 rfl 2 rfl rfl ?_
      refine j_aload_n (pc' := 17) K dX8_valueAt_16 rfl 0 rfl rfl ?_
      refine j_get (pc' := 20) K dX8_valueAt_17 inX8 0 rfl rfl 0 (by decide) u_1_187 rfl rfl rfl ?_
      refine j_iload (pc' := 22) K dX8_valueAt_20 4 rfl rfl ?_
      obtain ⟨hg, h⟩ := jgd_some h
      refine j_lald (pc' := 23) K dX8_valueAt_22 1 rfl hg rfl ?_
      refine j_lload (pc' := 25) K dX8_valueAt_23 3 rfl rfl ?_
      refine j_lmul (pc' := 26) K dX8_valueAt_25 rfl ?_
      refine j_ladd (pc' := 27) K dX8_valueAt_26 rfl ?_
      refine j_lstore_n (pc' := 28) (lv' := [(2, .long (v2 + (((Polynomial_coefficients s0) (Int32.toNatClampNeg v6)) * v4))), (0, .ref p0_0), (1, .int v1), (4, .long v4), (6, .int v6)]) K dX8_valueAt_27 rfl (by decide) rfl rfl ?_
      refine j_lload (pc' := 30) K dX8_valueAt_28 3 rfl rfl ?_
      refine j_iload_n (pc' := 31) K dX8_valueAt_30 rfl 2 rfl rfl ?_
      refine j_aload_n (pc' := 32) K dX8_valueAt_31 rfl 1 rfl rfl ?_
      refine j_get (pc' := 35) K dX8_valueAt_32 inX8 0 rfl rfl 2 (by decide) u_1_189 rfl rfl rfl ?_
      refine j_iload (pc' := 37) K dX8_valueAt_35 4 rfl rfl ?_
      obtain ⟨r37, hr37, h⟩ := jbd_some h
      refine j_ro (pc' := 40) K (fun H hP => jrun_S K dX8_valueAt_37 (M_X8_zero (jl E) (jg E) (Polynomial_base s0) v6 hr37) u_3_216 u_3_214 u_3_215 u_1_12 ⟨ok_X8_zero, by decide, by decide⟩ rfl (Nat.le_of_ble_eq_true rfl) H) [] rfl rfl ?_
      refine j_isub (pc' := 41) K dX8_valueAt_40 rfl ?_
      refine j_i2l (pc' := 42) K dX8_valueAt_41 rfl ?_
      refine j_lmul (pc' := 43) K dX8_valueAt_42 rfl ?_
      refine j_lstore (pc' := 45) (lv' := [(4, .long (v4 * (Int32.toInt64 (v1 - r37)))), (2, .long (v2 + (((Polynomial_coefficients s0) (Int32.toNatClampNeg v6)) * v4))), (0, .ref p0_0), (1, .int v1), (6, .int v6)]) K dX8_valueAt_43 (by decide) rfl rfl ?_
      refine j_aload_n (pc' := 46) K dX8_valueAt_45 rfl 2 rfl rfl ?_
      refine j_get (pc' := 49) K dX8_valueAt_46 inX8 0 rfl rfl 2 (by decide) u_1_189 rfl rfl rfl ?_
      refine j_iconst (pc' := 50) (v := (3 : Int32)) K dX8_valueAt_49 (by decide) rfl ?_
      refine j_icmp_ne (pc' := 53) (tgt := 63) K dX8_valueAt_50 (by decide) rfl (fun hc => ?_) (fun hc => ?_)
      · have h := jif hc h
        refine j_sub [2, 3, 1, 0, 4] rfl ?_
        exact b_X8_valueAt_63 p0_0 p0_1 p0_2 s0 K HR (f_X8_valueAt_8 n) (ih) v1 (v2 + (((Polynomial_coefficients s0) (Int32.toNatClampNeg v6)) * v4)) (v4 * (Int32.toInt64 (v1 - r37))) v6 h
      · have h := jit hc h
        refine j_lload (pc' := 55) K dX8_valueAt_53 0 rfl rfl ?_
        refine j_iload (pc' := 57) K dX8_valueAt_55 4 rfl rfl ?_
        refine j_iconst (pc' := 58) (v := (1 : Int32)) K dX8_valueAt_57 (by decide) rfl ?_
        refine j_iadd (pc' := 59) K dX8_valueAt_58 rfl ?_
        refine j_i2l (pc' := 60) K dX8_valueAt_59 rfl ?_
        obtain ⟨hg, h⟩ := jnzl_some h
        refine j_ldiv (pc' := 61) K dX8_valueAt_60 hg rfl ?_
        refine j_lstore (pc' := 63) (lv' := [(4, .long ((v4 * (Int32.toInt64 (v1 - r37))) / (Int32.toInt64 (v6 + (1 : Int32))))), (2, .long (v2 + (((Polynomial_coefficients s0) (Int32.toNatClampNeg v6)) * v4))), (0, .ref p0_0), (1, .int v1), (6, .int v6)]) K dX8_valueAt_61 (by decide) rfl rfl ?_
        refine j_sub [2, 3, 1, 0, 4] rfl ?_
        exact b_X8_valueAt_63 p0_0 p0_1 p0_2 s0 K HR (f_X8_valueAt_8 n) (ih) v1 (v2 + (((Polynomial_coefficients s0) (Int32.toNatClampNeg v6)) * v4)) ((v4 * (Int32.toInt64 (v1 - r37))) / (Int32.toInt64 (v6 + (1 : Int32)))) v6 h
set_option maxRecDepth 100000 in
set_option maxHeartbeats 4000000 in
theorem b_X8_valueAt {E : jE} (p0_0 p0_1 p0_2 : Nat) (s0 : PolynomialS) {res : Int64} (K : jC E cX8_valueAt 7 RX8 1) (HR : jRL E cX8_valueAt 7 (wPolynomial (jg E) p0_0 p0_1 p0_2 s0) res) : ∀ (v1 : Int32), f_X8_valueAt v1 s0 = some res → J E 7 (wPolynomial (jg E) p0_0 p0_1 p0_2 s0) 0 [(0, .ref p0_0), (1, .int v1)] [] := by
  intro v1 h
  unfold f_X8_valueAt at h
  refine j_lconst (pc' := 1) (v := (0 : Int64)) K dX8_valueAt_0 (by decide) rfl ?_
  refine j_lstore_n (pc' := 2) (lv' := [(2, .long (0 : Int64)), (0, .ref p0_0), (1, .int v1)]) K dX8_valueAt_1 rfl (by decide) rfl rfl ?_
  refine j_lconst (pc' := 3) (v := (1 : Int64)) K dX8_valueAt_2 (by decide) rfl ?_
  refine j_lstore (pc' := 5) (lv' := [(4, .long (1 : Int64)), (2, .long (0 : Int64)), (0, .ref p0_0), (1, .int v1)]) K dX8_valueAt_3 (by decide) rfl rfl ?_
  refine j_iconst (pc' := 6) (v := (0 : Int32)) K dX8_valueAt_5 (by decide) rfl ?_
  refine j_istore (pc' := 8) (lv' := [(6, .int (0 : Int32)), (4, .long (1 : Int64)), (2, .long (0 : Int64)), (0, .ref p0_0), (1, .int v1)]) K dX8_valueAt_6 (by decide) rfl rfl ?_
  refine j_sub [3, 4, 2, 1, 0] rfl ?_
  exact b_X8_valueAt_8 p0_0 p0_1 p0_2 s0 K HR jFU v1 (0 : Int64) (1 : Int64) (0 : Int32) h
set_option maxRecDepth 100000 in
set_option maxHeartbeats 4000000 in
theorem M_X8_valueAt (l : Launch) (G : jG) (p0_0 p0_1 p0_2 : Nat) (v1 : Int32) (s0 : PolynomialS) {r : Int64} (h : f_X8_valueAt v1 s0 = some r) : MC l yX8_valueAt cX8_valueAt 7 (some .long) 1 G jNo False (wPolynomial G p0_0 p0_1 p0_2 s0) (wPolynomial G p0_0 p0_1 p0_2 s0) [.ref p0_0, .int v1] (some (.long r)) := by
  refine mc_long (by decide +kernel) (Nat.le_of_ble_eq_true rfl) fun E hl hg hA hrw K HR => ?_
  subst hl
  subst hg
  exact b_X8_valueAt p0_0 p0_1 p0_2 s0 K HR v1 h
theorem ok_X8_difference : yX8_difference.cls ≠ "java/lang/invoke/MethodHandle" ∧ yX8_difference.cls ≠ "java/lang/invoke/VarHandle" ∧ (parseMethodDescriptor yX8_difference.desc).map (fun d => d.parameters.length) = some 2 := ⟨by decide, by decide, by decide +kernel⟩
def f_X8_difference_90 (s0 : PolynomialS) : Option (Int64 × PolynomialS) :=
   jgd (0 : Int32) 9 (
   some (((Polynomial_room s0) (Int32.toNatClampNeg (0 : Int32))), s0))
def f_X8_difference_84 (k34 : Int32 → PolynomialS → Option (Int64 × PolynomialS)) (v3 : Int32) (s0 : PolynomialS) : Option (Int64 × PolynomialS) :=
   k34 (v3 + (-1 : Int32)) s0
def f_X8_difference_41 (k34 : Int32 → PolynomialS → Option (Int64 × PolynomialS)) : Nat → Int32 → Int32 → PolynomialS → Option (Int64 × PolynomialS)
  | 0, _, _, _ => none
  | n + 1, v3, v4, s0 =>
   if v3 ≤ v4 then
   f_X8_difference_84 k34 v3 s0
  else
   if (8 : Int32) ≤ v4 then
    f_X8_difference_84 k34 v3 s0
   else
    jgd (v4 + (1 : Int32)) 9 (
     jgd v4 9 (
      jgd v4 9 (
       (f_X8_difference_41 k34 n) v3 (v4 + (1 : Int32)) (Polynomial_room_s s0 (vp_updL (Polynomial_room s0) (Int32.toNatClampNeg v4) (((Polynomial_room s0) (Int32.toNatClampNeg (v4 + (1 : Int32)))) - ((Polynomial_room s0) (Int32.toNatClampNeg v4))))))))
def f_X8_difference_34 : Nat → Int32 → PolynomialS → Option (Int64 × PolynomialS)
  | 0, _, _ => none
  | n + 1, v3, s0 =>
   if v3 ≤ 0 then
   f_X8_difference_90 s0
  else
   f_X8_difference_41 (f_X8_difference_34 n) jFU v3 (0 : Int32) s0
def f_X8_difference_32 (v2 : Int32) (s0 : PolynomialS) : Option (Int64 × PolynomialS) :=
   f_X8_difference_34 jFU v2 s0
def f_X8_difference_2 : Nat → Int32 → Int32 → Int32 → PolynomialS → Option (Int64 × PolynomialS)
  | 0, _, _, _, _ => none
  | n + 1, v1, v2, v3, s0 =>
   if v2 < v3 then
   f_X8_difference_32 v2 s0
  else
   if (8 : Int32) < v3 then
    f_X8_difference_32 v2 s0
   else
    jbd (f_X8_valueAt (v1 + v3) s0) (fun r22 =>
     jgd v3 9 (
      (f_X8_difference_2 n) v1 v2 (v3 + (1 : Int32)) (Polynomial_room_s s0 (vp_updL (Polynomial_room s0) (Int32.toNatClampNeg v3) r22))))
def f_X8_difference (v1 : Int32) (v2 : Int32) (s0 : PolynomialS) : Option (Int64 × PolynomialS) :=
   f_X8_difference_2 jFU v1 v2 (0 : Int32) s0
set_option maxRecDepth 100000 in
set_option maxHeartbeats 4000000 in
theorem b_X8_difference_90 {E : jE} (p0_0 p0_1 p0_2 : Nat) {res : Int64 × PolynomialS} (K : jC E cX8_difference 5 RX8 2) (hrw : jrw E) (HR : jRL E cX8_difference 5 (wPolynomial (jg E) p0_0 p0_1 p0_2 (res.2)) (res.1)) : ∀ (s0 : PolynomialS), f_X8_difference_90 s0 = some res → J E 5 (wPolynomial (jg E) p0_0 p0_1 p0_2 s0) 90 [(0, .ref p0_0)] [] := by
  intro s0 h
  unfold f_X8_difference_90 at h
  refine j_aload_n (pc' := 91) K dX8_difference_90 rfl 0 rfl rfl ?_
  refine j_get (pc' := 94) K dX8_difference_91 inX8 0 rfl rfl 1 (by decide) u_1_188 rfl rfl rfl ?_
  refine j_iconst (pc' := 95) (v := (0 : Int32)) K dX8_difference_94 (by decide) rfl ?_
  obtain ⟨hg, h⟩ := jgd_some h
  refine j_lald (pc' := 96) K dX8_difference_95 2 rfl hg rfl ?_
  obtain rfl := Option.some.inj h
  exact HR _ _ dX8_difference_96
set_option maxRecDepth 100000 in
set_option maxHeartbeats 4000000 in
theorem b_X8_difference_84 {E : jE} (p0_0 p0_1 p0_2 : Nat) {res : Int64 × PolynomialS} (K : jC E cX8_difference 5 RX8 2) (hrw : jrw E) (HR : jRL E cX8_difference 5 (wPolynomial (jg E) p0_0 p0_1 p0_2 (res.2)) (res.1)) (k34 : Int32 → PolynomialS → Option (Int64 × PolynomialS)) (hk34 : ∀ (v3 : Int32) (s0 : PolynomialS), k34 v3 s0 = some res → J E 5 (wPolynomial (jg E) p0_0 p0_1 p0_2 s0) 34 [(0, .ref p0_0), (3, .int v3)] []) : ∀ (v3 : Int32) (s0 : PolynomialS), f_X8_difference_84 k34 v3 s0 = some res → J E 5 (wPolynomial (jg E) p0_0 p0_1 p0_2 s0) 84 [(0, .ref p0_0), (3, .int v3)] [] := by
  intro v3 s0 h
  unfold f_X8_difference_84 at h
  refine j_iinc (pc' := 87) (j := 1) (v := (v3 + (-1 : Int32))) (lv' := [(3, .int (v3 + (-1 : Int32))), (0, .ref p0_0)]) K dX8_difference_84 rfl rfl (by decide) rfl rfl ?_
  refine j_goto (tgt := 34) K dX8_difference_87 (by decide) ?_
  refine j_sub [1, 0] rfl ?_
  exact hk34 (v3 + (-1 : Int32)) s0 h
set_option maxRecDepth 100000 in
set_option maxHeartbeats 4000000 in
theorem b_X8_difference_41 {E : jE} (p0_0 p0_1 p0_2 : Nat) {res : Int64 × PolynomialS} (K : jC E cX8_difference 5 RX8 2) (hrw : jrw E) (HR : jRL E cX8_difference 5 (wPolynomial (jg E) p0_0 p0_1 p0_2 (res.2)) (res.1)) (k34 : Int32 → PolynomialS → Option (Int64 × PolynomialS)) (hk34 : ∀ (v3 : Int32) (s0 : PolynomialS), k34 v3 s0 = some res → J E 5 (wPolynomial (jg E) p0_0 p0_1 p0_2 s0) 34 [(0, .ref p0_0), (3, .int v3)] []) : ∀ (n : Nat) (v3 : Int32) (v4 : Int32) (s0 : PolynomialS), f_X8_difference_41 k34 n v3 v4 s0 = some res → J E 5 (wPolynomial (jg E) p0_0 p0_1 p0_2 s0) 41 [(0, .ref p0_0), (3, .int v3), (4, .int v4)] [] := by
  intro n
  induction n with
  | zero => intro _ _ _ h; cases h
  | succ n ih =>
    intro v3 v4 s0 h
    rw [f_X8_difference_41] at h
    refine j_iload (pc' := 43) K dX8_difference_41 2 rfl rfl ?_
    refine j_iload_n (pc' := 44) K dX8_difference_43 rfl 1 rfl rfl ?_
    refine j_icmp_ge (pc' := 47) (tgt := 84) K dX8_difference_44 (by decide) rfl (fun hc => ?_) (fun hc => ?_)
    · have h := jit hc h
      refine j_sub [0, 1] rfl ?_
      exact b_X8_difference_84 p0_0 p0_1 p0_2 K hrw HR k34 hk34 v3 s0 h
    · have h := jif hc h
      refine j_iload (pc' := 49) K dX8_difference_47 2 rfl rfl ?_
      refine j_bipush (pc' := 51) (v := (8 : Int32)) K dX8_difference_49 (by decide) rfl ?_
      refine j_icmp_ge (pc' := 54) (tgt := 84) K dX8_difference_51 (by decide) rfl (fun hc => ?_) (fun hc => ?_)
      · have h := jit hc h
        refine j_sub [0, 1] rfl ?_
        exact b_X8_difference_84 p0_0 p0_1 p0_2 K hrw HR k34 hk34 v3 s0 h
      · have h := jif hc h
        refine j_aload_n (pc' := 55) K dX8_difference_54 rfl 0 rfl rfl ?_
        refine j_get (pc' := 58) K dX8_difference_55 inX8 0 rfl rfl 1 (by decide) u_1_188 rfl rfl rfl ?_
        refine j_iload (pc' := 60) K dX8_difference_58 2 rfl rfl ?_
        refine j_aload_n (pc' := 61) K dX8_difference_60 rfl 0 rfl rfl ?_
        refine j_get (pc' := 64) K dX8_difference_61 inX8 0 rfl rfl 1 (by decide) u_1_188 rfl rfl rfl ?_
        refine j_iload (pc' := 66) K dX8_difference_64 2 rfl rfl ?_
        refine j_iconst (pc' := 67) (v := (1 : Int32)) K dX8_difference_66 (by decide) rfl ?_
        refine j_iadd (pc' := 68) K dX8_difference_67 rfl ?_
        obtain ⟨hg, h⟩ := jgd_some h
        refine j_lald (pc' := 69) K dX8_difference_68 2 rfl hg rfl ?_
        refine j_aload_n (pc' := 70) K dX8_difference_69 rfl 0 rfl rfl ?_
        refine j_get (pc' := 73) K dX8_difference_70 inX8 0 rfl rfl 1 (by decide) u_1_188 rfl rfl rfl ?_
        refine j_iload (pc' := 75) K dX8_difference_73 2 rfl rfl ?_
        obtain ⟨hg, h⟩ := jgd_some h
        refine j_lald (pc' := 76) K dX8_difference_75 2 rfl hg rfl ?_
        refine j_lsub (pc' := 77) K dX8_difference_76 rfl ?_
        obtain ⟨hg, h⟩ := jgd_some h
        refine j_last (pc' := 78) (ws' := (wPolynomial (jg E) p0_0 p0_1 p0_2 (Polynomial_room_s s0 (vp_updL (Polynomial_room s0) (Int32.toNatClampNeg v4) (((Polynomial_room s0) (Int32.toNatClampNeg (v4 + (1 : Int32)))) - ((Polynomial_room s0) (Int32.toNatClampNeg v4))))))) K dX8_difference_77 hrw 2 rfl hg (st_Polynomial_2 ..) rfl ?_
        refine j_iinc (pc' := 81) (j := 2) (v := (v4 + (1 : Int32))) (lv' := [(4, .int (v4 + (1 : Int32))), (0, .ref p0_0), (3, .int v3)]) K dX8_difference_78 rfl rfl (by decide) rfl rfl ?_
        refine j_goto (tgt := 41) K dX8_difference_81 (by decide) ?_
        refine j_sub [1, 2, 0] rfl ?_
        exact ih v3 (v4 + (1 : Int32)) (Polynomial_room_s s0 (vp_updL (Polynomial_room s0) (Int32.toNatClampNeg v4) (((Polynomial_room s0) (Int32.toNatClampNeg (v4 + (1 : Int32)))) - ((Polynomial_room s0) (Int32.toNatClampNeg v4))))) h
set_option maxRecDepth 100000 in
set_option maxHeartbeats 4000000 in
theorem b_X8_difference_34 {E : jE} (p0_0 p0_1 p0_2 : Nat) {res : Int64 × PolynomialS} (K : jC E cX8_difference 5 RX8 2) (hrw : jrw E) (HR : jRL E cX8_difference 5 (wPolynomial (jg E) p0_0 p0_1 p0_2 (res.2)) (res.1)) : ∀ (n : Nat) (v3 : Int32) (s0 : PolynomialS), f_X8_difference_34 n v3 s0 = some res → J E 5 (wPolynomial (jg E) p0_0 p0_1 p0_2 s0) 34 [(0, .ref p0_0), (3, .int v3)] [] := by
  intro n
  induction n with
  | zero => intro _ _ h; cases h
  | succ n ih =>
    intro v3 s0 h
    rw [f_X8_difference_34] at h
    refine j_iload_n (pc' := 35) K dX8_difference_34 rfl 1 rfl rfl ?_
    refine j_if_le (pc' := 38) (tgt := 90) K dX8_difference_35 (by decide) rfl (fun hc => ?_) (fun hc => ?_)
    · have h := jit hc h
      refine j_sub [0] rfl ?_
      exact b_X8_difference_90 p0_0 p0_1 p0_2 K hrw HR s0 h
    · have h := jif hc h
      refine j_iconst (pc' := 39) (v := (0 : Int32)) K dX8_difference_38 (by decide) rfl ?_
      refine j_istore (pc' := 41) (lv' := [(4, .int (0 : Int32)), (0, .ref p0_0), (3, .int v3)]) K dX8_difference_39 (by decide) rfl rfl ?_
      refine j_sub [1, 2, 0] rfl ?_
      exact b_X8_difference_41 p0_0 p0_1 p0_2 K hrw HR (f_X8_difference_34 n) (ih) jFU v3 (0 : Int32) s0 h
set_option maxRecDepth 100000 in
set_option maxHeartbeats 4000000 in
theorem b_X8_difference_32 {E : jE} (p0_0 p0_1 p0_2 : Nat) {res : Int64 × PolynomialS} (K : jC E cX8_difference 5 RX8 2) (hrw : jrw E) (HR : jRL E cX8_difference 5 (wPolynomial (jg E) p0_0 p0_1 p0_2 (res.2)) (res.1)) : ∀ (v2 : Int32) (s0 : PolynomialS), f_X8_difference_32 v2 s0 = some res → J E 5 (wPolynomial (jg E) p0_0 p0_1 p0_2 s0) 32 [(0, .ref p0_0), (2, .int v2)] [] := by
  intro v2 s0 h
  unfold f_X8_difference_32 at h
  refine j_iload_n (pc' := 33) K dX8_difference_32 rfl 1 rfl rfl ?_
  refine j_istore_n (pc' := 34) (lv' := [(3, .int v2), (0, .ref p0_0), (2, .int v2)]) K dX8_difference_33 rfl (by decide) rfl rfl ?_
  refine j_sub [1, 0] rfl ?_
  exact b_X8_difference_34 p0_0 p0_1 p0_2 K hrw HR jFU v2 s0 h
set_option maxRecDepth 100000 in
set_option maxHeartbeats 4000000 in
theorem b_X8_difference_2 {E : jE} (p0_0 p0_1 p0_2 : Nat) {res : Int64 × PolynomialS} (K : jC E cX8_difference 5 RX8 2) (hrw : jrw E) (HR : jRL E cX8_difference 5 (wPolynomial (jg E) p0_0 p0_1 p0_2 (res.2)) (res.1)) : ∀ (n : Nat) (v1 : Int32) (v2 : Int32) (v3 : Int32) (s0 : PolynomialS), f_X8_difference_2 n v1 v2 v3 s0 = some res → J E 5 (wPolynomial (jg E) p0_0 p0_1 p0_2 s0) 2 [(0, .ref p0_0), (1, .int v1), (2, .int v2), (3, .int v3)] [] := by
  intro n
  induction n with
  | zero => intro _ _ _ _ h; cases h
  | succ n ih =>
    intro v1 v2 v3 s0 h
    rw [f_X8_difference_2] at h
    refine j_iload_n (pc' := 3) K dX8_difference_2 rfl 3 rfl rfl ?_
    refine j_iload_n (pc' := 4) K dX8_difference_3 rfl 2 rfl rfl ?_
    refine j_icmp_gt (pc' := 7) (tgt := 32) K dX8_difference_4 (by decide) rfl (fun hc => ?_) (fun hc => ?_)
    · have h := jit hc h
      refine j_sub [0, 2] rfl ?_
      exact b_X8_difference_32 p0_0 p0_1 p0_2 K hrw HR v2 s0 h
    · have h := jif hc h
      refine j_iload_n (pc' := 8) K dX8_difference_7 rfl 3 rfl rfl ?_
      refine j_bipush (pc' := 10) (v := (8 : Int32)) K dX8_difference_8 (by decide) rfl ?_
      refine j_icmp_gt (pc' := 13) (tgt := 32) K dX8_difference_10 (by decide) rfl (fun hc => ?_) (fun hc => ?_)
      · have h := jit hc h
        refine j_sub [0, 2] rfl ?_
        exact b_X8_difference_32 p0_0 p0_1 p0_2 K hrw HR v2 s0 h
      · have h := jif hc h
        refine j_aload_n (pc' := 14) K dX8_difference_13 rfl 0 rfl rfl ?_
        refine j_get (pc' := 17) K dX8_difference_14 inX8 0 rfl rfl 1 (by decide) u_1_188 rfl rfl rfl ?_
        refine j_iload_n (pc' := 18) K dX8_difference_17 rfl 3 rfl rfl ?_
        refine j_aload_n (pc' := 19) K dX8_difference_18 rfl 0 rfl rfl ?_
        refine j_iload_n (pc' := 20) K dX8_difference_19 rfl 1 rfl rfl ?_
        refine j_iload_n (pc' := 21) K dX8_difference_20 rfl 3 rfl rfl ?_
        refine j_iadd (pc' := 22) K dX8_difference_21 rfl ?_
        obtain ⟨r22, hr22, h⟩ := jbd_some h
        refine j_ro (pc' := 25) K (fun H hP => jrun_V K dX8_difference_22 (M_X8_valueAt (jl E) (jg E) p0_0 p0_1 p0_2 (v1 + v3) s0 hr22) u_3_238 u_3_235 u_3_236 u_3_237 u_1_12 ⟨ok_X8_valueAt, by decide, by decide⟩ rfl (Nat.le_of_ble_eq_true rfl) 0 rfl rfl H hP) [0, 1, 2] rfl rfl ?_
        obtain ⟨hg, h⟩ := jgd_some h
        refine j_last (pc' := 26) (ws' := (wPolynomial (jg E) p0_0 p0_1 p0_2 (Polynomial_room_s s0 (vp_updL (Polynomial_room s0) (Int32.toNatClampNeg v3) r22)))) K dX8_difference_25 hrw 2 rfl hg (st_Polynomial_2 ..) rfl ?_
        refine j_iinc (pc' := 29) (j := 3) (v := (v3 + (1 : Int32))) (lv' := [(3, .int (v3 + (1 : Int32))), (0, .ref p0_0), (1, .int v1), (2, .int v2)]) K dX8_difference_26 rfl rfl (by decide) rfl rfl ?_
        refine j_goto (tgt := 2) K dX8_difference_29 (by decide) ?_
        refine j_sub [1, 2, 3, 0] rfl ?_
        exact ih v1 v2 (v3 + (1 : Int32)) (Polynomial_room_s s0 (vp_updL (Polynomial_room s0) (Int32.toNatClampNeg v3) r22)) h
set_option maxRecDepth 100000 in
set_option maxHeartbeats 4000000 in
theorem b_X8_difference {E : jE} (p0_0 p0_1 p0_2 : Nat) {res : Int64 × PolynomialS} (K : jC E cX8_difference 5 RX8 2) (hrw : jrw E) (HR : jRL E cX8_difference 5 (wPolynomial (jg E) p0_0 p0_1 p0_2 (res.2)) (res.1)) : ∀ (v1 : Int32) (v2 : Int32) (s0 : PolynomialS), f_X8_difference v1 v2 s0 = some res → J E 5 (wPolynomial (jg E) p0_0 p0_1 p0_2 s0) 0 [(0, .ref p0_0), (1, .int v1), (2, .int v2)] [] := by
  intro v1 v2 s0 h
  unfold f_X8_difference at h
  refine j_iconst (pc' := 1) (v := (0 : Int32)) K dX8_difference_0 (by decide) rfl ?_
  refine j_istore_n (pc' := 2) (lv' := [(3, .int (0 : Int32)), (0, .ref p0_0), (1, .int v1), (2, .int v2)]) K dX8_difference_1 rfl (by decide) rfl rfl ?_
  refine j_sub [1, 2, 3, 0] rfl ?_
  exact b_X8_difference_2 p0_0 p0_1 p0_2 K hrw HR jFU v1 v2 (0 : Int32) s0 h
set_option maxRecDepth 100000 in
set_option maxHeartbeats 4000000 in
theorem M_X8_difference (l : Launch) (G : jG) (p0_0 p0_1 p0_2 : Nat) (v1 : Int32) (v2 : Int32) (s0 : PolynomialS) {r : Int64 × PolynomialS} (h : f_X8_difference v1 v2 s0 = some r) : MC l yX8_difference cX8_difference 5 (some .long) 2 G (jad (wPolynomial G p0_0 p0_1 p0_2 s0)) True (wPolynomial G p0_0 p0_1 p0_2 s0) (wPolynomial G p0_0 p0_1 p0_2 (r.2)) [.ref p0_0, .int v1, .int v2] (some (.long (r.1))) := by
  refine mc_long (by decide +kernel) (Nat.le_of_ble_eq_true rfl) fun E hl hg hA hrw K HR => ?_
  subst hl
  subst hg
  have hrw : jrw E := by rw [hrw]; trivial
  exact b_X8_difference p0_0 p0_1 p0_2 K hrw HR v1 v2 s0 h
theorem ok_X8_choicesAreWholeFalling : yX8_choicesAreWholeFalling.cls ≠ "java/lang/invoke/MethodHandle" ∧ yX8_choicesAreWholeFalling.cls ≠ "java/lang/invoke/VarHandle" ∧ (parseMethodDescriptor yX8_choicesAreWholeFalling.desc).map (fun d => d.parameters.length) = some 0 := ⟨by decide, by decide, by decide +kernel⟩
def f_X8_choicesAreWholeFalling_2 : Nat → Int32 → PolynomialS → Option (Int32)
  | 0, _, _ => none
  | n + 1, v1, s0 =>
   if (8 : Int32) < v1 then
   jzb (1 : Int32) (
    some (1 : Int32))
  else
   jgd v1 9 (
    jgd v1 9 (
     jnzl (Int32.toInt64 (jfac (Int32.toNatClampNeg v1))) (
      if (lg_cmp (((Polynomial_coefficients s0) (Int32.toNatClampNeg v1)) - ((Polynomial_coefficients s0) (Int32.toNatClampNeg v1)) / (Int32.toInt64 (jfac (Int32.toNatClampNeg v1))) * (Int32.toInt64 (jfac (Int32.toNatClampNeg v1)))) (0 : Int64)) = 0 then
       (f_X8_choicesAreWholeFalling_2 n) (v1 + (1 : Int32)) s0
      else
       jzb (0 : Int32) (
        some (0 : Int32)))))
def f_X8_choicesAreWholeFalling (s0 : PolynomialS) : Option (Int32) :=
   f_X8_choicesAreWholeFalling_2 jFU (0 : Int32) s0
set_option maxRecDepth 100000 in
set_option maxHeartbeats 4000000 in
theorem b_X8_choicesAreWholeFalling_2 {E : jE} (p0_0 p0_1 p0_2 : Nat) (s0 : PolynomialS) {res : Int32} (K : jC E cX8_choicesAreWholeFalling 2 RX8 0) (HR : jRZ E cX8_choicesAreWholeFalling 2 (wPolynomial (jg E) p0_0 p0_1 p0_2 s0) res) : ∀ (n : Nat) (v1 : Int32), f_X8_choicesAreWholeFalling_2 n v1 s0 = some res → J E 2 (wPolynomial (jg E) p0_0 p0_1 p0_2 s0) 2 [(0, .ref p0_0), (1, .int v1)] [] := by
  intro n
  induction n with
  | zero => intro _ h; cases h
  | succ n ih =>
    intro v1 h
    rw [f_X8_choicesAreWholeFalling_2] at h
    refine j_iload_n (pc' := 3) K dX8_choicesAreWholeFalling_2 rfl 1 rfl rfl ?_
    refine j_bipush (pc' := 5) (v := (8 : Int32)) K dX8_choicesAreWholeFalling_3 (by decide) rfl ?_
    refine j_icmp_gt (pc' := 8) (tgt := 34) K dX8_choicesAreWholeFalling_5 (by decide) rfl (fun hc => ?_) (fun hc => ?_)
    · have h := jit hc h
      refine j_iconst (pc' := 35) (v := (1 : Int32)) K dX8_choicesAreWholeFalling_34 (by decide) rfl ?_
      obtain ⟨hg, h⟩ := jzb_some h
      obtain rfl := Option.some.inj h
      exact HR _ _ hg dX8_choicesAreWholeFalling_35
    · have h := jif hc h
      refine j_aload_n (pc' := 9) K dX8_choicesAreWholeFalling_8 rfl 0 rfl rfl ?_
      refine j_get (pc' := 12) K dX8_choicesAreWholeFalling_9 inX8 0 rfl rfl 0 (by decide) u_1_187 rfl rfl rfl ?_
      refine j_iload_n (pc' := 13) K dX8_choicesAreWholeFalling_12 rfl 1 rfl rfl ?_
      obtain ⟨hg, h⟩ := jgd_some h
      refine j_lald (pc' := 14) K dX8_choicesAreWholeFalling_13 1 rfl hg rfl ?_
      refine j_getsN (pc' := 17) K dX8_choicesAreWholeFalling_14 (host := "CountTriangles") (by decide) rfl ?_
      refine j_iload_n (pc' := 18) K dX8_choicesAreWholeFalling_17 rfl 1 rfl rfl ?_
      obtain ⟨hg, h⟩ := jgd_some h
      refine j_fald (pc' := 19) K dX8_choicesAreWholeFalling_18 hg rfl ?_
      refine j_i2l (pc' := 20) K dX8_choicesAreWholeFalling_19 rfl ?_
      obtain ⟨hg, h⟩ := jnzl_some h
      refine j_lrem (pc' := 21) K dX8_choicesAreWholeFalling_20 hg rfl ?_
      refine j_lconst (pc' := 22) (v := (0 : Int64)) K dX8_choicesAreWholeFalling_21 (by decide) rfl ?_
      refine j_lcmp (pc' := 23) K dX8_choicesAreWholeFalling_22 rfl ?_
      refine j_if_eq (pc' := 26) (tgt := 28) K dX8_choicesAreWholeFalling_23 (by decide) rfl (fun hc => ?_) (fun hc => ?_)
      · have h := jit hc h
        refine j_iinc (pc' := 31) (j := 1) (v := (v1 + (1 : Int32))) (lv' := [(1, .int (v1 + (1 : Int32))), (0, .ref p0_0)]) K dX8_choicesAreWholeFalling_28 rfl rfl (by decide) rfl rfl ?_
        refine j_goto (tgt := 2) K dX8_choicesAreWholeFalling_31 (by decide) ?_
        refine j_sub [1, 0] rfl ?_
        exact ih (v1 + (1 : Int32)) h
      · have h := jif hc h
        refine j_iconst (pc' := 27) (v := (0 : Int32)) K dX8_choicesAreWholeFalling_26 (by decide) rfl ?_
        obtain ⟨hg, h⟩ := jzb_some h
        obtain rfl := Option.some.inj h
        exact HR _ _ hg dX8_choicesAreWholeFalling_27
set_option maxRecDepth 100000 in
set_option maxHeartbeats 4000000 in
theorem b_X8_choicesAreWholeFalling {E : jE} (p0_0 p0_1 p0_2 : Nat) (s0 : PolynomialS) {res : Int32} (K : jC E cX8_choicesAreWholeFalling 2 RX8 0) (HR : jRZ E cX8_choicesAreWholeFalling 2 (wPolynomial (jg E) p0_0 p0_1 p0_2 s0) res) : f_X8_choicesAreWholeFalling s0 = some res → J E 2 (wPolynomial (jg E) p0_0 p0_1 p0_2 s0) 0 [(0, .ref p0_0)] [] := by
  intro  h
  unfold f_X8_choicesAreWholeFalling at h
  refine j_iconst (pc' := 1) (v := (0 : Int32)) K dX8_choicesAreWholeFalling_0 (by decide) rfl ?_
  refine j_istore_n (pc' := 2) (lv' := [(1, .int (0 : Int32)), (0, .ref p0_0)]) K dX8_choicesAreWholeFalling_1 rfl (by decide) rfl rfl ?_
  refine j_sub [1, 0] rfl ?_
  exact b_X8_choicesAreWholeFalling_2 p0_0 p0_1 p0_2 s0 K HR jFU (0 : Int32) h
set_option maxRecDepth 100000 in
set_option maxHeartbeats 4000000 in
theorem M_X8_choicesAreWholeFalling (l : Launch) (G : jG) (p0_0 p0_1 p0_2 : Nat) (s0 : PolynomialS) {r : Int32} (h : f_X8_choicesAreWholeFalling s0 = some r) : MC l yX8_choicesAreWholeFalling cX8_choicesAreWholeFalling 2 (some .boolean) 0 G jNo False (wPolynomial G p0_0 p0_1 p0_2 s0) (wPolynomial G p0_0 p0_1 p0_2 s0) [.ref p0_0] (some (.int r)) := by
  refine mc_bool (by decide +kernel) (Nat.le_of_ble_eq_true rfl) fun E hl hg hA hrw K HR => ?_
  subst hl
  subst hg
  exact b_X8_choicesAreWholeFalling p0_0 p0_1 p0_2 s0 K HR h
theorem ok_X8_multiplyRoom : yX8_multiplyRoom.cls ≠ "java/lang/invoke/MethodHandle" ∧ yX8_multiplyRoom.cls ≠ "java/lang/invoke/VarHandle" ∧ (parseMethodDescriptor yX8_multiplyRoom.desc).map (fun d => d.parameters.length) = some 2 := ⟨by decide, by decide, by decide +kernel⟩
def f_X8_multiplyRoom_23 (k3 : Int32 → Int32 → Int32 → PolynomialS → Option (PolynomialS)) (v1 : Int32) (v2 : Int32) (v3 : Int32) (t0 : Int64) (s0 : PolynomialS) : Option (PolynomialS) :=
   jbd (f_X8_zero v1 v3) (fun r34 =>
   jgd v3 9 (
    jgd v3 9 (
     k3 v1 v2 (v3 + (-1 : Int32)) (Polynomial_room_s s0 (vp_updL (Polynomial_room s0) (Int32.toNatClampNeg v3) (t0 + ((Int32.toInt64 (r34 - v2)) * ((Polynomial_room s0) (Int32.toNatClampNeg v3)))))))))
def f_X8_multiplyRoom_3 : Nat → Int32 → Int32 → Int32 → PolynomialS → Option (PolynomialS)
  | 0, _, _, _, _ => none
  | n + 1, v1, v2, v3, s0 =>
   if v3 < 0 then
   some s0
  else
   if v3 ≤ 0 then
    f_X8_multiplyRoom_23 (f_X8_multiplyRoom_3 n) v1 v2 v3 (0 : Int64) s0
   else
    jgd (v3 - (1 : Int32)) 9 (
     f_X8_multiplyRoom_23 (f_X8_multiplyRoom_3 n) v1 v2 v3 ((Polynomial_room s0) (Int32.toNatClampNeg (v3 - (1 : Int32)))) s0)
def f_X8_multiplyRoom (v1 : Int32) (v2 : Int32) (s0 : PolynomialS) : Option (PolynomialS) :=
   f_X8_multiplyRoom_3 jFU v1 v2 (8 : Int32) s0
set_option maxRecDepth 100000 in
set_option maxHeartbeats 4000000 in
theorem b_X8_multiplyRoom_23 {E : jE} (p0_0 p0_1 p0_2 : Nat) {res : PolynomialS} (K : jC E cX8_multiplyRoom 6 RX8 1) (hrw : jrw E) (HR : jRV E cX8_multiplyRoom 6 (wPolynomial (jg E) p0_0 p0_1 p0_2 res)) (k3 : Int32 → Int32 → Int32 → PolynomialS → Option (PolynomialS)) (hk3 : ∀ (v1 : Int32) (v2 : Int32) (v3 : Int32) (s0 : PolynomialS), k3 v1 v2 v3 s0 = some res → J E 6 (wPolynomial (jg E) p0_0 p0_1 p0_2 s0) 3 [(0, .ref p0_0), (1, .int v1), (2, .int v2), (3, .int v3)] []) : ∀ (v1 : Int32) (v2 : Int32) (v3 : Int32) (t0 : Int64) (s0 : PolynomialS), f_X8_multiplyRoom_23 k3 v1 v2 v3 t0 s0 = some res → J E 6 (wPolynomial (jg E) p0_0 p0_1 p0_2 s0) 23 [(0, .ref p0_0), (1, .int v1), (2, .int v2), (3, .int v3)] [.long t0] := by
  intro v1 v2 v3 t0 s0 h
  unfold f_X8_multiplyRoom_23 at h
  refine j_lstore (pc' := 25) (lv' := [(4, .long t0), (0, .ref p0_0), (1, .int v1), (2, .int v2), (3, .int v3)]) K dX8_multiplyRoom_23 (by decide) rfl rfl ?_
  refine j_aload_n (pc' := 26) K dX8_multiplyRoom_25 rfl 1 rfl rfl ?_
  refine j_get (pc' := 29) K dX8_multiplyRoom_26 inX8 0 rfl rfl 1 (by decide) u_1_188 rfl rfl rfl ?_
  refine j_iload_n (pc' := 30) K dX8_multiplyRoom_29 rfl 4 rfl rfl ?_
  refine j_lload (pc' := 32) K dX8_multiplyRoom_30 0 rfl rfl ?_
  refine j_iload_n (pc' := 33) K dX8_multiplyRoom_32 rfl 2 rfl rfl ?_
  refine j_iload_n (pc' := 34) K dX8_multiplyRoom_33 rfl 4 rfl rfl ?_
  obtain ⟨r34, hr34, h⟩ := jbd_some h
  refine j_ro (pc' := 37) K (fun H hP => jrun_S K dX8_multiplyRoom_34 (M_X8_zero (jl E) (jg E) v1 v3 hr34) u_3_216 u_3_214 u_3_215 u_1_12 ⟨ok_X8_zero, by decide, by decide⟩ rfl (Nat.le_of_ble_eq_true rfl) H) [] rfl rfl ?_
  refine j_iload_n (pc' := 38) K dX8_multiplyRoom_37 rfl 3 rfl rfl ?_
  refine j_isub (pc' := 39) K dX8_multiplyRoom_38 rfl ?_
  refine j_i2l (pc' := 40) K dX8_multiplyRoom_39 rfl ?_
  refine j_aload_n (pc' := 41) K dX8_multiplyRoom_40 rfl 1 rfl rfl ?_
  refine j_get (pc' := 44) K dX8_multiplyRoom_41 inX8 0 rfl rfl 1 (by decide) u_1_188 rfl rfl rfl ?_
  refine j_iload_n (pc' := 45) K dX8_multiplyRoom_44 rfl 4 rfl rfl ?_
  obtain ⟨hg, h⟩ := jgd_some h
  refine j_lald (pc' := 46) K dX8_multiplyRoom_45 2 rfl hg rfl ?_
  refine j_lmul (pc' := 47) K dX8_multiplyRoom_46 rfl ?_
  refine j_ladd (pc' := 48) K dX8_multiplyRoom_47 rfl ?_
  obtain ⟨hg, h⟩ := jgd_some h
  refine j_last (pc' := 49) (ws' := (wPolynomial (jg E) p0_0 p0_1 p0_2 (Polynomial_room_s s0 (vp_updL (Polynomial_room s0) (Int32.toNatClampNeg v3) (t0 + ((Int32.toInt64 (r34 - v2)) * ((Polynomial_room s0) (Int32.toNatClampNeg v3)))))))) K dX8_multiplyRoom_48 hrw 2 rfl hg (st_Polynomial_2 ..) rfl ?_
  refine j_iinc (pc' := 52) (j := 4) (v := (v3 + (-1 : Int32))) (lv' := [(3, .int (v3 + (-1 : Int32))), (4, .long t0), (0, .ref p0_0), (1, .int v1), (2, .int v2)]) K dX8_multiplyRoom_49 rfl rfl (by decide) rfl rfl ?_
  refine j_goto (tgt := 3) K dX8_multiplyRoom_52 (by decide) ?_
  refine j_sub [2, 3, 4, 0] rfl ?_
  exact hk3 v1 v2 (v3 + (-1 : Int32)) (Polynomial_room_s s0 (vp_updL (Polynomial_room s0) (Int32.toNatClampNeg v3) (t0 + ((Int32.toInt64 (r34 - v2)) * ((Polynomial_room s0) (Int32.toNatClampNeg v3)))))) h
set_option maxRecDepth 100000 in
set_option maxHeartbeats 4000000 in
theorem b_X8_multiplyRoom_3 {E : jE} (p0_0 p0_1 p0_2 : Nat) {res : PolynomialS} (K : jC E cX8_multiplyRoom 6 RX8 1) (hrw : jrw E) (HR : jRV E cX8_multiplyRoom 6 (wPolynomial (jg E) p0_0 p0_1 p0_2 res)) : ∀ (n : Nat) (v1 : Int32) (v2 : Int32) (v3 : Int32) (s0 : PolynomialS), f_X8_multiplyRoom_3 n v1 v2 v3 s0 = some res → J E 6 (wPolynomial (jg E) p0_0 p0_1 p0_2 s0) 3 [(0, .ref p0_0), (1, .int v1), (2, .int v2), (3, .int v3)] [] := by
  intro n
  induction n with
  | zero => intro _ _ _ _ h; cases h
  | succ n ih =>
    intro v1 v2 v3 s0 h
    rw [f_X8_multiplyRoom_3] at h
    refine j_iload_n (pc' := 4) K dX8_multiplyRoom_3 rfl 3 rfl rfl ?_
    refine j_if_lt (pc' := 7) (tgt := 55) K dX8_multiplyRoom_4 (by decide) rfl (fun hc => ?_) (fun hc => ?_)
    · have h := jit hc h
      obtain rfl := Option.some.inj h
      exact HR _ _ dX8_multiplyRoom_55
    · have h := jif hc h
      refine j_iload_n (pc' := 8) K dX8_multiplyRoom_7 rfl 3 rfl rfl ?_
      refine j_if_le (pc' := 11) (tgt := 22) K dX8_multiplyRoom_8 (by decide) rfl (fun hc => ?_) (fun hc => ?_)
      · have h := jit hc h
        refine j_lconst (pc' := 23) (v := (0 : Int64)) K dX8_multiplyRoom_22 (by decide) rfl ?_
        refine j_sub [0, 1, 2, 3] rfl ?_
        exact b_X8_multiplyRoom_23 p0_0 p0_1 p0_2 K hrw HR (f_X8_multiplyRoom_3 n) (ih) v1 v2 v3 (0 : Int64) s0 h
      · have h := jif hc h
        refine j_aload_n (pc' := 12) K dX8_multiplyRoom_11 rfl 0 rfl rfl ?_
        refine j_get (pc' := 15) K dX8_multiplyRoom_12 inX8 0 rfl rfl 1 (by decide) u_1_188 rfl rfl rfl ?_
        refine j_iload_n (pc' := 16) K dX8_multiplyRoom_15 rfl 3 rfl rfl ?_
        refine j_iconst (pc' := 17) (v := (1 : Int32)) K dX8_multiplyRoom_16 (by decide) rfl ?_
        refine j_isub (pc' := 18) K dX8_multiplyRoom_17 rfl ?_
        obtain ⟨hg, h⟩ := jgd_some h
        refine j_lald (pc' := 19) K dX8_multiplyRoom_18 2 rfl hg rfl ?_
        refine j_goto (tgt := 23) K dX8_multiplyRoom_19 (by decide) ?_
        refine j_sub [0, 1, 2, 3] rfl ?_
        exact b_X8_multiplyRoom_23 p0_0 p0_1 p0_2 K hrw HR (f_X8_multiplyRoom_3 n) (ih) v1 v2 v3 ((Polynomial_room s0) (Int32.toNatClampNeg (v3 - (1 : Int32)))) s0 h
set_option maxRecDepth 100000 in
set_option maxHeartbeats 4000000 in
theorem b_X8_multiplyRoom {E : jE} (p0_0 p0_1 p0_2 : Nat) {res : PolynomialS} (K : jC E cX8_multiplyRoom 6 RX8 1) (hrw : jrw E) (HR : jRV E cX8_multiplyRoom 6 (wPolynomial (jg E) p0_0 p0_1 p0_2 res)) : ∀ (v1 : Int32) (v2 : Int32) (s0 : PolynomialS), f_X8_multiplyRoom v1 v2 s0 = some res → J E 6 (wPolynomial (jg E) p0_0 p0_1 p0_2 s0) 0 [(0, .ref p0_0), (1, .int v1), (2, .int v2)] [] := by
  intro v1 v2 s0 h
  unfold f_X8_multiplyRoom at h
  refine j_bipush (pc' := 2) (v := (8 : Int32)) K dX8_multiplyRoom_0 (by decide) rfl ?_
  refine j_istore_n (pc' := 3) (lv' := [(3, .int (8 : Int32)), (0, .ref p0_0), (1, .int v1), (2, .int v2)]) K dX8_multiplyRoom_2 rfl (by decide) rfl rfl ?_
  refine j_sub [1, 2, 3, 0] rfl ?_
  exact b_X8_multiplyRoom_3 p0_0 p0_1 p0_2 K hrw HR jFU v1 v2 (8 : Int32) s0 h
set_option maxRecDepth 100000 in
set_option maxHeartbeats 4000000 in
theorem M_X8_multiplyRoom (l : Launch) (G : jG) (p0_0 p0_1 p0_2 : Nat) (v1 : Int32) (v2 : Int32) (s0 : PolynomialS) {r : PolynomialS} (h : f_X8_multiplyRoom v1 v2 s0 = some r) : MC l yX8_multiplyRoom cX8_multiplyRoom 6 none 1 G (jad (wPolynomial G p0_0 p0_1 p0_2 s0)) True (wPolynomial G p0_0 p0_1 p0_2 s0) (wPolynomial G p0_0 p0_1 p0_2 r) [.ref p0_0, .int v1, .int v2] none := by
  refine mc_void (by decide +kernel) (Nat.le_of_ble_eq_true rfl) fun E hl hg hA hrw K HR => ?_
  subst hl
  subst hg
  have hrw : jrw E := by rw [hrw]; trivial
  exact b_X8_multiplyRoom p0_0 p0_1 p0_2 K hrw HR v1 v2 s0 h
theorem ok_X8_roomMayStand : yX8_roomMayStand.cls ≠ "java/lang/invoke/MethodHandle" ∧ yX8_roomMayStand.cls ≠ "java/lang/invoke/VarHandle" ∧ (parseMethodDescriptor yX8_roomMayStand.desc).map (fun d => d.parameters.length) = some 1 := ⟨by decide, by decide, by decide +kernel⟩
def f_X8_roomMayStand_28 (k2 : Int32 → Int32 → PolynomialS → Option (Int32 × PolynomialS)) (v1 : Int32) (v2 : Int32) (s0 : PolynomialS) : Option (Int32 × PolynomialS) :=
   jgd v2 9 (
   jbd (f_X11_beyond ((Polynomial_room s0) (Int32.toNatClampNeg v2)) (1000000 : Int64)) (fun r37 =>
    if r37 = 0 then
     k2 v1 (v2 + (1 : Int32)) s0
    else
     jzb (0 : Int32) (
      some ((0 : Int32), s0))))
def f_X8_roomMayStand_2 : Nat → Int32 → Int32 → PolynomialS → Option (Int32 × PolynomialS)
  | 0, _, _, _ => none
  | n + 1, v1, v2, s0 =>
   if (8 : Int32) < v2 then
   jzb (1 : Int32) (
    some ((1 : Int32), s0))
  else
   if v1 = (3 : Int32) then
    jgd v2 9 (
     jgd v2 9 (
      jgd v2 9 (
       f_X8_roomMayStand_28 (f_X8_roomMayStand_2 n) v1 v2 (Polynomial_room_s s0 (vp_updL (Polynomial_room s0) (Int32.toNatClampNeg v2) (((Polynomial_room s0) (Int32.toNatClampNeg v2)) * (Int32.toInt64 (jfac (Int32.toNatClampNeg v2)))))))))
   else
    f_X8_roomMayStand_28 (f_X8_roomMayStand_2 n) v1 v2 s0
def f_X8_roomMayStand (v1 : Int32) (s0 : PolynomialS) : Option (Int32 × PolynomialS) :=
   f_X8_roomMayStand_2 jFU v1 (0 : Int32) s0
set_option maxRecDepth 100000 in
set_option maxHeartbeats 4000000 in
theorem b_X8_roomMayStand_28 {E : jE} (p0_0 p0_1 p0_2 : Nat) {res : Int32 × PolynomialS} (K : jC E cX8_roomMayStand 3 RX8 1) (hrw : jrw E) (HR : jRZ E cX8_roomMayStand 3 (wPolynomial (jg E) p0_0 p0_1 p0_2 (res.2)) (res.1)) (k2 : Int32 → Int32 → PolynomialS → Option (Int32 × PolynomialS)) (hk2 : ∀ (v1 : Int32) (v2 : Int32) (s0 : PolynomialS), k2 v1 v2 s0 = some res → J E 3 (wPolynomial (jg E) p0_0 p0_1 p0_2 s0) 2 [(0, .ref p0_0), (1, .int v1), (2, .int v2)] []) : ∀ (v1 : Int32) (v2 : Int32) (s0 : PolynomialS), f_X8_roomMayStand_28 k2 v1 v2 s0 = some res → J E 3 (wPolynomial (jg E) p0_0 p0_1 p0_2 s0) 28 [(0, .ref p0_0), (1, .int v1), (2, .int v2)] [] := by
  intro v1 v2 s0 h
  unfold f_X8_roomMayStand_28 at h
  refine j_aload_n (pc' := 29) K dX8_roomMayStand_28 rfl 0 rfl rfl ?_
  refine j_get (pc' := 32) K dX8_roomMayStand_29 inX8 0 rfl rfl 1 (by decide) u_1_188 rfl rfl rfl ?_
  refine j_iload_n (pc' := 33) K dX8_roomMayStand_32 rfl 2 rfl rfl ?_
  obtain ⟨hg, h⟩ := jgd_some h
  refine j_lald (pc' := 34) K dX8_roomMayStand_33 2 rfl hg rfl ?_
  refine j_ldc2 (pc' := 37) K dX8_roomMayStand_34 u_3_225 rfl ?_
  obtain ⟨r37, hr37, h⟩ := jbd_some h
  refine j_ro (pc' := 40) K (fun H hP => jrun_SN K dX8_roomMayStand_37 (host := "CountTriangles") (M_X11_beyond (jl E) (jg E) ((Polynomial_room s0) (Int32.toNatClampNeg v2)) (1000000 : Int64) hr37) u_2_80 (by decide) u_2_79 u_1_1 ⟨ok_X11_beyond, by decide, by decide⟩ rfl (Nat.le_of_ble_eq_true rfl) H) [] rfl rfl ?_
  refine j_if_eq (pc' := 43) (tgt := 45) K dX8_roomMayStand_40 (by decide) rfl (fun hc => ?_) (fun hc => ?_)
  · have h := jit hc h
    refine j_iinc (pc' := 48) (j := 2) (v := (v2 + (1 : Int32))) (lv' := [(2, .int (v2 + (1 : Int32))), (0, .ref p0_0), (1, .int v1)]) K dX8_roomMayStand_45 rfl rfl (by decide) rfl rfl ?_
    refine j_goto (tgt := 2) K dX8_roomMayStand_48 (by decide) ?_
    refine j_sub [1, 2, 0] rfl ?_
    exact hk2 v1 (v2 + (1 : Int32)) s0 h
  · have h := jif hc h
    refine j_iconst (pc' := 44) (v := (0 : Int32)) K dX8_roomMayStand_43 (by decide) rfl ?_
    obtain ⟨hg, h⟩ := jzb_some h
    obtain rfl := Option.some.inj h
    exact HR _ _ hg dX8_roomMayStand_44
set_option maxRecDepth 100000 in
set_option maxHeartbeats 4000000 in
theorem b_X8_roomMayStand_2 {E : jE} (p0_0 p0_1 p0_2 : Nat) {res : Int32 × PolynomialS} (K : jC E cX8_roomMayStand 3 RX8 1) (hrw : jrw E) (HR : jRZ E cX8_roomMayStand 3 (wPolynomial (jg E) p0_0 p0_1 p0_2 (res.2)) (res.1)) : ∀ (n : Nat) (v1 : Int32) (v2 : Int32) (s0 : PolynomialS), f_X8_roomMayStand_2 n v1 v2 s0 = some res → J E 3 (wPolynomial (jg E) p0_0 p0_1 p0_2 s0) 2 [(0, .ref p0_0), (1, .int v1), (2, .int v2)] [] := by
  intro n
  induction n with
  | zero => intro _ _ _ h; cases h
  | succ n ih =>
    intro v1 v2 s0 h
    rw [f_X8_roomMayStand_2] at h
    refine j_iload_n (pc' := 3) K dX8_roomMayStand_2 rfl 2 rfl rfl ?_
    refine j_bipush (pc' := 5) (v := (8 : Int32)) K dX8_roomMayStand_3 (by decide) rfl ?_
    refine j_icmp_gt (pc' := 8) (tgt := 51) K dX8_roomMayStand_5 (by decide) rfl (fun hc => ?_) (fun hc => ?_)
    · have h := jit hc h
      refine j_iconst (pc' := 52) (v := (1 : Int32)) K dX8_roomMayStand_51 (by decide) rfl ?_
      obtain ⟨hg, h⟩ := jzb_some h
      obtain rfl := Option.some.inj h
      exact HR _ _ hg dX8_roomMayStand_52
    · have h := jif hc h
      refine j_iload_n (pc' := 9) K dX8_roomMayStand_8 rfl 1 rfl rfl ?_
      refine j_iconst (pc' := 10) (v := (3 : Int32)) K dX8_roomMayStand_9 (by decide) rfl ?_
      refine j_icmp_ne (pc' := 13) (tgt := 28) K dX8_roomMayStand_10 (by decide) rfl (fun hc => ?_) (fun hc => ?_)
      · have h := jif hc h
        refine j_sub [0, 1, 2] rfl ?_
        exact b_X8_roomMayStand_28 p0_0 p0_1 p0_2 K hrw HR (f_X8_roomMayStand_2 n) (ih) v1 v2 s0 h
      · have h := jit hc h
        refine j_aload_n (pc' := 14) K dX8_roomMayStand_13 rfl 0 rfl rfl ?_
        refine j_get (pc' := 17) K dX8_roomMayStand_14 inX8 0 rfl rfl 1 (by decide) u_1_188 rfl rfl rfl ?_
        refine j_iload_n (pc' := 18) K dX8_roomMayStand_17 rfl 2 rfl rfl ?_
        refine j_dup2_11 (pc' := 19) K dX8_roomMayStand_18 rfl rfl rfl ?_
        obtain ⟨hg, h⟩ := jgd_some h
        refine j_lald (pc' := 20) K dX8_roomMayStand_19 2 rfl hg rfl ?_
        refine j_getsN (pc' := 23) K dX8_roomMayStand_20 (host := "CountTriangles") (by decide) rfl ?_
        refine j_iload_n (pc' := 24) K dX8_roomMayStand_23 rfl 2 rfl rfl ?_
        obtain ⟨hg, h⟩ := jgd_some h
        refine j_fald (pc' := 25) K dX8_roomMayStand_24 hg rfl ?_
        refine j_i2l (pc' := 26) K dX8_roomMayStand_25 rfl ?_
        refine j_lmul (pc' := 27) K dX8_roomMayStand_26 rfl ?_
        obtain ⟨hg, h⟩ := jgd_some h
        refine j_last (pc' := 28) (ws' := (wPolynomial (jg E) p0_0 p0_1 p0_2 (Polynomial_room_s s0 (vp_updL (Polynomial_room s0) (Int32.toNatClampNeg v2) (((Polynomial_room s0) (Int32.toNatClampNeg v2)) * (Int32.toInt64 (jfac (Int32.toNatClampNeg v2)))))))) K dX8_roomMayStand_27 hrw 2 rfl hg (st_Polynomial_2 ..) rfl ?_
        refine j_sub [0, 1, 2] rfl ?_
        exact b_X8_roomMayStand_28 p0_0 p0_1 p0_2 K hrw HR (f_X8_roomMayStand_2 n) (ih) v1 v2 (Polynomial_room_s s0 (vp_updL (Polynomial_room s0) (Int32.toNatClampNeg v2) (((Polynomial_room s0) (Int32.toNatClampNeg v2)) * (Int32.toInt64 (jfac (Int32.toNatClampNeg v2)))))) h
set_option maxRecDepth 100000 in
set_option maxHeartbeats 4000000 in
theorem b_X8_roomMayStand {E : jE} (p0_0 p0_1 p0_2 : Nat) {res : Int32 × PolynomialS} (K : jC E cX8_roomMayStand 3 RX8 1) (hrw : jrw E) (HR : jRZ E cX8_roomMayStand 3 (wPolynomial (jg E) p0_0 p0_1 p0_2 (res.2)) (res.1)) : ∀ (v1 : Int32) (s0 : PolynomialS), f_X8_roomMayStand v1 s0 = some res → J E 3 (wPolynomial (jg E) p0_0 p0_1 p0_2 s0) 0 [(0, .ref p0_0), (1, .int v1)] [] := by
  intro v1 s0 h
  unfold f_X8_roomMayStand at h
  refine j_iconst (pc' := 1) (v := (0 : Int32)) K dX8_roomMayStand_0 (by decide) rfl ?_
  refine j_istore_n (pc' := 2) (lv' := [(2, .int (0 : Int32)), (0, .ref p0_0), (1, .int v1)]) K dX8_roomMayStand_1 rfl (by decide) rfl rfl ?_
  refine j_sub [1, 2, 0] rfl ?_
  exact b_X8_roomMayStand_2 p0_0 p0_1 p0_2 K hrw HR jFU v1 (0 : Int32) s0 h
set_option maxRecDepth 100000 in
set_option maxHeartbeats 4000000 in
theorem M_X8_roomMayStand (l : Launch) (G : jG) (p0_0 p0_1 p0_2 : Nat) (v1 : Int32) (s0 : PolynomialS) {r : Int32 × PolynomialS} (h : f_X8_roomMayStand v1 s0 = some r) : MC l yX8_roomMayStand cX8_roomMayStand 3 (some .boolean) 1 G (jad (wPolynomial G p0_0 p0_1 p0_2 s0)) True (wPolynomial G p0_0 p0_1 p0_2 s0) (wPolynomial G p0_0 p0_1 p0_2 (r.2)) [.ref p0_0, .int v1] (some (.int (r.1))) := by
  refine mc_bool (by decide +kernel) (Nat.le_of_ble_eq_true rfl) fun E hl hg hA hrw K HR => ?_
  subst hl
  subst hg
  have hrw : jrw E := by rw [hrw]; trivial
  exact b_X8_roomMayStand p0_0 p0_1 p0_2 K hrw HR v1 s0 h
theorem ok_X8_findTurned : yX8_findTurned.cls ≠ "java/lang/invoke/MethodHandle" ∧ yX8_findTurned.cls ≠ "java/lang/invoke/VarHandle" ∧ (parseMethodDescriptor yX8_findTurned.desc).map (fun d => d.parameters.length) = some 1 := ⟨by decide, by decide, by decide +kernel⟩
def f_X8_findTurned_115 (v1 : Int32) (s0 : PolynomialS) : Option (Int32 × PolynomialS) :=
   jbd (f_X8_roomMayStand v1 s0) (fun r117 =>
   jzb (r117.1) (
    some ((r117.1), (r117.2))))
def f_X8_findTurned_107 (k53 : Int32 → Int32 → PolynomialS → Option (Int32 × PolynomialS)) (v1 : Int32) (v2 : Int32) (t1 : Int32) (t2 : Int64) (t3 : Int64) (s0 : PolynomialS) : Option (Int32 × PolynomialS) :=
   jgd t1 9 (
   k53 v1 (v2 + (-1 : Int32)) (Polynomial_room_s s0 (vp_updL (Polynomial_room s0) (Int32.toNatClampNeg t1) (t2 + t3))))
def f_X8_findTurned_53 : Nat → Int32 → Int32 → PolynomialS → Option (Int32 × PolynomialS)
  | 0, _, _, _ => none
  | n + 1, v1, v2, s0 =>
   if v2 < 0 then
   f_X8_findTurned_115 v1 s0
  else
   jbd (f_X8_zero (Polynomial_base s0) v2) (fun r64 =>
    jbd (f_X8_multiplyRoom v1 r64 s0) (fun r67 =>
     jgd (0 : Int32) 9 (
      if (Polynomial_base r67) = (3 : Int32) then
       jgd v2 9 (
        jgd v2 9 (
         jnzl (Int32.toInt64 (jfac (Int32.toNatClampNeg v2))) (
          f_X8_findTurned_107 (f_X8_findTurned_53 n) v1 v2 (0 : Int32) ((Polynomial_room r67) (Int32.toNatClampNeg (0 : Int32))) (((Polynomial_coefficients r67) (Int32.toNatClampNeg v2)) / (Int32.toInt64 (jfac (Int32.toNatClampNeg v2)))) r67)))
      else
       jgd v2 9 (
        f_X8_findTurned_107 (f_X8_findTurned_53 n) v1 v2 (0 : Int32) ((Polynomial_room r67) (Int32.toNatClampNeg (0 : Int32))) ((Polynomial_coefficients r67) (Int32.toNatClampNeg v2)) r67))))
def f_X8_findTurned_42 (v1 : Int32) (s0 : PolynomialS) : Option (Int32 × PolynomialS) :=
   jbd (f_J7_fill_d0a16_n9 (0 : Int64) (Polynomial_room s0)) (fun r47 =>
   f_X8_findTurned_53 jFU v1 (8 : Int32) (Polynomial_room_s s0 r47))
def f_X8_findTurned (v1 : Int32) (s0 : PolynomialS) : Option (Int32 × PolynomialS) :=
   if v1 = (Polynomial_base s0) then
   jzb (1 : Int32) (
    some ((1 : Int32), (Polynomial_room_s s0 (va_cpy (Polynomial_coefficients s0) (Polynomial_room s0) (Int32.toNatClampNeg (0 : Int32)) (Int32.toNatClampNeg (0 : Int32)) (Int32.toNatClampNeg (9 : Int32))))))
  else
   if (Polynomial_base s0) = (3 : Int32) then
    jbd (f_X8_choicesAreWholeFalling s0) (fun r34 =>
     if r34 = 0 then
      jzb (0 : Int32) (
       some ((0 : Int32), s0))
     else
      f_X8_findTurned_42 v1 s0)
   else
    f_X8_findTurned_42 v1 s0
set_option maxRecDepth 100000 in
set_option maxHeartbeats 4000000 in
theorem b_X8_findTurned_115 {E : jE} (p0_0 p0_1 p0_2 : Nat) {res : Int32 × PolynomialS} (K : jC E cX8_findTurned 3 RX8 2) (hrw : jrw E) (HR : jRZ E cX8_findTurned 3 (wPolynomial (jg E) p0_0 p0_1 p0_2 (res.2)) (res.1)) : ∀ (v1 : Int32) (s0 : PolynomialS), f_X8_findTurned_115 v1 s0 = some res → J E 3 (wPolynomial (jg E) p0_0 p0_1 p0_2 s0) 115 [(0, .ref p0_0), (1, .int v1)] [] := by
  intro v1 s0 h
  unfold f_X8_findTurned_115 at h
  refine j_aload_n (pc' := 116) K dX8_findTurned_115 rfl 0 rfl rfl ?_
  refine j_iload_n (pc' := 117) K dX8_findTurned_116 rfl 1 rfl rfl ?_
  obtain ⟨r117, hr117, h⟩ := jbd_some h
  refine j_rw (pc' := 120) (ws' := (wPolynomial (jg E) p0_0 p0_1 p0_2 (r117.2))) K (fun H hP => jrun_V K dX8_findTurned_117 (M_X8_roomMayStand (jl E) (jg E) p0_0 p0_1 p0_2 v1 s0 hr117) u_3_224 u_3_221 u_3_223 u_p_17 u_1_12 ⟨ok_X8_roomMayStand, by decide, by decide⟩ rfl (Nat.le_of_ble_eq_true rfl) 0 rfl rfl H hP) hrw [0, 1, 2] rfl rfl rfl rfl rfl rfl ?_
  obtain ⟨hg, h⟩ := jzb_some h
  obtain rfl := Option.some.inj h
  exact HR _ _ hg dX8_findTurned_120
set_option maxRecDepth 100000 in
set_option maxHeartbeats 4000000 in
theorem b_X8_findTurned_107 {E : jE} (p0_0 p0_1 p0_2 : Nat) {res : Int32 × PolynomialS} (K : jC E cX8_findTurned 3 RX8 2) (hrw : jrw E) (HR : jRZ E cX8_findTurned 3 (wPolynomial (jg E) p0_0 p0_1 p0_2 (res.2)) (res.1)) (k53 : Int32 → Int32 → PolynomialS → Option (Int32 × PolynomialS)) (hk53 : ∀ (v1 : Int32) (v2 : Int32) (s0 : PolynomialS), k53 v1 v2 s0 = some res → J E 3 (wPolynomial (jg E) p0_0 p0_1 p0_2 s0) 53 [(0, .ref p0_0), (1, .int v1), (2, .int v2)] []) : ∀ (v1 : Int32) (v2 : Int32) (t1 : Int32) (t2 : Int64) (t3 : Int64) (s0 : PolynomialS), f_X8_findTurned_107 k53 v1 v2 t1 t2 t3 s0 = some res → J E 3 (wPolynomial (jg E) p0_0 p0_1 p0_2 s0) 107 [(0, .ref p0_0), (1, .int v1), (2, .int v2)] [.long t3, .long t2, .int t1, .ref p0_2] := by
  intro v1 v2 t1 t2 t3 s0 h
  unfold f_X8_findTurned_107 at h
  refine j_ladd (pc' := 108) K dX8_findTurned_107 rfl ?_
  obtain ⟨hg, h⟩ := jgd_some h
  refine j_last (pc' := 109) (ws' := (wPolynomial (jg E) p0_0 p0_1 p0_2 (Polynomial_room_s s0 (vp_updL (Polynomial_room s0) (Int32.toNatClampNeg t1) (t2 + t3))))) K dX8_findTurned_108 hrw 2 rfl hg (st_Polynomial_2 ..) rfl ?_
  refine j_iinc (pc' := 112) (j := 2) (v := (v2 + (-1 : Int32))) (lv' := [(2, .int (v2 + (-1 : Int32))), (0, .ref p0_0), (1, .int v1)]) K dX8_findTurned_109 rfl rfl (by decide) rfl rfl ?_
  refine j_goto (tgt := 53) K dX8_findTurned_112 (by decide) ?_
  refine j_sub [1, 2, 0] rfl ?_
  exact hk53 v1 (v2 + (-1 : Int32)) (Polynomial_room_s s0 (vp_updL (Polynomial_room s0) (Int32.toNatClampNeg t1) (t2 + t3))) h
set_option maxRecDepth 100000 in
set_option maxHeartbeats 4000000 in
theorem b_X8_findTurned_53 {E : jE} (p0_0 p0_1 p0_2 : Nat) {res : Int32 × PolynomialS} (K : jC E cX8_findTurned 3 RX8 2) (hrw : jrw E) (HR : jRZ E cX8_findTurned 3 (wPolynomial (jg E) p0_0 p0_1 p0_2 (res.2)) (res.1)) : ∀ (n : Nat) (v1 : Int32) (v2 : Int32) (s0 : PolynomialS), f_X8_findTurned_53 n v1 v2 s0 = some res → J E 3 (wPolynomial (jg E) p0_0 p0_1 p0_2 s0) 53 [(0, .ref p0_0), (1, .int v1), (2, .int v2)] [] := by
  intro n
  induction n with
  | zero => intro _ _ _ h; cases h
  | succ n ih =>
    intro v1 v2 s0 h
    rw [f_X8_findTurned_53] at h
    refine j_iload_n (pc' := 54) K dX8_findTurned_53 rfl 2 rfl rfl ?_
    refine j_if_lt (pc' := 57) (tgt := 115) K dX8_findTurned_54 (by decide) rfl (fun hc => ?_) (fun hc => ?_)
    · have h := jit hc h
      refine j_sub [0, 1] rfl ?_
      exact b_X8_findTurned_115 p0_0 p0_1 p0_2 K hrw HR v1 s0 h
    · have h := jif hc h
      refine j_aload_n (pc' := 58) K dX8_findTurned_57 rfl 0 rfl rfl ?_
      refine j_iload_n (pc' := 59) K dX8_findTurned_58 rfl 1 rfl rfl ?_
      refine j_aload_n (pc' := 60) K dX8_findTurned_59 rfl 0 rfl rfl ?_
      refine j_get (pc' := 63) K dX8_findTurned_60 inX8 0 rfl rfl 2 (by decide) u_1_189 rfl rfl rfl ?_
      refine j_iload_n (pc' := 64) K dX8_findTurned_63 rfl 2 rfl rfl ?_
      obtain ⟨r64, hr64, h⟩ := jbd_some h
      refine j_ro (pc' := 67) K (fun H hP => jrun_S K dX8_findTurned_64 (M_X8_zero (jl E) (jg E) (Polynomial_base s0) v2 hr64) u_3_216 u_3_214 u_3_215 u_1_12 ⟨ok_X8_zero, by decide, by decide⟩ rfl (Nat.le_of_ble_eq_true rfl) H) [] rfl rfl ?_
      obtain ⟨r67, hr67, h⟩ := jbd_some h
      refine j_rw (pc' := 70) (ws' := (wPolynomial (jg E) p0_0 p0_1 p0_2 r67)) K (fun H hP => jrun_V K dX8_findTurned_67 (M_X8_multiplyRoom (jl E) (jg E) p0_0 p0_1 p0_2 v1 r64 s0 hr67) u_3_220 u_3_217 u_3_219 u_p_16 u_1_12 ⟨ok_X8_multiplyRoom, by decide, by decide⟩ rfl (Nat.le_of_ble_eq_true rfl) 0 rfl rfl H hP) hrw [0, 1, 2] rfl rfl rfl rfl rfl rfl ?_
      refine j_aload_n (pc' := 71) K dX8_findTurned_70 rfl 0 rfl rfl ?_
      refine j_get (pc' := 74) K dX8_findTurned_71 inX8 0 rfl rfl 1 (by decide) u_1_188 rfl rfl rfl ?_
      refine j_iconst (pc' := 75) (v := (0 : Int32)) K dX8_findTurned_74 (by decide) rfl ?_
      refine j_dup2_11 (pc' := 76) K dX8_findTurned_75 rfl rfl rfl ?_
      obtain ⟨hg, h⟩ := jgd_some h
      refine j_lald (pc' := 77) K dX8_findTurned_76 2 rfl hg rfl ?_
      refine j_aload_n (pc' := 78) K dX8_findTurned_77 rfl 0 rfl rfl ?_
      refine j_get (pc' := 81) K dX8_findTurned_78 inX8 0 rfl rfl 2 (by decide) u_1_189 rfl rfl rfl ?_
      refine j_iconst (pc' := 82) (v := (3 : Int32)) K dX8_findTurned_81 (by decide) rfl ?_
      refine j_icmp_ne (pc' := 85) (tgt := 101) K dX8_findTurned_82 (by decide) rfl (fun hc => ?_) (fun hc => ?_)
      · have h := jif hc h
        refine j_aload_n (pc' := 102) K dX8_findTurned_101 rfl 0 rfl rfl ?_
        refine j_get (pc' := 105) K dX8_findTurned_102 inX8 0 rfl rfl 0 (by decide) u_1_187 rfl rfl rfl ?_
        refine j_iload_n (pc' := 106) K dX8_findTurned_105 rfl 2 rfl rfl ?_
        obtain ⟨hg, h⟩ := jgd_some h
        refine j_lald (pc' := 107) K dX8_findTurned_106 1 rfl hg rfl ?_
        refine j_sub [0, 1, 2] rfl ?_
        exact b_X8_findTurned_107 p0_0 p0_1 p0_2 K hrw HR (f_X8_findTurned_53 n) (ih) v1 v2 (0 : Int32) ((Polynomial_room r67) (Int32.toNatClampNeg (0 : Int32))) ((Polynomial_coefficients r67) (Int32.toNatClampNeg v2)) r67 h
      · have h := jit hc h
        refine j_aload_n (pc' := 86) K dX8_findTurned_85 rfl 0 rfl rfl ?_
        refine j_get (pc' := 89) K dX8_findTurned_86 inX8 0 rfl rfl 0 (by decide) u_1_187 rfl rfl rfl ?_
        refine j_iload_n (pc' := 90) K dX8_findTurned_89 rfl 2 rfl rfl ?_
        obtain ⟨hg, h⟩ := jgd_some h
        refine j_lald (pc' := 91) K dX8_findTurned_90 1 rfl hg rfl ?_
        refine j_getsN (pc' := 94) K dX8_findTurned_91 (host := "CountTriangles") (by decide) rfl ?_
        refine j_iload_n (pc' := 95) K dX8_findTurned_94 rfl 2 rfl rfl ?_
        obtain ⟨hg, h⟩ := jgd_some h
        refine j_fald (pc' := 96) K dX8_findTurned_95 hg rfl ?_
        refine j_i2l (pc' := 97) K dX8_findTurned_96 rfl ?_
        obtain ⟨hg, h⟩ := jnzl_some h
        refine j_ldiv (pc' := 98) K dX8_findTurned_97 hg rfl ?_
        refine j_goto (tgt := 107) K dX8_findTurned_98 (by decide) ?_
        refine j_sub [0, 1, 2] rfl ?_
        exact b_X8_findTurned_107 p0_0 p0_1 p0_2 K hrw HR (f_X8_findTurned_53 n) (ih) v1 v2 (0 : Int32) ((Polynomial_room r67) (Int32.toNatClampNeg (0 : Int32))) (((Polynomial_coefficients r67) (Int32.toNatClampNeg v2)) / (Int32.toInt64 (jfac (Int32.toNatClampNeg v2)))) r67 h
set_option maxRecDepth 100000 in
set_option maxHeartbeats 4000000 in
theorem b_X8_findTurned_42 {E : jE} (p0_0 p0_1 p0_2 : Nat) {res : Int32 × PolynomialS} (K : jC E cX8_findTurned 3 RX8 2) (hrw : jrw E) (HR : jRZ E cX8_findTurned 3 (wPolynomial (jg E) p0_0 p0_1 p0_2 (res.2)) (res.1)) : ∀ (v1 : Int32) (s0 : PolynomialS), f_X8_findTurned_42 v1 s0 = some res → J E 3 (wPolynomial (jg E) p0_0 p0_1 p0_2 s0) 42 [(0, .ref p0_0), (1, .int v1)] [] := by
  intro v1 s0 h
  unfold f_X8_findTurned_42 at h
  refine j_aload_n (pc' := 43) K dX8_findTurned_42 rfl 0 rfl rfl ?_
  refine j_get (pc' := 46) K dX8_findTurned_43 inX8 0 rfl rfl 1 (by decide) u_1_188 rfl rfl rfl ?_
  refine j_lconst (pc' := 47) (v := (0 : Int64)) K dX8_findTurned_46 (by decide) rfl ?_
  obtain ⟨r47, hr47, h⟩ := jbd_some h
  refine j_rw (pc' := 50) (ws' := (wPolynomial (jg E) p0_0 p0_1 p0_2 (Polynomial_room_s s0 r47))) K (fun H hP => jrun_S K dX8_findTurned_47 (M_J7_fill_d0a16_n9 (jl E) (jg E) p0_2 (0 : Int64) (Polynomial_room s0) hr47) u_3_166 u_3_164 u_3_165 u_1_14 ⟨ok_J7_fill_d0a16, by decide, by decide⟩ rfl (Nat.le_of_ble_eq_true rfl) H) hrw [2] rfl rfl rfl rfl rfl rfl ?_
  refine j_bipush (pc' := 52) (v := (8 : Int32)) K dX8_findTurned_50 (by decide) rfl ?_
  refine j_istore_n (pc' := 53) (lv' := [(2, .int (8 : Int32)), (0, .ref p0_0), (1, .int v1)]) K dX8_findTurned_52 rfl (by decide) rfl rfl ?_
  refine j_sub [1, 2, 0] rfl ?_
  exact b_X8_findTurned_53 p0_0 p0_1 p0_2 K hrw HR jFU v1 (8 : Int32) (Polynomial_room_s s0 r47) h
set_option maxRecDepth 100000 in
set_option maxHeartbeats 4000000 in
theorem b_X8_findTurned {E : jE} (p0_0 p0_1 p0_2 : Nat) {res : Int32 × PolynomialS} (K : jC E cX8_findTurned 3 RX8 2) (hrw : jrw E) (HR : jRZ E cX8_findTurned 3 (wPolynomial (jg E) p0_0 p0_1 p0_2 (res.2)) (res.1)) : ∀ (v1 : Int32) (s0 : PolynomialS), f_X8_findTurned v1 s0 = some res → J E 3 (wPolynomial (jg E) p0_0 p0_1 p0_2 s0) 0 [(0, .ref p0_0), (1, .int v1)] [] := by
  intro v1 s0 h
  unfold f_X8_findTurned at h
  refine j_iload_n (pc' := 1) K dX8_findTurned_0 rfl 1 rfl rfl ?_
  refine j_aload_n (pc' := 2) K dX8_findTurned_1 rfl 0 rfl rfl ?_
  refine j_get (pc' := 5) K dX8_findTurned_2 inX8 0 rfl rfl 2 (by decide) u_1_189 rfl rfl rfl ?_
  refine j_icmp_ne (pc' := 8) (tgt := 25) K dX8_findTurned_5 (by decide) rfl (fun hc => ?_) (fun hc => ?_)
  · have h := jif hc h
    refine j_aload_n (pc' := 26) K dX8_findTurned_25 rfl 0 rfl rfl ?_
    refine j_get (pc' := 29) K dX8_findTurned_26 inX8 0 rfl rfl 2 (by decide) u_1_189 rfl rfl rfl ?_
    refine j_iconst (pc' := 30) (v := (3 : Int32)) K dX8_findTurned_29 (by decide) rfl ?_
    refine j_icmp_ne (pc' := 33) (tgt := 42) K dX8_findTurned_30 (by decide) rfl (fun hc => ?_) (fun hc => ?_)
    · have h := jif hc h
      refine j_sub [0, 1] rfl ?_
      exact b_X8_findTurned_42 p0_0 p0_1 p0_2 K hrw HR v1 s0 h
    · have h := jit hc h
      refine j_aload_n (pc' := 34) K dX8_findTurned_33 rfl 0 rfl rfl ?_
      obtain ⟨r34, hr34, h⟩ := jbd_some h
      refine j_ro (pc' := 37) K (fun H hP => jrun_V K dX8_findTurned_34 (M_X8_choicesAreWholeFalling (jl E) (jg E) p0_0 p0_1 p0_2 s0 hr34) u_3_212 u_3_209 u_3_211 u_p_15 u_1_12 ⟨ok_X8_choicesAreWholeFalling, by decide, by decide⟩ rfl (Nat.le_of_ble_eq_true rfl) 0 rfl rfl H hP) [0, 1, 2] rfl rfl ?_
      refine j_if_ne (pc' := 40) (tgt := 42) K dX8_findTurned_37 (by decide) rfl (fun hc => ?_) (fun hc => ?_)
      · have h := jif hc h
        refine j_sub [0, 1] rfl ?_
        exact b_X8_findTurned_42 p0_0 p0_1 p0_2 K hrw HR v1 s0 h
      · have h := jit hc h
        refine j_iconst (pc' := 41) (v := (0 : Int32)) K dX8_findTurned_40 (by decide) rfl ?_
        obtain ⟨hg, h⟩ := jzb_some h
        obtain rfl := Option.some.inj h
        exact HR _ _ hg dX8_findTurned_41
  · have h := jit hc h
    refine j_aload_n (pc' := 9) K dX8_findTurned_8 rfl 0 rfl rfl ?_
    refine j_get (pc' := 12) K dX8_findTurned_9 inX8 0 rfl rfl 0 (by decide) u_1_187 rfl rfl rfl ?_
    refine j_iconst (pc' := 13) (v := (0 : Int32)) K dX8_findTurned_12 (by decide) rfl ?_
    refine j_aload_n (pc' := 14) K dX8_findTurned_13 rfl 0 rfl rfl ?_
    refine j_get (pc' := 17) K dX8_findTurned_14 inX8 0 rfl rfl 1 (by decide) u_1_188 rfl rfl rfl ?_
    refine j_iconst (pc' := 18) (v := (0 : Int32)) K dX8_findTurned_17 (by decide) rfl ?_
    refine j_bipush (pc' := 20) (v := (9 : Int32)) K dX8_findTurned_18 (by decide) rfl ?_
    refine j_copyl (pc' := 23) (ws' := (wPolynomial (jg E) p0_0 p0_1 p0_2 (Polynomial_room_s s0 (va_cpy (Polynomial_coefficients s0) (Polynomial_room s0) (Int32.toNatClampNeg (0 : Int32)) (Int32.toNatClampNeg (0 : Int32)) (Int32.toNatClampNeg (9 : Int32)))))) K dX8_findTurned_20 u_3_206 hrw 1 2 rfl rfl (by decide) (by decide) (by decide) (by decide) (by decide) rfl (Nat.le_of_ble_eq_true rfl) (by decide) rfl ?_
    refine j_iconst (pc' := 24) (v := (1 : Int32)) K dX8_findTurned_23 (by decide) rfl ?_
    obtain ⟨hg, h⟩ := jzb_some h
    obtain rfl := Option.some.inj h
    exact HR _ _ hg dX8_findTurned_24
set_option maxRecDepth 100000 in
set_option maxHeartbeats 4000000 in
theorem M_X8_findTurned (l : Launch) (G : jG) (p0_0 p0_1 p0_2 : Nat) (v1 : Int32) (s0 : PolynomialS) {r : Int32 × PolynomialS} (h : f_X8_findTurned v1 s0 = some r) : MC l yX8_findTurned cX8_findTurned 3 (some .boolean) 2 G (jad (wPolynomial G p0_0 p0_1 p0_2 s0)) True (wPolynomial G p0_0 p0_1 p0_2 s0) (wPolynomial G p0_0 p0_1 p0_2 (r.2)) [.ref p0_0, .int v1] (some (.int (r.1))) := by
  refine mc_bool (by decide +kernel) (Nat.le_of_ble_eq_true rfl) fun E hl hg hA hrw K HR => ?_
  subst hl
  subst hg
  have hrw : jrw E := by rw [hrw]; trivial
  exact b_X8_findTurned p0_0 p0_1 p0_2 K hrw HR v1 s0 h
theorem ok_X8_turnInto : yX8_turnInto.cls ≠ "java/lang/invoke/MethodHandle" ∧ yX8_turnInto.cls ≠ "java/lang/invoke/VarHandle" ∧ (parseMethodDescriptor yX8_turnInto.desc).map (fun d => d.parameters.length) = some 1 := ⟨by decide, by decide, by decide +kernel⟩
def f_X8_turnInto (v1 : Int32) (s0 : PolynomialS) : Option (Int32 × PolynomialS) :=
   jbd (f_X8_findTurned v1 s0) (fun r2 =>
   if (r2.1) = 0 then
    jzb (0 : Int32) (
     some ((0 : Int32), (r2.2)))
   else
    jzb (1 : Int32) (
     some ((1 : Int32), (Polynomial_base_s (Polynomial_coefficients_s (r2.2) (va_cpy (Polynomial_room (r2.2)) (Polynomial_coefficients (r2.2)) (Int32.toNatClampNeg (0 : Int32)) (Int32.toNatClampNeg (0 : Int32)) (Int32.toNatClampNeg (9 : Int32)))) v1))))
set_option maxRecDepth 100000 in
set_option maxHeartbeats 4000000 in
theorem b_X8_turnInto {E : jE} (p0_0 p0_1 p0_2 : Nat) {res : Int32 × PolynomialS} (K : jC E cX8_turnInto 2 RX8 3) (hrw : jrw E) (HR : jRZ E cX8_turnInto 2 (wPolynomial (jg E) p0_0 p0_1 p0_2 (res.2)) (res.1)) : ∀ (v1 : Int32) (s0 : PolynomialS), f_X8_turnInto v1 s0 = some res → J E 2 (wPolynomial (jg E) p0_0 p0_1 p0_2 s0) 0 [(0, .ref p0_0), (1, .int v1)] [] := by
  intro v1 s0 h
  unfold f_X8_turnInto at h
  refine j_aload_n (pc' := 1) K dX8_turnInto_0 rfl 0 rfl rfl ?_
  refine j_iload_n (pc' := 2) K dX8_turnInto_1 rfl 1 rfl rfl ?_
  obtain ⟨r2, hr2, h⟩ := jbd_some h
  refine j_rw (pc' := 5) (ws' := (wPolynomial (jg E) p0_0 p0_1 p0_2 (r2.2))) K (fun H hP => jrun_V K dX8_turnInto_2 (M_X8_findTurned (jl E) (jg E) p0_0 p0_1 p0_2 v1 s0 hr2) u_3_205 u_3_202 u_3_204 u_p_14 u_1_12 ⟨ok_X8_findTurned, by decide, by decide⟩ rfl (Nat.le_of_ble_eq_true rfl) 0 rfl rfl H hP) hrw [0, 1, 2] rfl rfl rfl rfl rfl rfl ?_
  refine j_if_ne (pc' := 8) (tgt := 10) K dX8_turnInto_5 (by decide) rfl (fun hc => ?_) (fun hc => ?_)
  · have h := jif hc h
    refine j_aload_n (pc' := 11) K dX8_turnInto_10 rfl 0 rfl rfl ?_
    refine j_get (pc' := 14) K dX8_turnInto_11 inX8 0 rfl rfl 1 (by decide) u_1_188 rfl rfl rfl ?_
    refine j_iconst (pc' := 15) (v := (0 : Int32)) K dX8_turnInto_14 (by decide) rfl ?_
    refine j_aload_n (pc' := 16) K dX8_turnInto_15 rfl 0 rfl rfl ?_
    refine j_get (pc' := 19) K dX8_turnInto_16 inX8 0 rfl rfl 0 (by decide) u_1_187 rfl rfl rfl ?_
    refine j_iconst (pc' := 20) (v := (0 : Int32)) K dX8_turnInto_19 (by decide) rfl ?_
    refine j_bipush (pc' := 22) (v := (9 : Int32)) K dX8_turnInto_20 (by decide) rfl ?_
    refine j_copyl (pc' := 25) (ws' := (wPolynomial (jg E) p0_0 p0_1 p0_2 (Polynomial_coefficients_s (r2.2) (va_cpy (Polynomial_room (r2.2)) (Polynomial_coefficients (r2.2)) (Int32.toNatClampNeg (0 : Int32)) (Int32.toNatClampNeg (0 : Int32)) (Int32.toNatClampNeg (9 : Int32)))))) K dX8_turnInto_22 u_3_206 hrw 2 1 rfl rfl (by decide) (by decide) (by decide) (by decide) (by decide) rfl (Nat.le_of_ble_eq_true rfl) (by decide) rfl ?_
    refine j_aload_n (pc' := 26) K dX8_turnInto_25 rfl 0 rfl rfl ?_
    refine j_iload_n (pc' := 27) K dX8_turnInto_26 rfl 1 rfl rfl ?_
    refine j_put (pc' := 30) (ws' := (wPolynomial (jg E) p0_0 p0_1 p0_2 (Polynomial_base_s (Polynomial_coefficients_s (r2.2) (va_cpy (Polynomial_room (r2.2)) (Polynomial_coefficients (r2.2)) (Int32.toNatClampNeg (0 : Int32)) (Int32.toNatClampNeg (0 : Int32)) (Int32.toNatClampNeg (9 : Int32)))) v1))) K dX8_turnInto_27 hrw inX8 tyX8 tyX8_ok nmX8 0 rfl rfl 2 (by decide) u_1_189 rfl rfl rfl rfl (Nat.le_of_ble_eq_true rfl) (st_Polynomial_0_2 ..) rfl ?_
    refine j_iconst (pc' := 31) (v := (1 : Int32)) K dX8_turnInto_30 (by decide) rfl ?_
    obtain ⟨hg, h⟩ := jzb_some h
    obtain rfl := Option.some.inj h
    exact HR _ _ hg dX8_turnInto_31
  · have h := jit hc h
    refine j_iconst (pc' := 9) (v := (0 : Int32)) K dX8_turnInto_8 (by decide) rfl ?_
    obtain ⟨hg, h⟩ := jzb_some h
    obtain rfl := Option.some.inj h
    exact HR _ _ hg dX8_turnInto_9
set_option maxRecDepth 100000 in
set_option maxHeartbeats 4000000 in
theorem M_X8_turnInto (l : Launch) (G : jG) (p0_0 p0_1 p0_2 : Nat) (v1 : Int32) (s0 : PolynomialS) {r : Int32 × PolynomialS} (h : f_X8_turnInto v1 s0 = some r) : MC l yX8_turnInto cX8_turnInto 2 (some .boolean) 3 G (jad (wPolynomial G p0_0 p0_1 p0_2 s0)) True (wPolynomial G p0_0 p0_1 p0_2 s0) (wPolynomial G p0_0 p0_1 p0_2 (r.2)) [.ref p0_0, .int v1] (some (.int (r.1))) := by
  refine mc_bool (by decide +kernel) (Nat.le_of_ble_eq_true rfl) fun E hl hg hA hrw K HR => ?_
  subst hl
  subst hg
  have hrw : jrw E := by rw [hrw]; trivial
  exact b_X8_turnInto p0_0 p0_1 p0_2 K hrw HR v1 s0 h
theorem ok_X8_becomeSum : yX8_becomeSum.cls ≠ "java/lang/invoke/MethodHandle" ∧ yX8_becomeSum.cls ≠ "java/lang/invoke/VarHandle" ∧ (parseMethodDescriptor yX8_becomeSum.desc).map (fun d => d.parameters.length) = some 0 := ⟨by decide, by decide, by decide +kernel⟩
def f_X8_becomeSum (s0 : PolynomialS) : Option (Int32 × PolynomialS) :=
   jbd (f_X8_degree s0) (fun r1 =>
   if r1 = (8 : Int32) then
    jzb (0 : Int32) (
     some ((0 : Int32), s0))
   else
    jbd (f_X8_findTurned (3 : Int32) s0) (fun r11 =>
     if (r11.1) = 0 then
      jzb (0 : Int32) (
       some ((0 : Int32), (r11.2)))
     else
      jgd (0 : Int32) 9 (
       jzb (1 : Int32) (
        some ((1 : Int32), (Polynomial_base_s (Polynomial_coefficients_s (Polynomial_coefficients_s (r11.2) (va_cpy (Polynomial_room (r11.2)) (Polynomial_coefficients (r11.2)) (Int32.toNatClampNeg (0 : Int32)) (Int32.toNatClampNeg (1 : Int32)) (Int32.toNatClampNeg (8 : Int32)))) (vp_updL (Polynomial_coefficients (Polynomial_coefficients_s (r11.2) (va_cpy (Polynomial_room (r11.2)) (Polynomial_coefficients (r11.2)) (Int32.toNatClampNeg (0 : Int32)) (Int32.toNatClampNeg (1 : Int32)) (Int32.toNatClampNeg (8 : Int32))))) (Int32.toNatClampNeg (0 : Int32)) (0 : Int64))) (3 : Int32)))))))
set_option maxRecDepth 100000 in
set_option maxHeartbeats 4000000 in
theorem b_X8_becomeSum {E : jE} (p0_0 p0_1 p0_2 : Nat) {res : Int32 × PolynomialS} (K : jC E cX8_becomeSum 1 RX8 3) (hrw : jrw E) (HR : jRZ E cX8_becomeSum 1 (wPolynomial (jg E) p0_0 p0_1 p0_2 (res.2)) (res.1)) : ∀ (s0 : PolynomialS), f_X8_becomeSum s0 = some res → J E 1 (wPolynomial (jg E) p0_0 p0_1 p0_2 s0) 0 [(0, .ref p0_0)] [] := by
  intro s0 h
  unfold f_X8_becomeSum at h
  refine j_aload_n (pc' := 1) K dX8_becomeSum_0 rfl 0 rfl rfl ?_
  obtain ⟨r1, hr1, h⟩ := jbd_some h
  refine j_ro (pc' := 4) K (fun H hP => jrun_V K dX8_becomeSum_1 (M_X8_degree (jl E) (jg E) p0_0 p0_1 p0_2 s0 hr1) u_3_193 u_4_7 u_3_191 u_3_192 u_1_12 ⟨ok_X8_degree, by decide, by decide⟩ rfl (Nat.le_of_ble_eq_true rfl) 0 rfl rfl H hP) [0, 1, 2] rfl rfl ?_
  refine j_bipush (pc' := 6) (v := (8 : Int32)) K dX8_becomeSum_4 (by decide) rfl ?_
  refine j_icmp_eq (pc' := 9) (tgt := 17) K dX8_becomeSum_6 (by decide) rfl (fun hc => ?_) (fun hc => ?_)
  · have h := jit hc h
    refine j_iconst (pc' := 18) (v := (0 : Int32)) K dX8_becomeSum_17 (by decide) rfl ?_
    obtain ⟨hg, h⟩ := jzb_some h
    obtain rfl := Option.some.inj h
    exact HR _ _ hg dX8_becomeSum_18
  · have h := jif hc h
    refine j_aload_n (pc' := 10) K dX8_becomeSum_9 rfl 0 rfl rfl ?_
    refine j_iconst (pc' := 11) (v := (3 : Int32)) K dX8_becomeSum_10 (by decide) rfl ?_
    obtain ⟨r11, hr11, h⟩ := jbd_some h
    refine j_rw (pc' := 14) (ws' := (wPolynomial (jg E) p0_0 p0_1 p0_2 (r11.2))) K (fun H hP => jrun_V K dX8_becomeSum_11 (M_X8_findTurned (jl E) (jg E) p0_0 p0_1 p0_2 (3 : Int32) s0 hr11) u_3_205 u_3_202 u_3_204 u_p_14 u_1_12 ⟨ok_X8_findTurned, by decide, by decide⟩ rfl (Nat.le_of_ble_eq_true rfl) 0 rfl rfl H hP) hrw [0, 1, 2] rfl rfl rfl rfl rfl rfl ?_
    refine j_if_ne (pc' := 17) (tgt := 19) K dX8_becomeSum_14 (by decide) rfl (fun hc => ?_) (fun hc => ?_)
    · have h := jif hc h
      refine j_aload_n (pc' := 20) K dX8_becomeSum_19 rfl 0 rfl rfl ?_
      refine j_get (pc' := 23) K dX8_becomeSum_20 inX8 0 rfl rfl 1 (by decide) u_1_188 rfl rfl rfl ?_
      refine j_iconst (pc' := 24) (v := (0 : Int32)) K dX8_becomeSum_23 (by decide) rfl ?_
      refine j_aload_n (pc' := 25) K dX8_becomeSum_24 rfl 0 rfl rfl ?_
      refine j_get (pc' := 28) K dX8_becomeSum_25 inX8 0 rfl rfl 0 (by decide) u_1_187 rfl rfl rfl ?_
      refine j_iconst (pc' := 29) (v := (1 : Int32)) K dX8_becomeSum_28 (by decide) rfl ?_
      refine j_bipush (pc' := 31) (v := (8 : Int32)) K dX8_becomeSum_29 (by decide) rfl ?_
      refine j_copyl (pc' := 34) (ws' := (wPolynomial (jg E) p0_0 p0_1 p0_2 (Polynomial_coefficients_s (r11.2) (va_cpy (Polynomial_room (r11.2)) (Polynomial_coefficients (r11.2)) (Int32.toNatClampNeg (0 : Int32)) (Int32.toNatClampNeg (1 : Int32)) (Int32.toNatClampNeg (8 : Int32)))))) K dX8_becomeSum_31 u_3_206 hrw 2 1 rfl rfl (by decide) (by decide) (by decide) (by decide) (by decide) rfl (Nat.le_of_ble_eq_true rfl) (by decide) rfl ?_
      refine j_aload_n (pc' := 35) K dX8_becomeSum_34 rfl 0 rfl rfl ?_
      refine j_get (pc' := 38) K dX8_becomeSum_35 inX8 0 rfl rfl 0 (by decide) u_1_187 rfl rfl rfl ?_
      refine j_iconst (pc' := 39) (v := (0 : Int32)) K dX8_becomeSum_38 (by decide) rfl ?_
      refine j_lconst (pc' := 40) (v := (0 : Int64)) K dX8_becomeSum_39 (by decide) rfl ?_
      obtain ⟨hg, h⟩ := jgd_some h
      refine j_last (pc' := 41) (ws' := (wPolynomial (jg E) p0_0 p0_1 p0_2 (Polynomial_coefficients_s (Polynomial_coefficients_s (r11.2) (va_cpy (Polynomial_room (r11.2)) (Polynomial_coefficients (r11.2)) (Int32.toNatClampNeg (0 : Int32)) (Int32.toNatClampNeg (1 : Int32)) (Int32.toNatClampNeg (8 : Int32)))) (vp_updL (Polynomial_coefficients (Polynomial_coefficients_s (r11.2) (va_cpy (Polynomial_room (r11.2)) (Polynomial_coefficients (r11.2)) (Int32.toNatClampNeg (0 : Int32)) (Int32.toNatClampNeg (1 : Int32)) (Int32.toNatClampNeg (8 : Int32))))) (Int32.toNatClampNeg (0 : Int32)) (0 : Int64))))) K dX8_becomeSum_40 hrw 1 rfl hg (st_Polynomial_1 ..) rfl ?_
      refine j_aload_n (pc' := 42) K dX8_becomeSum_41 rfl 0 rfl rfl ?_
      refine j_iconst (pc' := 43) (v := (3 : Int32)) K dX8_becomeSum_42 (by decide) rfl ?_
      refine j_put (pc' := 46) (ws' := (wPolynomial (jg E) p0_0 p0_1 p0_2 (Polynomial_base_s (Polynomial_coefficients_s (Polynomial_coefficients_s (r11.2) (va_cpy (Polynomial_room (r11.2)) (Polynomial_coefficients (r11.2)) (Int32.toNatClampNeg (0 : Int32)) (Int32.toNatClampNeg (1 : Int32)) (Int32.toNatClampNeg (8 : Int32)))) (vp_updL (Polynomial_coefficients (Polynomial_coefficients_s (r11.2) (va_cpy (Polynomial_room (r11.2)) (Polynomial_coefficients (r11.2)) (Int32.toNatClampNeg (0 : Int32)) (Int32.toNatClampNeg (1 : Int32)) (Int32.toNatClampNeg (8 : Int32))))) (Int32.toNatClampNeg (0 : Int32)) (0 : Int64))) (3 : Int32)))) K dX8_becomeSum_43 hrw inX8 tyX8 tyX8_ok nmX8 0 rfl rfl 2 (by decide) u_1_189 rfl rfl rfl rfl (Nat.le_of_ble_eq_true rfl) (st_Polynomial_0_2 ..) rfl ?_
      refine j_iconst (pc' := 47) (v := (1 : Int32)) K dX8_becomeSum_46 (by decide) rfl ?_
      obtain ⟨hg, h⟩ := jzb_some h
      obtain rfl := Option.some.inj h
      exact HR _ _ hg dX8_becomeSum_47
    · have h := jit hc h
      refine j_iconst (pc' := 18) (v := (0 : Int32)) K dX8_becomeSum_17 (by decide) rfl ?_
      obtain ⟨hg, h⟩ := jzb_some h
      obtain rfl := Option.some.inj h
      exact HR _ _ hg dX8_becomeSum_18
set_option maxRecDepth 100000 in
set_option maxHeartbeats 4000000 in
theorem M_X8_becomeSum (l : Launch) (G : jG) (p0_0 p0_1 p0_2 : Nat) (s0 : PolynomialS) {r : Int32 × PolynomialS} (h : f_X8_becomeSum s0 = some r) : MC l yX8_becomeSum cX8_becomeSum 1 (some .boolean) 3 G (jad (wPolynomial G p0_0 p0_1 p0_2 s0)) True (wPolynomial G p0_0 p0_1 p0_2 s0) (wPolynomial G p0_0 p0_1 p0_2 (r.2)) [.ref p0_0] (some (.int (r.1))) := by
  refine mc_bool (by decide +kernel) (Nat.le_of_ble_eq_true rfl) fun E hl hg hA hrw K HR => ?_
  subst hl
  subst hg
  have hrw : jrw E := by rw [hrw]; trivial
  exact b_X8_becomeSum p0_0 p0_1 p0_2 K hrw HR s0 h
