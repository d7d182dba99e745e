/-! the triangle's numbers -/
def E (v : Int) : Int64 := Int64.ofInt v
theorem E_toInt {v : Int} (h1 : -9223372036854775808 ≤ v) (h2 : v < 9223372036854775808) : (E v).toInt = v := Int64.toInt_ofInt_of_le (by omega) (by omega)
theorem E_add (a b : Int) : E a + E b = E (a + b) := (Int64.ofInt_add a b).symm
theorem E_mul (a b : Int) : E a * E b = E (a * b) := (Int64.ofInt_mul a b).symm
theorem E_neg (a : Int) : -E a = E (-a) := (Int64.ofInt_neg a).symm
theorem E_self (x : Int64) : E x.toInt = x := Int64.ofInt_toInt x
theorem E_32 (x : Int32) : x.toInt64 = E x.toInt := by rw [← Int64.toInt_inj, Int32.toInt_toInt64, E_toInt]; have := x.toInt_lt; have := x.le_toInt; omega; have := x.toInt_lt; omega
def sm (v : Int) : Prop := -4000000000000000000 ≤ v ∧ v ≤ 4000000000000000000
theorem sm.t {v : Int} (h : sm v) : (E v).toInt = v := E_toInt (by unfold sm at h; omega) (by unfold sm at h; omega)
theorem E_inj {a b : Int} (ha : sm a) (hb : sm b) : E a = E b ↔ a = b := by rw [← Int64.toInt_inj, ha.t, hb.t]
theorem E_lt {a b : Int} (ha : sm a) (hb : sm b) : E a < E b ↔ a < b := by rw [Int64.lt_iff_toInt_lt, ha.t, hb.t]
theorem E_le {a b : Int} (ha : sm a) (hb : sm b) : E a ≤ E b ↔ a ≤ b := by rw [Int64.le_iff_toInt_le, ha.t, hb.t]
abbrev b17 (v : Int) : Prop := -100000000000000000 ≤ v ∧ v ≤ 100000000000000000
theorem b17.s {v : Int} (h : b17 v) : sm v := by unfold b17 at h; unfold sm; omega
theorem E_ge0 {v : Int} (h : sm v) : 0 ≤ E v ↔ 0 ≤ v := by
  have h0 : sm 0 := by unfold sm; omega
  have := E_le h0 h
  exact this
theorem tLim_in {v : Int} (h : b17 v) : tLim v = some v := by
  unfold tLim tBig; rw [if_neg]; unfold b17 at h; omega
theorem tLim_out {v : Int} (h : ¬ b17 v) : tLim v = none := by
  unfold tLim tBig; rw [if_pos]; unfold b17 at h; omega
def okO (x : Option Int) : Prop := ∀ v, x = some v → b17 v
theorem okO_lim (v : Int) : okO (tLim v) := by
  intro w hw
  by_cases h : b17 v
  · rw [tLim_in h] at hw; cases hw; exact h
  · rw [tLim_out h] at hw; cases hw
theorem okO_none : okO none := by intro v h; cases h
theorem okO_some {v : Int} (h : b17 v) : okO (some v) := by intro w hw; cases hw; exact h
theorem okO_0 : okO (some 0) := okO_some (by unfold b17; omega)
def MIN : Int64 := -9000000000000000000
theorem tEnc_none : tEnc none = (-9000000000000000000 : Int64) := by decide
theorem tEnc_some (v : Int) : tEnc (some v) = E v := rfl
theorem E_min {v : Int} (h : b17 v) : ¬ E v = (-9000000000000000000 : Int64) := by
  intro e
  have := congrArg Int64.toInt e
  rw [h.s.t] at this
  have e2 : ((-9000000000000000000 : Int64)).toInt = -9000000000000000000 := by decide
  rw [e2] at this
  unfold b17 at h; omega
def tMul (x y : Option Int) : Option Int := match x, y with
  | some p, some q => tLim (p * q)
  | _, _ => none
/-- the test by division -/
theorem divT {a b : Int} (hb : 0 < b) : a ≤ (100000000000000000 : Int).tdiv b ↔ a * b ≤ 100000000000000000 := by
  rw [Int.tdiv_eq_ediv_of_nonneg (by decide)]
  exact Int.le_ediv_iff_mul_le hb
theorem absB {p q : Int} : b17 (p * q) ↔ (p.natAbs : Int) * (q.natAbs : Int) ≤ 100000000000000000 := by
  rw [← Int.natCast_mul, ← Int.natAbs_mul]
  unfold b17
  omega
theorem absX {v : Int} (h : sm v) : f_J9_abs_067f4 (E v) = some (E (v.natAbs : Int)) := by
  unfold f_J9_abs_067f4
  have h0 : sm 0 := by unfold sm; omega
  by_cases c : 0 ≤ v
  · rw [if_pos ((lg_cmp_ge _ _).mpr ((E_ge0 h).mpr c))]
    rw [show ((v.natAbs : Int)) = v by omega]
  · rw [if_neg (fun e => c ((E_ge0 h).mp ((lg_cmp_ge _ _).mp e))), E_neg, show ((v.natAbs : Int)) = -v by omega]
theorem sizeM {v : Int} (h : sm v) : f_X12_size (E v) = some (E (v.natAbs : Int)) := absX h
theorem E_0 : E 0 = 0 := by decide
theorem E_1 : E 1 = 1 := by decide
theorem sm0 : sm 0 := by unfold sm; omega
theorem E_ne0 {v : Int} (h : sm v) : E v = 0 ↔ v = 0 := by rw [← E_0]; exact E_inj h sm0
theorem E_div {d : Int} (h1 : 0 < d) (h2 : sm d) : (100000000000000000 : Int64) / E d = E ((100000000000000000 : Int).tdiv d) := by
  rw [← Int64.toInt_inj, Int64.toInt_div_of_ne_left _ _ (by decide), h2.t]
  have e2 : ((100000000000000000 : Int64)).toInt = 100000000000000000 := by decide
  rw [e2, E_toInt]
  · have := Int.tdiv_nonneg (show (0 : Int) ≤ 100000000000000000 by decide) (Int.le_of_lt h1); omega
  · have : (100000000000000000 : Int).tdiv d ≤ 100000000000000000 := by
      rw [Int.tdiv_eq_ediv_of_nonneg (by decide)]
      exact Int.ediv_le_self _ (by decide)
    omega
theorem divS {d : Int} (h1 : 0 < d) : sm ((100000000000000000 : Int).tdiv d) := by
  have h3 := Int.tdiv_nonneg (show (0 : Int) ≤ 100000000000000000 by decide) (Int.le_of_lt h1)
  have : (100000000000000000 : Int).tdiv d ≤ 100000000000000000 := by
    rw [Int.tdiv_eq_ediv_of_nonneg (by decide)]
    exact Int.ediv_le_self _ (by decide)
  unfold sm; omega
theorem sm_abs {v : Int} (h : sm v) : sm (v.natAbs : Int) := by unfold sm at h ⊢; omega
theorem product_eq {x y : Option Int} (hx : okO x) (hy : okO y) : f_X2_product (tEnc x) (tEnc y) = some (tEnc (tMul x y)) := by
  unfold f_X2_product
  cases x with
  | none => rw [if_pos ((lg_eq0 _ _).mpr tEnc_none)]; exact congrArg some tEnc_none.symm
  | some p =>
    have hp := hx p rfl
    rw [tEnc_some, if_neg (fun e => E_min hp ((lg_eq0 _ _).mp e))]
    cases y with
    | none => rw [if_pos ((lg_eq0 _ _).mpr tEnc_none)]; exact congrArg some tEnc_none.symm
    | some q =>
      have hq := hy q rfl
      rw [tEnc_some, if_neg (fun e => E_min hq ((lg_eq0 _ _).mp e))]
      by_cases q0 : q = 0
      · subst q0
        rw [if_pos ((lg_eq0 _ _).mpr E_0)]
        show some (E p * E 0) = some (tEnc (tLim (p * 0)))
        rw [Int.mul_zero, tLim_in (by unfold b17; omega), E_mul, Int.mul_zero]; rfl
      · rw [if_neg (fun e => q0 ((E_ne0 hq.s).mp ((lg_eq0 _ _).mp e)))]
        show jbd (f_J9_abs_067f4 (E p)) _ = some (tEnc (tLim (p * q)))
        rw [absX hp.s, jbd_s, absX hq.s, jbd_s, jnzl_ne _ (by rw [E_ne0 (sm_abs hq.s)]; omega), E_div (by omega) (sm_abs hq.s)]
        by_cases hb : b17 (p * q)
        · rw [if_pos ((lg_cmp_le _ _).mpr ((E_le (sm_abs hp.s) (divS (by omega))).mpr ((divT (by omega)).mpr (absB.mp hb)))), tLim_in hb]
          exact congrArg some (E_mul p q)
        · rw [if_neg (fun e => hb (absB.mpr ((divT (by omega)).mp ((E_le (sm_abs hp.s) (divS (by omega))).mp ((lg_cmp_le _ _).mp e))))), tLim_out hb, tEnc_none]
theorem tooMuch_eq {p q : Int} (hp : b17 p) (hq : b17 q) : f_X12_isTooMuch (E p) (E q) = some (b01 (¬ b17 (p * q))) := by
  unfold f_X12_isTooMuch
  by_cases p0 : p = 0
  · subst p0
    rw [if_pos ((lg_eq0 _ _).mpr E_0), b01_f (by rw [Int.zero_mul]; unfold b17; omega)]; rfl
  · rw [if_neg (fun e => p0 ((E_ne0 hp.s).mp ((lg_eq0 _ _).mp e)))]
    by_cases q0 : q = 0
    · subst q0
      rw [if_pos ((lg_eq0 _ _).mpr E_0), b01_f (by rw [Int.mul_zero]; unfold b17; omega)]; rfl
    · rw [if_neg (fun e => q0 ((E_ne0 hq.s).mp ((lg_eq0 _ _).mp e))), sizeM hq.s, jbd_s, sizeM hp.s, jbd_s, jnzl_ne _ (by rw [E_ne0 (sm_abs hp.s)]; omega), E_div (by omega) (sm_abs hp.s)]
      by_cases hb : b17 (p * q)
      · rw [if_pos ((lg_cmp_le _ _).mpr ((E_le (sm_abs hq.s) (divS (by omega))).mpr ((divT (by omega)).mpr (by rw [Int.mul_comm]; exact absB.mp hb)))), b01_f (fun e => e hb)]; rfl
      · rw [if_neg (fun e => hb (absB.mpr (by rw [Int.mul_comm]; exact (divT (by omega)).mp ((E_le (sm_abs hq.s) (divS (by omega))).mp ((lg_cmp_le _ _).mp e))))), b01_t hb]; rfl
theorem sm17 : sm 100000000000000000 := by unfold sm; omega
theorem beyondX {v : Int} (h : sm v) : f_X11_beyond (E v) (100000000000000000 : Int64) = some (b01 (¬ b17 v)) := by
  rw [beyond_eq _ _ (Or.inr (Or.inr (by decide)))]
  refine congrArg some (b01_iff ?_)
  have e1 : (100000000000000000 : Int64) = E 100000000000000000 := by decide
  rw [e1, E_neg, gt_iff_lt, E_lt sm17 h, E_lt h (by unfold sm; omega)]
  unfold b17; omega
theorem beyondM {v : Int} (h : sm v) : f_X12_isBeyond (E v) = some (b01 (¬ b17 v)) := by
  rw [← beyondX h]
  rfl
theorem limited_eq {v : Int} (h : sm v) : f_X2_limited (E v) = some (tEnc (tLim v)) := by
  unfold f_X2_limited
  rw [beyondX h, jbd_s]
  by_cases c : b17 v
  · rw [b01_f (fun e => e c), if_pos rfl, tLim_in c]; rfl
  · rw [b01_t c, if_neg one_ne, tLim_out c, tEnc_none]
theorem okO_part (c : Int) (x : Option Int) : okO (tPart c x) := by
  unfold tPart
  split
  · exact okO_0
  · split
    · exact okO_none
    · exact okO_lim _
theorem tPart_mul {c : Int} (hc : ¬ c = 0) (x : Option Int) : tPart c x = tMul (some c) x := by
  unfold tPart; rw [if_neg hc]; cases x <;> rfl
theorem i32_0 (c : Int32) : c = 0 ↔ c.toInt = 0 := by rw [← Int32.toInt_inj]; exact Iff.rfl
theorem part_eq {c : Int32} {x : Option Int} (hx : okO x) : f_X2_part c (tEnc x) = some (tEnc (tPart c.toInt x)) := by
  unfold f_X2_part
  by_cases h : c = 0
  · rw [if_pos h]; unfold tPart; rw [if_pos ((i32_0 c).mp h)]; rfl
  · rw [if_neg h, tPart_mul (fun e => h ((i32_0 c).mpr e)), E_32]
    have hc : b17 c.toInt := by have := c.toInt_lt; have := c.le_toInt; unfold b17; omega
    have := product_eq (okO_some hc) hx
    rw [tEnc_some] at this
    rw [this, jbd_s]
