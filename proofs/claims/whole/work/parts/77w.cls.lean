/-! the class's marks, step by step -/
theorem j_ge0 {z : Int} (h : -2147483648 ≤ z ∧ z < 2147483648) : (0 : Int32) ≤ J32 z ↔ 0 ≤ z := by
  rw [Int32.le_iff_toInt_le, J_toInt h]; exact Iff.rfl
theorem j_le {z : Int} (h : -2147483648 ≤ z ∧ z < 2147483648) {m : Nat} (hm : m < 2 ^ 31) : J32 z ≤ nI m ↔ z ≤ m := by
  rw [Int32.le_iff_toInt_le, J_toInt h, nI_toInt hm]
theorem j_in {z : Int} (h : -2147483648 ≤ z ∧ z < 2147483648) {m : Nat} (hm : m < 2 ^ 31) : (0 ≤ J32 z ∧ J32 z ≤ nI m) ↔ (0 ≤ z ∧ z ≤ m) := by rw [j_ge0 h, j_le h hm]
theorem ways9 (s0 : Int32) {l v a : Nat} (hl : l ≤ 8) (hv : v < 29) (ha : a ≤ 1000) : f_X9_ways s0 (nI l) (J32 ((v : Int) - a)) TR = some (nI (wN T0 0 l v a)) := by
  unfold f_X9_ways
  rw [within_eq, jbd_s, b01_in (m := 8) (M := 8) rfl hl (by decide), if_neg one_ne, within_eq, jbd_s]
  have hj : ((0 : Int32) ≤ J32 ((v : Int) - a) ∧ J32 ((v : Int) - a) ≤ (8 : Int32)) ↔ (0 ≤ (v : Int) - a ∧ (v : Int) - a ≤ (8 : Nat)) := j_in (m := 8) (by omega) (by decide)
  unfold wN T0
  by_cases h : a ≤ v ∧ v - a ≤ 8
  · rw [b01_t (hj.mpr (by omega)), if_neg one_ne, show (v : Int) - a = ((v - a : Nat) : Int) by omega, ← J_nI, ix81, jgd_n _ (by omega) (by decide), nI_clamp (by omega), TR_tab _ (by omega), if_neg (by omega), if_pos h.2]
  · rw [b01_f (fun q => h (by have := hj.mp q; omega)), if_pos rfl]
    by_cases e : v < a
    · rw [if_pos e]; rfl
    · rw [if_neg e, if_neg (by omega)]; rfl
theorem ways0 {s l v a : Nat} (hl : l ≤ 8) (hs : s ≤ l) (hv : v < 29) (ha : a ≤ 1000) : f_X0_ways (nI s) (nI l) (J32 ((v : Int) - a)) TFa = some (nI (wN T1 s l v a)) := by
  unfold f_X0_ways
  rw [within_eq, jbd_s, b01_in (m := 8) (M := 8) rfl hl (by decide), if_neg one_ne, within_eq, jbd_s, b01_t ⟨nI_pos' (by omega), nI_le hs (by omega)⟩, if_neg one_ne, within_eq, jbd_s]
  have hj : ((0 : Int32) ≤ J32 ((v : Int) - a) ∧ J32 ((v : Int) - a) ≤ (8 : Int32)) ↔ (0 ≤ (v : Int) - a ∧ (v : Int) - a ≤ (8 : Nat)) := j_in (m := 8) (by omega) (by decide)
  unfold wN T1
  by_cases h : a ≤ v ∧ v - a ≤ 8
  · rw [b01_t (hj.mpr (by omega)), if_neg one_ne, show (v : Int) - a = ((v - a : Nat) : Int) by omega, ← J_nI, ix81, ix81, jgd_n _ (by omega) (by decide), nI_clamp (by omega), TFa_tab _ (by omega), if_neg (by omega), if_pos h.2]
  · rw [b01_f (fun q => h (by have := hj.mp q; omega)), if_pos rfl]
    by_cases e : v < a
    · rw [if_pos e]; rfl
    · rw [if_neg e, if_neg (by omega)]; rfl
theorem ways3 (s0 : Int32) {l v a : Nat} (hl : l ≤ 8) (hv : v < 29) (ha : a ≤ 1000) : f_X3_ways s0 (nI l) (J32 ((v : Int) - a)) TLp = some (nI (wN T2 0 l v a)) := by
  unfold f_X3_ways
  rw [within_eq, jbd_s, b01_in (m := 8) (M := 8) rfl hl (by decide), if_neg one_ne, within_eq, jbd_s]
  have hj : ((0 : Int32) ≤ J32 ((v : Int) - a) ∧ J32 ((v : Int) - a) ≤ (28 : Int32)) ↔ (0 ≤ (v : Int) - a ∧ (v : Int) - a ≤ (28 : Nat)) := j_in (m := 28) (by omega) (by decide)
  unfold wN T2
  by_cases h : a ≤ v ∧ v - a ≤ 28
  · rw [b01_t (hj.mpr (by omega)), if_neg one_ne, show (v : Int) - a = ((v - a : Nat) : Int) by omega, ← J_nI, show (29 : Int32) = nI 29 from rfl, pk_mul, nI_add, jgd_n _ (by omega) (by decide), nI_clamp (by omega), TLp_tab _ (by omega), if_neg (by omega), if_pos h.2]
  · rw [b01_f (fun q => h (by have := hj.mp q; omega)), if_pos rfl]
    by_cases e : v < a
    · rw [if_pos e]; rfl
    · rw [if_neg e, if_neg (by omega)]; rfl
theorem ways1 {s l v a : Nat} (hl : l ≤ 8) (hs : s ≤ l) (hv : v < 29) (ha : a ≤ 1000) : f_X1_ways (nI s) (nI l) (J32 ((v : Int) - a)) TR = some (nI (wN T3 s l v a)) := by
  unfold f_X1_ways
  have f1 := fc_r s (by omega)
  have f2 := fc_r l (by omega)
  rw [within_eq, jbd_s, b01_in (m := 8) (M := 8) rfl hl (by decide), if_neg one_ne, within_eq, jbd_s, b01_t ⟨nI_pos' (by omega), nI_le hs (by omega)⟩, if_neg one_ne, jgd_n _ (by omega) (by decide), jgd_n _ (by omega) (by decide), nI_clamp (by omega), nI_clamp (by omega), fc_jfac s (by omega), fc_jfac l (by omega), jnz_ne _ (nI_ne0 (by omega) (by omega)), ways9 0 (show s ≤ 8 by omega) hv ha, jbd_s, pk_div (by omega) (by omega) (by omega), pk_mul]
  refine congrArg (fun z => some (nI z)) ?_
  unfold wN T3
  split
  · rw [Nat.mul_zero]
  · rfl
theorem ways4 {r : LongestRiseS} (hr : RRise r) {s : Nat} (l : Int32) {v a : Nat} (h1 : 1 ≤ s) (h2 : s < 512) (hv : v < 29) (ha : a ≤ 1000) : ∃ r', f_X4_ways (nI s) l (J32 ((v : Int) - a)) r = some (nI (wN T4 s 0 v a), r') ∧ RRise r' := by
  have ho := zcw_le s h2
  have hlen : (nI (ocw 9 s + 1) - (1 : Int32)) + J32 ((v : Int) - a) = J32 ((ocw 9 s : Int) + ((v : Int) - a)) := by rw [nI_pred, J_nI, J_add]
  unfold f_X4_ways
  rw [bc_eq h1 h2, jbd_s, within_eq, jbd_s, b01_t ⟨nI_le (a := 1) h1 (by omega), nI_le (b := 511) (show s ≤ 511 by omega) (by decide)⟩, if_neg one_ne, hlen, within_eq, jbd_s]
  have hb : ((1 : Int32) ≤ J32 ((ocw 9 s : Int) + ((v : Int) - a)) ∧ J32 ((ocw 9 s : Int) + ((v : Int) - a)) ≤ 8) ↔ (1 ≤ (ocw 9 s : Int) + ((v : Int) - a) ∧ (ocw 9 s : Int) + ((v : Int) - a) ≤ 8) := by
    have e8 : (J32 ((ocw 9 s : Int) + ((v : Int) - a)) ≤ 8) ↔ ((ocw 9 s : Int) + ((v : Int) - a) ≤ (8 : Nat)) := j_le (m := 8) (by omega) (by decide)
    rw [e8, Int32.le_iff_toInt_le, J_toInt (by omega)]
    exact Iff.rfl
  unfold wN T4
  by_cases hl : 1 ≤ (ocw 9 s : Int) + ((v : Int) - a) ∧ (ocw 9 s : Int) + ((v : Int) - a) ≤ 8
  · rw [b01_t (hb.mpr hl), if_neg one_ne]
    by_cases hz : a ≤ v
    · rw [if_pos ((j_ge0 (by omega)).mpr (by omega)), if_neg (show ¬ v < a by omega), if_pos (show 1 ≤ ocw 9 s + (v - a) ∧ ocw 9 s + (v - a) ≤ 8 by omega)]
      have hw : (ocw 9 s : Int) + ((v : Int) - a) = ((ocw 9 s + (v - a) : Nat) : Int) := by omega
      rw [hw, ← J_nI]
      have w1 : 1 ≤ ocw 9 s + (v - a) := by omega
      have w8 : ocw 9 s + (v - a) ≤ 8 := by omega
      generalize ocw 9 s + (v - a) = w at w1 w8 ⊢
      have g57 : ∀ r', (∀ q, 1 ≤ q → q < 512 → LongestRise_table r' q = nI (pN (tRi w) q)) → f_X4_ways_57 (nI s) r' = some (nI (pN (tRi w) s), r') := fun r' hr' => by
        unfold f_X4_ways_57
        rw [jgd_n _ (by omega) (by decide), nI_clamp (by omega), hr' s h1 h2]
      by_cases he : nI w = LongestRise_wanted r
      · rw [if_pos he, g57 r (hr.tab w1 w8 he.symm)]
        exact ⟨r, rfl, hr⟩
      · rw [if_neg he]
        obtain ⟨f', b1, b2⟩ := fillTable_eq w1 w8 (LongestRise_table r)
        rw [show f_X4_fillTable (LongestRise_wanted_s r (nI w)) = some (f', nI w) from b1, jbd_s, g57 (f', nI w) b2]
        exact ⟨(f', nI w), rfl, Or.inr ⟨w, (LongestRise_table r, nI w), w1, w8, rfl, rfl, b1⟩⟩
    · rw [if_neg (fun q => hz (by have := (j_ge0 (by omega)).mp q; omega)), if_pos (show v < a by omega)]
      exact ⟨r, rfl, hr⟩
  · rw [b01_f (fun q => hl (hb.mp q)), if_pos rfl]
    refine ⟨r, ?_, hr⟩
    by_cases e : v < a
    · rw [if_pos e]; rfl
    · rw [if_neg e, if_neg (by omega)]; rfl
/-! growth of rings -/
theorem gr9_loop {row : Nat → Int32} {x : Nat → Nat} {p : Nat} (hp : p < 8) (hrow : ∀ q, q < p → row q = nI (x q)) (hx : ∀ q, q < p → x q < 8) : ∀ (f e F t : Nat), e < 8 → t + f = p + 1 → f < F → f_X9_growth_7 F (nI p) (nI e) (nI t) row = (if e < p then f_X9_growth_50 (nI p) (nI (ceN x p f e)) row else f_X9_growth_7 F (nI p) (nI e) (nI t) row) := by
  intro f
  induction f with
  | zero =>
    intro e F t he h1 hF
    obtain ⟨F, rfl⟩ : ∃ q, F = q + 1 := ⟨F - 1, by omega⟩
    by_cases h : e < p
    · rw [if_pos h, f_X9_growth_7, if_pos (nI_lt (by omega) (by omega))]; rfl
    · rw [if_neg h]
  | succ f ih =>
    intro e F t he h1 hF
    obtain ⟨F, rfl⟩ : ∃ q, F = q + 1 := ⟨F - 1, by omega⟩
    by_cases h : e < p
    · rw [if_pos h, f_X9_growth_7, if_neg (nI_nlt (by omega) (by omega)), if_neg (nI_pos (by omega)), if_neg (ge_lit (m := 8) (M := 8) rfl he (by decide)), jgd_n _ he (by decide), nI_clamp (by omega), hrow e h]
      have hb : Nat.ble p e = false := by
        cases q : Nat.ble p e with
        | false => rfl
        | true => exact absurd (Nat.le_of_ble_eq_true q) (by omega)
      have hc : ceN x p (f + 1) e = ceN x p f (x e) := by
        show cond (Nat.ble p e) e (ceN x p f (x e)) = _
        rw [hb]; rfl
      rw [hc]
      by_cases h2 : x e < p
      · have := ih (x e) F (t + 1) (hx e h) (by omega) (by omega)
        rw [if_pos h2] at this
        rw [if_pos (nI_lt h2 (by omega)), nI_1, this]
      · rw [if_neg (nI_nlt (by omega) (by have := hx e h; omega))]
        have he2 : ceN x p f (x e) = x e := by
          cases f with
          | zero => rfl
          | succ f =>
            show cond (Nat.ble p (x e)) (x e) _ = x e
            rw [Nat.ble_eq_true_of_le (by omega)]; rfl
        rw [he2]; rfl
    · rw [if_neg h]
theorem gr9 {row : Nat → Int32} {x : Nat → Nat} {p d : Nat} (hp : p < 8) (hrow : ∀ q, q < p → row q = nI (x q)) (hx : ∀ q, q < p → x q < 8) (hd : row p = nI d) (hd8 : d < 8) (v1 v2 v3 : Int32) : f_X9_growth v1 v2 v3 (nI p) row = some (nI (clN x p d)) := by
  have fin : ∀ e, e < 16 → f_X9_growth_50 (nI p) (nI e) row = some (nI (cond (Nat.beq e p) 1 0)) := by
    intro e he
    unfold f_X9_growth_50
    have hq : nI e = nI p ↔ e = p := nI_eq (by omega) (by omega)
    by_cases q : e = p
    · rw [if_pos (hq.mpr q), q, Nat.beq_refl]; rfl
    · have hb : Nat.beq e p = false := by
        cases z : Nat.beq e p with
        | false => rfl
        | true => exact absurd (Nat.eq_of_beq_eq_true z) q
      rw [if_neg (fun z => q (hq.mp z)), hb]; rfl
  have ce_lt : ∀ f e, e < 8 → ceN x p f e < 8 := by
    intro f
    induction f with
    | zero => intro e he; exact he
    | succ f ih =>
      intro e he
      show cond (Nat.ble p e) e (ceN x p f (x e)) < 8
      cases q : Nat.ble p e with
      | true => exact he
      | false =>
        have : e < p := Nat.lt_of_not_le (fun z => by rw [Nat.ble_eq_true_of_le z] at q; cases q)
        exact ih (x e) (hx e this)
  unfold f_X9_growth
  rw [show jFU = 999999 + 1 from rfl, show (0 : Int32) = nI 0 from rfl, f_X9_growth_7, if_neg (nI_nlt (by omega) (by omega)), if_neg (nI_pos (by omega)), if_neg (ge_lit (m := 8) (M := 8) rfl hp (by decide)), jgd_n _ hp (by decide), nI_clamp (by omega), hd]
  by_cases h : d < p
  · rw [if_pos (nI_lt h (by omega)), nI_1, gr9_loop hp hrow hx p d 999999 (0 + 1) hd8 (by omega) (by omega), if_pos h, fin _ (by have := ce_lt p d hd8; omega)]
    rfl
  · rw [if_neg (nI_nlt (by omega) (by omega))]
    show f_X9_growth_50 (nI p) (nI d) row = _
    rw [fin d (by omega)]
    unfold clN
    have he2 : ceN x p p d = d := by
      cases p with
      | zero => rfl
      | succ q =>
        show cond (Nat.ble (q + 1) d) d _ = d
        rw [Nat.ble_eq_true_of_le (by omega)]; rfl
    rw [he2]
