/-! shapes -/
theorem shapeX (X : XS) {l : Nat} (hl : l < 4) (v2 v3 : Int32) (t0 : Int64) : f_X11_shape_42 (nI l) v2 v3 t0 X = jbd (f_X2_rowKeepsTo v2 t0 (xLaw X l)) (fun r => if r = 0 then some (-2 : Int32) else if v3 = 0 then jbd (f_X2_greatestPlace v2 (xLaw X l)) (fun r => some r) else if v3 = 1 then jbd (f_X2_breakPlace v2 (xLaw X l)) (fun r => some r) else jbd (f_X2_bowedPlace v2 (xLaw X l)) (fun r => some r)) := by
  rcases (show l = 0 ∨ l = 1 ∨ l = 2 ∨ l = 3 by omega) with rfl | rfl | rfl | rfl <;> rfl
section
variable (M : MS) (n : Nat) (c : Nat → Int64)
def up (c : Nat → Int64) (a b : Nat) : Prop := c b < c a
/-- a step of the reference's loop -/
theorem shape_step (hn : n ≤ 24) (hc : ∀ j, j ≤ n → M_cell M (tri n + j) = c j) {k b : Nat} (hk : k < n) (hb : b ≤ n) (v3 v6 v7 v8 : Int32) (f : Nat) :
    ∃ v6' v7' v8' : Int32, f_X12_shape_125 (f + 1) (nI n) v3 (nI (tri n)) (nI b) v6 v7 v8 (nI k) M = f_X12_shape_125 f (nI n) v3 (nI (tri n)) (nI (if c (k + 1) ≤ c b then b else k + 1)) v6' v7' v8' (nI (k + 1)) M ∧
      v6' = (if v6 = -4 ∧ ¬ v8 = 0 ∧ ¬ c (k + 1) ≤ c k then nI k else v6) ∧ v8' = (if v8 = 0 ∧ c k ≤ c (k + 1) then 0 else 1) ∧ v7' = (if v3 = 2 ∧ v7 = -4 ∧ 0 < k ∧ ¬ c (k - 1) * c (k + 1) ≤ c k * c k then nI k else v7) := by
  refine ⟨_, _, _, ?_, rfl, rfl, rfl⟩
  have hq := tri24 hn (Nat.le_refl n)
  rw [f_X12_shape_125, if_neg (nI_ge hk (by omega)), nI_add, nI_add, nI_1, jgd_n _ (by omega) (by decide), jgd_n _ (by omega) (by decide), jgd_n _ (by omega) (by decide), nI_clamp (by omega), nI_clamp (by omega), nI_clamp (by omega), hc k (by omega), hc b hb, show tri n + k + 1 = tri n + (k + 1) by omega, hc (k + 1) (by omega)]
  have s231 : ∀ (b' v6' t0 : Int32), f_X12_shape_231 (f_X12_shape_125 f) (nI n) v3 (nI (tri n)) b' v6' v7 (nI k) (c k) (c (k + 1)) t0 M = f_X12_shape_125 f (nI n) v3 (nI (tri n)) b' v6' (if v3 = 2 ∧ v7 = -4 ∧ 0 < k ∧ ¬ c (k - 1) * c (k + 1) ≤ c k * c k then nI k else v7) t0 (nI (k + 1)) M := by
    intro b' v6' t0
    unfold f_X12_shape_231 f_X12_shape_279 f_X12_shape_281
    rw [nI_1, nI_add]
    by_cases h3 : v3 = 2
    · by_cases h7 : v7 = -4
      · rw [if_pos h3, if_pos h7]
        by_cases h0 : k = 0
        · subst h0
          rw [if_pos (show nI 0 ≤ 0 by decide), if_neg (fun e => absurd e.2.2.1 (by omega))]
        · obtain ⟨j, rfl⟩ : ∃ j, k = j + 1 := ⟨k - 1, by omega⟩
          rw [if_neg (nI_nle (by omega) (by omega)), show tri n + (j + 1) = tri n + j + 1 by omega, nI_pred, jgd_n _ (by omega) (by decide), nI_clamp (by omega), hc j (by omega)]
          by_cases hm : c j * c (j + 1 + 1) ≤ c (j + 1) * c (j + 1)
          · rw [if_pos ((lg_cmp_ge _ _).mpr hm), if_neg (fun e => e.2.2.2 hm)]
          · rw [if_neg (fun e => hm ((lg_cmp_ge _ _).mp e)), if_pos ⟨h3, h7, by omega, hm⟩]
      · rw [if_pos h3, if_neg h7, if_neg (fun e => h7 e.2.1)]
    · rw [if_neg h3, if_neg (fun e => h3 e.1)]
  have s211 : ∀ (b' v6' : Int32), f_X12_shape_211 (f_X12_shape_125 f) (nI n) v3 (nI (tri n)) b' v7 v8 (nI k) (c k) (c (k + 1)) v6' M = f_X12_shape_125 f (nI n) v3 (nI (tri n)) b' v6' (if v3 = 2 ∧ v7 = -4 ∧ 0 < k ∧ ¬ c (k - 1) * c (k + 1) ≤ c k * c k then nI k else v7) (if v8 = 0 ∧ c k ≤ c (k + 1) then 0 else 1) (nI (k + 1)) M := by
    intro b' v6'
    unfold f_X12_shape_211 f_X12_shape_226
    rw [s231, s231]
    by_cases h8 : v8 = 0
    · by_cases hm : c k ≤ c (k + 1)
      · rw [if_pos h8, if_pos ((lg_cmp_ge _ _).mpr hm), if_pos (show v8 = 0 ∧ c k ≤ c (k + 1) from ⟨h8, hm⟩)]
      · rw [if_pos h8, if_neg (fun e => hm ((lg_cmp_ge _ _).mp e)), if_neg (show ¬ (v8 = 0 ∧ c k ≤ c (k + 1)) from fun e => hm e.2)]
    · rw [if_neg h8, if_neg (show ¬ (v8 = 0 ∧ c k ≤ c (k + 1)) from fun e => h8 e.1)]
  have s182 : ∀ (b' : Int32), f_X12_shape_182 (f_X12_shape_125 f) (nI n) v3 (nI (tri n)) v6 v7 v8 (nI k) (c k) (c (k + 1)) b' M = f_X12_shape_125 f (nI n) v3 (nI (tri n)) b' (if v6 = -4 ∧ ¬ v8 = 0 ∧ ¬ c (k + 1) ≤ c k then nI k else v6) (if v3 = 2 ∧ v7 = -4 ∧ 0 < k ∧ ¬ c (k - 1) * c (k + 1) ≤ c k * c k then nI k else v7) (if v8 = 0 ∧ c k ≤ c (k + 1) then 0 else 1) (nI (k + 1)) M := by
    intro b'
    unfold f_X12_shape_182 f_X12_shape_209
    rw [s211, s211]
    by_cases h6 : v6 = -4
    · by_cases h8 : v8 = 0
      · rw [if_pos h6, if_pos h8, if_neg (show ¬ (v6 = -4 ∧ ¬ v8 = 0 ∧ ¬ c (k + 1) ≤ c k) from fun e => e.2.1 h8)]
      · by_cases hm : c (k + 1) ≤ c k
        · rw [if_pos h6, if_neg h8, if_pos ((lg_cmp_le _ _).mpr hm), if_neg (show ¬ (v6 = -4 ∧ ¬ v8 = 0 ∧ ¬ c (k + 1) ≤ c k) from fun e => e.2.2 hm)]
        · rw [if_pos h6, if_neg h8, if_neg (fun e => hm ((lg_cmp_le _ _).mp e)), if_pos (show v6 = -4 ∧ ¬ v8 = 0 ∧ ¬ c (k + 1) ≤ c k from ⟨h6, h8, hm⟩)]
    · rw [if_neg h6, if_neg (show ¬ (v6 = -4 ∧ ¬ v8 = 0 ∧ ¬ c (k + 1) ≤ c k) from fun e => h6 e.1)]
  rw [s182, s182, nI_1]
  by_cases hm : c (k + 1) ≤ c b
  · rw [if_pos ((lg_cmp_le _ _).mpr hm), if_pos hm]
  · rw [if_neg (fun e => hm ((lg_cmp_le _ _).mp e)), if_neg hm]
variable (w : LawS)
theorem great_lock (hw : ∀ j, j ≤ n → f_X2_numberAt (nI n) (nI j) w = some (c j)) (hn : n ≤ 24) (hc : ∀ j, j ≤ n → M_cell M (tri n + j) = c j) : ∀ (d k f g b : Nat) (v6 v7 v8 : Int32), k + d = n → d < f → d < g → b ≤ n → ∃ r, f_X2_greatestPlace_4 g (nI n) (nI b) (nI (k + 1)) w = some r ∧ f_X12_shape_125 f (nI n) 0 (nI (tri n)) (nI b) v6 v7 v8 (nI k) M = some (r, M) := by
  intro d
  induction d with
  | zero =>
    intro k f g b v6 v7 v8 h1 hf hg hb
    obtain ⟨f, rfl⟩ : ∃ q, f = q + 1 := ⟨f - 1, by omega⟩
    obtain ⟨g, rfl⟩ : ∃ q, g = q + 1 := ⟨g - 1, by omega⟩
    refine ⟨nI b, ?_, ?_⟩
    · rw [f_X2_greatestPlace_4, if_pos (nI_lt (by omega) (by omega))]
    · rw [f_X12_shape_125, if_pos (nI_le (by omega) (by omega))]; rfl
  | succ d ih =>
    intro k f g b v6 v7 v8 h1 hf hg hb
    obtain ⟨f, rfl⟩ : ∃ q, f = q + 1 := ⟨f - 1, by omega⟩
    obtain ⟨g, rfl⟩ : ∃ q, g = q + 1 := ⟨g - 1, by omega⟩
    obtain ⟨v6', v7', v8', e, _⟩ := shape_step M n c hn hc (show k < n by omega) hb 0 v6 v7 v8 f
    rw [e, f_X2_greatestPlace_4, if_neg (nI_nlt (by omega) (by omega)), hw (k + 1) (by omega), jbd_s, hw b hb, jbd_s]
    unfold f_X2_greatestPlace_27
    rw [nI_1]
    by_cases hm : c (k + 1) ≤ c b
    · rw [if_pos ((lg_cmp_le _ _).mpr hm), if_pos hm]
      exact ih (k + 1) f g b v6' v7' v8' (by omega) (by omega) (by omega) hb
    · rw [if_neg (fun e => hm ((lg_cmp_le _ _).mp e)), if_neg hm]
      exact ih (k + 1) f g (k + 1) v6' v7' v8' (by omega) (by omega) (by omega) (by omega)
theorem broken_stays (hn : n ≤ 24) (hc : ∀ j, j ≤ n → M_cell M (tri n + j) = c j) {j : Nat} (hj : j < 100) : ∀ (d k f b : Nat) (v7 v8 : Int32), k + d = n → d < f → b ≤ n → f_X12_shape_125 f (nI n) 1 (nI (tri n)) (nI b) (nI j) v7 v8 (nI k) M = some (nI j, M) := by
  have h4 : ¬ nI j = -4 := by
    intro e
    have := congrArg Int32.toInt e
    rw [nI_toInt (by omega)] at this
    have e2 : (-4 : Int32).toInt = -4 := by decide
    rw [e2] at this
    omega
  intro d
  induction d with
  | zero =>
    intro k f b v7 v8 h1 hf hb
    obtain ⟨f, rfl⟩ : ∃ q, f = q + 1 := ⟨f - 1, by omega⟩
    rw [f_X12_shape_125, if_pos (nI_le (by omega) (by omega))]; rfl
  | succ d ih =>
    intro k f b v7 v8 h1 hf hb
    obtain ⟨f, rfl⟩ : ∃ q, f = q + 1 := ⟨f - 1, by omega⟩
    obtain ⟨v6', v7', v8', e, e6, _⟩ := shape_step M n c hn hc (show k < n by omega) hb 1 (nI j) v7 v8 f
    rw [if_neg (fun e => h4 e.1)] at e6
    subst e6
    rw [e]
    exact ih (k + 1) f _ v7' v8' (by omega) (by omega) (by split <;> omega)
theorem break_lock (hw : ∀ j, j ≤ n → f_X2_numberAt (nI n) (nI j) w = some (c j)) (hn : n ≤ 24) (hc : ∀ j, j ≤ n → M_cell M (tri n + j) = c j) : ∀ (d k f g b : Nat) (v7 v8 : Int32), k + d = n → d < f → d < g → b ≤ n → (v8 = 0 ∨ v8 = 1) → ∃ r, f_X2_breakPlace_4 g (nI n) v8 (nI k) w = some r ∧ f_X12_shape_125 f (nI n) 1 (nI (tri n)) (nI b) (-4) v7 v8 (nI k) M = some (r, M) := by
  intro d
  induction d with
  | zero =>
    intro k f g b v7 v8 h1 hf hg hb h8
    obtain ⟨f, rfl⟩ : ∃ q, f = q + 1 := ⟨f - 1, by omega⟩
    obtain ⟨g, rfl⟩ : ∃ q, g = q + 1 := ⟨g - 1, by omega⟩
    refine ⟨-4, ?_, ?_⟩
    · rw [f_X2_breakPlace_4, if_pos (nI_le (by omega) (by omega))]
    · rw [f_X12_shape_125, if_pos (nI_le (by omega) (by omega))]; rfl
  | succ d ih =>
    intro k f g b v7 v8 h1 hf hg hb h8
    obtain ⟨f, rfl⟩ : ∃ q, f = q + 1 := ⟨f - 1, by omega⟩
    obtain ⟨g, rfl⟩ : ∃ q, g = q + 1 := ⟨g - 1, by omega⟩
    obtain ⟨v6', v7', v8', e, e6, e8, _⟩ := shape_step M n c hn hc (show k < n by omega) hb 1 (-4) v7 v8 f
    rw [e, f_X2_breakPlace_4, if_neg (nI_ge (by omega) (by omega))]
    unfold f_X2_breakPlace_33 f_X2_breakPlace_55 f_X2_breakPlace_60
    rw [nI_1, hw (k + 1) (by omega), hw k (by omega)]
    simp only [jbd_s]
    have hb' : (if c (k + 1) ≤ c b then b else k + 1) ≤ n := by split <;> omega
    by_cases h0 : v8 = 0
    · rw [if_pos h0, if_pos h0]
      rw [if_neg (show ¬ ((-4 : Int32) = -4 ∧ ¬ v8 = 0 ∧ ¬ c (k + 1) ≤ c k) from fun e => e.2.1 h0)] at e6
      subst e6
      by_cases hm : c k ≤ c (k + 1)
      · rw [if_pos ((lg_cmp_ge _ _).mpr hm)]
        rw [if_pos ⟨h0, hm⟩] at e8
        subst e8
        exact ih (k + 1) f g _ v7' 0 (by omega) (by omega) (by omega) hb' (Or.inl rfl)
      · rw [if_neg (fun e => hm ((lg_cmp_ge _ _).mp e))]
        rw [if_neg (fun e => hm e.2)] at e8
        subst e8
        exact ih (k + 1) f g _ v7' 1 (by omega) (by omega) (by omega) hb' (Or.inr rfl)
    · rw [if_neg h0, if_neg h0]
      rw [if_neg (fun e => h0 e.1)] at e8
      subst e8
      by_cases hm : c (k + 1) ≤ c k
      · rw [if_neg (fun e => e.2.2 hm)] at e6
        subst e6
        rw [if_pos ((lg_cmp_le _ _).mpr hm)]
        exact ih (k + 1) f g _ v7' 1 (by omega) (by omega) (by omega) hb' (Or.inr rfl)
      · rw [if_pos ⟨rfl, h0, hm⟩] at e6
        subst e6
        rw [if_neg (fun e => hm ((lg_cmp_le _ _).mp e))]
        exact ⟨nI k, rfl, broken_stays M n c hn hc (show k < 100 by omega) d (k + 1) f _ v7' 1 (by omega) (by omega) hb'⟩
theorem bowed_stays (hn : n ≤ 24) (hc : ∀ j, j ≤ n → M_cell M (tri n + j) = c j) {j : Nat} (hj : j < 100) : ∀ (d k f b : Nat) (v6 v8 : Int32), k + d = n → d < f → b ≤ n → f_X12_shape_125 f (nI n) 2 (nI (tri n)) (nI b) v6 (nI j) v8 (nI k) M = some (nI j, M) := by
  have h4 : ¬ nI j = -4 := by
    intro e
    have := congrArg Int32.toInt e
    rw [nI_toInt (by omega)] at this
    have e2 : (-4 : Int32).toInt = -4 := by decide
    rw [e2] at this
    omega
  intro d
  induction d with
  | zero =>
    intro k f b v6 v8 h1 hf hb
    obtain ⟨f, rfl⟩ : ∃ q, f = q + 1 := ⟨f - 1, by omega⟩
    rw [f_X12_shape_125, if_pos (nI_le (by omega) (by omega))]; rfl
  | succ d ih =>
    intro k f b v6 v8 h1 hf hb
    obtain ⟨f, rfl⟩ : ∃ q, f = q + 1 := ⟨f - 1, by omega⟩
    obtain ⟨v6', v7', v8', e, _, _, e7⟩ := shape_step M n c hn hc (show k < n by omega) hb 2 v6 (nI j) v8 f
    rw [if_neg (fun e => h4 e.2.1)] at e7
    subst e7
    rw [e]
    exact ih (k + 1) f _ v6' v8' (by omega) (by omega) (by split <;> omega)
theorem bowed_lock (hw : ∀ j, j ≤ n → f_X2_numberAt (nI n) (nI j) w = some (c j)) (hn : n ≤ 24) (hc : ∀ j, j ≤ n → M_cell M (tri n + j) = c j) : ∀ (d k f g b : Nat) (v6 v8 : Int32), k + 1 + d = n → d < f → d < g → b ≤ n → ∃ r, f_X2_bowedPlace_2 g (nI n) (nI (k + 1)) w = some r ∧ f_X12_shape_125 f (nI n) 2 (nI (tri n)) (nI b) v6 (-4) v8 (nI (k + 1)) M = some (r, M) := by
  intro d
  induction d with
  | zero =>
    intro k f g b v6 v8 h1 hf hg hb
    obtain ⟨f, rfl⟩ : ∃ q, f = q + 1 := ⟨f - 1, by omega⟩
    obtain ⟨g, rfl⟩ : ∃ q, g = q + 1 := ⟨g - 1, by omega⟩
    refine ⟨-4, ?_, ?_⟩
    · rw [f_X2_bowedPlace_2, if_pos (nI_le (by omega) (by omega))]
    · rw [f_X12_shape_125, if_pos (nI_le (by omega) (by omega))]; rfl
  | succ d ih =>
    intro k f g b v6 v8 h1 hf hg hb
    obtain ⟨f, rfl⟩ : ∃ q, f = q + 1 := ⟨f - 1, by omega⟩
    obtain ⟨g, rfl⟩ : ∃ q, g = q + 1 := ⟨g - 1, by omega⟩
    obtain ⟨v6', v7', v8', e, _, _, e7⟩ := shape_step M n c hn hc (show k + 1 < n by omega) hb 2 v6 (-4) v8 f
    rw [e, f_X2_bowedPlace_2, if_neg (nI_ge (by omega) (by omega)), hw (k + 1) (by omega), jbd_s, jbd_s, nI_pred, hw k (by omega), jbd_s, nI_1, hw (k + 1 + 1) (by omega), jbd_s]
    have hb' : (if c (k + 1 + 1) ≤ c b then b else k + 1 + 1) ≤ n := by split <;> omega
    by_cases hm : c k * c (k + 1 + 1) ≤ c (k + 1) * c (k + 1)
    · rw [if_neg (fun e => e.2.2.2 hm)] at e7
      subst e7
      rw [if_pos ((lg_cmp_ge _ _).mpr hm)]
      exact ih (k + 1) f g _ v6' v8' (by omega) (by omega) (by omega) hb'
    · rw [if_pos ⟨rfl, rfl, by omega, hm⟩] at e7
      subst e7
      rw [if_neg (fun e => hm ((lg_cmp_ge _ _).mp e))]
      exact ⟨nI (k + 1), rfl, bowed_stays M n c hn hc (show k + 1 < 100 by omega) d (k + 1 + 1) f _ v6' v8' (by omega) (by omega) hb'⟩
theorem shape_lock (hw : ∀ j, j ≤ n → f_X2_numberAt (nI n) (nI j) w = some (c j)) (hn : n ≤ 24) (hc : ∀ j, j ≤ n → M_cell M (tri n + j) = c j) {wh : Nat} (hwh : wh ≤ 2) : ∃ r, (if nI wh = 0 then jbd (f_X2_greatestPlace (nI n) w) (fun r => some r) else if nI wh = 1 then jbd (f_X2_breakPlace (nI n) w) (fun r => some r) else jbd (f_X2_bowedPlace (nI n) w) (fun r => some r)) = some r ∧ f_X12_shape_100 (nI n) (nI wh) M = some (r, M) := by
  unfold f_X12_shape_100
  rw [show (0 : Int32) = nI 0 from rfl, at_eq' hn, jbd_s, Nat.mul_zero, Nat.zero_add, Nat.add_zero]
  rcases (show wh = 0 ∨ wh = 1 ∨ wh = 2 by omega) with rfl | rfl | rfl
  · obtain ⟨r, r1, r2⟩ := great_lock M n c w hw hn hc n 0 1000000 1000000 0 (-4) (-4) 0 (by omega) (by omega) (by omega) (by omega)
    rw [if_pos rfl]
    exact ⟨r, by rw [show f_X2_greatestPlace (nI n) w = some r from r1, jbd_s], r2⟩
  · obtain ⟨r, r1, r2⟩ := break_lock M n c w hw hn hc n 0 1000000 1000000 0 (-4) 0 (by omega) (by omega) (by omega) (by omega) (Or.inl rfl)
    rw [if_neg (by decide), if_pos (show nI 1 = 1 from rfl)]
    exact ⟨r, by rw [show f_X2_breakPlace (nI n) w = some r from r1, jbd_s], r2⟩
  · rw [if_neg (by decide), if_neg (by decide)]
    by_cases h0 : n = 0
    · subst h0
      refine ⟨-4, ?_, ?_⟩
      · unfold f_X2_bowedPlace
        rw [show jFU = 999999 + 1 from rfl, f_X2_bowedPlace_2, if_pos (by decide)]; rfl
      · rw [show jFU = 999999 + 1 from rfl, f_X12_shape_125, if_pos (by decide)]; rfl
    · obtain ⟨m, rfl⟩ : ∃ m, n = m + 1 := ⟨n - 1, by omega⟩
      obtain ⟨v6', v7', v8', e, _, _, e7⟩ := shape_step M (m + 1) c hn hc (show 0 < m + 1 by omega) (show 0 ≤ m + 1 by omega) 2 (-4) (-4) 0 999999
      rw [if_neg (fun e => absurd e.2.2.1 (by omega))] at e7
      subst e7
      obtain ⟨r, r1, r2⟩ := bowed_lock M (m + 1) c w hw hn hc m 0 999999 1000000 (if c (0 + 1) ≤ c 0 then 0 else 0 + 1) v6' v8' (by omega) (by omega) (by omega) (by split <;> omega)
      exact ⟨r, by rw [show f_X2_bowedPlace (nI (m + 1)) w = some r from r1, jbd_s], e.trans r2⟩
end
theorem keepsM_loop (M : MS) {n wh : Nat} (hn : n ≤ 24) (hwh : wh ≤ 2) (z : Nat → Option Int) (hz : ∀ k, okO (z k)) (hc : ∀ k, k ≤ n → cIs M (tri n + k) (z k)) : ∀ (d k f : Nat), k + d = n + 1 → d < f → ((∀ j, k ≤ j → j ≤ n → kp (if wh = 2 then 100000000 else 100000000000000000) (z j)) → f_X12_shape_43 f (nI n) (nI wh) (nI k) M = f_X12_shape_100 (nI n) (nI wh) M) ∧ (¬ (∀ j, k ≤ j → j ≤ n → kp (if wh = 2 then 100000000 else 100000000000000000) (z j)) → f_X12_shape_43 f (nI n) (nI wh) (nI k) M = some (-2, M)) := by
  intro d
  induction d with
  | zero =>
    intro k f h1 hf
    obtain ⟨f, rfl⟩ : ∃ q, f = q + 1 := ⟨f - 1, by omega⟩
    refine ⟨fun _ => by rw [f_X12_shape_43, if_pos (nI_lt (by omega) (by omega))], fun h => absurd (fun j h2 h3 => by omega) h⟩
  | succ d ih =>
    intro k f h1 hf
    obtain ⟨f, rfl⟩ : ∃ q, f = q + 1 := ⟨f - 1, by omega⟩
    obtain ⟨g1, g2⟩ := ih (k + 1) f (by omega) (by omega)
    have hq := tri24 hn (show k ≤ n by omega)
    have ck := hc k (by omega)
    have hw2 : nI wh = 2 ↔ wh = 2 := nI_eq (b := 2) (by omega) (by decide)
    have stp : (kp (if wh = 2 then 100000000 else 100000000000000000) (z k) → f_X12_shape_43 (f + 1) (nI n) (nI wh) (nI k) M = f_X12_shape_43 f (nI n) (nI wh) (nI (k + 1)) M) ∧ (¬ kp (if wh = 2 then 100000000 else 100000000000000000) (z k) → f_X12_shape_43 (f + 1) (nI n) (nI wh) (nI k) M = some (-2, M)) := by
      rw [f_X12_shape_43, if_neg (nI_nlt (by omega) (by omega)), show (0 : Int32) = nI 0 from rfl, at_eq' hn, jbd_s, Nat.mul_zero, Nat.zero_add, jgd_n _ (by omega) (by decide), jbd_s, jgd_n _ (by omega) (by decide), nI_clamp (by omega), ck.1, ck.2]
      unfold f_X12_shape_94
      rw [nI_1, show nI 0 = (0 : Int32) from rfl]
      rcases e : z k with _ | v
      · exact ⟨fun h => absurd h id, fun _ => by rw [if_neg (show ¬ gB none = 0 from one_ne)]⟩
      · have hv := hz k v e
        rw [if_pos (show gB (some v) = 0 from rfl), show gV (some v) = v from rfl]
        by_cases h2 : wh = 2
        · rw [if_pos h2, if_pos (hw2.mpr h2), sizeM hv.s, jbd_s]
          have key : lg_cmp (E (v.natAbs : Int)) 100000000 ≤ 0 ↔ kp 100000000 (some v) := by
            rw [lg_cmp_le]
            have := E_le (sm_abs hv.s) sm8
            refine Iff.trans this ?_
            show _ ↔ -100000000 ≤ v ∧ v ≤ 100000000
            omega
          exact ⟨fun h => by rw [if_pos (key.mpr h)], fun h => by rw [if_neg (fun c => h (key.mp c))]⟩
        · rw [if_neg h2, if_neg (fun c => h2 (hw2.mp c))]
          exact ⟨fun _ => rfl, fun h => absurd hv h⟩
    by_cases hk : kp (if wh = 2 then 100000000 else 100000000000000000) (z k)
    · rw [stp.1 hk]
      refine ⟨fun h => g1 (fun j h2 h3 => h j (by omega) h3), fun h => g2 (fun h' => h (fun j h2 h3 => ?_))⟩
      by_cases e : j = k
      · subst e; exact hk
      · exact h' j (by omega) h3
    · rw [stp.2 hk]
      exact ⟨fun h => absurd (h k (Nat.le_refl _) (by omega)) hk, fun _ => rfl⟩
theorem op_shape (a0 : Int32) (a1 : Int32) (a2 : Int32) : oRW (f_X11_shape a0 a1 a2) (f_X12_shape a0 a1 a2) := by
  intro X M hR
  unfold f_X11_shape f_X12_shape
  rw [isLawX, isLawM, jbd_s, jbd_s]
  rcases rng (x := a0) (M := 3) (m := 3) (by decide) with ⟨l, hl, rfl⟩ | hbad
  · have hl4 : l < 4 := by omega
    rw [b01_in (m := 3) (M := 3) rfl hl (by decide), if_neg one_ne, if_neg one_ne, within_eq, inI a1 24 24 (by decide), jbd_s, jbd_s]
    rcases rng (x := a1) (M := 24) (m := 24) (by decide) with ⟨n, hn, rfl⟩ | hbad
    · rw [b01_in (m := 24) (M := 24) rfl hn (by decide), if_neg one_ne, if_neg one_ne, within_eq, inI a2 2 2 (by decide), jbd_s, jbd_s]
      rcases rng (x := a2) (M := 2) (m := 2) (by decide) with ⟨wh, hw, rfl⟩ | hbad
      · rw [b01_in (m := 2) (M := 2) rfl hw (by decide), if_neg one_ne, if_neg one_ne]
        obtain ⟨M', r1, r2, _, r4⟩ := findRows_eq M (s := 0) (l := l) (N := n) (by omega) hl4 hn (hR.lawB hl4)
        have hR' := hR.core (rowsCore r4)
        have hcI : ∀ k, k ≤ n → cIs M' (tri n + k) (T M l n k) := fun k hk => by
          have := r2 n k (Nat.le_refl _) hk
          rw [Nat.mul_zero, Nat.zero_add] at this
          exact this
        have hL := hR.law hl4
        have hw2 : nI wh = 2 ↔ wh = 2 := nI_eq (b := 2) (by omega) (by decide)
        obtain ⟨k1, k2⟩ := keepsM_loop M' hn hw (T M l n) (fun k => okT hL n k) hcI (n + 1) 0 1000000 (by omega) (by omega)
        have hX : ∃ r : Int32, (if nI wh = 2 then f_X11_shape_42 (nI l) (nI n) (nI wh) 100000000 X else f_X11_shape_42 (nI l) (nI n) (nI wh) 100000000000000000 X) = jbd (some r) (fun r => if r = 0 then some (-2 : Int32) else if nI wh = 0 then jbd (f_X2_greatestPlace (nI n) (xLaw X l)) (fun r => some r) else if nI wh = 1 then jbd (f_X2_breakPlace (nI n) (xLaw X l)) (fun r => some r) else jbd (f_X2_bowedPlace (nI n) (xLaw X l)) (fun r => some r)) ∧ (r = 0 ∨ r = 1) ∧ (r = 1 ↔ ∀ j, 0 ≤ j → j ≤ n → kp (if wh = 2 then 100000000 else 100000000000000000) (T M l n j)) := by
          by_cases h2 : wh = 2
          · rw [if_pos (hw2.mpr h2), if_pos h2, shapeX X hl4]
            obtain ⟨r, q1, q2, q3⟩ := keeps_loop hL hn (m := 100000000) (mi := 100000000) (by decide) (Or.inl rfl) (n + 1) 0 1000000 (by omega) (by omega)
            exact ⟨r, by rw [show f_X2_rowKeepsTo (nI n) 100000000 (xLaw X l) = some r from q1], q2, q3⟩
          · rw [if_neg (fun c => h2 (hw2.mp c)), if_neg h2, shapeX X hl4]
            obtain ⟨r, q1, q2, q3⟩ := keeps_loop hL hn (m := 100000000000000000) (mi := 100000000000000000) (by decide) (Or.inr rfl) (n + 1) 0 1000000 (by omega) (by omega)
            exact ⟨r, by rw [show f_X2_rowKeepsTo (nI n) 100000000000000000 (xLaw X l) = some r from q1], q2, q3⟩
        obtain ⟨r, q1, q2, q3⟩ := hX
        rw [q1, jbd_s, show f_X12_findRows 0 (nI l) (nI n) M = some M' from r1, jbd_s]
        by_cases hr : r = 1
        · subst hr
          rw [if_neg one_ne]
          have hk := q3.mp rfl
          obtain ⟨a, a1, a2⟩ := shape_lock M' n (fun j => E (gV (T M l n j))) (xLaw X l) (fun j hj => by
            rw [num_T hL hn hj]
            obtain ⟨v, hv, _⟩ := kp_ok (hk j (by omega) hj)
            rw [hv]; rfl) hn (fun j hj => (hcI j hj).2) hw
          exact ⟨a, M', a1, (k1 hk).trans a2, hR'⟩
        · have r0 : r = 0 := by rcases q2 with e | e; · exact e
                                · exact absurd e hr
          rw [if_pos r0]
          exact ⟨-2, M', rfl, k2 (fun h => hr (q3.mpr h)), hR'⟩
      · rw [b01_f hbad, if_pos rfl, if_pos rfl]; exact ⟨_, M, rfl, rfl, hR⟩
    · rw [b01_f hbad, if_pos rfl, if_pos rfl]; exact ⟨_, M, rfl, rfl, hR⟩
  · rw [b01_f hbad, if_pos rfl, if_pos rfl]
    exact ⟨_, M, rfl, rfl, hR⟩
