/-! the rows of a triangle, in the class and in the reference -/
def tri (n : Nat) : Nat := n * (n + 1) / 2
theorem tri_s (n : Nat) : tri (n + 1) = tri n + n + 1 := by
  unfold tri
  have h : (n + 1) * (n + 1 + 1) = n * (n + 1) + 2 * (n + 1) := by
    rw [Nat.mul_add (n + 1) (n + 1) 1, Nat.mul_one, Nat.add_mul n 1 (n + 1), Nat.one_mul]; omega
  rw [h, Nat.add_mul_div_left _ _ (by decide : 0 < 2)]
  omega
theorem tri_mono {m n : Nat} (h : m ≤ n) : tri m ≤ tri n := by
  induction h with
  | refl => exact Nat.le_refl _
  | step _ ih => rw [tri_s]; omega
theorem tri_inj {m j n k : Nat} (h1 : j ≤ m) (h2 : k ≤ n) (h : tri m + j = tri n + k) : m = n ∧ j = k := by
  rcases Nat.lt_trichotomy m n with c | c | c
  · have := tri_mono (show m + 1 ≤ n from c); rw [tri_s] at this; omega
  · subst c; exact ⟨rfl, by omega⟩
  · have := tri_mono (show n + 1 ≤ m from c); rw [tri_s] at this; omega
theorem tri24 {n k : Nat} (h : n ≤ 24) (hk : k ≤ n) : tri n + k < 325 := by
  have := tri_mono h; have e : tri 24 = 300 := by decide
  omega
theorem triI : ∀ n, n < 61 → (nI n * (nI n + (1 : Int32))) / (2 : Int32) = nI (tri n) := by decide
theorem okO_sum (x y : Option Int) : okO (tSum x y) := by
  unfold tSum
  split
  · exact okO_lim _
  · exact okO_none
theorem okO_row {a b : Nat → Int} {t : Int} (ht : -9 ≤ t ∧ t ≤ 9) : ∀ n k, okO (tRow a b t n k)
  | 0, k => okO_some (by unfold b17; omega)
  | n + 1, k => okO_sum _ _
theorem isPlace_eq (n k L : Int32) : f_X11_isPlace n k L = some (b01 ((0 ≤ n ∧ n ≤ L) ∧ (0 ≤ k ∧ k ≤ n))) := by
  unfold f_X11_isPlace
  rw [within_eq, jbd_s]
  by_cases h : 0 ≤ n ∧ n ≤ L
  · rw [b01_t h, if_neg one_ne, within_eq, jbd_s]
    by_cases h2 : 0 ≤ k ∧ k ≤ n
    · rw [b01_t h2, if_neg one_ne, b01_t ⟨h, h2⟩]; rfl
    · rw [b01_f h2, if_pos rfl, b01_f (fun e => h2 e.2)]; rfl
  · rw [b01_f h, if_pos rfl, b01_f (fun e => h e.1)]; rfl
theorem pl_in {n k : Nat} (hn : n ≤ 24) (hk : k ≤ n) : (0 ≤ nI n ∧ nI n ≤ 24) ∧ (0 ≤ nI k ∧ nI k ≤ nI n) :=
  ⟨⟨nI_pos' (by omega), nI_le (b := 24) hn (by decide)⟩, ⟨nI_pos' (by omega), nI_le hk (by omega)⟩⟩
theorem triK {n k : Nat} (hn : n ≤ 24) : (nI n * (nI n + (1 : Int32))) / (2 : Int32) + nI k = nI (tri n + k) := by
  rw [triI n (by omega), nI_add]
theorem numAt_eq (w : LawS) {n k : Nat} (hn : n ≤ 24) (hk : k ≤ n) : f_X2_numberAt (nI n) (nI k) w = some (Law_numbers w (tri n + k)) := by
  unfold f_X2_numberAt
  have h := tri24 hn hk
  rw [isPlace_eq, jbd_s, b01_t (pl_in hn hk), if_neg one_ne, triK hn, jgd_n _ h (by decide), nI_clamp (by omega)]
theorem numAt_out (w : LawS) {n k : Int32} (h : ¬ (0 ≤ k ∧ k ≤ n)) : f_X2_numberAt n k w = some 0 := by
  unfold f_X2_numberAt
  rw [isPlace_eq, jbd_s, b01_f (fun e => h e.2), if_pos rfl]
def b9 (x : Int32) : Prop := -9 ≤ x.toInt ∧ x.toInt ≤ 9
theorem mulB {x : Int} {n : Nat} (h1 : -9 ≤ x) (h2 : x ≤ 9) (hn : n ≤ 60) : -540 ≤ x * n ∧ x * n ≤ 540 := by
  have a : x * n ≤ 9 * n := Int.mul_le_mul_of_nonneg_right h2 (by omega)
  have b : -9 * n ≤ x * n := Int.mul_le_mul_of_nonneg_right h1 (by omega)
  omega
theorem mul9 {x : Int32} {n : Nat} (h : b9 x) (hn : n ≤ 60) : (x * nI n).toInt = x.toInt * n := by
  have := mulB h.1 h.2 hn
  rw [Int32.toInt_mul, nI_toInt (by omega), Int.bmod_def]
  omega
theorem co_eq {x y z : Int32} {n k : Nat} (hx : b9 x) (hy : b9 y) (hz : b9 z) (hn : n ≤ 60) (hk : k ≤ 60) : (x + y * nI n + z * nI k).toInt = x.toInt + y.toInt * n + z.toInt * k ∧ -1100 ≤ x.toInt + y.toInt * n + z.toInt * k ∧ x.toInt + y.toInt * n + z.toInt * k ≤ 1100 := by
  have h1 := mulB hy.1 hy.2 hn
  have h2 := mulB hz.1 hz.2 hk
  unfold b9 at hx
  refine ⟨?_, by omega, by omega⟩
  rw [Int32.toInt_add, Int32.toInt_add, mul9 hy hn, mul9 hz hk, Int.bmod_def, Int.bmod_def]
  omega
theorem factor_eq (s : ArrI3S) {n k : Nat} (hs : ∀ i, i < 3 → b9 (s i)) (hn : n ≤ 60) (hk : k ≤ 60) : ∃ c : Int32, f_X2_factor (nI n) (nI k) s = some c ∧ c.toInt = tCo (fun i => (s i).toInt) n k ∧ -1100 ≤ c.toInt ∧ c.toInt ≤ 1100 := by
  obtain ⟨h1, h2, h3⟩ := co_eq (hs 0 (by omega)) (hs 1 (by omega)) (hs 2 (by omega)) hn hk
  exact ⟨_, rfl, h1, by rw [show ((s (Int32.toNatClampNeg 0) + s (Int32.toNatClampNeg 1) * nI n) + s (Int32.toNatClampNeg 2) * nI k).toInt = _ from h1]; exact h2, by rw [show ((s (Int32.toNatClampNeg 0) + s (Int32.toNatClampNeg 1) * nI n) + s (Int32.toNatClampNeg 2) * nI k).toInt = _ from h1]; exact h3⟩
theorem sum2 {x y : Option Int} (hx : okO x) (hy : okO y) : (if (lg_cmp (tEnc x) (-9000000000000000000 : Int64)) = 0 then some (-9000000000000000000 : Int64) else if (lg_cmp (tEnc y) (-9000000000000000000 : Int64)) = 0 then some (-9000000000000000000 : Int64) else jbd (f_X2_limited (tEnc x + tEnc y)) (fun r70 => some r70)) = some (tEnc (tSum x y)) := by
  cases x with
  | none => rw [if_pos ((lg_eq0 _ _).mpr tEnc_none)]; exact congrArg some tEnc_none.symm
  | some p =>
    have hp := hx p rfl
    rw [tEnc_some, if_neg (fun e => E_min hp ((lg_eq0 _ _).mp e))]
    cases y with
    | none => rw [if_pos ((lg_eq0 _ _).mpr tEnc_none)]; exact congrArg some tEnc_none.symm
    | some q =>
      have hq := hy q rfl
      rw [tEnc_some, if_neg (fun e => E_min hq ((lg_eq0 _ _).mp e)), E_add, limited_eq (by unfold b17 at hp hq; unfold sm; omega), jbd_s]
      rfl
theorem made_eq (w : LawS) {n k : Nat} (hn : n + 1 ≤ 24) (hk : k ≤ n + 1) (row : Nat → Option Int) (hr : ∀ j, j ≤ n → okO (row j) ∧ Law_numbers w (tri n + j) = tEnc (row j)) (ha : ∀ i, i < 3 → b9 (Law_left w i)) (hb : ∀ i, i < 3 → b9 (Law_above w i)) :
    f_X2_madeOfAbove (nI (n + 1)) (nI k) w = some (tEnc (tNext (lawA w) (lawB w) (n + 1) row k)) := by
  unfold f_X2_madeOfAbove
  obtain ⟨c, c1, c2, _⟩ := factor_eq (Law_left w) ha (show n + 1 ≤ 60 by omega) (show k ≤ 60 by omega)
  obtain ⟨d, d1, d2, _⟩ := factor_eq (Law_above w) hb (show n + 1 ≤ 60 by omega) (show k ≤ 60 by omega)
  rw [c1, jbd_s, nI_pred]
  have e1 : f_X2_numberAt (nI n) (nI k - (1 : Int32)) w = some (tEnc (if k = 0 then some 0 else row (k - 1))) := by
    by_cases h : k = 0
    · subst h
      rw [if_pos rfl, numAt_out]; · rfl
      · intro e; exact absurd e.1 (by decide)
    · obtain ⟨j, rfl⟩ : ∃ j, k = j + 1 := ⟨k - 1, by omega⟩
      rw [if_neg h, nI_pred, numAt_eq w (by omega) (by omega), (hr j (by omega)).2]; rfl
  have e2 : f_X2_numberAt (nI n) (nI k) w = some (tEnc (if k = n + 1 then some 0 else row k)) := by
    by_cases h : k = n + 1
    · subst h
      rw [if_pos rfl, numAt_out]; · rfl
      · intro e; exact nI_ge (by omega) (by omega) e.2
    · rw [if_neg h, numAt_eq w (by omega) (by omega), (hr k (by omega)).2]
  have o1 : okO (if k = 0 then some 0 else row (k - 1)) := by
    by_cases h : k = 0
    · rw [if_pos h]; exact okO_0
    · rw [if_neg h]; exact (hr (k - 1) (by omega)).1
  have o2 : okO (if k = n + 1 then some 0 else row k) := by
    by_cases h : k = n + 1
    · rw [if_pos h]; exact okO_0
    · rw [if_neg h]; exact (hr k (by omega)).1
  rw [e1, jbd_s, part_eq o1, jbd_s, d1, jbd_s, e2, jbd_s, part_eq o2, jbd_s, c2, d2]
  exact sum2 (okO_part _ _) (okO_part _ _)
/-- what is laid so far -/
def goodX (w : LawS) (f : Nat → Int64) (q : Nat) : Prop := ∀ m j, m ≤ 24 → j ≤ m → tri m + j < q → f (tri m + j) = tEnc (tRow (lawA w) (lawB w) (Law_top w).toInt m j)
theorem goodX_step {w : LawS} {f : Nat → Int64} {n k : Nat} (hk : k ≤ n) (h : goodX w f (tri n + k)) {v : Int64} (hv : v = tEnc (tRow (lawA w) (lawB w) (Law_top w).toInt n k)) : goodX w (vp_updL f (tri n + k) v) (tri n + k + 1) := by
  intro m j hm hj hq
  by_cases e : tri m + j = tri n + k
  · obtain ⟨rfl, rfl⟩ := tri_inj hj hk e
    rw [pk_uLs]; exact hv
  · rw [pk_uLn e]; exact h m j hm hj (by omega)
def wOk (w : LawS) : Prop := (∀ i, i < 3 → b9 (Law_left w i)) ∧ (∀ i, i < 3 → b9 (Law_above w i)) ∧ b9 (Law_top w)
theorem wOk.a {w : LawS} (h : wOk w) : ∀ i, i < 3 → b9 (Law_left w i) := h.1
theorem wOk.b {w : LawS} (h : wOk w) : ∀ i, i < 3 → b9 (Law_above w i) := h.2.1
theorem wOk.t {w : LawS} (h : wOk w) : b9 (Law_top w) := h.2.2
theorem fill_in (w : LawS) (hw : wOk w) (k15 : Int32 → Int32 → LawS → Option LawS) {n : Nat} (hn : n + 1 ≤ 24) : ∀ (d k m : Nat) (f : Nat → Int64), k + d = n + 2 → d < m → goodX w f (tri (n + 1) + k) →
    ∃ f', f_X2_fillNumbers_23 k15 m (nI (tri (n + 1) + k)) (nI (n + 1)) (nI k) (Law_numbers_s w f) = k15 (nI (tri (n + 2))) (nI (n + 2)) (Law_numbers_s w f') ∧ goodX w f' (tri (n + 2)) := by
  intro d
  induction d with
  | zero =>
    intro k m f h1 hm hg
    obtain ⟨m, rfl⟩ : ∃ q, m = q + 1 := ⟨m - 1, by omega⟩
    obtain rfl : k = n + 2 := by omega
    have e : tri (n + 1) + (n + 2) = tri (n + 2) := by rw [tri_s (n + 1)]; omega
    refine ⟨f, ?_, e ▸ hg⟩
    rw [f_X2_fillNumbers_23, if_pos (nI_lt (by omega) (by omega)), e]
    unfold f_X2_fillNumbers_58
    rw [nI_1]
  | succ d ih =>
    intro k m f h1 hm hg
    obtain ⟨m, rfl⟩ : ∃ q, m = q + 1 := ⟨m - 1, by omega⟩
    have hq := tri24 hn (show k ≤ n + 1 by omega)
    have made := made_eq (Law_numbers_s w f) hn (show k ≤ n + 1 by omega) (tRow (lawA w) (lawB w) (Law_top w).toInt n) (fun j hj => ⟨okO_row hw.t n j, hg n j (by omega) hj (by rw [tri_s]; omega)⟩) hw.a hw.b
    obtain ⟨f', g1, g2⟩ := ih (k + 1) m (vp_updL f (tri (n + 1) + k) (tEnc (tRow (lawA w) (lawB w) (Law_top w).toInt (n + 1) k))) (by omega) (by omega) (goodX_step (by omega) hg rfl)
    refine ⟨f', ?_, g2⟩
    rw [f_X2_fillNumbers_23, if_neg (nI_nlt (by omega) (by omega)), if_neg (ge_lit (m := 325) (M := 325) rfl hq (by decide)), made, jbd_s, jgd_n _ hq (by decide), nI_clamp (by omega), nI_1, nI_1]
    exact g1
theorem fill_out (w : LawS) (hw : wOk w) : ∀ (d n m : Nat) (f : Nat → Int64), n + d = 24 → d < m → goodX w f (tri (n + 1)) →
    ∃ f', f_X2_fillNumbers_15 m (nI (tri (n + 1))) (nI (n + 1)) (Law_numbers_s w f) = some (Law_numbers_s w f') ∧ goodX w f' 325 := by
  intro d
  induction d with
  | zero =>
    intro n m f h1 hm hg
    obtain ⟨m, rfl⟩ : ∃ q, m = q + 1 := ⟨m - 1, by omega⟩
    obtain rfl : n = 24 := by omega
    exact ⟨f, by rw [f_X2_fillNumbers_15, if_pos (by decide)], hg⟩
  | succ d ih =>
    intro n m f h1 hm hg
    obtain ⟨m, rfl⟩ : ∃ q, m = q + 1 := ⟨m - 1, by omega⟩
    obtain ⟨f1, a1, a2⟩ := fill_in w hw (f_X2_fillNumbers_15 m) (show n + 1 ≤ 24 by omega) (n + 2) 0 1000000 f (by omega) (by omega) hg
    obtain ⟨f', g1, g2⟩ := ih (n + 1) m f1 (by omega) (by omega) a2
    refine ⟨f', ?_, g2⟩
    rw [f_X2_fillNumbers_15, if_neg (by show ¬ nI 24 < nI (n + 1); exact nI_nlt (by omega) (by decide))]
    exact a1.trans g1
theorem fillNumbers_eq (w : LawS) (hw : wOk w) : ∃ f, f_X2_fillNumbers w = some (Law_numbers_s w f) ∧ ∀ n k, n ≤ 24 → k ≤ n → f (tri n + k) = tEnc (tRow (lawA w) (lawB w) (Law_top w).toInt n k) := by
  have h0 : goodX w (vp_updL (Law_numbers w) (Int32.toNatClampNeg (0 : Int32)) (Int32.toInt64 (Law_top w))) (tri 1) := by
    intro m j hm hj hq
    have e : tri 1 = 1 := by decide
    have : m = 0 := by
      rcases m with _ | m
      · rfl
      · rw [tri_s] at hq; omega
    subst this
    obtain rfl : j = 0 := by omega
    show (Law_top w).toInt64 = _
    rw [E_32]; rfl
  obtain ⟨f, g1, g2⟩ := fill_out w hw 24 0 1000000 _ (by omega) (by omega) h0
  refine ⟨f, ?_, fun n k hn hk => g2 n k hn hk (tri24 hn hk)⟩
  unfold f_X2_fillNumbers
  rw [show (0 : Int32) = nI 0 from rfl, jgd_n _ (by decide) (by decide)]
  exact g1
