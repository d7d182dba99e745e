/-! rests -/
def J32 (v : Int) : Int32 := Int32.ofInt v
theorem J_add (a b : Int) : J32 a + J32 b = J32 (a + b) := (Int32.ofInt_add a b).symm
theorem J_sub (a b : Int) : J32 a - J32 b = J32 (a - b) := (Int32.ofInt_sub a b).symm
theorem J_mul (a b : Int) : J32 a * J32 b = J32 (a * b) := (Int32.ofInt_mul a b).symm
theorem J_self (x : Int32) : J32 x.toInt = x := Int32.ofInt_toInt x
theorem J_nI (n : Nat) : nI n = J32 n := Int32.ofInt_eq_ofNat.symm
theorem J_toInt {v : Int} (h : -2147483648 ≤ v ∧ v < 2147483648) : (J32 v).toInt = v := Int32.toInt_ofInt_of_le (by omega) (by omega)
theorem J_rem {v : Int} {m : Nat} (hm : 2 ≤ m) (hM : m ≤ 10000) (hv : -2147483648 ≤ v ∧ v < 2147483648) : J32 v - J32 v / nI m * nI m = J32 (v.tmod m) := by
  have hne : nI m ≠ -1 := by
    intro e
    have := congrArg Int32.toInt e
    rw [nI_toInt (by omega)] at this
    have e2 : (-1 : Int32).toInt = -1 := by decide
    rw [e2] at this; omega
  have e1 : J32 v / nI m = J32 (v.tdiv m) := by
    rw [← J_self (J32 v / nI m), Int32.toInt_div_of_ne_right _ _ hne, J_toInt hv, nI_toInt (by omega)]
  rw [e1, J_nI, J_mul, J_sub, Int.tmod_def, Int.mul_comm]
theorem xor_sign (x y : Int32) (hy : 0 ≤ y.toInt) : 0 ≤ (x ^^^ y) ↔ 0 ≤ x.toInt := by
  rw [Int32.le_iff_toInt_le]
  show 0 ≤ (x.toBitVec ^^^ y.toBitVec).toInt ↔ 0 ≤ x.toBitVec.toInt
  have e1 := BitVec.msb_eq_toInt (x := x.toBitVec ^^^ y.toBitVec)
  have e2 := BitVec.msb_eq_toInt (x := x.toBitVec)
  have e3 : y.toBitVec.msb = false := by
    rw [BitVec.msb_eq_toInt]
    exact decide_eq_false (by show ¬ y.toInt < 0; omega)
  rw [BitVec.msb_xor, e3, e2, Bool.xor_false] at e1
  have := decide_eq_decide.mp e1
  omega
theorem fmod_eq {v : Int} {m : Nat} (hm : 2 ≤ m) (hM : m ≤ 10000) (hv : -2147483648 ≤ v ∧ v < 2147483648) : f_J9_floorMod_7cf53 (J32 v) (nI m) = some (J32 (v % m)) := by
  unfold f_J9_floorMod_7cf53 jnz
  rw [if_neg (nI_ne0 (by omega) (by omega)), J_rem hm hM hv]
  have hx := xor_sign (J32 v) (nI m) (by rw [nI_toInt (by omega)]; omega)
  rw [J_toInt hv] at hx
  have h1 := Int.tmod_lt_of_pos v (show (0 : Int) < m by omega)
  have h2 := Int.lt_tmod_of_pos v (show (0 : Int) < m by omega)
  have key : v.tmod m % m = v % m := by rw [Int.tmod_def, Int.sub_mul_emod_self_left]
  by_cases h : 0 ≤ v
  · rw [if_pos (hx.mpr h), Int.tmod_eq_emod_of_nonneg h]
  · rw [if_neg (fun e => h (hx.mp e))]
    have hz : J32 (v.tmod m) = 0 ↔ v.tmod m = 0 := by
      rw [i32_0, J_toInt (by omega)]
    have h3 : v.tmod m ≤ 0 := by
      have := Int.tmod_nonneg (m : Int) (show 0 ≤ -v by omega)
      rw [Int.neg_tmod] at this
      omega
    by_cases h0 : v.tmod m = 0
    · rw [if_pos (hz.mpr h0), h0, ← key, h0]; rfl
    · rw [if_neg (fun e => h0 (hz.mp e)), J_nI, J_add, ← key]
      have : v.tmod m % m = v.tmod m + m := by
        rw [← Int.add_emod_right]
        exact Int.emod_eq_of_lt (by omega) (by omega)
      rw [this]
def rR (a b : Nat → Int) (t : Int) (m : Nat) : Nat → Nat → Int
  | 0, k => if k = 0 then t % m else 0
  | n + 1, k => ((if k = 0 then 0 else tCo a (n + 1) k * rR a b t m n (k - 1)) + tCo b (n + 1) k * rR a b t m n k) % m
theorem rR_r {a b : Nat → Int} {t : Int} {m : Nat} (hm : 2 ≤ m) : ∀ n k, 0 ≤ rR a b t m n k ∧ rR a b t m n k < m := by
  intro n k
  cases n with
  | zero =>
    unfold rR
    split
    · exact ⟨Int.emod_nonneg _ (by omega), Int.emod_lt_of_pos _ (by omega)⟩
    · omega
  | succ n => exact ⟨Int.emod_nonneg _ (by omega), Int.emod_lt_of_pos _ (by omega)⟩
theorem rR_out {a b : Nat → Int} {t : Int} {m : Nat} : ∀ n k, n < k → rR a b t m n k = 0 := by
  intro n
  induction n with
  | zero => intro k hk; unfold rR; rw [if_neg (by omega)]
  | succ n ih =>
    intro k hk
    show ((if k = 0 then 0 else tCo a (n + 1) k * rR a b t m n (k - 1)) + tCo b (n + 1) k * rR a b t m n k) % m = 0
    rw [if_neg (by omega), ih (k - 1) (by omega), ih k (by omega), Int.mul_zero, Int.mul_zero]
    exact Int.zero_emod _
theorem mulR {c R : Int} {m : Nat} (hc : -1100 ≤ c ∧ c ≤ 1100) (hM : m ≤ 10000) (hR : 0 ≤ R ∧ R < m) : -11000000 ≤ c * R ∧ c * R ≤ 11000000 := by
  have h1 : c * R ≤ 1100 * R := Int.mul_le_mul_of_nonneg_right hc.2 hR.1
  have h2 : -1100 * R ≤ c * R := Int.mul_le_mul_of_nonneg_right hc.1 hR.1
  omega
section
variable (k42 : Int32 → Int32 → Int32 → Int32 → LawS → Option (Int32 × LawS)) (w : LawS) {m n k : Nat}
theorem rest56 (hw : wOk w) (hm : 2 ≤ m) (hM : m ≤ 10000) (hn : n ≤ 60) (hk : k ≤ n) {r : Nat} (hr : r + 1 ≤ n) : ∀ (j f : Nat) (g : Nat → Int32), j ≤ r + 1 → j ≤ k → j < f → (∀ i, i ≤ k → g i = J32 (rR (lawA w) (lawB w) (Law_top w).toInt m (if j < i then r + 1 else r) i)) →
    ∃ g', f_X2_restAt_56 k42 f (nI n) (nI k) (nI m) (nI (r + 1)) (nI j) (Law_rests_s w g) = k42 (nI n) (nI k) (nI m) (nI (r + 2)) (Law_rests_s w g') ∧ ∀ i, i ≤ k → g' i = J32 (rR (lawA w) (lawB w) (Law_top w).toInt m (r + 1) i) := by
  intro j
  induction j with
  | zero =>
    intro f g h1 h2 hf hg
    obtain ⟨f, rfl⟩ : ∃ q, f = q + 1 := ⟨f - 1, by omega⟩
    obtain ⟨d, d1, d2, d3⟩ := factor_eq (Law_above w) hw.b (show r + 1 ≤ 60 by omega) (show 0 ≤ 60 by omega)
    have g0 := hg 0 (by omega)
    rw [if_neg (by omega)] at g0
    have hR := rR_r (a := lawA w) (b := lawB w) (t := (Law_top w).toInt) hm r 0
    have hB := mulR d3 hM hR
    refine ⟨upd g 0 (J32 (rR (lawA w) (lawB w) (Law_top w).toInt m (r + 1) 0)), ?_, fun i hi => ?_⟩
    · rw [f_X2_restAt_56, if_pos (show nI 0 ≤ 0 by decide)]
      unfold f_X2_restAt_123
      rw [show (0 : Int32) = nI 0 from rfl, show Law_above (Law_rests_s w g) = Law_above w from rfl, d1, jbd_s, jgd_n _ (by decide) (by decide), nI_clamp (by decide), show Law_rests (Law_rests_s w g) = g from rfl, g0, ← J_self d, J_mul, fmod_eq hm hM (by omega), jbd_s, jgd_n _ (by decide) (by decide), nI_1]
      rw [d2]
      have e : (tCo (fun i => (Law_above w i).toInt) (r + 1) 0 * rR (lawA w) (lawB w) (Law_top w).toInt m r 0) % m = rR (lawA w) (lawB w) (Law_top w).toInt m (r + 1) 0 := by
        show _ = ((if 0 = 0 then 0 else _) + tCo (lawB w) (r + 1) 0 * rR (lawA w) (lawB w) (Law_top w).toInt m r 0) % m
        rw [if_pos rfl, Int.zero_add]; rfl
      rw [e]
      rfl
    · by_cases h : i = 0
      · subst h; exact pk_us
      · rw [pk_un h, hg i hi, if_pos (by omega)]
  | succ j ih =>
    intro f g h1 h2 hf hg
    obtain ⟨f, rfl⟩ : ∃ q, f = q + 1 := ⟨f - 1, by omega⟩
    obtain ⟨c, c1, c2, c3⟩ := factor_eq (Law_left w) hw.a (show r + 1 ≤ 60 by omega) (show j + 1 ≤ 60 by omega)
    obtain ⟨d, d1, d2, d3⟩ := factor_eq (Law_above w) hw.b (show r + 1 ≤ 60 by omega) (show j + 1 ≤ 60 by omega)
    have g0 := hg j (by omega)
    have g1 := hg (j + 1) (by omega)
    rw [if_neg (by omega)] at g0 g1
    have hB0 := mulR c3 hM (rR_r (a := lawA w) (b := lawB w) (t := (Law_top w).toInt) hm r j)
    have hB1 := mulR d3 hM (rR_r (a := lawA w) (b := lawB w) (t := (Law_top w).toInt) hm r (j + 1))
    obtain ⟨g', e1, e2⟩ := ih f (upd g (j + 1) (J32 (rR (lawA w) (lawB w) (Law_top w).toInt m (r + 1) (j + 1)))) (by omega) (by omega) (by omega) (fun i hi => by
      by_cases h : i = j + 1
      · subst h; rw [pk_us, if_pos (by omega)]
      · rw [pk_un h, hg i hi]
        by_cases h3 : j < i
        · rw [if_pos h3, if_pos (by omega)]
        · rw [if_neg h3, if_neg (by omega)])
    refine ⟨g', ?_, e2⟩
    rw [f_X2_restAt_56, if_neg (nI_nle (by omega) (by omega)), show Law_left (Law_rests_s w g) = Law_left w from rfl, show Law_above (Law_rests_s w g) = Law_above w from rfl, c1, jbd_s, nI_pred, jgd_n _ (by omega) (by decide), d1, jbd_s, jgd_n _ (by omega) (by decide), nI_clamp (by omega), nI_clamp (by omega), show Law_rests (Law_rests_s w g) = g from rfl, g0, g1, ← J_self c, ← J_self d, J_mul, J_mul, J_add, fmod_eq hm hM (by omega), jbd_s, jgd_n _ (by omega) (by decide), pk_m1, c2, d2]
    have e : (tCo (fun i => (Law_left w i).toInt) (r + 1) (j + 1) * rR (lawA w) (lawB w) (Law_top w).toInt m r j + tCo (fun i => (Law_above w i).toInt) (r + 1) (j + 1) * rR (lawA w) (lawB w) (Law_top w).toInt m r (j + 1)) % m = rR (lawA w) (lawB w) (Law_top w).toInt m (r + 1) (j + 1) := by
      show _ = ((if j + 1 = 0 then 0 else tCo (lawA w) (r + 1) (j + 1) * rR (lawA w) (lawB w) (Law_top w).toInt m r (j + 1 - 1)) + tCo (lawB w) (r + 1) (j + 1) * rR (lawA w) (lawB w) (Law_top w).toInt m r (j + 1)) % m
      rw [if_neg (by omega), Nat.add_sub_cancel]; rfl
    rw [e]
    exact e1
end
theorem min32 {a b : Nat} (ha : a < 2 ^ 31) (hb : b < 2 ^ 31) : f_J9_min_7cf53 (nI a) (nI b) = some (nI (min a b)) := by
  unfold f_J9_min_7cf53
  by_cases h : b < a
  · rw [if_pos (nI_lt h ha), Nat.min_eq_right (by omega)]
  · rw [if_neg (nI_nlt (by omega) (by omega)), Nat.min_eq_left (by omega)]
theorem max32 {a b : Nat} (ha : a < 2 ^ 31) (hb : b < 2 ^ 31) : f_J9_max_7cf53 (nI a) (nI b) = some (nI (max a b)) := by
  unfold f_J9_max_7cf53
  by_cases h : a < b
  · rw [if_pos (nI_lt h hb), Nat.max_eq_right (by omega)]
  · rw [if_neg (nI_nlt (by omega) (by omega)), Nat.max_eq_left (by omega)]
theorem rest42 (w : LawS) (hw : wOk w) {m n k : Nat} (hm : 2 ≤ m) (hM : m ≤ 10000) (hn : n ≤ 60) (hk : k ≤ n) : ∀ (d r f : Nat) (g : Nat → Int32), r + d = n → d < f → (∀ i, i ≤ k → g i = J32 (rR (lawA w) (lawB w) (Law_top w).toInt m r i)) →
    ∃ g', f_X2_restAt_42 f (nI n) (nI k) (nI m) (nI (r + 1)) (Law_rests_s w g) = some (J32 (rR (lawA w) (lawB w) (Law_top w).toInt m n k), Law_rests_s w g') := by
  intro d
  induction d with
  | zero =>
    intro r f g h1 hf hg
    obtain ⟨f, rfl⟩ : ∃ q, f = q + 1 := ⟨f - 1, by omega⟩
    obtain rfl : r = n := by omega
    refine ⟨g, ?_⟩
    rw [f_X2_restAt_42, if_pos (nI_lt (by omega) (by omega))]
    unfold f_X2_restAt_156
    rw [jgd_n _ (by omega) (by decide), nI_clamp (by omega), ← hg k (Nat.le_refl _)]; rfl
  | succ d ih =>
    intro r f g h1 hf hg
    obtain ⟨f, rfl⟩ : ∃ q, f = q + 1 := ⟨f - 1, by omega⟩
    obtain ⟨g1, e1, e2⟩ := rest56 (f_X2_restAt_42 f) w hw hm hM hn hk (show r + 1 ≤ n by omega) (min (r + 1) k) 1000000 g (by omega) (by omega) (by omega) (fun i hi => by
      rw [hg i hi]
      by_cases h : min (r + 1) k < i
      · rw [if_pos h, rR_out r i (by omega), rR_out (r + 1) i (by omega)]
      · rw [if_neg h])
    obtain ⟨g', e3⟩ := ih (r + 1) f g1 (by omega) (by omega) e2
    refine ⟨g', ?_⟩
    rw [f_X2_restAt_42, if_neg (nI_nlt (by omega) (by omega)), min32 (by omega) (by omega), jbd_s]
    exact e1.trans e3
theorem fill61_eq (v : Int32) (s : ArrI61S) : ∃ s' : ArrI61S, f_J7_fill_53178_n61 v s = some s' ∧ ∀ k, k < 61 → s' k = v := by
  have H : ∀ (d i f : Nat) (s : ArrI61S), i + d = 61 → d < f → (∀ k, k < i → s k = v) → ∃ s' : ArrI61S, f_J7_fill_53178_n61_5 f v (nI i) (61 : Int32) s = some s' ∧ ∀ k, k < 61 → s' k = v := by
    intro d
    induction d with
    | zero =>
      intro i f s h1 hf hs
      obtain ⟨f, rfl⟩ : ∃ q, f = q + 1 := ⟨f - 1, by omega⟩
      obtain rfl : i = 61 := by omega
      exact ⟨s, by rw [f_J7_fill_53178_n61_5, if_pos (by decide)], hs⟩
    | succ d ih =>
      intro i f s h1 hf hs
      obtain ⟨f, rfl⟩ : ∃ q, f = q + 1 := ⟨f - 1, by omega⟩
      obtain ⟨s', e1, e2⟩ := ih (i + 1) f (upd s i v) (by omega) (by omega) (fun k hk => by
        by_cases h : k = i
        · subst h; exact pk_us
        · rw [pk_un h]; exact hs k (by omega))
      refine ⟨s', ?_, e2⟩
      rw [f_J7_fill_53178_n61_5, if_neg (ge_lit (m := 61) (M := 61) rfl (show i < 61 by omega) (by decide)), jgd_n _ (by omega) (by decide), nI_clamp (by omega), nI_1]
      exact e1
  exact H 61 0 1000000 s (by omega) (by omega) (fun k hk => by omega)
theorem restAt_eq (w : LawS) (hw : wOk w) {m n k : Nat} (hm : 2 ≤ m) (hM : m ≤ 10000) (hn : n ≤ 60) (hk : k ≤ n) : ∃ g, f_X2_restAt (nI n) (nI k) (nI m) w = some (J32 (rR (lawA w) (lawB w) (Law_top w).toInt m n k), Law_rests_s w g) := by
  unfold f_X2_restAt
  obtain ⟨s, s1, s2⟩ := fill61_eq 0 (Law_rests w)
  have ht : b9 (Law_top w) := hw.t
  unfold b9 at ht
  obtain ⟨g, e⟩ := rest42 w hw hm hM hn hk n 0 1000000 (upd s 0 (J32 ((Law_top w).toInt % m))) (by omega) (by omega) (fun i hi => by
    unfold rR
    by_cases h : i = 0
    · subst h; rw [pk_us, if_pos rfl]
    · rw [pk_un h, if_neg h, s2 i (by omega)]; rfl)
  refine ⟨g, ?_⟩
  rw [if_neg (show ¬ nI m < (1 : Int32) from nI_nlt (b := 1) (by omega) (by omega)), isPlace_eq, jbd_s, b01_t ⟨⟨nI_pos' (by omega), nI_le (b := 60) hn (by decide)⟩, ⟨nI_pos' (by omega), nI_le hk (by omega)⟩⟩, if_neg one_ne, s1, jbd_s, show Law_top (Law_rests_s w s) = Law_top w from rfl]
  have f0 := fmod_eq hm hM (v := (Law_top w).toInt) (by omega)
  rw [J_self] at f0
  rw [f0, jbd_s, show (0 : Int32) = nI 0 from rfl, jgd_n _ (by decide) (by decide)]
  exact e
