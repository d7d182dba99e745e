/-! orders: each of 0 to n - 1 once -/
def perm (n : Nat) (d : Nat → Nat) : Prop := (∀ k, k < n → d k < n) ∧ ∀ v, v < n → ∃ k, k < n ∧ d k = v
def skp (d : Nat → Nat) (k0 : Nat) : Nat → Nat := fun k => if k < k0 then d k else d (k + 1)
theorem skp_at {d : Nat → Nat} {k0 k m : Nat} (hk : k < m) (hne : k ≠ k0) (h0 : k0 < m) : ∃ j, j < m - 1 ∧ skp d k0 j = d k := by
  by_cases h : k < k0
  · exact ⟨k, by omega, if_pos h⟩
  · refine ⟨k - 1, by omega, ?_⟩
    show (if k - 1 < k0 then d (k - 1) else d (k - 1 + 1)) = d k
    rw [if_neg (by omega), show k - 1 + 1 = k by omega]
theorem php : ∀ (n m : Nat) (d : Nat → Nat), (∀ v, v < n → ∃ k, k < m ∧ d k = v) → n ≤ m
  | 0, _, _, _ => Nat.zero_le _
  | n + 1, m, d, h => by
    obtain ⟨k0, h1, h2⟩ := h n (by omega)
    have := php n (m - 1) (skp d k0) (fun v hv => by
      obtain ⟨k, h3, h4⟩ := h v (by omega)
      obtain ⟨j, h5, h6⟩ := skp_at (d := d) h3 (show k ≠ k0 by intro e; subst e; omega) h1
      exact ⟨j, h5, h6.trans h4⟩)
    omega
theorem perm_cover {n : Nat} {d : Nat → Nat} (h : ∀ v, v < n → ∃ k, k < n ∧ d k = v) : perm n d := by
  refine ⟨fun k0 hk0 => ?_, h⟩
  by_cases hc : d k0 < n
  · exact hc
  · have := php n (n - 1) (skp d k0) (fun v hv => by
      obtain ⟨k, h3, h4⟩ := h v hv
      obtain ⟨j, h5, h6⟩ := skp_at (d := d) h3 (show k ≠ k0 by intro e; subst e; omega) hk0
      exact ⟨j, h5, h6.trans h4⟩)
    omega
theorem perm_inj {n : Nat} {d : Nat → Nat} (h : perm n d) {i j : Nat} (hi : i < n) (hj : j < n) (e : d i = d j) : i = j := by
  by_cases hc : i = j
  · exact hc
  · have := php n (n - 1) (skp d i) (fun v hv => by
      obtain ⟨k, h3, h4⟩ := h.2 v hv
      by_cases hk : k = i
      · subst hk
        obtain ⟨q, h5, h6⟩ := skp_at (d := d) hj (show j ≠ k by intro e; exact hc e.symm) hi
        exact ⟨q, h5, h6.trans (e.symm.trans h4)⟩
      · obtain ⟨q, h5, h6⟩ := skp_at (d := d) h3 hk hi
        exact ⟨q, h5, h6.trans h4⟩)
    omega
def mkB (d : Nat → Nat) : Nat → Nat
  | 0 => 0
  | k + 1 => mkB d k ||| 2 ^ d k
theorem mkB_bit (d : Nat → Nat) (i : Nat) : ∀ k, (mkB d k).testBit i = true ↔ ∃ j, j < k ∧ d j = i
  | 0 => by
    show Nat.testBit 0 i = true ↔ _
    rw [Nat.zero_testBit]
    exact ⟨fun e => absurd e (by decide), fun ⟨j, h, _⟩ => by omega⟩
  | k + 1 => by
    show (mkB d k ||| 2 ^ d k).testBit i = true ↔ _
    rw [Nat.testBit_or, Bool.or_eq_true, mkB_bit d i k, Nat.testBit_two_pow, decide_eq_true_eq]
    constructor
    · rintro (⟨j, h1, h2⟩ | h)
      · exact ⟨j, by omega, h2⟩
      · exact ⟨k, by omega, h⟩
    · rintro ⟨j, h1, h2⟩
      by_cases e : j = k
      · subst e; exact Or.inr h2
      · exact Or.inl ⟨j, by omega, h2⟩
theorem mkB_lt {d : Nat → Nat} : ∀ {k : Nat}, (∀ j, j < k → d j < 16) → mkB d k < 2 ^ 16
  | 0, _ => by show (0 : Nat) < 65536; decide
  | k + 1, h => by
    refine Nat.or_lt_two_pow (mkB_lt (fun j hj => h j (by omega))) ?_
    exact Nat.pow_lt_pow_right (by decide) (h k (by omega))
theorem mkB_perm {d : Nat → Nat} {n : Nat} : mkB d n = 2 ^ n - 1 ↔ perm n d := by
  constructor
  · intro e
    have hb : ∀ i, (∃ j, j < n ∧ d j = i) ↔ i < n := fun i => by
      rw [← mkB_bit, e, Nat.testBit_two_pow_sub_one, decide_eq_true_eq]
    exact ⟨fun k hk => (hb (d k)).mp ⟨k, hk, rfl⟩, fun v hv => (hb v).mpr hv⟩
  · intro h
    apply Nat.eq_of_testBit_eq
    intro i
    rw [Nat.testBit_two_pow_sub_one, Bool.eq_iff_iff, mkB_bit, decide_eq_true_eq]
    exact ⟨fun ⟨j, h1, h2⟩ => h2 ▸ h.1 j h1, fun h1 => h.2 i h1⟩
theorem sh1 : ∀ d, d < 16 → (1 : Int32) <<< (nI d &&& 31) = nI (2 ^ d) := by decide
theorem sh1m : ∀ n, n < 9 → ((1 : Int32) <<< (nI n &&& 31)) - (1 : Int32) = nI (2 ^ n - 1) := by decide
theorem isOneX (x : Int32) {n : Nat} (hn : n ≤ 8) : ∃ r, f_X6_isOne (nI n) x = some r ∧ (r = 0 ∨ r = 1) ∧ (r = 1 ↔ UN x < 16 ^ n ∧ perm n (dg x n)) := by
  unfold f_X6_isOne
  rw [aloneX x hn, jbd_s]
  by_cases hu : UN x < 16 ^ n
  · rw [b01_t hu, if_neg one_ne]
    have H : ∀ (d k f : Nat), k + d = n → d < f → f_X6_isOne_15 f (nI n) x (nI (mkB (dg x n) k)) (nI k) = f_X6_isOne_39 (nI n) (nI (mkB (dg x n) n)) := by
      intro d
      induction d with
      | zero =>
        intro k f h1 hf
        obtain ⟨f, rfl⟩ : ∃ x, f = x + 1 := ⟨f - 1, by omega⟩
        obtain rfl : k = n := by omega
        rw [f_X6_isOne_15, if_pos (nI_le (by omega) (by omega))]
      | succ d ih =>
        intro k f h1 hf
        obtain ⟨f, rfl⟩ : ∃ x, f = x + 1 := ⟨f - 1, by omega⟩
        rw [f_X6_isOne_15, if_neg (nI_ge (by omega) (by omega)), digX x hn (by omega), jbd_s, sh1 _ (dg_lt _ _ _), nI_or, nI_1]
        exact ih (k + 1) f (by omega) (by omega)
    have e := H n 0 1000000 (by omega) (by omega)
    rw [show f_X6_isOne_15 jFU (nI n) x 0 0 = _ from e]
    unfold f_X6_isOne_39
    have hl := mkB_lt (d := dg x n) (k := n) (fun j _ => dg_lt x n j)
    have hl2 : 2 ^ n ≤ 2 ^ 8 := Nat.pow_le_pow_right (by decide) hn
    have hq : nI (mkB (dg x n) n) = nI (2 ^ n - 1) ↔ perm n (dg x n) := by
      rw [nI_inj32 (by omega) (by omega)]; exact mkB_perm
    rw [sh1m n (by omega)]
    by_cases hp : perm n (dg x n)
    · rw [if_pos (hq.mpr hp)]; exact ⟨1, rfl, Or.inr rfl, ⟨fun _ => ⟨hu, hp⟩, fun _ => rfl⟩⟩
    · rw [if_neg (fun e => hp (hq.mp e))]; exact ⟨0, rfl, Or.inl rfl, ⟨fun e => absurd e (by decide), fun e => absurd e.2 hp⟩⟩
  · rw [b01_f hu, if_pos rfl]
    exact ⟨0, rfl, Or.inl rfl, ⟨fun e => absurd e (by decide), fun e => absurd e.1 hu⟩⟩
def mkC (n : Nat) (d : Nat → Nat) : Nat → Nat
  | 0 => 0
  | k + 1 => mkC n d k ||| (if d k < n then 2 ^ d k else 0)
theorem mkC_bit (n : Nat) (d : Nat → Nat) (i : Nat) : ∀ k, (mkC n d k).testBit i = true ↔ i < n ∧ ∃ j, j < k ∧ d j = i
  | 0 => by
    show Nat.testBit 0 i = true ↔ _
    rw [Nat.zero_testBit]
    exact ⟨fun e => absurd e (by decide), fun ⟨_, j, h, _⟩ => by omega⟩
  | k + 1 => by
    show (mkC n d k ||| (if d k < n then 2 ^ d k else 0)).testBit i = true ↔ _
    rw [Nat.testBit_or, Bool.or_eq_true, mkC_bit n d i k]
    have e : (if d k < n then 2 ^ d k else 0).testBit i = true ↔ d k = i ∧ i < n := by
      by_cases h : d k < n
      · rw [if_pos h, Nat.testBit_two_pow, decide_eq_true_eq]
        exact ⟨fun e => ⟨e, e ▸ h⟩, fun e => e.1⟩
      · rw [if_neg h, Nat.zero_testBit]
        exact ⟨fun e => absurd e (by decide), fun e => absurd (e.1.symm ▸ e.2) h⟩
    rw [e]
    constructor
    · rintro (⟨h0, j, h1, h2⟩ | h)
      · exact ⟨h0, j, by omega, h2⟩
      · exact ⟨h.2, k, by omega, h.1⟩
    · rintro ⟨h0, j, h1, h2⟩
      by_cases e : j = k
      · subst e; exact Or.inr ⟨h2, h0⟩
      · exact Or.inl ⟨h0, j, by omega, h2⟩
theorem mkC_lt {n : Nat} {d : Nat → Nat} : ∀ {k : Nat}, (∀ j, j < k → d j < 16) → mkC n d k < 2 ^ 16
  | 0, _ => by show (0 : Nat) < 65536; decide
  | k + 1, h => by
    refine Nat.or_lt_two_pow (mkC_lt (fun j hj => h j (by omega))) ?_
    split
    · exact Nat.pow_lt_pow_right (by decide) (h k (by omega))
    · decide
theorem mkC_perm {d : Nat → Nat} {n : Nat} : mkC n d n = 2 ^ n - 1 ↔ perm n d := by
  constructor
  · intro e
    refine perm_cover (fun v hv => ?_)
    have : (mkC n d n).testBit v = true := by rw [e, Nat.testBit_two_pow_sub_one, decide_eq_true_eq]; exact hv
    exact ((mkC_bit n d v n).mp this).2
  · intro h
    apply Nat.eq_of_testBit_eq
    intro i
    rw [Nat.testBit_two_pow_sub_one, Bool.eq_iff_iff, mkC_bit, decide_eq_true_eq]
    exact ⟨fun e => e.1, fun h1 => ⟨h1, h.2 i h1⟩⟩
theorem isOrderM (M : MS) {n : Nat} (hn : n ≤ 8) {d : Nat → Nat} (hd : ∀ k, k < n → M_digit M k = nI (d k) ∧ d k < 16) : ∃ r, f_X12_isOrder (nI n) M = some r ∧ (r = 0 ∨ r = 1) ∧ (r = 1 ↔ perm n d) := by
  unfold f_X12_isOrder
  have H : ∀ (q k f : Nat), k + q = n → q < f → f_X12_isOrder_4 f (nI n) (nI (mkC n d k)) (nI k) M = f_X12_isOrder_40 (nI n) (nI (mkC n d n)) M := by
    intro q
    induction q with
    | zero =>
      intro k f h1 hf
      obtain ⟨f, rfl⟩ : ∃ x, f = x + 1 := ⟨f - 1, by omega⟩
      obtain rfl : k = n := by omega
      rw [f_X12_isOrder_4, if_pos (nI_le (by omega) (by omega))]
    | succ q ih =>
      intro k f h1 hf
      obtain ⟨f, rfl⟩ : ∃ x, f = x + 1 := ⟨f - 1, by omega⟩
      obtain ⟨d1, d2⟩ := hd k (by omega)
      rw [f_X12_isOrder_4, if_neg (nI_ge (by omega) (by omega)), jgd_n _ (by omega) (by decide), jgd_n _ (by omega) (by decide), nI_clamp (by omega), d1, sh1 _ d2]
      have ih' := ih (k + 1) f (by omega) (by omega)
      unfold f_X12_isOrder_32
      rw [nI_1]
      by_cases h : d k < n
      · rw [if_neg (nI_ge h (by omega)), nI_or]
        rw [show mkC n d (k + 1) = mkC n d k ||| 2 ^ d k by show mkC n d k ||| (if d k < n then 2 ^ d k else 0) = _; rw [if_pos h]] at ih'
        exact ih'
      · rw [if_pos (nI_le (by omega) (by omega)), show (0 : Int32) = nI 0 from rfl, nI_or]
        rw [show mkC n d (k + 1) = mkC n d k ||| 0 by show mkC n d k ||| (if d k < n then 2 ^ d k else 0) = _; rw [if_neg h]] at ih'
        exact ih'
  have e := H n 0 1000000 (by omega) (by omega)
  rw [show f_X12_isOrder_4 jFU (nI n) 0 0 M = _ from e]
  unfold f_X12_isOrder_40
  have hl := mkC_lt (n := n) (d := d) (k := n) (fun j hj => (hd j hj).2)
  have hl2 : 2 ^ n ≤ 2 ^ 8 := Nat.pow_le_pow_right (by decide) hn
  have hq : nI (mkC n d n) = nI (2 ^ n - 1) ↔ perm n d := by
    rw [nI_inj32 (by omega) (by omega)]; exact mkC_perm
  rw [sh1m n (by omega)]
  by_cases hp : perm n d
  · rw [if_pos (hq.mpr hp)]; exact ⟨1, rfl, Or.inr rfl, ⟨fun _ => hp, fun _ => rfl⟩⟩
  · rw [if_neg (fun e => hp (hq.mp e))]; exact ⟨0, rfl, Or.inl rfl, ⟨fun e => absurd e (by decide), fun e => absurd e hp⟩⟩
theorem rng8 (x : Int32) : (∃ n : Nat, 1 ≤ n ∧ n ≤ 8 ∧ x = nI n) ∨ ¬ (1 ≤ x ∧ x ≤ 8) := by
  by_cases h : 1 ≤ x ∧ x ≤ 8
  · left
    have e1 : (1 : Int32).toInt = 1 := by decide
    have h1 := h.1
    rw [Int32.le_iff_toInt_le, e1] at h1
    obtain ⟨j, hj, rfl⟩ := nI_of2 (M := 8) (n := 8) (by decide) (fun e => by
      rw [Int32.lt_iff_toInt_lt] at e
      have e0 : (0 : Int32).toInt = 0 := by decide
      rw [e0] at e; omega) h.2
    rw [nI_toInt (by omega)] at h1
    exact ⟨j, by omega, hj, rfl⟩
  · exact Or.inr h
theorem isSizeM (x : Int32) : f_X12_isSize x = some (b01 (1 ≤ x ∧ x ≤ 8)) := by
  unfold f_X12_isSize
  rw [in_eq, jbd_s, b01_z]
  refine congrArg some (b01_iff ?_)
  rw [i64_le, i64_ge, Int32.le_iff_toInt_le, Int32.le_iff_toInt_le]
  exact Iff.rfl
theorem in18 {n : Nat} (h1 : 1 ≤ n) (h8 : n ≤ 8) : (1 : Int32) ≤ nI n ∧ nI n ≤ 8 := ⟨nI_le (a := 1) h1 (by omega), nI_le (b := 8) h8 (by decide)⟩
def isRow (n : Nat) (x : Int32) : Prop := UN x < 16 ^ n ∧ perm n (dg x n)
theorem isOrderX (X : XS) (x : Int32) {n : Nat} (h1 : 1 ≤ n) (hn : n ≤ 8) : ∃ r, f_X11_isOrder (nI n) x X = some r ∧ (r = 0 ∨ r = 1) ∧ (r = 1 ↔ isRow n x) := by
  unfold f_X11_isOrder
  obtain ⟨r, e1, e2, e3⟩ := isOneX x hn
  rw [within_eq, jbd_s, b01_t (in18 h1 hn), if_neg one_ne, e1, jbd_s]
  refine ⟨r, ?_, e2, e3⟩
  rcases e2 with rfl | rfl <;> rfl
theorem isOrderX_no (X : XS) (v x : Int32) (h : ¬ (1 ≤ v ∧ v ≤ 8)) : f_X11_isOrder v x X = some 0 := by
  unfold f_X11_isOrder
  rw [within_eq, jbd_s, b01_f h, if_pos rfl]; rfl
theorem takeM (M : MS) (x : Int32) {n : Nat} (h1 : 1 ≤ n) (hn : n ≤ 8) : ∃ r g, f_X12_takeOrder (nI n) x M = some (r, M_digit_s M g) ∧ (r = 0 ∨ r = 1) ∧ (r = 1 ↔ isRow n x) ∧ ∀ k, k < n → g k = nI (dg x n k) := by
  unfold f_X12_takeOrder
  obtain ⟨r, g, e1, e2, e3, e4⟩ := unpackM M x hn
  rw [isSizeM, jbd_s, b01_t (in18 h1 hn), if_neg one_ne, e1, jbd_s]
  rcases e2 with rfl | rfl
  · rw [if_pos rfl]
    exact ⟨0, g, rfl, Or.inl rfl, ⟨fun e => absurd e (by decide), fun e => e3.mpr e.1⟩, e4⟩
  · rw [if_neg one_ne]
    obtain ⟨r, a1, a2, a3⟩ := isOrderM (M_digit_s M g) hn (d := dg x n) (fun k hk => ⟨e4 k hk, dg_lt x n k⟩)
    rw [a1, jbd_s]
    refine ⟨r, g, ?_, a2, ⟨fun e => ⟨e3.mp rfl, a3.mp e⟩, fun e => a3.mpr e.2⟩, e4⟩
    rcases a2 with rfl | rfl <;> rfl
theorem takeM_no (M : MS) (v x : Int32) (h : ¬ (1 ≤ v ∧ v ≤ 8)) : f_X12_takeOrder v x M = some (0, M) := by
  unfold f_X12_takeOrder
  rw [isSizeM, jbd_s, b01_f h, if_pos rfl]; rfl
/-! the orders' own rows are no part of what is tied -/
theorem Rel.row {X : XS} {M : MS} (h : Rel X M) (f : Nat → Int32) : Rel (X_orders_s X (Orders_row_s (X_orders X) f)) M := h
theorem Rel.src {X : XS} {M : MS} (h : Rel X M) (f : Nat → Int32) : Rel (X_orders_s X (Orders_source_s (X_orders X) f)) M := h
theorem Rel.srow {X : XS} {M : MS} (h : Rel X M) (f g : Nat → Int32) : Rel (X_orders_s X (Orders_row_s (Orders_source_s (X_orders X) f) g)) M := h
theorem dig_core (M : MS) (g : Nat → Int32) : core (M_digit_s M g) = core M := rfl
theorem dig_dig (M : MS) (g h : Nat → Int32) : M_digit_s (M_digit_s M g) h = M_digit_s M h := rfl
theorem dig_get (M : MS) (g : Nat → Int32) : M_digit (M_digit_s M g) = g := rfl
theorem td_digit (M : MS) (g t : Nat → Int32) : M_digit (M_turned_s (M_digit_s M g) t) = g := rfl
theorem td_turned (M : MS) (g t : Nat → Int32) : M_turned (M_turned_s (M_digit_s M g) t) = t := rfl
theorem dt_comm (A : MS) (t h : Nat → Int32) : M_digit_s (M_turned_s A t) h = M_turned_s (M_digit_s A h) t := rfl
theorem tt_set (A : MS) (t h : Nat → Int32) : M_turned_s (M_turned_s A t) h = M_turned_s A h := rfl
theorem td_set (M : MS) (g t h : Nat → Int32) : M_digit_s (M_turned_s (M_digit_s M g) t) h = M_turned_s (M_digit_s M h) t := by rw [dt_comm, dig_dig]
theorem td_core (M : MS) (g t : Nat → Int32) : core (M_turned_s (M_digit_s M g) t) = core M := rfl
theorem dt_digit (M : MS) (g t : Nat → Int32) : M_digit (M_digit_s (M_turned_s M t) g) = g := rfl
theorem dt_turned (M : MS) (g t : Nat → Int32) : M_turned (M_digit_s (M_turned_s M t) g) = t := rfl
