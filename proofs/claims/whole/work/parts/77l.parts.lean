/-! parts of a row -/
theorem pt_le {x : Nat → Nat} {n : Nat} (h : val x n) : ∀ k, k ≤ n → pt x k ≤ k
  | 0, _ => Nat.le_refl _
  | k + 1, hk => by
    have h1 := pt_le h k (by omega)
    have h2 := h k (by omega)
    show max (pt x k) (x k + 1) ≤ k + 1
    omega
theorem val_s {x : Nat → Nat} {k : Nat} (h : val x k) (h2 : x k ≤ pt x k) : val x (k + 1) := by
  intro i hi
  by_cases e : i = k
  · subst e; exact h2
  · exact h i (by omega)
theorem pm20f (M : MS) {n : Nat} (hn : n ≤ 8) : ∀ (d k f : Nat) (v2 : Int32), k + d = n → d < f → f_X12_partsOf_20 f (nI n) v2 0 (nI k) M = some 0 := by
  intro d
  induction d with
  | zero =>
    intro k f v2 h1 hf
    obtain ⟨f, rfl⟩ : ∃ x, f = x + 1 := ⟨f - 1, by omega⟩
    rw [f_X12_partsOf_20, if_pos (nI_le (by omega) (by omega))]; rfl
  | succ d ih =>
    intro k f v2 h1 hf
    obtain ⟨f, rfl⟩ : ∃ x, f = x + 1 := ⟨f - 1, by omega⟩
    rw [f_X12_partsOf_20, if_neg (nI_ge (by omega) (by omega)), if_pos rfl]
    unfold f_X12_partsOf_47 f_X12_partsOf_48 f_X12_partsOf_71
    rw [jgd_n _ (by omega) (by decide), jgd_n _ (by omega) (by decide), nI_1, ih (k + 1) f _ (by omega) (by omega), ih (k + 1) f _ (by omega) (by omega)]
    split <;> rfl
def pvI (x : Nat → Nat) (n r : Nat) : Prop := (val x n ∧ r = pt x n) ∨ (¬ val x n ∧ r = 0)
theorem pm20 (M : MS) {n : Nat} (hn : n ≤ 8) {g : Nat → Int32} {x : Nat → Nat} (hg : rep n g x) : ∀ (d k f : Nat), k + 1 + d = n → d < f → val x (k + 1) → ∃ r, f_X12_partsOf_20 f (nI n) (nI (mxN x (k + 1))) 1 (nI (k + 1)) (M_digit_s M g) = some (nI r) ∧ pvI x n r := by
  intro d
  induction d with
  | zero =>
    intro k f h1 hf hv
    obtain ⟨f, rfl⟩ : ∃ x, f = x + 1 := ⟨f - 1, by omega⟩
    obtain rfl : k + 1 = n := by omega
    refine ⟨pt x (k + 1), ?_, Or.inl ⟨hv, rfl⟩⟩
    rw [f_X12_partsOf_20, if_pos (nI_le (by omega) (by omega))]
    unfold f_X12_partsOf_78
    rw [if_neg one_ne, nI_1, mx_pt]
  | succ d ih =>
    intro k f h1 hf hv
    obtain ⟨f, rfl⟩ : ∃ x, f = x + 1 := ⟨f - 1, by omega⟩
    obtain ⟨g1, g2⟩ := hg (k + 1) (by omega)
    have hm := mxN_lt (x := x) (k := k + 1) (fun i hi => (hg i (by omega)).2)
    have hmp := mx_pt x k
    rw [f_X12_partsOf_20, if_neg (nI_ge (by omega) (by omega)), if_neg one_ne, jgd_n _ (by omega) (by decide), nI_clamp (by omega), dig_get, g1, nI_1]
    unfold f_X12_partsOf_47 f_X12_partsOf_48 f_X12_partsOf_71
    rw [jgd_n _ (by omega) (by decide), jgd_n _ (by omega) (by decide), jgd_n _ (by omega) (by decide), nI_clamp (by omega), dig_get, g1, nI_1]
    by_cases h : x (k + 1) ≤ pt x (k + 1)
    · rw [if_neg (nI_nlt (by omega) (by omega))]
      obtain ⟨r, r1, r2⟩ := ih (k + 1) f (by omega) (by omega) (val_s hv h)
      refine ⟨r, ?_, r2⟩
      by_cases h3 : x (k + 1) ≤ mxN x (k + 1)
      · rw [if_pos (nI_le h3 (by omega))]
        rw [show mxN x (k + 1 + 1) = mxN x (k + 1) by show max (mxN x (k + 1)) (x (k + 1)) = _; omega] at r1
        exact r1
      · rw [if_neg (nI_ge (by omega) (by omega)), jgd_n _ (by omega) (by decide)]
        rw [show mxN x (k + 1 + 1) = x (k + 1) by show max (mxN x (k + 1)) (x (k + 1)) = _; omega] at r1
        exact r1
    · rw [if_pos (nI_lt (by omega) (by omega)), pm20f _ hn d (k + 1 + 1) f _ (by omega) (by omega), pm20f _ hn d (k + 1 + 1) f _ (by omega) (by omega)]
      exact ⟨0, by split <;> rfl, Or.inr ⟨fun hv2 => h (hv2 (k + 1) (by omega)), rfl⟩⟩
theorem partsM (M : MS) {n : Nat} (h1 : 1 ≤ n) (hn : n ≤ 8) {g : Nat → Int32} {x : Nat → Nat} (hg : rep n g x) : ∃ r, f_X12_partsOf (nI n) (M_digit_s M g) = some (nI r) ∧ pvI x n r := by
  unfold f_X12_partsOf f_X12_partsOf_16
  obtain ⟨g1, g2⟩ := hg 0 (by omega)
  have h0 : nI (x 0) = 0 ↔ x 0 = 0 := nI_eq (b := 0) (by omega) (by decide)
  rw [show (0 : Int32) = nI 0 from rfl, jgd_n _ (by decide) (by decide), nI_clamp (by decide), dig_get, g1, show nI 0 = (0 : Int32) from rfl]
  by_cases h : x 0 = 0
  · rw [if_pos (h0.mpr h)]
    obtain ⟨r, r1, r2⟩ := pm20 M hn hg (n - 1) 0 1000000 (by omega) (by omega) (fun k hk => by
      obtain rfl : k = 0 := by omega
      rw [h]; exact Nat.zero_le _)
    rw [show mxN x (0 + 1) = 0 by show max 0 (x 0) = 0; omega] at r1
    exact ⟨r, r1, r2⟩
  · rw [if_neg (fun e => h (h0.mp e))]
    refine ⟨0, pm20f _ hn (n - 1) 1 jFU 0 (by omega) (by unfold jFU; omega), Or.inr ⟨fun hv => ?_, rfl⟩⟩
    have : x 0 ≤ 0 := hv 0 (by omega)
    omega
theorem px15 (row : Int32) {n : Nat} (hn : n ≤ 8) : ∀ (d k f : Nat), k + d = n → d < f → val (dg row n) k → ∃ r, f_X7_partsOf_15 f (nI n) row (nI (pt (dg row n) k)) (nI k) = some (nI r) ∧ pvI (dg row n) n r := by
  intro d
  induction d with
  | zero =>
    intro k f h1 hf hv
    obtain ⟨f, rfl⟩ : ∃ x, f = x + 1 := ⟨f - 1, by omega⟩
    obtain rfl : k = n := by omega
    exact ⟨pt (dg row k) k, by rw [f_X7_partsOf_15, if_pos (nI_le (by omega) (by omega))], Or.inl ⟨hv, rfl⟩⟩
  | succ d ih =>
    intro k f h1 hf hv
    obtain ⟨f, rfl⟩ : ∃ x, f = x + 1 := ⟨f - 1, by omega⟩
    have hp := pt_le hv k (Nat.le_refl _)
    have hl := dg_lt row n k
    rw [f_X7_partsOf_15, if_neg (nI_ge (by omega) (by omega)), digX row hn (by omega), jbd_s, nI_1]
    by_cases h : dg row n k ≤ pt (dg row n) k
    · rw [if_pos (nI_le h (by omega)), max32 (by omega) (by omega), jbd_s, nI_1]
      exact ih (k + 1) f (by omega) (by omega) (val_s hv h)
    · rw [if_neg (nI_ge (by omega) (by omega))]
      exact ⟨0, rfl, Or.inr ⟨fun hv2 => h (hv2 k (by omega)), rfl⟩⟩
theorem partsX (row : Int32) {n : Nat} (hn : n ≤ 8) : ∃ r, f_X7_partsOf (nI n) row = some (nI r) ∧ ((UN row < 16 ^ n ∧ pvI (dg row n) n r) ∨ (¬ UN row < 16 ^ n ∧ r = 0)) := by
  unfold f_X7_partsOf
  rw [aloneX row hn, jbd_s]
  by_cases hu : UN row < 16 ^ n
  · rw [b01_t hu, if_neg one_ne]
    obtain ⟨r, r1, r2⟩ := px15 row hn n 0 1000000 (by omega) (by omega) (fun k hk => by omega)
    exact ⟨r, r1, Or.inl ⟨hu, r2⟩⟩
  · rw [b01_f hu, if_pos rfl]
    exact ⟨0, rfl, Or.inr ⟨hu, rfl⟩⟩
/-! the class's table -/
theorem ix81 (l m : Nat) : nI l * (9 : Int32) + nI m = nI (l * 9 + m) := by
  rw [show (9 : Int32) = nI 9 from rfl, pk_mul, nI_add]
def tabP (k : Nat) (g : Nat → Int32) (q : Nat) : Prop := ∀ l m, l ≤ 8 → m ≤ 8 → l * 9 + m < q → g (l * 9 + m) = nI (Wk k l m)
theorem ways_in (g : Nat → Int32) {l m : Nat} (hl : l ≤ 8) (hm : m ≤ 8) : f_X7_waysFrom (nI l) (nI m) g = some (g (l * 9 + m)) := by
  unfold f_X7_waysFrom
  rw [within_eq, jbd_s, b01_in (m := 8) (M := 8) rfl hl (by decide), if_neg one_ne, within_eq, jbd_s, b01_in (m := 8) (M := 8) rfl hm (by decide), if_neg one_ne, ix81, jgd_n _ (by omega) (by decide), nI_clamp (by omega)]
theorem ways_9 (g : Nat → Int32) {l : Nat} (hl : l ≤ 8) : f_X7_waysFrom (nI l) (nI 9) g = some 0 := by
  unfold f_X7_waysFrom
  rw [within_eq, jbd_s, b01_in (m := 8) (M := 8) rfl hl (by decide), if_neg one_ne, within_eq, jbd_s, b01_f (by decide), if_pos rfl]
theorem ways_tab {k : Nat} (hk : k ≤ 8) {g : Nat → Int32} {q : Nat} (hg : tabP k g q) {l m : Nat} (hl : l ≤ 8) (hm : m ≤ 9) (hq : l * 9 + 8 < q) : f_X7_waysFrom (nI l) (nI m) g = some (nI (Wk k l m)) := by
  by_cases h : m ≤ 8
  · rw [ways_in g hl h, hg l m hl h (by omega)]
  · obtain rfl : m = 9 := by omega
    rw [ways_9 g hl, Wk_out l 9 (by omega)]; rfl
theorem want40 (k32 : Int32 → PartingsS → Option PartingsS) {k : Nat} (hk : k ≤ 8) {l : Nat} (hl : l + 1 ≤ 8) : ∀ (d m f : Nat) (g : Nat → Int32), m + d = 9 → d < f → tabP k g ((l + 1) * 9 + m) → ∃ g', f_X7_want_40 k32 f (nI (l + 1)) (nI m) g = k32 (nI (l + 2)) g' ∧ tabP k g' ((l + 2) * 9) := by
  intro d
  induction d with
  | zero =>
    intro m f g h1 hf hg
    obtain ⟨f, rfl⟩ : ∃ x, f = x + 1 := ⟨f - 1, by omega⟩
    obtain rfl : m = 9 := by omega
    refine ⟨g, ?_, fun a b ha hb hq => hg a b ha hb (by omega)⟩
    rw [f_X7_want_40, if_pos (by decide)]
    unfold f_X7_want_84
    rw [nI_1]
  | succ d ih =>
    intro m f g h1 hf hg
    obtain ⟨f, rfl⟩ : ∃ x, f = x + 1 := ⟨f - 1, by omega⟩
    obtain ⟨g', e1, e2⟩ := ih (m + 1) f (upd g ((l + 1) * 9 + m) (nI (Wk k (l + 1) m))) (by omega) (by omega) (fun a b ha hb hq => by
      by_cases e : a * 9 + b = (l + 1) * 9 + m
      · obtain ⟨rfl, rfl⟩ : a = l + 1 ∧ b = m := by omega
        exact pk_us
      · rw [pk_un e]; exact hg a b ha hb (by omega))
    refine ⟨g', ?_, e2⟩
    rw [f_X7_want_40, if_neg (ge_lit (m := 9) (M := 9) rfl (show m < 9 by omega) (by decide)), nI_pred, nI_1, ways_tab hk hg (by omega) (by omega) (by omega), jbd_s, ways_tab hk hg (by omega) (by omega) (by omega), jbd_s, ix81, jgd_n _ (by omega) (by decide), nI_clamp (by omega), pk_mul, nI_add]
    exact e1
theorem want32 {k : Nat} (hk : k ≤ 8) : ∀ (d l f : Nat) (g : Nat → Int32), l + d = 8 → d < f → tabP k g ((l + 1) * 9) → ∃ g', f_X7_want_32 f (nI (l + 1)) g = some g' ∧ tabP k g' 81 := by
  intro d
  induction d with
  | zero =>
    intro l f g h1 hf hg
    obtain ⟨f, rfl⟩ : ∃ x, f = x + 1 := ⟨f - 1, by omega⟩
    obtain rfl : l = 8 := by omega
    exact ⟨g, by rw [f_X7_want_32, if_pos (by decide)], hg⟩
  | succ d ih =>
    intro l f g h1 hf hg
    obtain ⟨f, rfl⟩ : ∃ x, f = x + 1 := ⟨f - 1, by omega⟩
    obtain ⟨g1, a1, a2⟩ := want40 (f_X7_want_32 f) hk (show l + 1 ≤ 8 by omega) 9 0 1000000 g (by omega) (by omega) hg
    obtain ⟨g', b1, b2⟩ := ih (l + 1) f g1 (by omega) (by omega) a2
    refine ⟨g', ?_, b2⟩
    rw [f_X7_want_32, if_neg (ge_lit (m := 9) (M := 9) rfl (show l + 1 < 9 by omega) (by decide))]
    exact (show _ = _ from a1).trans b1
theorem want_eq {k : Nat} (hk : k ≤ 8) (g0 : Nat → Int32) : ∃ g, f_X7_want (nI k) g0 = some g ∧ tabP k g 81 := by
  have H : ∀ (d m f : Nat) (g : Nat → Int32), m + d = 9 → d < f → tabP k g m → ∃ g', f_X7_want_2 f (nI k) (nI m) g = some g' ∧ tabP k g' 81 := by
    intro d
    induction d with
    | zero =>
      intro m f g h1 hf hg
      obtain ⟨f, rfl⟩ : ∃ x, f = x + 1 := ⟨f - 1, by omega⟩
      obtain rfl : m = 9 := by omega
      obtain ⟨g', b1, b2⟩ := want32 hk 8 0 1000000 g (by omega) (by omega) hg
      exact ⟨g', by rw [f_X7_want_2, if_pos (by decide)]; exact b1, b2⟩
    | succ d ih =>
      intro m f g h1 hf hg
      obtain ⟨f, rfl⟩ : ∃ x, f = x + 1 := ⟨f - 1, by omega⟩
      have hmk : nI m = nI k ↔ m = k := nI_eq (by omega) (by omega)
      obtain ⟨g', e1, e2⟩ := ih (m + 1) f (upd g m (nI (Wk k 0 m))) (by omega) (by omega) (fun a b ha hb hq => by
        by_cases e : a * 9 + b = m
        · obtain ⟨rfl, rfl⟩ : a = 0 ∧ b = m := by omega
          rw [e]; exact pk_us
        · rw [pk_un e]; exact hg a b ha hb (by omega))
      refine ⟨g', ?_, e2⟩
      rw [f_X7_want_2, if_neg (ge_lit (m := 9) (M := 9) rfl (show m < 9 by omega) (by decide))]
      unfold f_X7_want_23
      rw [jgd_n _ (by omega) (by decide), jgd_n _ (by omega) (by decide), nI_clamp (by omega), nI_1]
      have hW : nI (Wk k 0 m) = if m = k then 1 else 0 := by
        show nI (if m = k then 1 else 0) = _
        split <;> rfl
      rw [hW] at e1
      by_cases h : m = k
      · rw [if_pos (hmk.mpr h)]
        rw [if_pos h] at e1
        exact e1
      · rw [if_neg (fun e => h (hmk.mp e))]
        rw [if_neg h] at e1
        exact e1
  exact H 9 0 1000000 g0 (by omega) (by omega) (fun a b ha hb hq => by omega)
theorem Wk_b : ∀ k, k ≤ 8 → ∀ l, l ≤ 8 → ∀ m, m ≤ 8 → Wk k l m ≤ 16777216 := by decide +kernel
/-! the i-th, in the class -/
theorem pkN_upd {x : Nat → Nat} {j d : Nat} : pkN (updN x j d) (j + 1) = pkN x j * 16 + d := by
  have H : ∀ k, k ≤ j → pkN (updN x j d) k = pkN x k := by
    intro k
    induction k with
    | zero => intro _; rfl
    | succ k ih =>
      intro hk
      show pkN (updN x j d) k * 16 + updN x j d k = pkN x k * 16 + x k
      rw [ih (by omega), un_n (by omega)]
  show pkN (updN x j d) j * 16 + updN x j d j = _
  rw [H j (Nat.le_refl _), un_s]
theorem ithX {n k : Nat} (hn : n ≤ 8) (hk : k ≤ 8) {g : Nat → Int32} (hg : tabP k g 81) : ∀ (l j m i f : Nat) (x : Nat → Nat) (v6 : Int32), j + l = n → m ≤ j → pt x j = m → (∀ q, q < j → x q < 16) → l < f → i < Wk k l m → v6 = nI l + (-1) → ∃ y, nthP (fun y => decide (pt y n = k)) (rgs l j m x) i = some y ∧ f_X7_ith_13 f (nI (pkN x j)) (nI m) (nI i) v6 g = some (nI (pkN y n)) := by
  intro l
  induction l with
  | zero =>
    intro j m i f x v6 h1 hm hp hx hf hi hv
    obtain ⟨f, rfl⟩ : ∃ x, f = x + 1 := ⟨f - 1, by omega⟩
    obtain rfl : j = n := by omega
    have hi' : i < if m = k then 1 else 0 := hi
    by_cases e : m = k
    · rw [if_pos e] at hi'
      obtain rfl : i = 0 := by omega
      refine ⟨x, ?_, ?_⟩
      · show (if decide (pt x j = k) = true then some x else none) = some x
        rw [if_pos (decide_eq_true (hp.trans e))]
      · rw [hv, f_X7_ith_13, if_pos (by decide)]
    · rw [if_neg e] at hi'; omega
  | succ l ih =>
    intro j m i f x v6 h1 hm hp hx hf hi hv
    obtain ⟨f, rfl⟩ : ∃ x, f = x + 1 := ⟨f - 1, by omega⟩
    rw [pk_m1] at hv
    subst hv
    have hi' : i < m * Wk k l m + Wk k l (m + 1) := hi
    have hb := Wk_b k hk l (by omega) m (by omega)
    have hbt := Wk_b k hk (l + 1) (by omega) m (by omega)
    have hpk := pkN_lt hx
    have hpk2 : 16 ^ j ≤ 16 ^ 7 := Nat.pow_le_pow_right (by decide) (by omega)
    have hpk3 : (16 : Nat) ^ 7 = 268435456 := by decide
    -- the step, once the digit is known
    have stp : ∀ d, d ≤ m → d * Wk k l m ≤ i → i - d * Wk k l m < Wk k l (max m (d + 1)) → nthP (fun y => decide (pt y n = k)) (rgs (l + 1) j m x) i = nthP (fun y => decide (pt y n = k)) (rgs l (j + 1) (max m (d + 1)) (updN x j d)) (i - d * Wk k l m) → ∃ y, nthP (fun y => decide (pt y n = k)) (rgs (l + 1) j m x) i = some y ∧ f_X7_ith_48 (f_X7_ith_13 f) (nI (pkN x j)) (nI m) (nI i) (nI l) (nI (Wk k l m)) (nI d) g = some (nI (pkN y n)) := by
      intro d hd hd2 hd3 hd4
      obtain ⟨y, y1, y2⟩ := ih (j + 1) (max m (d + 1)) (i - d * Wk k l m) f (updN x j d) (nI l + (-1)) (by omega) (by omega) (by rw [pt_upd, hp]) (fun q hq => by
        by_cases e : q = j
        · subst e; rw [un_s]; omega
        · rw [un_n e]; exact hx q (by omega)) (by omega) hd3 rfl
      refine ⟨y, hd4.trans y1, ?_⟩
      unfold f_X7_ith_48
      rw [nI_1, max32 (by omega) (by omega), jbd_s, shl_or (by omega) (by omega), pk_mul, pk_sub hd2, ← pkN_upd]
      exact y2
    have hF : ∀ d, d < m → cntP (fun y => decide (pt y n = k)) (rgs l (j + 1) (max m (d + 1)) (updN x j d)) = Wk k l m := fun d hd => by
      rw [rgs_cnt l (j + 1) (max m (d + 1)) _ (by omega) (by rw [pt_upd, hp]), show max m (d + 1) = m by omega]
    have hT : rgs (l + 1) j m x = sibs (fun d => rgs l (j + 1) (max m (d + 1)) (updN x j d)) 0 m ++ rgs l (j + 1) (max m (m + 1)) (updN x j m) := by
      show sibs _ 0 (m + 1) = _
      rw [sibs_snoc, Nat.zero_add]
    rw [f_X7_ith_13, if_neg (nI_pos (by omega)), ways_tab hk hg (by omega) (by omega) (by omega), jbd_s]
    by_cases h0 : Wk k l m = 0
    · rw [if_pos (by rw [h0]; decide)]
      refine stp m (Nat.le_refl _) (by rw [h0]; omega) (by rw [h0, Nat.mul_zero, show max m (m + 1) = m + 1 by omega]; rw [h0] at hi'; omega) ?_
      rw [hT, nth_app, sibs_cnt (b := Wk k l m) (fun d _ hd => hF d (by omega)), h0, Nat.mul_zero, if_neg (by omega)]
    · have hpos : 0 < Wk k l m := by omega
      rw [if_neg (nI_nle hpos (by omega)), jnz_ne _ (nI_ne0 hpos (by omega)), pk_div (by omega) hpos (by omega), min32 (by have := Nat.div_le_self i (Wk k l m); omega) (by omega), jbd_s]
      have hdm := Nat.div_add_mod i (Wk k l m)
      have hml := Nat.mod_lt i hpos
      by_cases hd : i / Wk k l m < m
      · rw [Nat.min_eq_left (by omega)]
        have hcm : i / Wk k l m * Wk k l m = Wk k l m * (i / Wk k l m) := Nat.mul_comm _ _
        refine stp (i / Wk k l m) (by omega) (by omega) (by rw [show max m (i / Wk k l m + 1) = m by omega]; omega) ?_
        rw [hT, sibs_nth hpos _ (fun d _ hd => hF d (by omega)), if_pos hd, Nat.zero_add, show i - i / Wk k l m * Wk k l m = i % Wk k l m by omega]
      · rw [Nat.min_eq_right (by omega)]
        have hle : m * Wk k l m ≤ i := by
          have : m * Wk k l m ≤ i / Wk k l m * Wk k l m := Nat.mul_le_mul_right _ (by omega)
          have hcm : i / Wk k l m * Wk k l m = Wk k l m * (i / Wk k l m) := Nat.mul_comm _ _
          omega
        refine stp m (Nat.le_refl _) hle (by rw [show max m (m + 1) = m + 1 by omega]; omega) ?_
        rw [hT, sibs_nth hpos _ (fun d _ hd => hF d (by omega)), if_neg hd]
