/-! orders: the rows in their order, as a tree -/
def prm : Nat → Nat → (Nat → Nat) → (Nat → Nat) → List (Nat → Nat)
  | 0, _, _, x => [x]
  | l + 1, p, u, x => sibs (fun c => prm l (p + 1) (skp u c) (updN x p (u c))) 0 (l + 1)
theorem prm_ne : ∀ l p u x, prm l p u x ≠ []
  | 0, _, _, _ => fun e => by cases e
  | l + 1, p, u, x => sibs_ne (by omega) (prm_ne l _ _ _)
def inc (u : Nat → Nat) (l : Nat) : Prop := ∀ i j, i < j → j < l → u i < u j
theorem skp_lt {u : Nat → Nat} {c i : Nat} (h : i < c) : skp u c i = u i := if_pos h
theorem skp_ge {u : Nat → Nat} {c i : Nat} (h : c ≤ i) : skp u c i = u (i + 1) := if_neg (by omega)
theorem inc_skp {u : Nat → Nat} {l : Nat} (h : inc u (l + 1)) (c : Nat) : inc (skp u c) l := by
  intro i j hij hj
  by_cases a : i < c
  · rw [skp_lt a]
    by_cases b : j < c
    · rw [skp_lt b]; exact h i j hij (by omega)
    · rw [skp_ge (by omega)]; exact h i (j + 1) (by omega) (by omega)
  · rw [skp_ge (by omega), skp_ge (by omega)]; exact h (i + 1) (j + 1) (by omega) (by omega)
theorem skp_bd {u : Nat → Nat} {l n : Nat} (h : ∀ i, i < l + 1 → u i < n) (c : Nat) : ∀ i, i < l → skp u c i < n := by
  intro i hi
  unfold skp
  split
  · exact h i (by omega)
  · exact h (i + 1) (by omega)
theorem prm_head : ∀ l p u x, ∃ y, (prm l p u x).head? = some y ∧ ∀ k, k < p + l → y k = if k < p then x k else u (k - p)
  | 0, p, u, x => ⟨x, rfl, fun k hk => by rw [if_pos (by omega)]⟩
  | l + 1, p, u, x => by
    obtain ⟨y, y1, y2⟩ := prm_head l (p + 1) (skp u 0) (updN x p (u 0))
    refine ⟨y, ?_, fun k hk => ?_⟩
    · show (sibs _ 0 (l + 1)).head? = _
      rw [sibs_head (by omega) (prm_ne _ _ _ _)]; exact y1
    · rw [y2 k (by omega)]
      by_cases a : k < p
      · rw [if_pos (by omega), if_pos a, un_n (by omega)]
      · rw [if_neg a]
        by_cases b : k = p
        · subst b; rw [if_pos (by omega), un_s, Nat.sub_self]
        · rw [if_neg (by omega), skp_ge (by omega), show k - (p + 1) + 1 = k - p by omega]
theorem prm_last : ∀ l p u x, ∃ y, (prm l p u x).getLast? = some y ∧ ∀ k, k < p + l → y k = if k < p then x k else u (l - 1 - (k - p))
  | 0, p, u, x => ⟨x, rfl, fun k hk => by rw [if_pos (by omega)]⟩
  | l + 1, p, u, x => by
    obtain ⟨y, y1, y2⟩ := prm_last l (p + 1) (skp u l) (updN x p (u l))
    refine ⟨y, ?_, fun k hk => ?_⟩
    · show (sibs _ 0 (l + 1)).getLast? = _
      rw [sibs_last (fun d _ _ => prm_ne _ _ _ _), Nat.zero_add]; exact y1
    · rw [y2 k (by omega)]
      by_cases a : k < p
      · rw [if_pos (by omega), if_pos a, un_n (by omega)]
      · rw [if_neg a]
        by_cases b : k = p
        · subst b; rw [if_pos (by omega), un_s, Nat.sub_self]; rfl
        · rw [if_neg (by omega), skp_lt (by omega), show l - 1 - (k - (p + 1)) = l + 1 - 1 - (k - p) by omega]
theorem prm_len : ∀ l p u x, l ≤ 8 → (prm l p u x).length = fc l
  | 0, _, _, _, _ => rfl
  | l + 1, p, u, x, h => by
    show (sibs _ 0 (l + 1)).length = _
    rw [sibs_len (b := fc l) (fun d _ _ => prm_len l _ _ _ (by omega)), fc_s l (by omega)]
theorem prm_pre : ∀ l p u x y, y ∈ prm l p u x → ∀ i, i < p → y i = x i
  | 0, p, u, x, y, h, i, hi => by
    have : y = x := List.mem_singleton.mp h
    rw [this]
  | l + 1, p, u, x, y, h, i, hi => by
    obtain ⟨d, _, _, h3⟩ := mem_sibs.mp (show y ∈ sibs _ 0 (l + 1) from h)
    rw [prm_pre l (p + 1) _ _ y h3 i (by omega), un_n (by omega)]
/-- all are used or not yet used -/
def cov (n p l : Nat) (u x : Nat → Nat) : Prop := ∀ v, v < n → (∃ q, q < p ∧ x q = v) ∨ ∃ i, i < l ∧ u i = v
theorem cov_s {n p l : Nat} {u x : Nat → Nat} (h : cov n p (l + 1) u x) {c : Nat} (hc : c < l + 1) : cov n (p + 1) l (skp u c) (updN x p (u c)) := by
  intro v hv
  rcases h v hv with ⟨q, h1, h2⟩ | ⟨i, h1, h2⟩
  · exact Or.inl ⟨q, by omega, by rw [un_n (by omega)]; exact h2⟩
  · by_cases e : i = c
    · subst e; exact Or.inl ⟨p, by omega, by rw [un_s]; exact h2⟩
    · obtain ⟨j, h3, h4⟩ := skp_at (d := u) h1 e hc
      exact Or.inr ⟨j, by omega, h4.trans h2⟩
theorem prm_perm {n : Nat} : ∀ l p u x y, y ∈ prm l p u x → p + l = n → cov n p l u x → perm n y
  | 0, p, u, x, y, h, hn, hc => by
    have : y = x := List.mem_singleton.mp h
    rw [this]
    refine perm_cover (fun v hv => ?_)
    rcases hc v hv with ⟨q, h1, h2⟩ | ⟨i, h1, _⟩
    · exact ⟨q, by omega, h2⟩
    · omega
  | l + 1, p, u, x, y, h, hn, hc => by
    obtain ⟨d, _, h2, h3⟩ := mem_sibs.mp (show y ∈ sibs _ 0 (l + 1) from h)
    exact prm_perm l (p + 1) _ _ y h3 (by omega) (cov_s hc (by omega))
theorem prm_mem {n : Nat} {d : Nat → Nat} (hd : perm n d) : ∀ l p u x, p + l = n → (∀ i, i < p → x i = d i) → cov n p l u x → ∃ y, y ∈ prm l p u x ∧ ∀ i, i < n → y i = d i
  | 0, p, u, x, h1, h2, _ => ⟨x, List.mem_singleton.mpr rfl, fun i hi => h2 i (by omega)⟩
  | l + 1, p, u, x, h1, h2, hc => by
    obtain ⟨c, hc1, hc2⟩ : ∃ c, c < l + 1 ∧ u c = d p := by
      rcases hc (d p) (hd.1 p (by omega)) with ⟨q, a1, a2⟩ | h
      · rw [h2 q a1] at a2
        have := perm_inj hd (by omega) (by omega) a2
        omega
      · exact h
    obtain ⟨y, y1, y2⟩ := prm_mem hd l (p + 1) (skp u c) (updN x p (u c)) (by omega) (fun i hi => by
      by_cases e : i = p
      · subst e; rw [un_s]; exact hc2
      · rw [un_n e]; exact h2 i (by omega)) (cov_s hc hc1)
    refine ⟨y, ?_, y2⟩
    show y ∈ sibs _ 0 (l + 1)
    exact mem_sibs.mpr ⟨c, by omega, by omega, y1⟩
/-! the next one, in the reference -/
theorem to4_down (M : MS) {n : Nat} (hn : n ≤ 8) {g : Nat → Int32} {y : Nat → Nat} (hg : rep n g y) {j : Nat} : ∀ (d f : Nat), j + d + 1 < n → (∀ i, j < i → i ≤ j + d → y (i + 1) < y i) → f_X12_turnOrder_4 (f + d) (nI n) (nI (j + d)) (M_digit_s M g) = f_X12_turnOrder_4 f (nI n) (nI j) (M_digit_s M g) := by
  intro d
  induction d with
  | zero => intro f _ _; rfl
  | succ d ih =>
    intro f h1 h2
    obtain ⟨a1, a2⟩ := hg (j + (d + 1)) (by omega)
    obtain ⟨b1, b2⟩ := hg (j + (d + 1) + 1) (by omega)
    have := h2 (j + (d + 1)) (by omega) (by omega)
    rw [← Nat.add_assoc f d 1, f_X12_turnOrder_4, if_neg (nI_pos (by omega)), jgd_n _ (by omega) (by decide), nI_1, jgd_n _ (by omega) (by decide), nI_clamp (by omega), nI_clamp (by omega), dig_get, a1, b1, if_neg (nI_ge (by omega) (by omega)), ← Nat.add_assoc j d 1, pk_m1]
    exact ih f (by omega) (fun i h3 h4 => h2 i h3 (by omega))
theorem to41_down (M : MS) {n : Nat} (hn : n ≤ 8) {g : Nat → Int32} {y : Nat → Nat} (hg : rep n g y) {j q : Nat} (hj : j < n) (hq : q < n) (hyq : y j ≤ y q) : ∀ (d f : Nat), q + d < n → d < f → (∀ i, q < i → i ≤ q + d → y i < y j) → f_X12_turnOrder_41 f (nI n) (nI j) (nI (q + d)) (M_digit_s M g) = f_X12_turnOrder_62 (nI n) (nI j) (nI q) (M_digit_s M g) := by
  obtain ⟨a1, a2⟩ := hg j hj
  intro d
  induction d with
  | zero =>
    intro f h1 hf h2
    obtain ⟨f, rfl⟩ : ∃ x, f = x + 1 := ⟨f - 1, by omega⟩
    obtain ⟨b1, b2⟩ := hg q hq
    rw [f_X12_turnOrder_41, Nat.add_zero, jgd_n _ (by omega) (by decide), jgd_n _ (by omega) (by decide), nI_clamp (by omega), nI_clamp (by omega), dig_get, a1, b1, if_pos (nI_le hyq (by omega))]
  | succ d ih =>
    intro f h1 hf h2
    obtain ⟨f, rfl⟩ : ∃ x, f = x + 1 := ⟨f - 1, by omega⟩
    obtain ⟨b1, b2⟩ := hg (q + (d + 1)) h1
    have := h2 (q + (d + 1)) (by omega) (by omega)
    rw [f_X12_turnOrder_41, jgd_n _ (by omega) (by decide), jgd_n _ (by omega) (by decide), nI_clamp (by omega), nI_clamp (by omega), dig_get, a1, b1, if_neg (nI_ge (by omega) (by omega)), ← Nat.add_assoc q d 1, pk_m1]
    exact ih f (by omega) (by omega) (fun i h3 h4 => h2 i h3 (by omega))
theorem rev_eq (M : MS) {n : Nat} (hn : n ≤ 8) : ∀ (d a b f : Nat) (g : Nat → Int32), b ≤ a + d → 1 ≤ a → b < n → a ≤ b + 1 → d < f → ∃ g', f_X12_turnOrder_100 f (nI a) (nI b) (M_digit_s M g) = some (1, M_digit_s M g') ∧ ∀ k, g' k = if a ≤ k ∧ k ≤ b then g (a + b - k) else g k := by
  intro d
  induction d with
  | zero =>
    intro a b f g h1 h2 h3 h4 hf
    obtain ⟨f, rfl⟩ : ∃ x, f = x + 1 := ⟨f - 1, by omega⟩
    refine ⟨g, ?_, fun k => ?_⟩
    · rw [f_X12_turnOrder_100, if_pos (nI_le (by omega) (by omega))]; rfl
    · by_cases h : a ≤ k ∧ k ≤ b
      · rw [if_pos h, show a + b - k = k by omega]
      · rw [if_neg h]
  | succ d ih =>
    intro a b f g h1 h2 h3 h4 hf
    obtain ⟨f, rfl⟩ : ∃ x, f = x + 1 := ⟨f - 1, by omega⟩
    by_cases hab : b ≤ a
    · refine ⟨g, ?_, fun k => ?_⟩
      · rw [f_X12_turnOrder_100, if_pos (nI_le (by omega) (by omega))]; rfl
      · by_cases h : a ≤ k ∧ k ≤ b
        · rw [if_pos h, show a + b - k = k by omega]
        · rw [if_neg h]
    · obtain ⟨b, rfl⟩ : ∃ q, b = q + 1 := ⟨b - 1, by omega⟩
      obtain ⟨g', e1, e2⟩ := ih (a + 1) b f (upd (upd g a (g (b + 1))) (b + 1) (g a)) (by omega) (by omega) (by omega) (by omega) (by omega)
      refine ⟨g', ?_, fun k => ?_⟩
      · rw [f_X12_turnOrder_100, if_neg (nI_ge (by omega) (by omega)), jgd_n _ (by omega) (by decide), jgd_n _ (by omega) (by decide), jgd_n _ (by omega) (by decide), jgd_n _ (by omega) (by decide), nI_clamp (by omega), nI_clamp (by omega), dig_get, dig_get, dig_dig, dig_dig, nI_1, pk_m1]
        exact e1
      · rw [e2 k]
        by_cases ka : k = a
        · subst ka
          rw [if_neg (by omega), pk_un (by omega), pk_us, if_pos (by omega), show k + (b + 1) - k = b + 1 by omega]
        · by_cases kb : k = b + 1
          · subst kb
            rw [if_neg (by omega), pk_us, if_pos (by omega), show a + (b + 1) - (b + 1) = a by omega]
          · by_cases h : a + 1 ≤ k ∧ k ≤ b
            · rw [if_pos h, if_pos (by omega), pk_un (by omega), pk_un (by omega), show a + 1 + b - k = a + (b + 1) - k by omega]
            · rw [if_neg h, if_neg (by omega), pk_un kb, pk_un ka]
def RO (M : MS) (n : Nat) (x y : Nat → Nat) : Prop := ∀ g, rep n g x → ∃ g', f_X12_turnOrder (nI n) (M_digit_s M g) = some (1, M_digit_s M g') ∧ rep n g' y
def FO (M : MS) (n : Nat) (x : Nat → Nat) : Prop := ∀ g, rep n g x → f_X12_turnOrder (nI n) (M_digit_s M g) = some (0, M_digit_s M g)
/-- the swap at j and q, and the row behind j turned round -/
theorem turnO_true (M : MS) {n : Nat} (hn : n ≤ 8) {g : Nat → Int32} {y : Nat → Nat} (hg : rep n g y) {j q : Nat} (hj : j + 1 < n) (h1 : y j < y (j + 1)) (h2 : ∀ i, j < i → i + 1 < n → y (i + 1) < y i) (hjq : j < q) (hq : q < n) (h3 : y j ≤ y q) (h4 : ∀ i, q < i → i < n → y i < y j) : ∃ g', f_X12_turnOrder (nI n) (M_digit_s M g) = some (1, M_digit_s M g') ∧ ∀ k, k < n → g' k = nI (if k < j then y k else if k = j then y q else if n + j - k = q then y j else y (n + j - k)) := by
  unfold f_X12_turnOrder
  obtain ⟨a1, a2⟩ := hg j (by omega)
  obtain ⟨b1, b2⟩ := hg (j + 1) hj
  obtain ⟨c1, c2⟩ := hg q hq
  have e := to4_down M hn hg (j := j) (n - 2 - j) (1000000 - (n - 2 - j)) (by omega) (fun i h5 h6 => h2 i h5 (by omega))
  rw [show 1000000 - (n - 2 - j) + (n - 2 - j) = 1000000 by omega, show j + (n - 2 - j) = n - 2 by omega] at e
  obtain ⟨f, hf⟩ : ∃ f, 1000000 - (n - 2 - j) = f + 1 := ⟨1000000 - (n - 2 - j) - 1, by omega⟩
  rw [show (2 : Int32) = nI 2 from rfl, pk_sub (by omega), show jFU = 1000000 from rfl, e, hf, f_X12_turnOrder_4, if_neg (nI_pos (by omega)), jgd_n _ (by omega) (by decide), nI_1, jgd_n _ (by omega) (by decide), nI_clamp (by omega), nI_clamp (by omega), dig_get, a1, b1, if_pos (nI_le (by omega) (by omega))]
  unfold f_X12_turnOrder_31
  have e2 := to41_down M hn hg (j := j) (q := q) (by omega) hq h3 (n - 1 - q) 1000000 (by omega) (by omega) (fun i h5 h6 => h4 i h5 (by omega))
  rw [show q + (n - 1 - q) = n - 1 by omega] at e2
  rw [if_pos (nI_pos' (by omega)), show (1 : Int32) = nI 1 from rfl, pk_sub (by omega), show jFU = 1000000 from rfl, e2]
  unfold f_X12_turnOrder_62
  rw [jgd_n _ (by omega) (by decide), jgd_n _ (by omega) (by decide), jgd_n _ (by omega) (by decide), jgd_n _ (by omega) (by decide), nI_clamp (by omega), nI_clamp (by omega), dig_get, dig_get, dig_dig, dig_dig, nI_1, show (1 : Int32) = nI 1 from rfl, pk_sub (by omega)]
  obtain ⟨g', r1, r2⟩ := rev_eq M hn (n - 1 - (j + 1)) (j + 1) (n - 1) jFU (upd (upd g j (g q)) q (g j)) (by omega) (by omega) (by omega) (by omega) (by unfold jFU; omega)
  refine ⟨g', r1, fun k hk => ?_⟩
  rw [r2 k]
  by_cases k1 : k < j
  · rw [if_neg (by omega), pk_un (by omega), pk_un (by omega), if_pos k1, (hg k hk).1]
  · rw [if_neg k1]
    by_cases k2 : k = j
    · subst k2
      rw [if_neg (by omega), pk_un (by omega), pk_us, if_pos rfl, c1]
    · rw [if_neg k2, if_pos (by omega), show j + 1 + (n - 1) - k = n + j - k by omega]
      by_cases k3 : n + j - k = q
      · rw [k3, pk_us, if_pos rfl, a1]
      · rw [if_neg k3, pk_un k3, pk_un (by omega), (hg (n + j - k) (by omega)).1]
theorem turnO_false (M : MS) {n : Nat} (h0 : 1 ≤ n) (hn : n ≤ 8) {g : Nat → Int32} {y : Nat → Nat} (hg : rep n g y) (h2 : ∀ i, i + 1 < n → y (i + 1) < y i) : f_X12_turnOrder (nI n) (M_digit_s M g) = some (0, M_digit_s M g) := by
  unfold f_X12_turnOrder
  by_cases h1 : n = 1
  · subst h1
    rw [show jFU = 999999 + 1 from rfl, f_X12_turnOrder_4, if_pos (by decide)]
    unfold f_X12_turnOrder_31
    rw [if_neg (by decide)]; rfl
  · have e := to4_down M hn hg (j := 0) (n - 2) (1000000 - (n - 2)) (by omega) (fun i h5 h6 => h2 i (by omega))
    rw [show 1000000 - (n - 2) + (n - 2) = 1000000 by omega, Nat.zero_add] at e
    obtain ⟨f, hf⟩ : ∃ f, 1000000 - (n - 2) = f + 1 + 1 := ⟨1000000 - (n - 2) - 2, by omega⟩
    obtain ⟨a1, a2⟩ := hg 0 (by omega)
    obtain ⟨b1, b2⟩ := hg (0 + 1) (by omega)
    have := h2 0 (by omega)
    rw [show (2 : Int32) = nI 2 from rfl, pk_sub (by omega), show jFU = 1000000 from rfl, e, hf, f_X12_turnOrder_4, if_neg (nI_pos (by omega)), jgd_n _ (by omega) (by decide), nI_1, jgd_n _ (by omega) (by decide), nI_clamp (by omega), nI_clamp (by omega), dig_get, a1, b1, if_neg (nI_ge (by omega) (by omega)), f_X12_turnOrder_4, if_pos (by decide)]
    unfold f_X12_turnOrder_31
    rw [if_neg (by decide)]; rfl
theorem prm_chn (M : MS) {n : Nat} (hn : n ≤ 8) : ∀ l p u x, p + l = n → inc u l → (∀ i, i < l → u i < n) → chn (RO M n) (prm l p u x)
  | 0, p, u, x, _, _, _ => ⟨fun y hy => (by cases hy), trivial⟩
  | l + 1, p, u, x, h1, h2, h3 => by
    show chn (RO M n) (sibs _ 0 (l + 1))
    refine sibs_chn (fun d _ hd => ⟨prm_ne _ _ _ _, prm_chn M hn l (p + 1) _ _ (by omega) (inc_skp h2 d) (skp_bd h3 d)⟩) (fun c _ hc y z hy hz => ?_)
    obtain ⟨y', y1, y2⟩ := prm_last l (p + 1) (skp u c) (updN x p (u c))
    obtain ⟨z', z1, z2⟩ := prm_head l (p + 1) (skp u (c + 1)) (updN x p (u (c + 1)))
    rw [y1] at hy
    rw [z1] at hz
    cases hy
    cases hz
    intro g hg
    have hyp : y p = u c := by rw [y2 p (by omega), if_pos (by omega), un_s]
    have hyk : ∀ k, k < p → y k = x k := fun k hk => by rw [y2 k (by omega), if_pos (by omega), un_n (by omega)]
    have hyt : ∀ i, i < l → y (n - 1 - i) = skp u c i := fun i hi => by
      rw [y2 (n - 1 - i) (by omega), if_neg (by omega), show l - 1 - (n - 1 - i - (p + 1)) = i by omega]
    have hs := inc_skp h2 c
    obtain ⟨g', e1, e2⟩ := turnO_true M hn hg (j := p) (q := n - 1 - c) (by omega) (by
        have a := hyt (l - 1) (by omega)
        rw [show n - 1 - (l - 1) = p + 1 by omega, skp_ge (by omega)] at a
        rw [hyp, a]; exact h2 c (l - 1 + 1) (by omega) (by omega)) (fun i a b => by
        have b1 := hyt (n - 1 - i) (by omega)
        have b2 := hyt (n - 1 - (i + 1)) (by omega)
        rw [show n - 1 - (n - 1 - i) = i by omega] at b1
        rw [show n - 1 - (n - 1 - (i + 1)) = i + 1 by omega] at b2
        rw [b1, b2]; exact hs _ _ (by omega) (by omega)) (by omega) (by omega) (by
        rw [hyp, hyt c (by omega), skp_ge (Nat.le_refl _)]; exact Nat.le_of_lt (h2 c (c + 1) (by omega) (by omega))) (fun i a b => by
        have b1 := hyt (n - 1 - i) (by omega)
        rw [show n - 1 - (n - 1 - i) = i by omega, skp_lt (by omega)] at b1
        rw [b1, hyp]; exact h2 _ _ (by omega) (by omega))
    have hz : ∀ k, k < n → (if k < p then y k else if k = p then y (n - 1 - c) else if n + p - k = n - 1 - c then y p else y (n + p - k)) = z k := by
      intro k hk
      rw [z2 k (by omega)]
      by_cases k1 : k < p
      · rw [if_pos k1, if_pos (by omega), un_n (by omega), hyk k k1]
      · rw [if_neg k1]
        by_cases k2 : k = p
        · subst k2
          rw [if_pos rfl, if_pos (by omega), un_s, hyt c (by omega), skp_ge (Nat.le_refl _)]
        · rw [if_neg k2, if_neg (show ¬ k < p + 1 by omega)]
          by_cases k3 : n + p - k = n - 1 - c
          · rw [if_pos k3, hyp, show k - (p + 1) = c by omega, skp_lt (by omega)]
          · rw [if_neg k3, show n + p - k = n - 1 - (k - (p + 1)) by omega, hyt _ (by omega)]
            by_cases k4 : k - (p + 1) < c
            · rw [skp_lt k4, skp_lt (by omega)]
            · rw [skp_ge (by omega), skp_ge (by omega)]
    refine ⟨g', e1, fun k hk => ⟨by rw [e2 k hk, hz k hk], ?_⟩⟩
    rw [z2 k (by omega)]
    by_cases k1 : k < p
    · rw [if_pos (by omega), un_n (by omega), ← hyk k k1]; exact (hg k hk).2
    · by_cases k2 : k = p
      · subst k2
        have := h3 (c + 1) (by omega)
        rw [if_pos (by omega), un_s]; omega
      · have := skp_bd h3 (c + 1) (k - (p + 1)) (by omega)
        rw [if_neg (by omega)]; omega
