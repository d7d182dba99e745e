/-! partings: the rows in their order, as a tree -/
def updN (x : Nat → Nat) (j d : Nat) : Nat → Nat := fun k => if k = j then d else x k
theorem un_s {x : Nat → Nat} {j d : Nat} : updN x j d j = d := if_pos rfl
theorem un_n {x : Nat → Nat} {j d k : Nat} (h : k ≠ j) : updN x j d k = x k := if_neg h
def rgs : Nat → Nat → Nat → (Nat → Nat) → List (Nat → Nat)
  | 0, _, _, x => [x]
  | l + 1, j, m, x => sibs (fun d => rgs l (j + 1) (max m (d + 1)) (updN x j d)) 0 (m + 1)
/-- parts begun by k digits -/
def pt (x : Nat → Nat) : Nat → Nat
  | 0 => 0
  | k + 1 => max (pt x k) (x k + 1)
theorem pt_congr {x y : Nat → Nat} : ∀ {k : Nat}, (∀ i, i < k → x i = y i) → pt x k = pt y k
  | 0, _ => rfl
  | k + 1, h => by
    show max (pt x k) (x k + 1) = max (pt y k) (y k + 1)
    rw [pt_congr (fun i hi => h i (by omega)), h k (by omega)]
theorem pt_upd {x : Nat → Nat} {j d : Nat} : pt (updN x j d) (j + 1) = max (pt x j) (d + 1) := by
  show max (pt (updN x j d) j) (updN x j d j + 1) = _
  rw [un_s, pt_congr (fun i hi => un_n (by omega))]
theorem pt_pos (x : Nat → Nat) (k : Nat) : 1 ≤ pt x (k + 1) := by
  show 1 ≤ max (pt x k) (x k + 1)
  omega
def val (x : Nat → Nat) (n : Nat) : Prop := ∀ k, k < n → x k ≤ pt x k
theorem rgs_ne : ∀ l j m x, rgs l j m x ≠ []
  | 0, _, _, _ => fun e => by cases e
  | l + 1, j, m, x => sibs_ne (by omega) (rgs_ne l _ _ _)
def zs : Nat → Nat → (Nat → Nat) → (Nat → Nat)
  | 0, _, x => x
  | l + 1, j, x => zs l (j + 1) (updN x j 0)
theorem zs_at : ∀ l j x k, zs l j x k = if j ≤ k ∧ k < j + l then 0 else x k
  | 0, j, x, k => by rw [if_neg (by omega)]; rfl
  | l + 1, j, x, k => by
    show zs l (j + 1) (updN x j 0) k = _
    rw [zs_at l (j + 1) _ k]
    by_cases h : k = j
    · subst h; rw [if_neg (by omega), un_s, if_pos (by omega)]
    · rw [un_n h]
      by_cases h2 : j + 1 ≤ k ∧ k < j + 1 + l
      · rw [if_pos h2, if_pos (by omega)]
      · rw [if_neg h2, if_neg (by omega)]
theorem rgs_head : ∀ l j m x, (rgs l j m x).head? = some (zs l j x)
  | 0, _, _, _ => rfl
  | l + 1, j, m, x => by
    show (sibs _ 0 (m + 1)).head? = _
    rw [sibs_head (by omega) (rgs_ne _ _ _ _), rgs_head l]; rfl
def ls : Nat → Nat → Nat → (Nat → Nat) → (Nat → Nat)
  | 0, _, _, x => x
  | l + 1, j, m, x => ls l (j + 1) (m + 1) (updN x j m)
theorem ls_at : ∀ l j m x k, ls l j m x k = if j ≤ k ∧ k < j + l then m + (k - j) else x k
  | 0, j, m, x, k => by rw [if_neg (by omega)]; rfl
  | l + 1, j, m, x, k => by
    show ls l (j + 1) (m + 1) (updN x j m) k = _
    rw [ls_at l (j + 1) _ _ k]
    by_cases h : k = j
    · subst h; rw [if_neg (by omega), un_s, if_pos (by omega)]; omega
    · rw [un_n h]
      by_cases h2 : j + 1 ≤ k ∧ k < j + 1 + l
      · rw [if_pos h2, if_pos (by omega)]; omega
      · rw [if_neg h2, if_neg (by omega)]
theorem rgs_last : ∀ l j m x, (rgs l j m x).getLast? = some (ls l j m x)
  | 0, _, _, _ => rfl
  | l + 1, j, m, x => by
    show (sibs _ 0 (m + 1)).getLast? = _
    rw [sibs_last (fun d _ _ => rgs_ne _ _ _ _), rgs_last l, Nat.zero_add, show max m (m + 1) = m + 1 by omega]; rfl
/-- ways to k parts -/
def Wk (k : Nat) : Nat → Nat → Nat
  | 0, m => if m = k then 1 else 0
  | l + 1, m => m * Wk k l m + Wk k l (m + 1)
theorem Wk_out {k : Nat} : ∀ l m, k < m → Wk k l m = 0
  | 0, m, h => if_neg (by omega)
  | l + 1, m, h => by
    show m * Wk k l m + Wk k l (m + 1) = 0
    rw [Wk_out l m h, Wk_out l (m + 1) (by omega)]; rfl
theorem rgs_cnt {n k : Nat} : ∀ l j m x, j + l = n → pt x j = m → cntP (fun y => decide (pt y n = k)) (rgs l j m x) = Wk k l m
  | 0, j, m, x, h, hm => by
    obtain rfl : j = n := by omega
    show (if decide (pt x j = k) = true then 1 else 0) + 0 = if m = k then 1 else 0
    rw [hm]
    by_cases e : m = k
    · rw [if_pos (decide_eq_true e), if_pos e]
    · rw [if_neg (by rw [decide_eq_true_eq]; exact e), if_neg e]
  | l + 1, j, m, x, h, hm => by
    show cntP _ (sibs _ 0 (m + 1)) = m * Wk k l m + Wk k l (m + 1)
    rw [sibs_snoc, cnt_app, sibs_cnt (b := Wk k l m) (fun d _ hd => ?_), Nat.zero_add, rgs_cnt l (j + 1) (max m (m + 1)) _ (by omega) (by rw [pt_upd, hm]), show max m (m + 1) = m + 1 by omega]
    rw [rgs_cnt l (j + 1) (max m (d + 1)) _ (by omega) (by rw [pt_upd, hm]), show max m (d + 1) = m by omega]
/-- all there are -/
def lenN : Nat → Nat → Nat
  | 0, _ => 1
  | l + 1, m => m * lenN l m + lenN l (m + 1)
theorem rgs_len : ∀ l j m x, (rgs l j m x).length = lenN l m
  | 0, _, _, _ => rfl
  | l + 1, j, m, x => by
    show (sibs _ 0 (m + 1)).length = m * lenN l m + lenN l (m + 1)
    rw [sibs_snoc, List.length_append, sibs_len (b := lenN l m) (fun d _ hd => ?_), rgs_len l, Nat.zero_add, show max m (m + 1) = m + 1 by omega]
    rw [rgs_len l, show max m (d + 1) = m by omega]
theorem lenN_le : ∀ n, n ≤ 8 → lenN n 0 ≤ 4140 := by decide
/-! the next one, in the reference -/
def mxN (x : Nat → Nat) : Nat → Nat
  | 0 => 0
  | q + 1 => max (mxN x q) (x q)
theorem mx_pt (x : Nat → Nat) : ∀ k, mxN x (k + 1) + 1 = pt x (k + 1)
  | 0 => by show max 0 (x 0) + 1 = max 0 (x 0 + 1); omega
  | k + 1 => by
    show max (mxN x (k + 1)) (x (k + 1)) + 1 = max (pt x (k + 1)) (x (k + 1) + 1)
    have := mx_pt x k
    omega
def rep (n : Nat) (g : Nat → Int32) (x : Nat → Nat) : Prop := ∀ k, k < n → g k = nI (x k) ∧ x k < 16
theorem mxN_lt {x : Nat → Nat} : ∀ {k : Nat}, (∀ i, i < k → x i < 16) → mxN x k < 16
  | 0, _ => by show (0 : Nat) < 16; decide
  | k + 1, h => by
    have h1 := mxN_lt (fun i hi => h i (show i < k + 1 by omega)) (k := k)
    have h2 := h k (by omega)
    show max (mxN x k) (x k) < 16
    omega
theorem tp13 (k4 : Int32 → Int32 → MS → Option (Int32 × MS)) (M : MS) {n : Nat} (hn : n ≤ 8) {g : Nat → Int32} {x : Nat → Nat} (hg : rep n g x) {k : Nat} (hk : k < n) : ∀ (d q f : Nat), q + d = k → d < f → f_X12_turnParting_13 k4 f (nI n) (nI k) (nI (mxN x q)) (nI q) (M_digit_s M g) = f_X12_turnParting_48 k4 (nI n) (nI k) (nI (mxN x k)) (M_digit_s M g) := by
  intro d
  induction d with
  | zero =>
    intro q f h1 hf
    obtain ⟨f, rfl⟩ : ∃ x, f = x + 1 := ⟨f - 1, by omega⟩
    obtain rfl : q = k := by omega
    rw [f_X12_turnParting_13, if_pos (nI_le (by omega) (by omega))]
  | succ d ih =>
    intro q f h1 hf
    obtain ⟨f, rfl⟩ : ∃ x, f = x + 1 := ⟨f - 1, by omega⟩
    obtain ⟨g1, g2⟩ := hg q (by omega)
    have hm := mxN_lt (x := x) (k := q) (fun i hi => (hg i (by omega)).2)
    have ih' := ih (q + 1) f (by omega) (by omega)
    rw [f_X12_turnParting_13, if_neg (nI_ge (by omega) (by omega)), jgd_n _ (by omega) (by decide), jgd_n _ (by omega) (by decide), nI_clamp (by omega), dig_get, g1]
    unfold f_X12_turnParting_41
    rw [nI_1]
    by_cases h : x q ≤ mxN x q
    · rw [if_pos (nI_le h (by omega))]
      rw [show mxN x (q + 1) = mxN x q by show max (mxN x q) (x q) = _; omega] at ih'
      exact ih'
    · rw [if_neg (nI_ge (by omega) (by omega))]
      rw [show mxN x (q + 1) = x q by show max (mxN x q) (x q) = _; omega] at ih'
      exact ih'
theorem tp73 (M : MS) {n : Nat} (hn : n ≤ 8) : ∀ (d k f : Nat) (g : Nat → Int32), k + d = n → d < f → ∃ g', f_X12_turnParting_73 f (nI n) (nI k) (M_digit_s M g) = some (1, M_digit_s M g') ∧ ∀ i, i < n → g' i = if i < k then g i else 0 := by
  intro d
  induction d with
  | zero =>
    intro k f g h1 hf
    obtain ⟨f, rfl⟩ : ∃ x, f = x + 1 := ⟨f - 1, by omega⟩
    obtain rfl : k = n := by omega
    exact ⟨g, by rw [f_X12_turnParting_73, if_pos (nI_le (by omega) (by omega))]; rfl, fun i hi => by rw [if_pos hi]⟩
  | succ d ih =>
    intro k f g h1 hf
    obtain ⟨f, rfl⟩ : ∃ x, f = x + 1 := ⟨f - 1, by omega⟩
    obtain ⟨g', e1, e2⟩ := ih (k + 1) f (upd g k 0) (by omega) (by omega)
    refine ⟨g', ?_, fun i hi => ?_⟩
    · rw [f_X12_turnParting_73, if_neg (nI_ge (by omega) (by omega)), jgd_n _ (by omega) (by decide), nI_clamp (by omega), dig_get, dig_dig, nI_1]
      exact e1
    · rw [e2 i hi]
      by_cases h : i = k
      · subst h; rw [if_pos (by omega), pk_us, if_neg (by omega)]
      · rw [pk_un h]
        by_cases h2 : i < k
        · rw [if_pos h2, if_pos (by omega)]
        · rw [if_neg h2, if_neg (by omega)]
theorem tp4_step (M : MS) {n : Nat} (hn : n ≤ 8) {g : Nat → Int32} {x : Nat → Nat} (hg : rep n g x) {k : Nat} (hk : k + 1 < n) (f : Nat) : f_X12_turnParting_4 (f + 1) (nI n) (nI (k + 1)) (M_digit_s M g) = if x (k + 1) ≤ mxN x (k + 1) then f_X12_turnParting_58 (nI n) (nI (k + 1)) (M_digit_s M g) else f_X12_turnParting_4 f (nI n) (nI k) (M_digit_s M g) := by
  rw [f_X12_turnParting_4, if_neg (nI_nle (by omega) (by omega))]
  have e := tp13 (f_X12_turnParting_4 f) M hn hg hk (k + 1) 0 jFU (by omega) (by unfold jFU; omega)
  rw [show (0 : Int32) = nI 0 from rfl]
  refine (show _ = _ from e).trans ?_
  unfold f_X12_turnParting_48
  obtain ⟨g1, g2⟩ := hg (k + 1) hk
  have hm := mxN_lt (x := x) (k := k + 1) (fun i hi => (hg i (by omega)).2)
  rw [jgd_n _ (by omega) (by decide), nI_clamp (by omega), dig_get, g1, pk_m1]
  by_cases h : x (k + 1) ≤ mxN x (k + 1)
  · rw [if_neg (nI_nlt h (by omega)), if_pos h]
  · rw [if_pos (nI_lt (by omega) (by omega)), if_neg h]
theorem tp4_down (M : MS) {n : Nat} (hn : n ≤ 8) {g : Nat → Int32} {x : Nat → Nat} (hg : rep n g x) {j : Nat} : ∀ (d k f : Nat), k = j + d → k < n → (∀ i, j < i → i < n → mxN x i < x i) → f_X12_turnParting_4 (f + d) (nI n) (nI k) (M_digit_s M g) = f_X12_turnParting_4 f (nI n) (nI j) (M_digit_s M g) := by
  intro d
  induction d with
  | zero => intro k f h1 hk h; rw [h1]; rfl
  | succ d ih =>
    intro k f h1 hk h
    obtain ⟨q, rfl⟩ : ∃ q, k = q + 1 := ⟨k - 1, by omega⟩
    have := h (q + 1) (by omega) hk
    rw [← Nat.add_assoc, tp4_step M hn hg hk, if_neg (by omega)]
    exact ih q f (by omega) (by omega) h
def nxt (x : Nat → Nat) (j : Nat) (k : Nat) : Nat := if k < j then x k else if k = j then x j + 1 else 0
theorem turn_true (M : MS) {n : Nat} (hn : n ≤ 8) {g : Nat → Int32} {x : Nat → Nat} (hg : rep n g x) {j : Nat} (hj : j + 1 < n) (h1 : x (j + 1) ≤ mxN x (j + 1)) (h2 : ∀ i, j + 1 < i → i < n → mxN x i < x i) : ∃ g', f_X12_turnParting (nI n) (M_digit_s M g) = some (1, M_digit_s M g') ∧ ∀ k, k < n → g' k = nI (nxt x (j + 1) k) := by
  unfold f_X12_turnParting
  obtain ⟨m, rfl⟩ : ∃ m, n = m + 1 := ⟨n - 1, by omega⟩
  rw [nI_pred]
  have e := tp4_down M hn hg (j := j + 1) (m - (j + 1)) m (1000000 - (m - (j + 1))) (by omega) (by omega) h2
  rw [show 1000000 - (m - (j + 1)) + (m - (j + 1)) = 1000000 by omega] at e
  obtain ⟨f, hf⟩ : ∃ f, 1000000 - (m - (j + 1)) = f + 1 := ⟨1000000 - (m - (j + 1)) - 1, by omega⟩
  rw [show jFU = 1000000 from rfl, e, hf, tp4_step M hn hg hj, if_pos h1]
  obtain ⟨g1, g2⟩ := hg (j + 1) hj
  unfold f_X12_turnParting_58
  rw [jgd_n _ (by omega) (by decide), jgd_n _ (by omega) (by decide), nI_clamp (by omega), dig_get, g1, nI_1, nI_1, dig_dig]
  obtain ⟨g', a1, a2⟩ := tp73 M hn (m + 1 - (j + 2)) (j + 2) jFU (upd g (j + 1) (nI (x (j + 1) + 1))) (by omega) (by unfold jFU; omega)
  refine ⟨g', a1, fun k hk => ?_⟩
  rw [a2 k hk]
  unfold nxt
  by_cases h : k = j + 1
  · subst h; rw [if_pos (by omega), pk_us, if_neg (by omega), if_pos rfl]
  · rw [pk_un h]
    by_cases h3 : k < j + 1
    · rw [if_pos (by omega), if_pos h3, (hg k hk).1]
    · rw [if_neg (by omega), if_neg h3, if_neg h]; rfl
theorem turn_false (M : MS) {n : Nat} (h0 : 1 ≤ n) (hn : n ≤ 8) {g : Nat → Int32} {x : Nat → Nat} (hg : rep n g x) (h2 : ∀ i, 0 < i → i < n → mxN x i < x i) : f_X12_turnParting (nI n) (M_digit_s M g) = some (0, M_digit_s M g) := by
  unfold f_X12_turnParting
  obtain ⟨m, rfl⟩ : ∃ m, n = m + 1 := ⟨n - 1, by omega⟩
  rw [nI_pred]
  have e := tp4_down M hn hg (j := 0) m m (1000000 - m) (by omega) (by omega) h2
  rw [show 1000000 - m + m = 1000000 by omega] at e
  obtain ⟨f, hf⟩ : ∃ f, 1000000 - m = f + 1 := ⟨1000000 - m - 1, by omega⟩
  rw [show jFU = 1000000 from rfl, e, hf, f_X12_turnParting_4, if_pos (by decide)]; rfl
/-- y is the next one behind x -/
def RP (M : MS) (n : Nat) (x y : Nat → Nat) : Prop := ∀ g, rep n g x → ∃ g', f_X12_turnParting (nI n) (M_digit_s M g) = some (1, M_digit_s M g') ∧ rep n g' y
theorem rgs_chn (M : MS) {n : Nat} (hn : n ≤ 8) : ∀ l j m x, 1 ≤ j → j + l = n → pt x j = m → m ≤ j → chn (RP M n) (rgs l j m x)
  | 0, j, m, x, _, _, _, _ => ⟨fun y hy => (by cases hy), trivial⟩
  | l + 1, j, m, x, h1, h2, h3, h4 => by
    show chn (RP M n) (sibs _ 0 (m + 1))
    refine sibs_chn (fun d _ hd => ⟨rgs_ne _ _ _ _, rgs_chn M hn l (j + 1) _ _ (by omega) (by omega) (by rw [pt_upd, h3]) (by omega)⟩) (fun d _ hd y z hy hz => ?_)
    rw [rgs_last, show max m (d + 1) = m by omega] at hy
    rw [rgs_head] at hz
    cases hy
    cases hz
    intro g hg
    obtain ⟨j, rfl⟩ : ∃ q, j = q + 1 := ⟨j - 1, by omega⟩
    -- the parts begun along the row
    have hp : ∀ q, q ≤ l → pt (ls l (j + 1 + 1) m (updN x (j + 1) d)) (j + 1 + 1 + q) = m + q := by
      intro q
      induction q with
      | zero =>
        intro _
        show pt _ (j + 1 + 1) = m
        rw [pt_congr (y := updN x (j + 1) d) (fun i hi => by rw [ls_at, if_neg (by omega)]), pt_upd, h3]; omega
      | succ q ih =>
        intro hq
        show max (pt _ (j + 1 + 1 + q)) (ls l (j + 1 + 1) m (updN x (j + 1) d) (j + 1 + 1 + q) + 1) = _
        rw [ih (by omega), ls_at, if_pos (by omega)]; omega
    have hv : ∀ k, k < n → ls l (j + 1 + 1) m (updN x (j + 1) d) k = (if k < j + 1 then x k else if k = j + 1 then d else m + (k - (j + 1 + 1))) := by
      intro k hk
      rw [ls_at]
      by_cases a : k < j + 1
      · rw [if_neg (by omega), un_n (by omega), if_pos a]
      · rw [if_neg a]
        by_cases b : k = j + 1
        · subst b; rw [if_neg (by omega), un_s, if_pos rfl]
        · rw [if_pos (by omega), if_neg b]
    have hm1 := mx_pt (ls l (j + 1 + 1) m (updN x (j + 1) d)) j
    have hm2 : pt (ls l (j + 1 + 1) m (updN x (j + 1) d)) (j + 1) = m := by
      rw [pt_congr (y := x) (fun i hi => by rw [hv i (by omega), if_pos hi]), h3]
    have hvj := hv (j + 1) (by omega)
    rw [if_neg (by omega), if_pos rfl] at hvj
    obtain ⟨g', e1, e2⟩ := turn_true M hn hg (j := j) (by omega) (by rw [hvj]; omega) (fun i hi1 hi2 => by
      obtain ⟨q, rfl⟩ : ∃ q, i = j + 1 + 1 + q := ⟨i - (j + 1 + 1), by omega⟩
      have hq := mx_pt (ls l (j + 1 + 1) m (updN x (j + 1) d)) (j + 1 + q)
      rw [show j + 1 + q + 1 = j + 1 + 1 + q by omega, hp q (by omega)] at hq
      have := hv (j + 1 + 1 + q) hi2
      rw [if_neg (by omega), if_neg (by omega)] at this
      rw [this]; omega)
    refine ⟨g', e1, fun k hk => ?_⟩
    have hz : zs l (j + 1 + 1) (updN x (j + 1) (d + 1)) k = nxt (ls l (j + 1 + 1) m (updN x (j + 1) d)) (j + 1) k := by
      unfold nxt
      rw [zs_at]
      by_cases a : k < j + 1
      · rw [if_neg (by omega), un_n (by omega), if_pos a, hv k hk, if_pos a]
      · rw [if_neg a]
        by_cases b : k = j + 1
        · subst b; rw [if_neg (by omega), un_s, if_pos rfl, hvj]
        · rw [if_pos (by omega), if_neg b]
    refine ⟨by rw [e2 k hk, hz], ?_⟩
    rw [hz]
    unfold nxt
    by_cases a : k < j + 1
    · rw [if_pos a]; exact (hg k hk).2
    · rw [if_neg a]
      split <;> omega
