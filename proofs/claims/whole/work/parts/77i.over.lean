/-! over, behind, rank -/
theorem overX (o : OrdersS) (x : Int32) {n : Nat} (hn : n ≤ 8) (hp : perm n (dg x n)) : ∃ s f, f_X6_turnedOver (nI n) x o = some (pkI f n, Orders_row_s (Orders_source_s o s) f) ∧ ∀ j, j < n → f (dg x n j) = nI j := by
  unfold f_X6_turnedOver
  obtain ⟨s, e1, e2⟩ := unpackX (Orders_source o) x hn
  rw [e1, jbd_s]
  have H : ∀ (d k q : Nat) (f : Nat → Int32), k + d = n → d < q → (∀ j, j < k → f (dg x n j) = nI j) → ∃ f', f_X6_turnedOver_11 q (nI n) (nI k) (Orders_row_s (Orders_source_s o s) f) = some (pkI f' n, Orders_row_s (Orders_source_s o s) f') ∧ ∀ j, j < n → f' (dg x n j) = nI j := by
    intro d
    induction d with
    | zero =>
      intro k q f h1 hq hf
      obtain ⟨q, rfl⟩ : ∃ x, q = x + 1 := ⟨q - 1, by omega⟩
      obtain rfl : k = n := by omega
      refine ⟨f, ?_, hf⟩
      rw [f_X6_turnedOver_11, if_pos (nI_le (by omega) (by omega))]
      unfold f_X6_turnedOver_40
      rw [packX _ hn, jbd_s]; rfl
    | succ d ih =>
      intro k q f h1 hq hf
      obtain ⟨q, rfl⟩ : ∃ x, q = x + 1 := ⟨q - 1, by omega⟩
      have hk : k < n := by omega
      have hd := hp.1 k hk
      obtain ⟨f', a1, a2⟩ := ih (k + 1) q (upd f (dg x n k) (nI k)) (by omega) (by omega) (fun j hj => by
        by_cases h : j = k
        · subst h; exact pk_us
        · rw [pk_un (fun e => h (perm_inj hp (by omega) hk e))]; exact hf j (by omega))
      refine ⟨f', ?_, a2⟩
      rw [f_X6_turnedOver_11, if_neg (nI_ge (by omega) (by omega)), if_neg (ge_lit (m := 8) (M := 8) rfl (show k < 8 by omega) (by decide)), jgd_n _ (by omega) (by decide), nI_clamp (by omega), show Orders_source (Orders_row_s (Orders_source_s o s) f) k = nI (dg x n k) from e2 k hk, jgd_n _ (by omega) (by decide), nI_clamp (by omega), nI_1]
      exact a1
  obtain ⟨f, a1, a2⟩ := H n 0 1000000 (Orders_row o) (by omega) (by omega) (fun j hj => by omega)
  exact ⟨s, f, a1, a2⟩
theorem overM38 (M : MS) {n : Nat} (hn : n ≤ 8) (t : Nat → Int32) : ∀ (d k q : Nat) (g : Nat → Int32), k + d = n → d < q → (∀ j, j < k → g j = t j) → ∃ g', f_X12_over_38 q (nI n) (nI k) (M_turned_s (M_digit_s M g) t) = some (pkI t n, M_turned_s (M_digit_s M g') t) := by
  intro d
  induction d with
  | zero =>
    intro k q g h1 hq hg
    obtain ⟨q, rfl⟩ : ∃ x, q = x + 1 := ⟨q - 1, by omega⟩
    obtain rfl : k = n := by omega
    refine ⟨g, ?_⟩
    rw [f_X12_over_38, if_pos (nI_le (by omega) (by omega))]
    unfold f_X12_over_61
    rw [packM _ hn, jbd_s, td_digit, pkI_congr hg]
  | succ d ih =>
    intro k q g h1 hq hg
    obtain ⟨q, rfl⟩ : ∃ x, q = x + 1 := ⟨q - 1, by omega⟩
    obtain ⟨g', e⟩ := ih (k + 1) q (upd g k (t k)) (by omega) (by omega) (fun j hj => by
      by_cases h : j = k
      · subst h; exact pk_us
      · rw [pk_un h]; exact hg j (by omega))
    refine ⟨g', ?_⟩
    rw [f_X12_over_38, if_neg (nI_ge (by omega) (by omega)), jgd_n _ (by omega) (by decide), jgd_n _ (by omega) (by decide), nI_clamp (by omega), td_digit, td_turned, td_set, nI_1]
    exact e
theorem overM13 (M : MS) {n : Nat} (hn : n ≤ 8) {dd : Nat → Nat} (hp : perm n dd) (g : Nat → Int32) (hg : ∀ k, k < n → g k = nI (dd k)) : ∀ (d k q : Nat) (t : Nat → Int32), k + d = n → d < q → (∀ j, j < k → t (dd j) = nI j) → ∃ g' t', f_X12_over_13 q (nI n) (nI k) (M_turned_s (M_digit_s M g) t) = some (pkI t' n, M_turned_s (M_digit_s M g') t') ∧ ∀ j, j < n → t' (dd j) = nI j := by
  intro d
  induction d with
  | zero =>
    intro k q t h1 hq ht
    obtain ⟨q, rfl⟩ : ∃ x, q = x + 1 := ⟨q - 1, by omega⟩
    obtain rfl : k = n := by omega
    obtain ⟨g', e⟩ := overM38 M hn t k 0 1000000 g (by omega) (by omega) (fun j hj => by omega)
    refine ⟨g', t, ?_, ht⟩
    rw [f_X12_over_13, if_pos (nI_le (by omega) (by omega))]
    exact e
  | succ d ih =>
    intro k q t h1 hq ht
    obtain ⟨q, rfl⟩ : ∃ x, q = x + 1 := ⟨q - 1, by omega⟩
    have hk : k < n := by omega
    have hd := hp.1 k hk
    obtain ⟨g', t', a1, a2⟩ := ih (k + 1) q (upd t (dd k) (nI k)) (by omega) (by omega) (fun j hj => by
      by_cases h : j = k
      · subst h; exact pk_us
      · rw [pk_un (fun e => h (perm_inj hp (by omega) hk e))]; exact ht j (by omega))
    refine ⟨g', t', ?_, a2⟩
    rw [f_X12_over_13, if_neg (nI_ge (by omega) (by omega)), jgd_n _ (by omega) (by decide), nI_clamp (by omega), td_digit, hg k hk, jgd_n _ (by omega) (by decide), nI_clamp (by omega), td_turned, tt_set, nI_1]
    exact a1
theorem turned_self (A : MS) : M_turned_s A (M_turned A) = A := rfl
theorem ord_no {r : Int32} (h : r = 0 ∨ r = 1) {c : Prop} (hc : r = 1 ↔ c) (hn : ¬ c) : r = 0 := by
  rcases h with e | e
  · exact e
  · exact absurd (hc.mp e) hn
theorem op_over (a0 : Int32) (a1 : Int32) : oWW (f_X11_over a0 a1) (f_X12_over a0 a1) := by
  intro X M hR
  unfold f_X11_over f_X12_over
  rcases rng8 a0 with ⟨n, h1, hn, rfl⟩ | hbad
  · obtain ⟨r, x1, x2, x3⟩ := isOrderX X a1 h1 hn
    obtain ⟨r', g, m1, m2, m3, m4⟩ := takeM M a1 h1 hn
    rw [x1, jbd_s, m1, jbd_s]
    by_cases hc : isRow n a1
    · obtain rfl := x3.mpr hc
      obtain rfl := m3.mpr hc
      rw [if_neg one_ne, if_neg one_ne]
      obtain ⟨s, f, o1, o2⟩ := overX (X_orders X) a1 hn hc.2
      obtain ⟨g', t', p1, p2⟩ := overM13 M hn hc.2 g m4 n 0 1000000 (M_turned (M_digit_s M g)) (by omega) (by omega) (fun j hj => by omega)
      rw [turned_self] at p1
      rw [o1, jbd_s]
      refine ⟨pkI f n, _, _, rfl, ?_, (hR.core (td_core M g' t')).srow s f⟩
      rw [show pkI f n = pkI t' n from pkI_congr (fun v hv => by
        obtain ⟨j, hj, e⟩ := hc.2.2 v hv
        rw [← e, o2 j hj, p2 j hj])]
      exact p1
    · rw [ord_no x2 x3 hc, ord_no m2 m3 hc, if_pos rfl, if_pos rfl]
      exact ⟨-1, X, _, rfl, rfl, hR.core (dig_core M g)⟩
  · rw [isOrderX_no X _ _ hbad, takeM_no M _ _ hbad, jbd_s, jbd_s, if_pos rfl, if_pos rfl]
    exact ⟨-1, X, M, rfl, rfl, hR⟩
theorem behindX (o : OrdersS) (x y : Int32) {n : Nat} (hn : n ≤ 8) (hp : perm n (dg y n)) : ∃ s f, f_X6_oneBehind (nI n) x y o = some (pkI f n, Orders_row_s (Orders_source_s o s) f) ∧ ∀ j, j < n → f j = nI (dg x n (dg y n j)) := by
  unfold f_X6_oneBehind
  obtain ⟨s, e1, e2⟩ := unpackX (Orders_source o) x hn
  rw [e1, jbd_s]
  have H : ∀ (d k q : Nat) (f : Nat → Int32), k + d = n → d < q → (∀ j, j < k → f j = nI (dg x n (dg y n j))) → ∃ f', f_X6_oneBehind_12 q (nI n) y (nI k) (Orders_row_s (Orders_source_s o s) f) = some (pkI f' n, Orders_row_s (Orders_source_s o s) f') ∧ ∀ j, j < n → f' j = nI (dg x n (dg y n j)) := by
    intro d
    induction d with
    | zero =>
      intro k q f h1 hq hf
      obtain ⟨q, rfl⟩ : ∃ x, q = x + 1 := ⟨q - 1, by omega⟩
      obtain rfl : k = n := by omega
      refine ⟨f, ?_, hf⟩
      rw [f_X6_oneBehind_12, if_pos (nI_le (by omega) (by omega))]
      unfold f_X6_oneBehind_50
      rw [packX _ hn, jbd_s]; rfl
    | succ d ih =>
      intro k q f h1 hq hf
      obtain ⟨q, rfl⟩ : ∃ x, q = x + 1 := ⟨q - 1, by omega⟩
      have hk : k < n := by omega
      have hd := hp.1 k hk
      obtain ⟨f', a1, a2⟩ := ih (k + 1) q (upd f k (nI (dg x n (dg y n k)))) (by omega) (by omega) (fun j hj => by
        by_cases h : j = k
        · subst h; exact pk_us
        · rw [pk_un h]; exact hf j (by omega))
      refine ⟨f', ?_, a2⟩
      rw [f_X6_oneBehind_12, if_neg (nI_ge (by omega) (by omega)), if_neg (ge_lit (m := 8) (M := 8) rfl (show k < 8 by omega) (by decide)), digX y hn hk, jbd_s, jgd_n _ (by omega) (by decide), jgd_n _ (by omega) (by decide), nI_clamp (by omega), nI_clamp (by omega), show Orders_source (Orders_row_s (Orders_source_s o s) f) (dg y n k) = nI (dg x n (dg y n k)) from e2 _ hd, nI_1]
      exact a1
  obtain ⟨f, a1, a2⟩ := H n 0 1000000 (Orders_row o) (by omega) (by omega) (fun j hj => by omega)
  exact ⟨s, f, a1, a2⟩
theorem behind14 (M : MS) {n : Nat} (hn : n ≤ 8) (y : Int32) (g : Nat → Int32) : ∀ (d k q : Nat) (t : Nat → Int32), k + d = n → d < q → (∀ j, j < k → t j = g j) → ∃ t', f_X12_behind_14 q (nI n) y (nI k) (M_turned_s (M_digit_s M g) t) = f_X12_behind_40 (nI n) y (M_turned_s (M_digit_s M g) t') ∧ ∀ j, j < n → t' j = g j := by
  intro d
  induction d with
  | zero =>
    intro k q t h1 hq ht
    obtain ⟨q, rfl⟩ : ∃ x, q = x + 1 := ⟨q - 1, by omega⟩
    obtain rfl : k = n := by omega
    exact ⟨t, by rw [f_X12_behind_14, if_pos (nI_le (by omega) (by omega))], ht⟩
  | succ d ih =>
    intro k q t h1 hq ht
    obtain ⟨q, rfl⟩ : ∃ x, q = x + 1 := ⟨q - 1, by omega⟩
    obtain ⟨t', a1, a2⟩ := ih (k + 1) q (upd t k (g k)) (by omega) (by omega) (fun j hj => by
      by_cases h : j = k
      · subst h; exact pk_us
      · rw [pk_un h]; exact ht j (by omega))
    refine ⟨t', ?_, a2⟩
    rw [f_X12_behind_14, if_neg (nI_ge (by omega) (by omega)), jgd_n _ (by omega) (by decide), jgd_n _ (by omega) (by decide), nI_clamp (by omega), td_digit, td_turned, tt_set, nI_1]
    exact a1
theorem behind54 (M : MS) {n : Nat} (hn : n ≤ 8) {dd : Nat → Nat} (hp : perm n dd) (t : Nat → Int32) : ∀ (d k q : Nat) (g : Nat → Int32), k + d = n → d < q → (∀ j, j < k → g j = t (dd j)) → (∀ j, k ≤ j → j < n → g j = nI (dd j)) → ∃ g', f_X12_behind_54 q (nI n) (nI k) (M_turned_s (M_digit_s M g) t) = some (pkI (fun j => t (dd j)) n, M_turned_s (M_digit_s M g') t) := by
  intro d
  induction d with
  | zero =>
    intro k q g h1 hq hg hg2
    obtain ⟨q, rfl⟩ : ∃ x, q = x + 1 := ⟨q - 1, by omega⟩
    obtain rfl : k = n := by omega
    refine ⟨g, ?_⟩
    rw [f_X12_behind_54, if_pos (nI_le (by omega) (by omega))]
    unfold f_X12_behind_85
    rw [packM _ hn, jbd_s, td_digit, pkI_congr hg]
  | succ d ih =>
    intro k q g h1 hq hg hg2
    obtain ⟨q, rfl⟩ : ∃ x, q = x + 1 := ⟨q - 1, by omega⟩
    have hk : k < n := by omega
    have hd := hp.1 k hk
    obtain ⟨g', e⟩ := ih (k + 1) q (upd g k (t (dd k))) (by omega) (by omega) (fun j hj => by
      by_cases h : j = k
      · subst h; exact pk_us
      · rw [pk_un h]; exact hg j (by omega)) (fun j hj hj2 => by rw [pk_un (by omega)]; exact hg2 j (by omega) hj2)
    refine ⟨g', ?_⟩
    rw [f_X12_behind_54, if_neg (nI_ge (by omega) (by omega)), jgd_n _ (by omega) (by decide), nI_clamp (by omega), td_digit, hg2 k (by omega) hk, jgd_n _ (by omega) (by decide), jgd_n _ (by omega) (by decide), nI_clamp (by omega), td_turned, td_set, nI_1]
    exact e
theorem op_behind (a0 : Int32) (a1 : Int32) (a2 : Int32) : oWW (f_X11_behind a0 a1 a2) (f_X12_behind a0 a1 a2) := by
  intro X M hR
  unfold f_X11_behind f_X12_behind
  rcases rng8 a0 with ⟨n, h1, hn, rfl⟩ | hbad
  · obtain ⟨r, x1, x2, x3⟩ := isOrderX X a1 h1 hn
    obtain ⟨r', g, m1, m2, m3, m4⟩ := takeM M a1 h1 hn
    rw [x1, jbd_s, m1, jbd_s]
    by_cases hc : isRow n a1
    · obtain rfl := x3.mpr hc
      obtain rfl := m3.mpr hc
      rw [if_neg one_ne, if_neg one_ne]
      obtain ⟨t, t1, t2⟩ := behind14 M hn a2 g n 0 1000000 (M_turned (M_digit_s M g)) (by omega) (by omega) (fun j hj => by omega)
      rw [turned_self] at t1
      obtain ⟨q, y1, y2, y3⟩ := isOrderX X a2 h1 hn
      obtain ⟨q', g2, n1, n2, n3, n4⟩ := takeM (M_turned_s (M_digit_s M g) t) a2 h1 hn
      rw [show f_X12_behind_14 jFU (nI n) a2 0 (M_digit_s M g) = _ from t1, y1, jbd_s]
      unfold f_X12_behind_40
      rw [n1, jbd_s, td_set]
      by_cases hc2 : isRow n a2
      · obtain rfl := y3.mpr hc2
        obtain rfl := n3.mpr hc2
        rw [if_neg one_ne, if_neg one_ne]
        obtain ⟨s, f, o1, o2⟩ := behindX (X_orders X) a1 a2 hn hc2.2
        obtain ⟨g', p1⟩ := behind54 M hn hc2.2 t n 0 1000000 g2 (by omega) (by omega) (fun j hj => by omega) (fun j _ hj => n4 j hj)
        rw [o1, jbd_s]
        refine ⟨pkI f n, _, _, rfl, ?_, (hR.core (td_core M g' t)).srow s f⟩
        rw [show pkI f n = pkI (fun j => t (dg a2 n j)) n from pkI_congr (fun j hj => by
          have hd := hc2.2.1 j hj
          rw [o2 j hj, t2 _ hd, m4 _ hd])]
        exact p1
      · rw [ord_no y2 y3 hc2, ord_no n2 n3 hc2, if_pos rfl, if_pos rfl]
        exact ⟨-1, X, _, rfl, rfl, hR.core (td_core M g2 t)⟩
    · rw [ord_no x2 x3 hc, ord_no m2 m3 hc, if_pos rfl, if_pos rfl]
      exact ⟨-1, X, _, rfl, rfl, hR.core (dig_core M g)⟩
  · rw [isOrderX_no X _ _ hbad, takeM_no M _ _ hbad, jbd_s, jbd_s, if_pos rfl, if_pos rfl]
    exact ⟨-1, X, M, rfl, rfl, hR⟩
/-! ranks -/
/-- how many of the places q .. n - 1 have a lesser digit than d -/
def lesA (dd : Nat → Nat) (v : Nat) : Nat → Nat → Nat
  | _, 0 => 0
  | q, c + 1 => (if dd q < v then 1 else 0) + lesA dd v (q + 1) c
def les (dd : Nat → Nat) (n k : Nat) : Nat := lesA dd (dd k) (k + 1) (n - 1 - k)
theorem lesA_le (dd : Nat → Nat) (v : Nat) : ∀ c q, lesA dd v q c ≤ c
  | 0, _ => Nat.le_refl _
  | c + 1, q => by
    show (if dd q < v then 1 else 0) + lesA dd v (q + 1) c ≤ c + 1
    have := lesA_le dd v c (q + 1)
    split <;> omega
theorem les_le (dd : Nat → Nat) (n k : Nat) : les dd n k ≤ n - 1 - k := lesA_le _ _ _ _
theorem lesX (o : OrdersS) {n : Nat} (hn : n ≤ 8) {dd : Nat → Nat} (hd : ∀ k, k < n → Orders_row o k = nI (dd k) ∧ dd k < 16) {k : Nat} (hk : k < n) : f_X6_lesserLater (nI n) (nI k) o = some (nI (les dd n k)) := by
  have H : ∀ (c q f a : Nat), q + c = n → k < q → c < f → f_X6_lesserLater_7 f (nI n) (nI k) (nI a) (nI q) o = some (nI (a + lesA dd (dd k) q c)) := by
    intro c
    induction c with
    | zero =>
      intro q f a h1 hk hf
      obtain ⟨f, rfl⟩ : ∃ x, f = x + 1 := ⟨f - 1, by omega⟩
      rw [f_X6_lesserLater_7, if_pos (nI_le (by omega) (by omega))]; rfl
    | succ c ih =>
      intro q f a h1 hkq hf
      obtain ⟨f, rfl⟩ : ∃ x, f = x + 1 := ⟨f - 1, by omega⟩
      obtain ⟨d1, d2⟩ := hd q (by omega)
      obtain ⟨d3, d4⟩ := hd k hk
      rw [f_X6_lesserLater_7, if_neg (nI_ge (by omega) (by omega)), if_neg (ge_lit (m := 8) (M := 8) rfl (show q < 8 by omega) (by decide)), jgd_n _ (by omega) (by decide), jgd_n _ (by omega) (by decide), nI_clamp (by omega), nI_clamp (by omega), d1, d3]
      unfold f_X6_lesserLater_39
      rw [nI_1]
      show _ = some (nI (a + ((if dd q < dd k then 1 else 0) + lesA dd (dd k) (q + 1) c)))
      by_cases h : dd q < dd k
      · rw [if_neg (nI_ge h (by omega)), nI_1, if_pos h, ih (q + 1) f (a + 1) (by omega) (by omega) (by omega), Nat.add_assoc]
      · rw [if_pos (nI_le (by omega) (by omega)), if_neg h, ih (q + 1) f a (by omega) (by omega) (by omega), Nat.zero_add]
  unfold f_X6_lesserLater
  rw [nI_1, show (0 : Int32) = nI 0 from rfl, H (n - 1 - k) (k + 1) jFU 0 (by omega) (by omega) (by unfold jFU; omega), Nat.zero_add]; rfl
theorem rank31 (k16 : Int32 → Int32 → Int32 → MS → Option (Int32 × MS)) (M : MS) {n : Nat} (hn : n ≤ 8) {dd : Nat → Nat} (hd : ∀ k, k < n → M_digit M k = nI (dd k) ∧ dd k < 16) {k : Nat} (hk : k < n) (v : Int32) : ∀ (c q f a : Nat), q + c = n → k < q → c < f → f_X12_rank_31 k16 f (nI n) v (nI k) (nI a) (nI q) M = f_X12_rank_70 k16 (nI n) v (nI k) (nI (a + lesA dd (dd k) q c)) M := by
  intro c
  induction c with
  | zero =>
    intro q f a h1 hk hf
    obtain ⟨f, rfl⟩ : ∃ x, f = x + 1 := ⟨f - 1, by omega⟩
    rw [f_X12_rank_31, if_pos (nI_le (by omega) (by omega))]; rfl
  | succ c ih =>
    intro q f a h1 hkq hf
    obtain ⟨f, rfl⟩ : ∃ x, f = x + 1 := ⟨f - 1, by omega⟩
    obtain ⟨d1, d2⟩ := hd q (by omega)
    obtain ⟨d3, d4⟩ := hd k hk
    rw [f_X12_rank_31, if_neg (nI_ge (by omega) (by omega)), jgd_n _ (by omega) (by decide), jgd_n _ (by omega) (by decide), nI_clamp (by omega), nI_clamp (by omega), d1, d3]
    unfold f_X12_rank_61
    rw [nI_1]
    show _ = f_X12_rank_70 k16 (nI n) v (nI k) (nI (a + ((if dd q < dd k then 1 else 0) + lesA dd (dd k) (q + 1) c))) M
    by_cases h : dd q < dd k
    · rw [if_neg (nI_ge h (by omega)), nI_1, if_pos h, ih (q + 1) f (a + 1) (by omega) (by omega) (by omega), Nat.add_assoc]
    · rw [if_pos (nI_le (by omega) (by omega)), if_neg h, show (0 : Int32) = nI 0 from rfl, nI_add, Nat.add_zero, ih (q + 1) f a (by omega) (by omega) (by omega), Nat.zero_add]
theorem fc_s : ∀ k, k < 8 → fc (k + 1) = (k + 1) * fc k := by decide
theorem op_rank (a0 : Int32) (a1 : Int32) : oWW (f_X11_rank a0 a1) (f_X12_rank a0 a1) := by
  intro X M hR
  unfold f_X11_rank f_X12_rank
  rcases rng8 a0 with ⟨n, h1, hn, rfl⟩ | hbad
  · obtain ⟨r, x1, x2, x3⟩ := isOrderX X a1 h1 hn
    obtain ⟨r', g, m1, m2, m3, m4⟩ := takeM M a1 h1 hn
    rw [x1, jbd_s, m1, jbd_s]
    by_cases hc : isRow n a1
    · obtain rfl := x3.mpr hc
      obtain rfl := m3.mpr hc
      rw [if_neg one_ne, if_neg one_ne]
      obtain ⟨s, e1, e2⟩ := unpackX (Orders_row (X_orders X)) a1 hn
      unfold f_X6_rankOf
      rw [e1, jbd_s]
      have H : ∀ (d k f f2 v : Nat), k + d = n → d < f → d < f2 → ∃ z : Int32, f_X6_rankOf_14 f (nI n) (nI (v * fc (n - k))) (nI k) (Orders_row_s (X_orders X) s) = some (z, Orders_row_s (X_orders X) s) ∧ f_X12_rank_16 f2 (nI n) (nI v) (nI k) (M_digit_s M g) = some (z, M_digit_s M g) := by
        intro d
        induction d with
        | zero =>
          intro k f f2 v q1 q2 q3
          obtain ⟨f, rfl⟩ : ∃ x, f = x + 1 := ⟨f - 1, by omega⟩
          obtain ⟨f2, rfl⟩ : ∃ x, f2 = x + 1 := ⟨f2 - 1, by omega⟩
          obtain rfl : k = n := by omega
          refine ⟨nI v, ?_, ?_⟩
          · rw [f_X6_rankOf_14, if_pos (nI_le (by omega) (by omega)), Nat.sub_self, show fc 0 = 1 from rfl, Nat.mul_one]
          · rw [f_X12_rank_16, if_pos (nI_le (by omega) (by omega))]
        | succ d ih =>
          intro k f f2 v q1 q2 q3
          obtain ⟨f, rfl⟩ : ∃ x, f = x + 1 := ⟨f - 1, by omega⟩
          obtain ⟨f2, rfl⟩ : ∃ x, f2 = x + 1 := ⟨f2 - 1, by omega⟩
          have hk : k < n := by omega
          obtain ⟨z, z1, z2⟩ := ih (k + 1) f f2 (v * (n - k) + les (dg a1 n) n k) (by omega) (by omega) (by omega)
          refine ⟨z, ?_, ?_⟩
          · rw [f_X6_rankOf_14, if_neg (nI_ge (by omega) (by omega)), if_neg (ge_lit (m := 8) (M := 8) rfl (show k < 8 by omega) (by decide)), lesX (Orders_row_s (X_orders X) s) hn (dd := dg a1 n) (fun j hj => ⟨e2 j hj, dg_lt a1 n j⟩) hk, jbd_s]
            have e3 : (nI n - (1 : Int32)) - nI k = nI (n - 1 - k) := by
              obtain ⟨m, rfl⟩ : ∃ m, n = m + 1 := ⟨n - 1, by omega⟩
              rw [nI_pred, pk_sub (by omega), Nat.add_sub_cancel]
            rw [e3, jgd_n _ (by omega) (by decide), nI_clamp (by omega), fc_jfac _ (by omega), pk_mul, nI_add, nI_1]
            have e4 : v * fc (n - k) + les (dg a1 n) n k * fc (n - 1 - k) = (v * (n - k) + les (dg a1 n) n k) * fc (n - (k + 1)) := by
              have := fc_s (n - (k + 1)) (by omega)
              rw [show n - k = n - (k + 1) + 1 by omega, this, show n - 1 - k = n - (k + 1) by omega, ← Nat.mul_assoc, ← Nat.add_mul]
            rw [e4]
            exact z1
          · rw [f_X12_rank_16, if_neg (nI_ge (by omega) (by omega)), nI_1, show (0 : Int32) = nI 0 from rfl, rank31 _ (M_digit_s M g) hn (dd := dg a1 n) (fun j hj => ⟨m4 j hj, dg_lt a1 n j⟩) hk (nI v) (n - 1 - k) (k + 1) jFU 0 (by omega) (by omega) (by unfold jFU; omega), Nat.zero_add]
            unfold f_X12_rank_70
            rw [pk_sub (by omega), pk_mul, nI_add, nI_1]
            exact z2
      obtain ⟨z, z1, z2⟩ := H n 0 1000000 1000000 0 (by omega) (by omega) (by omega)
      rw [Nat.zero_mul] at z1
      rw [show f_X6_rankOf_14 jFU (nI n) 0 0 (Orders_row_s (X_orders X) s) = _ from z1, jbd_s]
      exact ⟨z, _, _, rfl, z2, (hR.core (dig_core M g)).row s⟩
    · rw [ord_no x2 x3 hc, ord_no m2 m3 hc, if_pos rfl, if_pos rfl]
      exact ⟨-1, X, _, rfl, rfl, hR.core (dig_core M g)⟩
  · rw [isOrderX_no X _ _ hbad, takeM_no M _ _ hbad, jbd_s, jbd_s, if_pos rfl, if_pos rfl]
    exact ⟨-1, X, M, rfl, rfl, hR⟩
