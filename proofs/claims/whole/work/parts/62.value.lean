/-! values, differences, roots -/
theorem t64 (x y : Int32) (h1 : -1000 ≤ x.toInt ∧ x.toInt ≤ 1000) (h2 : -1000 ≤ y.toInt ∧ y.toInt ≤ 1000) : (x - y).toInt64 = x.toInt64 - y.toInt64 ∧ (x + y).toInt64 = x.toInt64 + y.toInt64 := by
  constructor
  · rw [← Int64.toInt_inj, Int64.toInt_sub, Int32.toInt_toInt64, Int32.toInt_toInt64, Int32.toInt_toInt64, Int32.toInt_sub, Int.bmod_def, Int.bmod_def]
    omega
  · rw [← Int64.toInt_inj, Int64.toInt_add, Int32.toInt_toInt64, Int32.toInt_toInt64, Int32.toInt_toInt64, Int32.toInt_add, Int.bmod_def, Int.bmod_def]
    omega
theorem zero_eq (b j : Nat) (hb : b < 4) : f_X8_zero (nI b) (nI j) = some (if b = 0 then 0 else if b = 2 then -(nI j) else nI j) := by
  rcases (show b = 0 ∨ b = 1 ∨ b = 2 ∨ b = 3 by omega) with rfl | rfl | rfl | rfl <;> rfl
theorem nI64_ne {j : Nat} (h : j < 100) : ¬ (nI j + (1 : Int32)).toInt64 = 0 := by
  rw [nI_1, ← Int64.toInt_inj, Int32.toInt_toInt64, nI_toInt (by omega)]
  show ¬ ((j + 1 : Nat) : Int) = 0
  omega
theorem jnzl_ne {α : Type} {y : Int64} (k : Option α) (h : ¬ y = 0) : jnzl y k = k := if_neg h
theorem nI_r {j : Nat} (h : j ≤ 1000) : -1000 ≤ (nI j).toInt ∧ (nI j).toInt ≤ 1000 := by rw [nI_toInt (by omega)]; omega
theorem val_loop {p : Nat} (hp : p < 4) (w : PolynomialS) (M : MS) (hR : RPoly p w M) (x : Int32) (hx : -1000 ≤ x.toInt ∧ x.toInt ≤ 1000) : ∀ (i j n m : Nat) (u v : Int64), i + j = 9 → i < n → i < m → ∃ r, f_X8_valueAt_8 n x u v (nI j) w = some r ∧ f_X12_valueAt_9 m (nI p) x.toInt64 u v (nI j) M = some r := by
  obtain ⟨h1, ⟨b, hb, h2⟩, h3, h4⟩ := hR
  have h1' : Polynomial_base w = nI b := h1.trans h2
  intro i
  induction i with
  | zero =>
    intro j n m u v hj hn hm
    obtain ⟨n, rfl⟩ : ∃ q, n = q + 1 := ⟨n - 1, by omega⟩
    obtain ⟨m, rfl⟩ : ∃ q, m = q + 1 := ⟨m - 1, by omega⟩
    have : j = 9 := by omega
    subst this
    exact ⟨u, by rw [f_X8_valueAt_8, if_pos (by decide)], by rw [f_X12_valueAt_9, if_pos (by decide)]⟩
  | succ i ih =>
    intro j n m u v hj hn hm
    obtain ⟨n, rfl⟩ : ∃ q, n = q + 1 := ⟨n - 1, by omega⟩
    obtain ⟨m, rfl⟩ : ∃ q, m = q + 1 := ⟨m - 1, by omega⟩
    have e : nI j + (1 : Int32) = nI (j + 1) := nI_1 j
    have hj9 : j < 9 := by omega
    rw [f_X8_valueAt_8, if_neg (by show ¬ nI 8 < nI j; exact nI_nlt (by omega) (by decide)), jgd_n _ hj9 (by decide), nI_clamp (by omega), h1', zero_eq b j hb, jbd_s, h3 j hj9]
    rw [f_X12_valueAt_9, if_neg (ge_lit (m := 9) (M := 9) rfl hj9 (by decide)), jgd_in (in36 hp hj9), cl9 hp hj9]
    simp only [jgd_n _ hp (by decide), nI_clamp (show p < 2 ^ 31 by omega), h2]
    unfold f_X8_valueAt_63 f_X12_valueAt_108
    obtain ⟨s1, s2⟩ := t64 x (nI j) hx (nI_r (by omega))
    rw [e]
    rcases (show b = 0 ∨ b = 1 ∨ b = 2 ∨ b = 3 by omega) with rfl | rfl | rfl | rfl
    · rw [if_neg (by decide), if_pos rfl, if_pos (by decide), Int32.sub_zero]
      exact ih (j + 1) n m _ _ (by omega) (by omega) (by omega)
    · rw [if_neg (by decide), if_neg (by decide), if_neg (by decide), if_neg (by decide), if_pos (by decide), s1]
      exact ih (j + 1) n m _ _ (by omega) (by omega) (by omega)
    · rw [if_neg (by decide), if_neg (by decide), if_pos rfl, if_neg (by decide), if_neg (by decide), if_pos (by decide), Int32.sub_neg, s2]
      exact ih (j + 1) n m _ _ (by omega) (by omega) (by omega)
    · rw [if_pos (by decide), if_neg (by decide), if_neg (by decide), if_neg (by decide), if_neg (by decide), if_neg (by decide), ← e, jnzl_ne _ (nI64_ne (by omega)), jnzl_ne _ (nI64_ne (by omega)), s1, e]
      exact ih (j + 1) n m _ _ (by omega) (by omega) (by omega)
theorem val_eq {p : Nat} (hp : p < 4) {w : PolynomialS} {M : MS} (hR : RPoly p w M) (x : Int32) (hx : -1000 ≤ x.toInt ∧ x.toInt ≤ 1000) : ∃ r, f_X8_valueAt x w = some r ∧ f_X12_valueAt (nI p) x.toInt64 M = some r :=
  val_loop hp w M hR x hx 9 0 1000000 1000000 0 1 (by decide) (by decide) (by decide)
/-! differences -/
theorem dif_in {J : Nat} (hJ : J ≤ 8) (k34 : Int32 → PolynomialS → Option (Int64 × PolynomialS)) (k72 : Int32 → Int32 → MS → Option (Int64 × MS)) : ∀ (d i R T n m : Nat) (w : PolynomialS) (M : MS), i + d = R → R + T = J → d < n → d < m → (∀ q, q ≤ J → Polynomial_room w q = M_table M q) →
    ∃ (r t : Nat → Int64), f_X8_difference_41 k34 n (nI R) (nI i) w = k34 (nI R + (-1 : Int32)) (Polynomial_room_s w r) ∧ f_X12_value_81 k72 m (nI J) (nI T) (nI i) M = k72 (nI J) (nI T + (1 : Int32)) (M_table_s M t) ∧ ∀ q, q ≤ J → r q = t q := by
  intro d
  induction d with
  | zero =>
    intro i R T n m w M h1 h2 hn hm ha
    obtain ⟨n, rfl⟩ : ∃ q, n = q + 1 := ⟨n - 1, by omega⟩
    obtain ⟨m, rfl⟩ : ∃ q, m = q + 1 := ⟨m - 1, by omega⟩
    have : i = R := by omega
    subst this
    refine ⟨Polynomial_room w, M_table M, ?_, ?_, ha⟩
    · rw [f_X8_difference_41, if_pos (nI_le (Nat.le_refl _) (by omega))]; rfl
    · rw [f_X12_value_81, pk_sub (by omega), if_pos (nI_le (by omega) (by omega))]; rfl
  | succ d ih =>
    intro i R T n m w M h1 h2 hn hm ha
    obtain ⟨n, rfl⟩ : ∃ q, n = q + 1 := ⟨n - 1, by omega⟩
    obtain ⟨m, rfl⟩ : ∃ q, m = q + 1 := ⟨m - 1, by omega⟩
    have e : nI i + (1 : Int32) = nI (i + 1) := nI_1 i
    obtain ⟨r, t, g1, g2, g3⟩ := ih (i + 1) R T n m (Polynomial_room_s w (vp_updL (Polynomial_room w) i (Polynomial_room w (i + 1) - Polynomial_room w i))) (M_table_s M (vp_updL (M_table M) i (M_table M (i + 1) - M_table M i))) (by omega) h2 (by omega) (by omega) (fun q hq => by
      show vp_updL (Polynomial_room w) i _ q = vp_updL (M_table M) i _ q
      rw [ha i (by omega), ha (i + 1) (by omega)]
      by_cases hqi : q = i
      · subst hqi; rw [pk_uLs, pk_uLs]
      · rw [pk_uLn hqi, pk_uLn hqi]; exact ha q hq)
    refine ⟨r, t, ?_, ?_, g3⟩
    · rw [f_X8_difference_41, if_neg (nI_ge (by omega) (by omega)), if_neg (ge_lit (m := 8) (M := 8) rfl (show i < 8 by omega) (by decide)), e, jgd_n _ (show i + 1 < 9 by omega) (by decide), jgd_n _ (show i < 9 by omega) (by decide), jgd_n _ (show i < 9 by omega) (by decide), nI_clamp (by omega), nI_clamp (by omega)]
      exact g1
    · rw [f_X12_value_81, pk_sub (by omega), if_neg (nI_ge (by omega) (by omega)), e, jgd_n _ (show i + 1 < 9 by omega) (by decide), jgd_n _ (show i < 9 by omega) (by decide), jgd_n _ (show i < 9 by omega) (by decide), nI_clamp (by omega), nI_clamp (by omega)]
      exact g2
theorem dif_out {J : Nat} (hJ : J ≤ 8) : ∀ (R T n m : Nat) (w : PolynomialS) (M : MS), R + T = J → R < n → R < m → (∀ q, q ≤ J → Polynomial_room w q = M_table M q) →
    ∃ (v : Int64) (r t : Nat → Int64), f_X8_difference_34 n (nI R) w = some (v, Polynomial_room_s w r) ∧ f_X12_value_72 m (nI J) (nI T) M = some (v, M_table_s M t) := by
  intro R
  induction R with
  | zero =>
    intro T n m w M h1 hn hm ha
    obtain ⟨n, rfl⟩ : ∃ q, n = q + 1 := ⟨n - 1, by omega⟩
    obtain ⟨m, rfl⟩ : ∃ q, m = q + 1 := ⟨m - 1, by omega⟩
    refine ⟨M_table M 0, Polynomial_room w, M_table M, ?_, ?_⟩
    · rw [f_X8_difference_34, if_pos (by decide), ← ha 0 (by omega)]; rfl
    · rw [f_X12_value_72, if_pos (nI_le (by omega) (by omega))]; rfl
  | succ R ih =>
    intro T n m w M h1 hn hm ha
    obtain ⟨n, rfl⟩ : ∃ q, n = q + 1 := ⟨n - 1, by omega⟩
    obtain ⟨m, rfl⟩ : ∃ q, m = q + 1 := ⟨m - 1, by omega⟩
    obtain ⟨r, t, g1, g2, g3⟩ := dif_in hJ (f_X8_difference_34 n) (f_X12_value_72 m) (R + 1) 0 (R + 1) T 1000000 1000000 w M (by omega) h1 (by omega) (by omega) ha
    obtain ⟨v, r2, t2, k1, k2⟩ := ih (T + 1) n m (Polynomial_room_s w r) (M_table_s M t) (by omega) (by omega) (by omega) g3
    refine ⟨v, r2, t2, ?_, ?_⟩
    · rw [f_X8_difference_34, if_neg (nI_nle (by omega) (by omega))]
      refine Eq.trans g1 ?_
      rw [pk_m1]
      exact k1
    · rw [f_X12_value_72, if_neg (nI_ge (by omega) (by omega))]
      refine Eq.trans g2 ?_
      rw [nI_1]
      exact k2
theorem dif_fill {p J : Nat} (hp : p < 4) (hJ : J ≤ 8) (x : Int32) (hx : -20 ≤ x.toInt ∧ x.toInt ≤ 20) : ∀ (i k n m : Nat) (w : PolynomialS) (M : MS), i + k = J + 1 → i < n → i < m → RPoly p w M → (∀ q, q < k → Polynomial_room w q = M_table M q) →
    ∃ (v : Int64) (r t : Nat → Int64), f_X8_difference_2 n x (nI J) (nI k) w = some (v, Polynomial_room_s w r) ∧ f_X12_value_40 m (nI p) x (nI J) (nI k) M = some (v, M_table_s M t) := by
  intro i
  induction i with
  | zero =>
    intro k n m w M h1 hn hm hR ha
    obtain ⟨n, rfl⟩ : ∃ q, n = q + 1 := ⟨n - 1, by omega⟩
    obtain ⟨m, rfl⟩ : ∃ q, m = q + 1 := ⟨m - 1, by omega⟩
    obtain ⟨v, r, t, k1, k2⟩ := dif_out hJ J 0 1000000 1000000 w M (by omega) (by omega) (by omega) (fun q hq => ha q (by omega))
    refine ⟨v, r, t, ?_, ?_⟩
    · rw [f_X8_difference_2, if_pos (nI_lt (by omega) (by omega))]; exact k1
    · rw [f_X12_value_40, if_pos (nI_lt (by omega) (by omega))]; exact k2
  | succ i ih =>
    intro k n m w M h1 hn hm hR ha
    obtain ⟨n, rfl⟩ : ∃ q, n = q + 1 := ⟨n - 1, by omega⟩
    obtain ⟨m, rfl⟩ : ∃ q, m = q + 1 := ⟨m - 1, by omega⟩
    have e : nI k + (1 : Int32) = nI (k + 1) := nI_1 k
    have hk : k ≤ 8 := by omega
    have hxk : -1000 ≤ (x + nI k).toInt ∧ (x + nI k).toInt ≤ 1000 := by
      rw [Int32.toInt_add, nI_toInt (by omega), Int.bmod_def]
      omega
    obtain ⟨y, y1, y2⟩ := val_eq hp hR (x + nI k) hxk
    obtain ⟨v, r, t, k1, k2⟩ := ih (k + 1) n m (Polynomial_room_s w (vp_updL (Polynomial_room w) k y)) (M_table_s M (vp_updL (M_table M) k y)) (by omega) (by omega) (by omega) hR (fun q hq => by
      show vp_updL (Polynomial_room w) k y q = vp_updL (M_table M) k y q
      by_cases hqk : q = k
      · subst hqk; rw [pk_uLs, pk_uLs]
      · rw [pk_uLn hqk, pk_uLn hqk]; exact ha q (by omega))
    refine ⟨v, r, t, ?_, ?_⟩
    · rw [f_X8_difference_2, if_neg (nI_nlt (by omega) (by omega)), if_neg (by show ¬ nI 8 < nI k; exact nI_nlt hk (by decide)), y1, jbd_s, jgd_n _ (show k < 9 by omega) (by decide), nI_clamp (by omega), e]
      exact k1
    · rw [f_X12_value_40, if_neg (nI_nlt (by omega) (by omega)), y2, jbd_s, jgd_n _ (show k < 9 by omega) (by decide), nI_clamp (by omega), e]
      exact k2
theorem rngS {x : Int32} : ((-20 : Int64) ≤ x.toInt64 ∧ x.toInt64 ≤ 20) ↔ (-20 ≤ x ∧ x ≤ 20) := by
  rw [i64_le, i64_ge, Int32.le_iff_toInt_le, Int32.le_iff_toInt_le]
  exact Iff.rfl
theorem xPoly_room (X : XS) (M : MS) (hR : Rel X M) {p : Nat} (hp : p < 4) (r t : Nat → Int64) : Rel (xPoly_s X p (Polynomial_room_s (xPoly X p) r)) (M_table_s M t) :=
  hR.setPoly hp _ rfl rfl rfl rfl (fun _ _ _ => ⟨rfl, fun _ _ => rfl⟩) (hR.poly hp)
theorem op_value (a0 : Int32) (a1 : Int32) (a2 : Int32) : oWW (f_X11_value a0 a1 a2) (f_X12_value a0 a1 a2) := by
  intro X M hR
  unfold f_X11_value f_X12_value
  rw [isPolyX, isPolyM, jbd_s, jbd_s]
  rcases rng (x := a0) (M := 3) (m := 3) (by decide) with ⟨p, hp, rfl⟩ | hbad
  · have hp4 : p < 4 := by omega
    rw [b01_in (m := 3) (M := 3) rfl hp (by decide), if_neg one_ne, if_neg one_ne, within_eq, in_eq, jbd_s, jbd_s, b01_iff rngS]
    by_cases hx : -20 ≤ a1 ∧ a1 ≤ 20
    · rw [b01_t hx, if_neg one_ne, if_neg one_ne, within_eq, inI a2 8 8 (by decide), jbd_s, jbd_s]
      rcases rng (x := a2) (M := 8) (m := 8) (by decide) with ⟨J, hJ, rfl⟩ | hbad
      · have hx2 : -20 ≤ a1.toInt ∧ a1.toInt ≤ 20 := ⟨by have := Int32.le_iff_toInt_le.mp hx.1; exact this, by have := Int32.le_iff_toInt_le.mp hx.2; exact this⟩
        obtain ⟨v, r, t, k1, k2⟩ := dif_fill hp4 hJ a1 hx2 (J + 1) 0 1000000 1000000 (xPoly X p) M (by omega) (by omega) (by omega) (hR.poly hp4) (fun q hq => by omega)
        rw [b01_in (m := 8) (M := 8) rfl hJ (by decide), if_neg one_ne, if_neg one_ne, jgd_n _ hp4 (by decide)]
        refine ⟨v, xPoly_s X p (Polynomial_room_s (xPoly X p) r), M_table_s M t, ?_, k2, xPoly_room X M hR hp4 r t⟩
        refine Eq.trans (sel4 p hp4 (fun q => jbd (f_X8_difference a1 (nI J) (xPoly X q)) (fun r40 => some (r40.1, xPoly_s X q r40.2)))) ?_
        have k1' : f_X8_difference a1 (nI J) (xPoly X p) = some (v, Polynomial_room_s (xPoly X p) r) := k1
        show jbd (f_X8_difference a1 (nI J) (xPoly X p)) _ = _
        rw [k1', jbd_s]
      · rw [b01_f hbad, if_pos rfl, if_pos rfl]
        exact ⟨_, X, M, rfl, rfl, hR⟩
    · rw [b01_f hx, if_pos rfl, if_pos rfl]
      exact ⟨_, X, M, rfl, rfl, hR⟩
  · rw [b01_f hbad, if_pos rfl, if_pos rfl]
    exact ⟨_, X, M, rfl, rfl, hR⟩
/-! roots -/
theorem root_loop {p : Nat} (hp : p < 4) (X : XS) (M : MS) (hR : RPoly p (xPoly X p) M) (a1 : Int32) : ∀ (i k n m : Nat) (c : Int32), i + k = 41 → i < n → i < m → ∃ v, f_X11_root_22 n (nI p) a1 c (nI k - nI 20) X = some v ∧ f_X12_root_22 m (nI p) a1 c (nI k - nI 20) M = some v := by
  intro i
  induction i with
  | zero =>
    intro k n m c h1 hn hm
    obtain ⟨n, rfl⟩ : ∃ q, n = q + 1 := ⟨n - 1, by omega⟩
    obtain ⟨m, rfl⟩ : ∃ q, m = q + 1 := ⟨m - 1, by omega⟩
    have : k = 41 := by omega
    subst this
    rw [f_X11_root_22, if_pos (by decide), f_X12_root_22, if_pos (by decide)]
    unfold f_X11_root_62 f_X12_root_59
    by_cases h : a1 = -1
    · rw [if_pos h]; exact ⟨_, rfl, rfl⟩
    · rw [if_neg h]; exact ⟨_, rfl, rfl⟩
  | succ i ih =>
    intro k n m c h1 hn hm
    obtain ⟨n, rfl⟩ : ∃ q, n = q + 1 := ⟨n - 1, by omega⟩
    obtain ⟨m, rfl⟩ : ∃ q, m = q + 1 := ⟨m - 1, by omega⟩
    have ht : (nI k - nI 20).toInt = (k : Int) - 20 := pk_sub_toInt (by omega) (by omega)
    have e : nI k - nI 20 + (1 : Int32) = nI (k + 1) - nI 20 := by
      show nI k - nI 20 + nI 1 = _
      rw [Int32.sub_eq_add_neg, Int32.sub_eq_add_neg, Int32.add_assoc, Int32.add_comm (-nI 20), ← Int32.add_assoc, nI_add]
    obtain ⟨y, y1, y2⟩ := val_eq hp hR (nI k - nI 20) (by rw [ht]; omega)
    have c1 : ¬ (20 : Int32) < nI k - nI 20 := by
      rw [Int32.lt_iff_toInt_lt, ht]
      show ¬ (20 : Int) < _
      omega
    have c2 : ¬ (21 : Int32) ≤ nI k - nI 20 := by
      rw [Int32.le_iff_toInt_le, ht]
      show ¬ (21 : Int) ≤ _
      omega
    rw [f_X11_root_22, if_neg c1, jgd_n _ hp (by decide), f_X12_root_22, if_neg c2, y2, jbd_s]
    have sel := sel4 p hp (fun q => jbd (f_X8_valueAt (nI k - nI 20) (xPoly X q)) (fun r37 => if (lg_cmp r37 (0 : Int64)) = 0 then (if c = a1 then some (nI k - nI 20) else f_X11_root_56 (f_X11_root_22 n) (nI p) a1 (c + (1 : Int32)) (nI k - nI 20) X) else f_X11_root_56 (f_X11_root_22 n) (nI p) a1 c (nI k - nI 20) X))
    have fin : ∃ v, (jbd (f_X8_valueAt (nI k - nI 20) (xPoly X p)) (fun r37 => if (lg_cmp r37 (0 : Int64)) = 0 then (if c = a1 then some (nI k - nI 20) else f_X11_root_56 (f_X11_root_22 n) (nI p) a1 (c + (1 : Int32)) (nI k - nI 20) X) else f_X11_root_56 (f_X11_root_22 n) (nI p) a1 c (nI k - nI 20) X)) = some v ∧ (if (lg_cmp y (0 : Int64)) = 0 then (if c = a1 then some (nI k - nI 20) else f_X12_root_53 (f_X12_root_22 m) (nI p) a1 (c + (1 : Int32)) (nI k - nI 20) M) else f_X12_root_53 (f_X12_root_22 m) (nI p) a1 c (nI k - nI 20) M) = some v := by
      rw [y1, jbd_s]
      unfold f_X11_root_56 f_X12_root_53
      rw [e]
      by_cases h : lg_cmp y 0 = 0
      · rw [if_pos h, if_pos h]
        by_cases h2 : c = a1
        · rw [if_pos h2, if_pos h2]; exact ⟨_, rfl, rfl⟩
        · rw [if_neg h2, if_neg h2]
          exact ih (k + 1) n m _ (by omega) (by omega) (by omega)
      · rw [if_neg h, if_neg h]
        exact ih (k + 1) n m _ (by omega) (by omega) (by omega)
    obtain ⟨v, v1, v2⟩ := fin
    exact ⟨v, sel.trans v1, v2⟩
theorem op_root (a0 : Int32) (a1 : Int32) : oRR (f_X11_root a0 a1) (f_X12_root a0 a1) := by
  intro X M hR
  unfold f_X11_root f_X12_root
  rw [isPolyX, isPolyM, jbd_s, jbd_s]
  rcases rng (x := a0) (M := 3) (m := 3) (by decide) with ⟨p, hp, rfl⟩ | hbad
  · have hp4 : p < 4 := by omega
    rw [b01_in (m := 3) (M := 3) rfl hp (by decide), if_neg one_ne, if_neg one_ne]
    by_cases h : -1 ≤ a1
    · rw [if_pos h, if_pos h]
      exact root_loop hp4 X M (hR.poly hp4) a1 41 0 1000000 1000000 0 (by decide) (by decide) (by decide)
    · rw [if_neg h, if_neg h]; exact ⟨_, rfl, rfl⟩
  · rw [b01_f hbad, if_pos rfl, if_pos rfl]
    exact ⟨_, rfl, rfl⟩
