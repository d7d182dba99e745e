/-! the reference's rests -/
theorem jnz_ne {α : Type} {y : Int32} (k : Option α) (h : ¬ y = 0) : jnz y k = k := if_neg h
theorem tmod_emod' (x : Int) (m : Nat) : x.tmod m % m = x % m := by rw [Int.tmod_def, Int.sub_mul_emod_self_left]
theorem restT {m : Nat} (hm : 2 ≤ m) (hM : m ≤ 10000) (c : Int32) {R : Int} (hR : 0 ≤ R ∧ R < m) : ((c - c / nI m * nI m) * J32 R) - ((c - c / nI m * nI m) * J32 R) / nI m * nI m = J32 ((c.toInt.tmod m * R).tmod m) := by
  have hc := J_rem hm hM (v := c.toInt) (by have := c.toInt_lt; have := c.le_toInt; omega)
  rw [J_self] at hc
  have h1 := Int.tmod_lt_of_pos c.toInt (show (0 : Int) < m by omega)
  have h2 := Int.lt_tmod_of_pos c.toInt (show (0 : Int) < m by omega)
  have h3 : c.toInt.tmod m * R ≤ 10000 * R := Int.mul_le_mul_of_nonneg_right (by omega) hR.1
  have h4 : -10000 * R ≤ c.toInt.tmod m * R := Int.mul_le_mul_of_nonneg_right (by omega) hR.1
  rw [hc, J_mul, J_rem hm hM (by omega)]
theorem restU {m : Nat} (hm : 2 ≤ m) (hM : m ≤ 10000) {x y : Int} (hx : -m < x ∧ x < m) (hy : -m < y ∧ y < m) : (((J32 x + J32 y) - (J32 x + J32 y) / nI m * nI m) + nI m) - (((J32 x + J32 y) - (J32 x + J32 y) / nI m * nI m) + nI m) / nI m * nI m = J32 ((x + y) % m) := by
  have h1 := Int.tmod_lt_of_pos (x + y) (show (0 : Int) < m by omega)
  have h2 := Int.lt_tmod_of_pos (x + y) (show (0 : Int) < m by omega)
  have e : (J32 x + J32 y) - (J32 x + J32 y) / nI m * nI m = J32 ((x + y).tmod m) := by rw [J_add, J_rem hm hM (by omega)]
  have e2 : J32 ((x + y).tmod m) + nI m = J32 ((x + y).tmod m + m) := by rw [J_nI, J_add]
  rw [e, e2, J_rem hm hM (by omega), Int.tmod_eq_emod_of_nonneg (by omega), Int.add_emod_right, tmod_emod']
theorem tmR (x : Int) {m : Nat} (hm : 2 ≤ m) : -m < x.tmod m ∧ x.tmod m < m := ⟨Int.lt_tmod_of_pos _ (by omega), Int.tmod_lt_of_pos _ (by omega)⟩
theorem restV (c R : Int) (m : Nat) : (c.tmod m * R).tmod m % m = c * R % m := by
  rw [tmod_emod', Int.mul_emod, tmod_emod', ← Int.mul_emod]
theorem addm (x y x' y' : Int) (m : Nat) (hx : x % m = x' % m) (hy : y % m = y' % m) : (x + y) % m = (x' + y') % m := by
  rw [Int.add_emod, hx, hy, ← Int.add_emod]
section
variable (k80 : Int32 → Int32 → Int32 → Int32 → Int32 → Int32 → MS → Option (Int32 × MS)) (M0 : MS) {l m n k : Nat}
theorem restM_in (hl : l < 4) (hb : ∀ i, i < 7 → b9 (M_law M0 (7 * l + i))) (hm : 2 ≤ m) (hM : m ≤ 10000) (hn : n ≤ 60) {r s z : Nat} (hr : r + 1 ≤ n) (hs : s + z = 61) (hs2 : s = 0 ∨ s = 61) : ∀ (d q f : Nat) (g : Nat → Int32), q + d = r + 2 → d < f → (∀ i, i ≤ r → g (s + i) = J32 (rR (mA M0 l) (mB M0 l) (mT M0 l) m r i)) → (∀ i, i < q → g (z + i) = J32 (rR (mA M0 l) (mB M0 l) (mT M0 l) m (r + 1) i)) →
    ∃ g', f_X12_rest_96 k80 f (nI l) (nI n) (nI k) (nI m) (nI s) (nI (r + 1)) (nI z) (nI q) (M_rests_s M0 g) = k80 (nI l) (nI n) (nI k) (nI m) (nI z) (nI (r + 2)) (M_rests_s M0 g') ∧ ∀ i, i < r + 2 → g' (z + i) = J32 (rR (mA M0 l) (mB M0 l) (mT M0 l) m (r + 1) i) := by
  intro d
  induction d with
  | zero =>
    intro q f g h1 hf hg hz
    obtain ⟨f, rfl⟩ : ∃ x, f = x + 1 := ⟨f - 1, by omega⟩
    obtain rfl : q = r + 2 := by omega
    refine ⟨g, ?_, hz⟩
    rw [f_X12_rest_96, if_pos (nI_lt (by omega) (by omega))]
    unfold f_X12_rest_213
    rw [nI_1]
  | succ d ih =>
    intro q f g h1 hf hg hz
    obtain ⟨f, rfl⟩ : ∃ x, f = x + 1 := ⟨f - 1, by omega⟩
    have hm0 : ¬ nI m = 0 := nI_ne0 (by omega) (by omega)
    obtain ⟨g', e1, e2⟩ := ih (q + 1) f (upd g (z + q) (J32 (rR (mA M0 l) (mB M0 l) (mT M0 l) m (r + 1) q))) (by omega) (by omega) (fun i hi => by rw [pk_un (by omega)]; exact hg i hi) (fun i hi => by
      by_cases h : i = q
      · subst h; exact pk_us
      · rw [pk_un (by omega)]; exact hz i (by omega))
    refine ⟨g', ?_, e2⟩
    have hlaw : M_law (M_rests_s M0 g) = M_law M0 := rfl
    have hres : M_rests (M_rests_s M0 g) = g := rfl
    have fin : ∀ (x y : Int), (-m < x ∧ x < m) → (-m < y ∧ y < m) → (x + y) % m = rR (mA M0 l) (mB M0 l) (mT M0 l) m (r + 1) q → f_X12_rest_183 k80 (f_X12_rest_96 k80 f) (nI l) (nI n) (nI k) (nI m) (nI s) (nI (r + 1)) (nI z) (nI q) (J32 x) (J32 y) (M_rests_s M0 g) = k80 (nI l) (nI n) (nI k) (nI m) (nI z) (nI (r + 2)) (M_rests_s M0 g') := by
      intro x y hx hy hxy
      unfold f_X12_rest_183
      rw [jnz_ne _ hm0, jnz_ne _ hm0, nI_add, jgd_n _ (by omega) (by decide), nI_clamp (by omega), restU hm hM hx hy, hxy, hres, nI_1]
      exact e1
    have sec : ∀ (x : Int), (-m < x ∧ x < m) → x % m = (if q = 0 then 0 else tCo (mA M0 l) (r + 1) q * rR (mA M0 l) (mB M0 l) (mT M0 l) m r (q - 1)) % m → f_X12_rest_141 k80 (f_X12_rest_96 k80 f) (nI l) (nI n) (nI k) (nI m) (nI s) (nI (r + 1)) (nI z) (nI q) (J32 x) (M_rests_s M0 g) = k80 (nI l) (nI n) (nI k) (nI m) (nI z) (nI (r + 2)) (M_rests_s M0 g') := by
      intro x hx hx2
      unfold f_X12_rest_141
      by_cases h : q = r + 1
      · rw [if_pos (nI_le (by omega) (by omega))]
        refine fin x 0 hx (by omega) ?_
        show _ = ((if q = 0 then 0 else _) + tCo (mB M0 l) (r + 1) q * rR (mA M0 l) (mB M0 l) (mT M0 l) m r q) % m
        refine addm _ _ _ _ _ hx2 ?_
        rw [rR_out r q (by omega), Int.mul_zero]
      · rw [if_neg (nI_ge (by omega) (by omega))]
        obtain ⟨c, c1, c2, c3⟩ := comes_eq (M_rests_s M0 g) hl (Or.inr rfl) (O := 3) rfl hb (show r + 1 ≤ 60 by omega) (show q ≤ 60 by omega)
        rw [c1, jbd_s, jnz_ne _ hm0, nI_add, jgd_n _ (by omega) (by decide), jnz_ne _ hm0, nI_clamp (by omega), hres, hg q (by omega), restT hm hM c (rR_r hm r q)]
        refine fin x _ hx (tmR _ hm) ?_
        show _ = ((if q = 0 then 0 else _) + tCo (mB M0 l) (r + 1) q * rR (mA M0 l) (mB M0 l) (mT M0 l) m r q) % m
        refine addm _ _ _ _ _ hx2 ?_
        rw [restV, c2]; rfl
    rw [f_X12_rest_96, if_neg (nI_nlt (by omega) (by omega))]
    by_cases h : q = 0
    · subst h
      rw [if_pos (show nI 0 ≤ 0 by decide)]
      exact sec 0 (by omega) (by rw [if_pos rfl])
    · obtain ⟨p, rfl⟩ : ∃ p, q = p + 1 := ⟨q - 1, by omega⟩
      rw [if_neg (nI_nle (by omega) (by omega))]
      obtain ⟨c, c1, c2, c3⟩ := comes_eq (M_rests_s M0 g) hl (Or.inl rfl) (O := 0) rfl hb (show r + 1 ≤ 60 by omega) (show p + 1 ≤ 60 by omega)
      rw [c1, jbd_s, jnz_ne _ hm0, nI_add, show s + (p + 1) = s + p + 1 by omega, nI_pred, jgd_n _ (by omega) (by decide), jnz_ne _ hm0, nI_clamp (by omega), hres, hg p (by omega), restT hm hM c (rR_r hm r p)]
      refine sec _ (tmR _ hm) ?_
      rw [if_neg (by omega), restV, c2]; rfl
end
theorem restM_out (M0 : MS) {l m n k : Nat} (hl : l < 4) (hb : ∀ i, i < 7 → b9 (M_law M0 (7 * l + i))) (hm : 2 ≤ m) (hM : m ≤ 10000) (hn : n ≤ 60) (hk : k ≤ n) : ∀ (d r s f : Nat) (g : Nat → Int32), r + d = n → (s = 0 ∨ s = 61) → d < f → (∀ i, i ≤ r → g (s + i) = J32 (rR (mA M0 l) (mB M0 l) (mT M0 l) m r i)) →
    ∃ g', f_X12_rest_80 f (nI l) (nI n) (nI k) (nI m) (nI s) (nI (r + 1)) (M_rests_s M0 g) = some (J32 (rR (mA M0 l) (mB M0 l) (mT M0 l) m n k), M_rests_s M0 g') := by
  intro d
  induction d with
  | zero =>
    intro r s f g h1 hs hf hg
    obtain ⟨f, rfl⟩ : ∃ x, f = x + 1 := ⟨f - 1, by omega⟩
    obtain rfl : r = n := by omega
    refine ⟨g, ?_⟩
    rw [f_X12_rest_80, if_pos (nI_lt (by omega) (by omega))]
    unfold f_X12_rest_223
    rw [nI_add, jgd_n _ (by omega) (by decide), nI_clamp (by omega), ← hg k hk]; rfl
  | succ d ih =>
    intro r s f g h1 hs hf hg
    obtain ⟨f, rfl⟩ : ∃ x, f = x + 1 := ⟨f - 1, by omega⟩
    obtain ⟨g1, e1, e2⟩ := restM_in (f_X12_rest_80 f) M0 (k := k) (z := 61 - s) hl hb hm hM hn (show r + 1 ≤ n by omega) (by omega) hs (r + 2) 0 1000000 g (by omega) (by omega) hg (fun i hi => by omega)
    obtain ⟨g', e3⟩ := ih (r + 1) (61 - s) f g1 (by omega) (by omega) (by omega) (fun i hi => e2 i (by omega))
    refine ⟨g', ?_⟩
    rw [f_X12_rest_80, if_neg (nI_nlt (by omega) (by omega)), show (61 : Int32) = nI 61 from rfl, pk_sub (by omega), show (0 : Int32) = nI 0 from rfl]
    exact e1.trans e3
theorem rR_congr {a a' b b' : Nat → Int} {t : Int} {m : Nat} (ha : ∀ i, i < 3 → a i = a' i) (hb : ∀ i, i < 3 → b i = b' i) : ∀ n k, rR a b t m n k = rR a' b' t m n k
  | 0, _ => rfl
  | n + 1, k => by
    show ((if k = 0 then 0 else tCo a (n + 1) k * rR a b t m n (k - 1)) + tCo b (n + 1) k * rR a b t m n k) % m = ((if k = 0 then 0 else tCo a' (n + 1) k * rR a' b' t m n (k - 1)) + tCo b' (n + 1) k * rR a' b' t m n k) % m
    unfold tCo
    rw [ha 0 (by omega), ha 1 (by omega), ha 2 (by omega), hb 0 (by omega), hb 1 (by omega), hb 2 (by omega), rR_congr ha hb n, rR_congr ha hb n]
theorem RLaw.ok {l : Nat} {w : LawS} {M : MS} (h : RLaw l w M) : wOk w :=
  ⟨fun i hi => by rw [h.1 i hi]; exact h.2.2.2.2.1 i (by omega), fun i hi => by rw [h.2.1 i hi, Nat.add_assoc]; exact h.2.2.2.2.1 (3 + i) (by omega), by rw [h.2.2.1]; exact h.2.2.2.2.1 6 (by omega)⟩
theorem law_rR {l : Nat} {w : LawS} {M : MS} (h : RLaw l w M) (m n k : Nat) : rR (lawA w) (lawB w) (Law_top w).toInt m n k = rR (mA M l) (mB M l) (mT M l) m n k := by
  rw [h.2.2.1]
  exact rR_congr (fun i hi => by show (Law_left w i).toInt = _; rw [h.1 i hi]; rfl) (fun i hi => by show (Law_above w i).toInt = _; rw [h.2.1 i hi]; rfl) n k
/-- the rests are no part of what a law is -/
theorem Rel.rests {X : XS} {M : MS} (h : Rel X M) {p : Nat} (hp : p < 4) (g : Nat → Int32) : Rel (xLaw_s X p (Law_rests_s (xLaw X p) g)) M := by
  refine h.setLaw hp _ rfl rfl rfl rfl (fun q v hq hqp hv => hv) ?_
  exact h.law hp
theorem rngM {x : Int32} : (∃ j : Nat, 2 ≤ j ∧ j ≤ 10000 ∧ x = nI j) ∨ ¬ (2 ≤ x ∧ x ≤ 10000) := by
  by_cases h : 2 ≤ x ∧ x ≤ 10000
  · left
    have e1 : (2 : Int32).toInt = 2 := by decide
    have h1 := h.1
    rw [Int32.le_iff_toInt_le, e1] at h1
    obtain ⟨j, hj, rfl⟩ := nI_of2 (M := 10000) (n := 10000) (by decide) (fun e => by
      rw [Int32.lt_iff_toInt_lt] at e
      have e0 : (0 : Int32).toInt = 0 := by decide
      rw [e0] at e; omega) h.2
    rw [nI_toInt (by omega)] at h1
    exact ⟨j, by omega, hj, rfl⟩
  · exact Or.inr h
theorem in2 (x : Int32) : f_X12_in x.toInt64 2 10000 = some (b01 (2 ≤ x ∧ x ≤ 10000)) := by
  rw [in_eq]
  refine congrArg some (b01_iff ?_)
  rw [i64_le, i64_ge, Int32.le_iff_toInt_le, Int32.le_iff_toInt_le]
  exact Iff.rfl
theorem op_rest (a0 : Int32) (a1 : Int32) (a2 : Int32) (a3 : Int32) : oWW (f_X11_rest a0 a1 a2 a3) (f_X12_rest a0 a1 a2 a3) := by
  intro X M hR
  unfold f_X11_rest f_X12_rest
  rw [isLawX, isLawM, jbd_s, jbd_s]
  rcases rng (x := a0) (M := 3) (m := 3) (by decide) with ⟨l, hl, rfl⟩ | hbad
  · have hl4 : l < 4 := by omega
    rw [b01_in (m := 3) (M := 3) rfl hl (by decide), if_neg one_ne, if_neg one_ne, isPlace_eq, inI a1 60 60 (by decide), jbd_s, jbd_s]
    rcases rng (x := a1) (M := 60) (m := 60) (by decide) with ⟨n, hn, rfl⟩ | hbad
    · rw [b01_in (m := 60) (M := 60) rfl hn (by decide), if_neg one_ne, in_n _ (by omega), jbd_s]
      rcases rngN (k := a2) (n := n) (by omega) with ⟨k, hk, rfl⟩ | hbad
      · have hp : (0 ≤ nI n ∧ nI n ≤ 60) ∧ (0 ≤ nI k ∧ nI k ≤ nI n) := ⟨⟨nI_pos' (by omega), nI_le (b := 60) hn (by decide)⟩, ⟨nI_pos' (by omega), nI_le hk (by omega)⟩⟩
        rw [b01_t hp, if_neg one_ne, b01_t hp.2, if_neg one_ne, within_eq, in2, jbd_s, jbd_s]
        rcases rngM (x := a3) with ⟨m, hm, hM, rfl⟩ | hbad
        · have h2 : (2 : Int32) ≤ nI m ∧ nI m ≤ 10000 := ⟨nI_le (a := 2) hm (by omega), nI_le (b := 10000) hM (by decide)⟩
          have hm0 : ¬ nI m = 0 := nI_ne0 (by omega) (by omega)
          rw [b01_t h2, if_neg one_ne, if_neg one_ne, jgd_n _ hl4 (by decide)]
          have hb := hR.lawB hl4
          have h6 := hb 6 (by omega)
          unfold b9 at h6
          have hx := restU hm hM (x := (M_law M (7 * l + 6)).toInt.tmod m) (y := 0) (tmR _ hm) (by omega)
          obtain ⟨g, e⟩ := restM_out M hl4 hb hm hM hn hk n 0 0 1000000 (upd (M_rests M) 0 (J32 ((mT M l) % m))) (by omega) (Or.inl rfl) (by omega) (fun i hi => by
            obtain rfl : i = 0 := by omega
            exact pk_us)
          have hX : ∀ q, q < 4 → ∃ g, f_X2_restAt (nI n) (nI k) (nI m) (xLaw X q) = some (J32 (rR (mA M q) (mB M q) (mT M q) m n k), Law_rests_s (xLaw X q) g) := fun q hq => by
            obtain ⟨g, e⟩ := restAt_eq (xLaw X q) (hR.law hq).ok hm hM hn hk
            rw [law_rR (hR.law hq)] at e
            exact ⟨g, e⟩
          obtain ⟨gl, el⟩ := hX l hl4
          refine ⟨J32 (rR (mA M l) (mB M l) (mT M l) m n k), xLaw_s X l (Law_rests_s (xLaw X l) gl), M_rests_s M g, ?_, ?_, ?_⟩
          · have : ∀ q, q < 4 → q = l → jbd (f_X2_restAt (nI n) (nI k) (nI m) (xLaw X q)) (fun r41 => some (r41.1, xLaw_s X q r41.2)) = some (J32 (rR (mA M l) (mB M l) (mT M l) m n k), xLaw_s X l (Law_rests_s (xLaw X l) gl)) := by
              intro q hq e; subst e; rw [el, jbd_s]
            exact (sel4 l hl4 (fun q => jbd (f_X2_restAt (nI n) (nI k) (nI m) (xLaw X q)) (fun r41 => some (r41.1, xLaw_s X q r41.2)))).trans (this l hl4 rfl)
          · rw [show (7 : Int32) * nI l + (6 : Int32) = nI (7 * l + 6) by rw [show (7 : Int32) = nI 7 from rfl, pk_mul, show (6 : Int32) = nI 6 from rfl, nI_add], jgd_n _ (by omega) (by decide), jnz_ne _ hm0, jnz_ne _ hm0, show (0 : Int32) = nI 0 from rfl, jgd_n _ (by omega) (by decide), nI_clamp (by omega), nI_clamp (by omega)]
            have e1 := J_rem hm hM (v := (M_law M (7 * l + 6)).toInt) (by omega)
            rw [J_self] at e1
            have ht := tmR (M_law M (7 * l + 6)).toInt hm
            have e2 : J32 ((M_law M (7 * l + 6)).toInt.tmod m) + nI m = J32 ((M_law M (7 * l + 6)).toInt.tmod m + m) := by rw [J_nI, J_add]
            rw [e1, e2, J_rem hm hM (by omega), Int.tmod_eq_emod_of_nonneg (by omega), Int.add_emod_right, tmod_emod']
            exact e
          · exact (hR.core (M' := M_rests_s M g) rfl).rests hl4 gl
        · rw [b01_f hbad, if_pos rfl, if_pos rfl]; exact ⟨_, X, M, rfl, rfl, hR⟩
      · rw [b01_f (fun e => hbad e.2), if_pos rfl, b01_f hbad, if_pos rfl]; exact ⟨_, X, M, rfl, rfl, hR⟩
    · rw [b01_f (fun e => hbad e.1), if_pos rfl, b01_f hbad, if_pos rfl]; exact ⟨_, X, M, rfl, rfl, hR⟩
  · rw [b01_f hbad, if_pos rfl, if_pos rfl]
    exact ⟨_, X, M, rfl, rfl, hR⟩
