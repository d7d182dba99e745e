/-! marks, in the reference -/
def gtC (y : Nat → Nat) (k : Nat) : Nat → Nat
  | 0 => 0
  | q + 1 => gtC y k q + (if y k < y q then 1 else 0)
def hiN (y : Nat → Nat) (k : Nat) : Nat → Nat
  | 0 => 1
  | q + 1 => if hiN y k q = 1 ∧ y q < y k then 1 else 0
def lgC (y o : Nat → Nat) (k : Nat) : Nat → Nat
  | 0 => 0
  | q + 1 => if y q < y k ∧ lgC y o k q < o q then o q else lgC y o k q
def otF (y : Nat → Nat) : Nat → (Nat → Nat)
  | 0 => fun _ => 0
  | k + 1 => updN (otF y k) k (lgC y (otF y k) k k + 1)
def mst (y : Nat → Nat) : Nat → Nat
  | 0 => 0
  | k + 1 => max (mst y k) (lgC y (otF y k) k k + 1)
def con (mu : Nat) (y : Nat → Nat) (k : Nat) : Nat := if mu = 1 then (if 0 < k ∧ y k < y (k - 1) then 1 else 0) else if mu = 2 then gtC y k k else hiN y k k
def vSm (mu : Nat) (y : Nat → Nat) : Nat → Nat
  | 0 => 0
  | k + 1 => vSm mu y k + con mu y k
def mkR (mu : Nat) (y : Nat → Nat) (n : Nat) : Nat := if mu = 4 then mst y n else vSm mu y n
theorem gtC_le (y : Nat → Nat) (k : Nat) : ∀ q, gtC y k q ≤ q
  | 0 => Nat.le_refl _
  | q + 1 => by
    have := gtC_le y k q
    show gtC y k q + (if y k < y q then 1 else 0) ≤ q + 1
    split <;> omega
theorem hiN_le (y : Nat → Nat) (k : Nat) : ∀ q, hiN y k q ≤ 1
  | 0 => Nat.le_refl _
  | q + 1 => by
    show (if hiN y k q = 1 ∧ y q < y k then 1 else 0) ≤ 1
    split <;> omega
theorem lgC_le {y o : Nat → Nat} {k b : Nat} : ∀ {q : Nat}, (∀ i, i < q → o i ≤ b) → lgC y o k q ≤ b
  | 0, _ => Nat.zero_le _
  | q + 1, h => by
    have h1 := lgC_le (y := y) (k := k) (fun i hi => h i (show i < q + 1 by omega)) (q := q)
    have h2 := h q (by omega)
    show (if y q < y k ∧ lgC y o k q < o q then o q else lgC y o k q) ≤ b
    split <;> omega
theorem otF_le (y : Nat → Nat) : ∀ k i, otF y k i ≤ k
  | 0, _ => Nat.zero_le _
  | k + 1, i => by
    show updN (otF y k) k (lgC y (otF y k) k k + 1) i ≤ k + 1
    by_cases e : i = k
    · subst e
      rw [un_s]
      have := lgC_le (y := y) (o := otF y i) (k := i) (b := i) (q := i) (fun j _ => otF_le y i j)
      omega
    · rw [un_n e]
      have := otF_le y k i
      omega
theorem mst_le (y : Nat → Nat) : ∀ k, mst y k ≤ k
  | 0 => Nat.le_refl _
  | k + 1 => by
    have h1 := mst_le y k
    have h2 := lgC_le (y := y) (o := otF y k) (k := k) (b := k) (q := k) (fun j _ => otF_le y k j)
    show max (mst y k) (lgC y (otF y k) k k + 1) ≤ k + 1
    omega
theorem mo_digit (M : MS) (g h : Nat → Int32) : M_digit (M_other_s (M_digit_s M g) h) = g := rfl
theorem mo_other (A : MS) (h : Nat → Int32) : M_other (M_other_s A h) = h := rfl
theorem mo_mo (A : MS) (h h' : Nat → Int32) : M_other_s (M_other_s A h) h' = M_other_s A h' := rfl
theorem mo_comm (A : MS) (g h : Nat → Int32) : M_other_s (M_digit_s A g) h = M_digit_s (M_other_s A h) g := rfl
theorem mo_self (A : MS) : M_other_s A (M_other A) = A := rfl
theorem mo_core (A : MS) (h : Nat → Int32) : core (M_other_s A h) = core A := rfl
theorem mi36 (k18 : Int32 → Int32 → Int32 → Int32 → Int32 → MS → Option (Int32 × MS)) (M : MS) {n : Nat} (hn : n ≤ 8) {g h : Nat → Int32} {y o : Nat → Nat} (hg : rep n g y) {k : Nat} (hk : k < n) (ho : ∀ i, i < k → h i = nI (o i) ∧ o i ≤ 8) (v2 v3 v4 : Int32) : ∀ (d q f : Nat), q + d = k → d < f → f_X12_markOf_36 k18 f (nI n) v2 v3 v4 (nI k) (nI (gtC y k q)) (nI (lgC y o k q)) (nI (hiN y k q)) (nI q) (M_other_s (M_digit_s M g) h) = f_X12_markOf_148 k18 (nI n) v2 v3 v4 (nI k) (nI (gtC y k k)) (nI (lgC y o k k)) (nI (hiN y k k)) (M_other_s (M_digit_s M g) h) := by
  obtain ⟨a1, a2⟩ := hg k hk
  intro d
  induction d with
  | zero =>
    intro q f h1 hf
    obtain ⟨f, rfl⟩ : ∃ x, f = x + 1 := ⟨f - 1, by omega⟩
    obtain rfl : q = k := by omega
    rw [f_X12_markOf_36, if_pos (nI_le (by omega) (by omega))]
  | succ d ih =>
    intro q f h1 hf
    obtain ⟨f, rfl⟩ : ∃ x, f = x + 1 := ⟨f - 1, by omega⟩
    obtain ⟨b1, b2⟩ := hg q (by omega)
    obtain ⟨c1, c2⟩ := ho q (by omega)
    have ih' := ih (q + 1) f (by omega) (by omega)
    have hlg := lgC_le (y := y) (o := o) (k := k) (b := 8) (q := q) (fun i hi => (ho i (by omega)).2)
    have hh := hiN_le y k q
    have h97 : ∀ (v6 t0 : Int32) , f_X12_markOf_97 k18 (f_X12_markOf_36 k18 f) (nI n) v2 v3 v4 (nI k) v6 (nI (lgC y o k q)) (nI q) t0 (M_other_s (M_digit_s M g) h) = f_X12_markOf_36 k18 f (nI n) v2 v3 v4 (nI k) v6 (nI (lgC y o k (q + 1))) t0 (nI (q + 1)) (M_other_s (M_digit_s M g) h) := by
      intro v6 t0
      unfold f_X12_markOf_97 f_X12_markOf_138 f_X12_markOf_140
      rw [jgd_n _ (by omega) (by decide), jgd_n _ (by omega) (by decide), jgd_n _ (by omega) (by decide), jgd_n _ (by omega) (by decide), nI_clamp (by omega), nI_clamp (by omega), mo_digit, mo_other, a1, b1, c1, nI_1]
      show _ = f_X12_markOf_36 k18 f (nI n) v2 v3 v4 (nI k) v6 (nI (if y q < y k ∧ lgC y o k q < o q then o q else lgC y o k q)) t0 (nI (q + 1)) (M_other_s (M_digit_s M g) h)
      by_cases e1 : y q < y k
      · rw [if_neg (nI_ge e1 (by omega))]
        by_cases e2 : lgC y o k q < o q
        · rw [if_neg (nI_ge e2 (by omega)), if_pos ⟨e1, e2⟩]
        · rw [if_pos (nI_le (by omega) (by omega)), if_neg (fun e => e2 e.2)]
      · rw [if_pos (nI_le (by omega) (by omega)), if_neg (fun e => e1 e.1)]
    have h67 : ∀ (t0 t1 : Int32), f_X12_markOf_67 k18 (f_X12_markOf_36 k18 f) (nI n) v2 v3 v4 (nI k) (nI (lgC y o k q)) (nI (hiN y k q)) (nI q) t0 t1 (M_other_s (M_digit_s M g) h) = f_X12_markOf_36 k18 f (nI n) v2 v3 v4 (nI k) (t0 + t1) (nI (lgC y o k (q + 1))) (nI (hiN y k (q + 1))) (nI (q + 1)) (M_other_s (M_digit_s M g) h) := by
      intro t0 t1
      unfold f_X12_markOf_67 f_X12_markOf_96
      rw [h97, h97, jgd_n _ (by omega) (by decide), jgd_n _ (by omega) (by decide), nI_clamp (by omega), nI_clamp (by omega), mo_digit, a1, b1]
      show _ = f_X12_markOf_36 k18 f (nI n) v2 v3 v4 (nI k) (t0 + t1) (nI (lgC y o k (q + 1))) (nI (if hiN y k q = 1 ∧ y q < y k then 1 else 0)) (nI (q + 1)) (M_other_s (M_digit_s M g) h)
      have hz : nI (hiN y k q) = 0 ↔ hiN y k q = 0 := nI_eq (b := 0) (by omega) (by decide)
      by_cases e0 : hiN y k q = 0
      · rw [if_pos (hz.mpr e0), if_neg (fun e => by omega)]; rfl
      · rw [if_neg (fun e => e0 (hz.mp e))]
        by_cases e1 : y q < y k
        · rw [if_neg (nI_ge e1 (by omega)), if_pos ⟨by omega, e1⟩]; rfl
        · rw [if_pos (nI_le (by omega) (by omega)), if_neg (fun e => e1 e.2)]; rfl
    rw [f_X12_markOf_36, if_neg (nI_ge (by omega) (by omega)), jgd_n _ (by omega) (by decide), jgd_n _ (by omega) (by decide), nI_clamp (by omega), nI_clamp (by omega), mo_digit, a1, b1, h67, h67]
    have hgt : gtC y k (q + 1) = gtC y k q + (if y k < y q then 1 else 0) := rfl
    by_cases e : y k < y q
    · rw [if_neg (nI_ge e (by omega)), show (1 : Int32) = nI 1 from rfl, nI_add]
      rw [hgt, if_pos e] at ih'
      exact ih'
    · rw [if_pos (nI_le (by omega) (by omega)), show (0 : Int32) = nI 0 from rfl, nI_add]
      rw [hgt, if_neg e] at ih'
      exact ih'
theorem mo18 (M : MS) {n : Nat} (hn : n ≤ 8) {g : Nat → Int32} {y : Nat → Nat} (hg : rep n g y) {mu : Nat} (hm1 : 1 ≤ mu) (hm4 : mu ≤ 4) : ∀ (d k f : Nat) (h : Nat → Int32), k + d = n → d < f → (∀ i, i < k → h i = nI (otF y k i)) → ∃ h', f_X12_markOf_18 f (nI n) (nI mu) (nI (vSm mu y k)) (nI (mst y k)) (nI k) (M_other_s (M_digit_s M g) h) = some (nI (mkR mu y n), M_other_s (M_digit_s M g) h') := by
  intro d
  induction d with
  | zero =>
    intro k f h h1 hf hh
    obtain ⟨f, rfl⟩ : ∃ x, f = x + 1 := ⟨f - 1, by omega⟩
    obtain rfl : k = n := by omega
    refine ⟨h, ?_⟩
    rw [f_X12_markOf_18, if_pos (nI_le (by omega) (by omega))]
    unfold f_X12_markOf_251 mkR
    have h4 : nI mu = 4 ↔ mu = 4 := nI_eq (b := 4) (by omega) (by decide)
    by_cases e : mu = 4
    · rw [if_pos (h4.mpr e), if_pos e]
    · rw [if_neg (fun q => e (h4.mp q)), if_neg e]
  | succ d ih =>
    intro k f h h1 hf hh
    obtain ⟨f, rfl⟩ : ∃ x, f = x + 1 := ⟨f - 1, by omega⟩
    have hk : k < n := by omega
    obtain ⟨a1, a2⟩ := hg k hk
    have hl := lgC_le (y := y) (o := otF y k) (k := k) (b := k) (q := k) (fun j _ => otF_le y k j)
    have hms := mst_le y k
    obtain ⟨h', e⟩ := ih (k + 1) f (upd h k (nI (lgC y (otF y k) k k + 1))) (by omega) (by omega) (fun i hi => by
      show upd h k _ i = nI (updN (otF y k) k (lgC y (otF y k) k k + 1) i)
      by_cases q : i = k
      · subst q; rw [pk_us, un_s]
      · rw [pk_un q, un_n q]; exact hh i (by omega))
    refine ⟨h', ?_⟩
    rw [f_X12_markOf_18, if_neg (nI_ge (by omega) (by omega))]
    have e36 := mi36 (f_X12_markOf_18 f) M hn (h := h) (o := otF y k) hg hk (fun i hi => ⟨hh i hi, by have := otF_le y k i; omega⟩) (nI mu) (nI (vSm mu y k)) (nI (mst y k)) k 0 1000000 (by omega) (by omega)
    refine (show _ = _ from e36).trans ?_
    have h183 : ∀ A : MS, M_digit A = g → f_X12_markOf_183 (f_X12_markOf_18 f) (nI n) (nI mu) (nI (vSm mu y k)) (nI k) (nI (gtC y k k)) (nI (hiN y k k)) (nI (mst y (k + 1))) A = f_X12_markOf_18 f (nI n) (nI mu) (nI (vSm mu y (k + 1))) (nI (mst y (k + 1))) (nI (k + 1)) A := by
      intro A hA
      unfold f_X12_markOf_183 f_X12_markOf_219 f_X12_markOf_243
      rw [nI_1]
      show _ = f_X12_markOf_18 f (nI n) (nI mu) (nI (vSm mu y k + con mu y k)) (nI (mst y (k + 1))) (nI (k + 1)) A
      have m1 : nI mu = 1 ↔ mu = 1 := nI_eq (b := 1) (by omega) (by decide)
      have m2 : nI mu = 2 ↔ mu = 2 := nI_eq (b := 2) (by omega) (by decide)
      unfold con
      by_cases q1 : mu = 1
      · rw [if_pos (m1.mpr q1), if_pos q1]
        by_cases k0 : k = 0
        · subst k0
          rw [if_pos (show nI 0 ≤ 0 by decide), if_neg (fun q => by omega), show (0 : Int32) = nI 0 from rfl, nI_add]
        · obtain ⟨j, rfl⟩ : ∃ j, k = j + 1 := ⟨k - 1, by omega⟩
          obtain ⟨b1, b2⟩ := hg j (by omega)
          rw [if_neg (nI_nle (by omega) (by omega)), nI_pred, jgd_n _ (by omega) (by decide), jgd_n _ (by omega) (by decide), nI_clamp (by omega), nI_clamp (by omega), hA, a1, b1, Nat.add_sub_cancel]
          by_cases e5 : y (j + 1) < y j
          · rw [if_neg (nI_ge e5 (by omega)), if_pos ⟨by omega, e5⟩, show (1 : Int32) = nI 1 from rfl, nI_add]
          · rw [if_pos (nI_le (by omega) (by omega)), if_neg (fun q => e5 q.2), show (0 : Int32) = nI 0 from rfl, nI_add]
      · rw [if_neg (fun q => q1 (m1.mp q)), if_neg q1]
        by_cases q2 : mu = 2
        · rw [if_pos (m2.mpr q2), if_pos q2, nI_add]
        · rw [if_neg (fun q => q2 (m2.mp q)), if_neg q2]
          have hh1 := hiN_le y k k
          have hz : nI (hiN y k k) = 0 ↔ hiN y k k = 0 := nI_eq (b := 0) (by omega) (by decide)
          by_cases e0 : hiN y k k = 0
          · rw [if_pos (hz.mpr e0), e0, show (0 : Int32) = nI 0 from rfl, nI_add]
          · rw [if_neg (fun e => e0 (hz.mp e)), show hiN y k k = 1 by omega, show (1 : Int32) = nI 1 from rfl, nI_add]
    unfold f_X12_markOf_148
    rw [jgd_n _ (by omega) (by decide), jgd_n _ (by omega) (by decide), jgd_n _ (by omega) (by decide), nI_clamp (by omega), nI_1, mo_other, mo_mo, mo_other, pk_us]
    by_cases e2 : lgC y (otF y k) k k + 1 ≤ mst y k
    · rw [if_pos (nI_le e2 (by omega))]
      have em : mst y (k + 1) = mst y k := by show max (mst y k) (lgC y (otF y k) k k + 1) = _; omega
      rw [em] at h183 e
      rw [h183 _ (mo_digit M g _)]
      exact e
    · rw [if_neg (nI_ge (by omega) (by omega))]
      have em : mst y (k + 1) = lgC y (otF y k) k k + 1 := by show max (mst y k) (lgC y (otF y k) k k + 1) = _; omega
      rw [em] at h183 e
      rw [h183 _ (mo_digit M g _)]
      exact e
theorem markM (M : MS) {n : Nat} (hn : n ≤ 8) {g : Nat → Int32} {y : Nat → Nat} (hg : rep n g y) {mu : Nat} (hm1 : 1 ≤ mu) (hm4 : mu ≤ 4) : ∃ h, f_X12_markOf (nI n) (nI mu) (M_digit_s M g) = some (nI (mkR mu y n), M_other_s (M_digit_s M g) h) := by
  obtain ⟨h, e⟩ := mo18 M hn hg hm1 hm4 n 0 1000000 (M_other (M_digit_s M g)) (by omega) (by omega) (fun i hi => by omega)
  rw [mo_self] at e
  refine ⟨h, ?_⟩
  unfold f_X12_markOf
  rw [if_neg (nI_ne0 (by omega) (by omega))]
  exact e
