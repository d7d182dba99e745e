/-! ===== the pure part: what ties the class's state to the reference's ===== -/
theorem jbd_s {α β : Type} (y : α) (k : α → Option β) : jbd (some y) k = k y := rfl
theorem jzb_0 {α : Type} (k : Option α) : jzb 0 k = k := rfl
theorem jzb_1 {α : Type} (k : Option α) : jzb 1 k = k := rfl
theorem jgd_n {α : Type} {j N : Nat} (k : Option α) (h : j < N) (hN : N < 2 ^ 31) : jgd (nI j) N k = k := jgd_in (vp_in_nI h hN)
/-- 1 where it holds, else 0 -/
def b01 (c : Prop) [Decidable c] : Int32 := if c then 1 else 0
theorem b01_t {c : Prop} [Decidable c] (h : c) : b01 c = 1 := if_pos h
theorem b01_f {c : Prop} [Decidable c] (h : ¬ c) : b01 c = 0 := if_neg h
theorem b01_z {α : Type} {c : Prop} [Decidable c] (k : Option α) : jzb (b01 c) k = k := by
  unfold b01
  split <;> rfl
theorem b01_eq0 {c : Prop} [Decidable c] : b01 c = 0 ↔ ¬ c := by
  unfold b01
  split
  · rename_i h
    exact ⟨fun e => absurd e (by decide), fun e => absurd h e⟩
  · rename_i h
    exact ⟨fun _ => h, fun _ => rfl⟩
theorem within_eq (x a b : Int32) : f_X11_within x a b = some (b01 (a ≤ x ∧ x ≤ b)) := by
  unfold f_X11_within
  by_cases h1 : x < a
  · rw [if_pos h1, b01_f (fun h => absurd h1 (Int32.not_lt.mpr h.1))]; rfl
  · rw [if_neg h1]
    by_cases h2 : b < x
    · rw [if_pos h2, b01_f (fun h => absurd h2 (Int32.not_lt.mpr h.2))]; rfl
    · rw [if_neg h2, b01_t ⟨Int32.not_lt.mp h1, Int32.not_lt.mp h2⟩]; rfl
theorem in_eq (x a b : Int64) : f_X12_in x a b = some (b01 (a ≤ x ∧ x ≤ b)) := by
  unfold f_X12_in
  by_cases h1 : lg_cmp x a < 0
  · rw [if_pos h1, b01_f (fun h => absurd ((lg_cmp_lt x a).mp h1) (Int64.not_lt.mpr h.1))]; rfl
  · rw [if_neg h1]
    by_cases h2 : 0 < lg_cmp x b
    · rw [if_pos h2, b01_f (fun h => absurd ((lg_cmp_gt x b).mp h2) (Int64.not_lt.mpr h.2))]; rfl
    · rw [if_neg h2, b01_t ⟨Int64.not_lt.mp (fun h => h1 ((lg_cmp_lt x a).mpr h)), Int64.not_lt.mp (fun h => h2 ((lg_cmp_gt x b).mpr h))⟩]; rfl
theorem i64_le {x : Int32} {a : Int64} : x.toInt64 ≤ a ↔ x.toInt ≤ a.toInt := by rw [Int64.le_iff_toInt_le, Int32.toInt_toInt64]
theorem i64_ge {x : Int32} {a : Int64} : a ≤ x.toInt64 ↔ a.toInt ≤ x.toInt := by rw [Int64.le_iff_toInt_le, Int32.toInt_toInt64]
/-- a number of 0 to m, or not -/
theorem rng {x M : Int32} {m : Nat} (hM : M.toInt = m) : (∃ j : Nat, j ≤ m ∧ x = nI j) ∨ ¬ (0 ≤ x ∧ x ≤ M) := by
  by_cases h : 0 ≤ x ∧ x ≤ M
  · exact Or.inl (nI_of2 hM (Int32.not_lt.mpr h.1) h.2)
  · exact Or.inr h
theorem rng64 {x M : Int32} {M' : Int64} (hM : M.toInt = M'.toInt) : ((0 : Int64) ≤ x.toInt64 ∧ x.toInt64 ≤ M') ↔ (0 ≤ x ∧ x ≤ M) := by
  rw [i64_le, i64_ge, Int32.le_iff_toInt_le, Int32.le_iff_toInt_le, hM]
  exact Iff.rfl
theorem isLawX (l : Int32) : f_X11_isLaw l = some (b01 (0 ≤ l ∧ l ≤ 3)) := by unfold f_X11_isLaw; rw [within_eq, jbd_s, b01_z]
theorem isPolyX (l : Int32) : f_X11_isPolynomial l = some (b01 (0 ≤ l ∧ l ≤ 3)) := by unfold f_X11_isPolynomial; rw [within_eq, jbd_s, b01_z]
theorem b01_iff {c d : Prop} [Decidable c] [Decidable d] (h : c ↔ d) : b01 c = b01 d := by
  by_cases hc : c
  · rw [b01_t hc, b01_t (h.mp hc)]
  · rw [b01_f hc, b01_f (fun e => hc (h.mpr e))]
theorem inI (x : Int32) (M : Int32) (M' : Int64) (hM : M.toInt = M'.toInt) : f_X12_in x.toInt64 0 M' = some (b01 (0 ≤ x ∧ x ≤ M)) := by rw [in_eq, b01_iff (rng64 hM)]
theorem isLawM (l : Int32) : f_X12_isLaw l = some (b01 (0 ≤ l ∧ l ≤ 3)) := by unfold f_X12_isLaw; rw [inI l 3 3 (by decide), jbd_s, b01_z]
theorem isPolyM (l : Int32) : f_X12_isPolynomial l = some (b01 (0 ≤ l ∧ l ≤ 3)) := by unfold f_X12_isPolynomial; rw [inI l 3 3 (by decide), jbd_s, b01_z]
/-! the ideal triangle: none is TOO GREAT -/
def tBig : Int := 100000000000000000
def tLim (v : Int) : Option Int := if v > tBig ∨ v < -tBig then none else some v
def tPart (c : Int) (x : Option Int) : Option Int := if c = 0 then some 0 else match x with
  | none => none
  | some v => tLim (c * v)
def tSum (x y : Option Int) : Option Int := match x, y with
  | some p, some q => tLim (p + q)
  | _, _ => none
def tCo (c : Nat → Int) (n k : Nat) : Int := c 0 + c 1 * n + c 2 * k
/-- a row out of the row above -/
def tNext (a b : Nat → Int) (n : Nat) (row : Nat → Option Int) (k : Nat) : Option Int :=
  tSum (tPart (tCo a n k) (if k = 0 then some 0 else row (k - 1))) (tPart (tCo b n k) (if k = n then some 0 else row k))
def tRow (a b : Nat → Int) (t : Int) : Nat → Nat → Option Int
  | 0 => fun _ => some t
  | n + 1 => tNext a b (n + 1) (tRow a b t n)
def tEnc (x : Option Int) : Int64 := match x with
  | none => Int64.ofInt (-9000000000000000000)
  | some v => Int64.ofInt v
/-! the relation -/
def RText (t : TextS) (M : MS) : Prop := ∃ n : Nat, n ≤ 120 ∧ Text_length t = nI n ∧ M_bytes M = nI n ∧ ∀ j, j < n → M_text M j = Text_bytes t j &&& 255
def lawA (w : LawS) : Nat → Int := fun k => (Law_left w k).toInt
def lawB (w : LawS) : Nat → Int := fun k => (Law_above w k).toInt
def RLaw (l : Nat) (w : LawS) (M : MS) : Prop :=
  (∀ k, k < 3 → Law_left w k = M_law M (7 * l + k)) ∧ (∀ k, k < 3 → Law_above w k = M_law M (7 * l + 3 + k)) ∧ Law_top w = M_law M (7 * l + 6) ∧ Law_items w = M_items M l ∧
  (∀ k, k < 7 → -9 ≤ (M_law M (7 * l + k)).toInt ∧ (M_law M (7 * l + k)).toInt ≤ 9) ∧
  (∀ n k, n ≤ 24 → k ≤ n → Law_numbers w (n * (n + 1) / 2 + k) = tEnc (tRow (lawA w) (lawB w) (Law_top w).toInt n k))
def RPoly (p : Nat) (w : PolynomialS) (M : MS) : Prop :=
  Polynomial_base w = M_base M p ∧ (∃ b : Nat, b < 4 ∧ M_base M p = nI b) ∧ (∀ k, k < 9 → Polynomial_coefficients w k = M_factor M (9 * p + k)) ∧ ∀ k, k < 9 → -1000000 ≤ (M_factor M (9 * p + k)).toInt ∧ (M_factor M (9 * p + k)).toInt ≤ 1000000
/-- the tables that the constructors make -/
def TR : RingsS := (f_X9_init_12 (fun _ => 0)).getD (fun _ => 0)
def TFa : FallsS := (f_X0_init_13 (fun _ => 0)).getD (fun _ => 0)
def TLp : LesserPairsS := (f_X3_init_13 (fun _ => 0)).getD (fun _ => 0)
/-- the LongestRise's table is that of the length wanted, if there is one -/
def RRise (r : LongestRiseS) : Prop := LongestRise_wanted r = 0 ∨ ∃ (w : Nat) (t0 : LongestRiseS), 1 ≤ w ∧ w ≤ 8 ∧ LongestRise_wanted r = nI w ∧ LongestRise_wanted t0 = nI w ∧ f_X4_fillTable t0 = some r
def ROrd (o : OrdersS) : Prop := Orders_rings o = TR ∧ Orders_falls o = TFa ∧ Orders_pairs o = TLp ∧ RRise (Orders_rise o)
def Rel (X : XS) (M : MS) : Prop :=
  RText (X_text X) M ∧ (RLaw 0 (X_law0 X) M ∧ RLaw 1 (X_law1 X) M ∧ RLaw 2 (X_law2 X) M ∧ RLaw 3 (X_law3 X) M) ∧ ROrd (X_orders X) ∧ (RPoly 0 (X_poly0 X) M ∧ RPoly 1 (X_poly1 X) M ∧ RPoly 2 (X_poly2 X) M ∧ RPoly 3 (X_poly3 X) M)
/-- what Rel reads of the reference -/
def core (M : MS) : Int32 × (Nat → Int32) × (Nat → Int32) × (Nat → Int32) × (Nat → Int32) × (Nat → Int64) := (M_bytes M, M_text M, M_law M, M_items M, M_base M, M_factor M)
theorem Rel.core {X : XS} {M M' : MS} (h : Rel X M) (hc : core M' = core M) : Rel X M' := by
  have e1 : M_bytes M' = M_bytes M := congrArg (fun z => z.1) hc
  have e2 : M_text M' = M_text M := congrArg (fun z => z.2.1) hc
  have e3 : M_law M' = M_law M := congrArg (fun z => z.2.2.1) hc
  have e4 : M_items M' = M_items M := congrArg (fun z => z.2.2.2.1) hc
  have e5 : M_base M' = M_base M := congrArg (fun z => z.2.2.2.2.1) hc
  have e6 : M_factor M' = M_factor M := congrArg (fun z => z.2.2.2.2.2) hc
  unfold Rel RText RLaw RPoly at h ⊢
  rw [e1, e2, e3, e4, e5, e6]
  exact h
/-! an operation: both answer, alike, and stay tied -/
def oWW {α : Type} (f : XS → Option (α × XS)) (g : MS → Option (α × MS)) : Prop := ∀ X M, Rel X M → ∃ v X' M', f X = some (v, X') ∧ g M = some (v, M') ∧ Rel X' M'
def oRW {α : Type} (f : XS → Option α) (g : MS → Option (α × MS)) : Prop := ∀ X M, Rel X M → ∃ v M', f X = some v ∧ g M = some (v, M') ∧ Rel X M'
def oRR {α : Type} (f : XS → Option α) (g : MS → Option α) : Prop := ∀ X M, Rel X M → ∃ v, f X = some v ∧ g M = some v
