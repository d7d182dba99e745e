/-! rings: looked through, order by order -/
def ceN (x : Nat → Nat) (p : Nat) : Nat → Nat → Nat
  | 0, d => d
  | f + 1, d => cond (Nat.ble p d) d (ceN x p f (x d))
def clN (x : Nat → Nat) (p d : Nat) : Nat := cond (Nat.beq (ceN x p p d) p) 1 0
def tb (m e : Nat) : Bool := Nat.beq (Nat.mod (Nat.div m (Nat.pow 2 e)) 2) 1
def wkF (y : Nat → Nat) : Nat → Nat → Nat → Option Nat
  | 0, _, _ => none
  | f + 1, met, e => cond (tb met e) (some met) (wkF y f (Nat.add met (Nat.pow 2 e)) (y e))
def rgF (y : Nat → Nat) : Nat → Nat → Nat → Nat → Option Nat
  | 0, _, _, many => some many
  | c + 1, d, met, many => match wkF y 9 met d with
    | none => none
    | some met' => rgF y c (Nat.add d 1) met' (Nat.add many (cond (tb met d) 0 1))
def dN (X q : Nat) : Nat := Nat.mod (Nat.div X (Nat.pow 16 q)) 16
def allB (f : Nat → Bool) : Nat → Bool
  | 0 => true
  | c + 1 => cond (f c) (allB f c) false
def erU (U c : Nat) : Nat := Nat.add (Nat.mod U (Nat.pow 16 c)) (Nat.mul (Nat.div U (Nat.pow 16 (Nat.add c 1))) (Nat.pow 16 c))
def lfB (o : Option Nat) (a : Nat) : Bool := match o with
  | some r => Nat.beq r a
  | none => false
def chkP : Nat → Nat → Nat → Nat → Nat → Bool
  | 0, p, _, X, a => lfB (rgF (dN X) p 0 0 0) a
  | l + 1, p, U, X, a => cond (Nat.beq (SN (fun c => clN (dN X) p (dN U c)) (l + 1)) 1) (allB (fun c => chkP l (Nat.add p 1) (erU U c) (Nat.add X (Nat.mul (dN U c) (Nat.pow 16 p))) (Nat.add a (clN (dN X) p (dN U c)))) (l + 1)) false
def good0 : Nat → Nat → (Nat → Nat) → (Nat → Nat) → Nat → Prop
  | 0, p, _, x, a => rgF x p 0 0 0 = some a
  | l + 1, p, u, x, a => SN (fun c => clN x p (u c)) (l + 1) = 1 ∧ ∀ c, c < l + 1 → good0 l (p + 1) (skp u c) (updN x p (u c)) (a + clN x p (u c))
theorem all_B {f : Nat → Bool} : ∀ {c : Nat}, allB f c = true → ∀ d, d < c → f d = true
  | 0, _, d, hd => by omega
  | c + 1, h, d, hd => by
    have h' : cond (f c) (allB f c) false = true := h
    cases e : f c with
    | false => rw [e] at h'; cases h'
    | true =>
      rw [e] at h'
      by_cases q : d = c
      · subst q; exact e
      · exact all_B (show allB f c = true from h') d (by omega)
theorem ceN_congr {x y : Nat → Nat} {p : Nat} (h : ∀ q, q < p → x q = y q) : ∀ f d, ceN x p f d = ceN y p f d
  | 0, _ => rfl
  | f + 1, d => by
    show cond (Nat.ble p d) d (ceN x p f (x d)) = cond (Nat.ble p d) d (ceN y p f (y d))
    cases e : Nat.ble p d with
    | true => rfl
    | false =>
      have : d < p := Nat.lt_of_not_le (fun q => by rw [Nat.ble_eq_true_of_le q] at e; cases e)
      rw [h d this, ceN_congr h f]
theorem clN_congr {x y : Nat → Nat} {p : Nat} (h : ∀ q, q < p → x q = y q) (d : Nat) : clN x p d = clN y p d := by
  unfold clN
  rw [ceN_congr h]
theorem wkF_congr {x y : Nat → Nat} {N : Nat} (h : ∀ q, q < N → x q = y q ∧ x q < N) : ∀ f met e, e < N → wkF x f met e = wkF y f met e
  | 0, _, _, _ => rfl
  | f + 1, met, e, he => by
    show cond (tb met e) (some met) (wkF x f (Nat.add met (Nat.pow 2 e)) (x e)) = cond (tb met e) (some met) (wkF y f (Nat.add met (Nat.pow 2 e)) (y e))
    obtain ⟨h1, h2⟩ := h e he
    rw [wkF_congr h f _ (x e) h2, h1]
theorem rgF_congr {x y : Nat → Nat} {N : Nat} (h : ∀ q, q < N → x q = y q ∧ x q < N) : ∀ c d met many, d + c ≤ N → rgF x c d met many = rgF y c d met many
  | 0, _, _, _, _ => rfl
  | c + 1, d, met, many, hd => by
    show (match wkF x 9 met d with | none => none | some met' => rgF x c (Nat.add d 1) met' (Nat.add many (cond (tb met d) 0 1))) = (match wkF y 9 met d with | none => none | some met' => rgF y c (Nat.add d 1) met' (Nat.add many (cond (tb met d) 0 1)))
    rw [wkF_congr h 9 met d (by omega)]
    cases wkF y 9 met d with
    | none => rfl
    | some met' => exact rgF_congr h c (d + 1) met' _ (by omega)
theorem dN_low {X d p q : Nat} (h : q < p) : dN (X + d * 16 ^ p) q = dN X q := by
  show (X + d * 16 ^ p) / 16 ^ q % 16 = X / 16 ^ q % 16
  obtain ⟨r, rfl⟩ : ∃ r, p = q + (r + 1) := ⟨p - q - 1, by omega⟩
  rw [Nat.pow_add, Nat.mul_left_comm, Nat.add_mul_div_left _ _ (Nat.pow_pos (by decide)), Nat.pow_succ, ← Nat.mul_assoc, Nat.add_mul_mod_self_right]
theorem dN_top {X d p : Nat} (h : X < 16 ^ p) (hd : d < 16) : dN (X + d * 16 ^ p) p = d := by
  show (X + d * 16 ^ p) / 16 ^ p % 16 = d
  rw [Nat.add_mul_div_right _ _ (Nat.pow_pos (by decide)), Nat.div_eq_of_lt h, Nat.zero_add, Nat.mod_eq_of_lt hd]
theorem dN_er (U c i : Nat) : dN (erU U c) i = skp (dN U) c i := by
  show dN (U % 16 ^ c + U / 16 ^ (c + 1) * 16 ^ c) i = _
  have hp : 0 < 16 ^ c := Nat.pow_pos (by decide)
  by_cases h : i < c
  · rw [dN_low h, skp_lt h, ← dN_low (X := U % 16 ^ c) (d := U / 16 ^ c) h, Nat.mul_comm, Nat.mod_add_div]
  · rw [skp_ge (by omega)]
    show (U % 16 ^ c + U / 16 ^ (c + 1) * 16 ^ c) / 16 ^ i % 16 = U / 16 ^ (i + 1) % 16
    obtain ⟨t, rfl⟩ : ∃ t, i = c + t := ⟨i - c, by omega⟩
    have e1 : (U % 16 ^ c + U / 16 ^ (c + 1) * 16 ^ c) / 16 ^ (c + t) = U / 16 ^ (c + 1) / 16 ^ t := by
      generalize U / 16 ^ (c + 1) = B
      rw [Nat.pow_add, ← Nat.div_div_eq_div_mul, Nat.add_mul_div_right _ _ hp, Nat.div_eq_of_lt (Nat.mod_lt _ hp), Nat.zero_add]
    rw [e1, Nat.div_div_eq_div_mul, ← Nat.pow_add, show c + 1 + t = c + t + 1 by omega]
theorem dN_lt (X q : Nat) : dN X q < 16 := Nat.mod_lt _ (by decide)
theorem chk_good {N : Nat} : ∀ l p U X a u x, p + l = N → chkP l p U X a = true → X < 16 ^ p → (∀ q, q < p → x q = dN X q ∧ x q < N) → (∀ i, i < l → u i = dN U i ∧ u i < N) → good0 l p u x a
  | 0, p, U, X, a, u, x, h1, h2, h3, h4, h5 => by
    obtain rfl : p = N := by omega
    have h2' : lfB (rgF (dN X) p 0 0 0) a = true := h2
    show rgF x p 0 0 0 = some a
    rw [rgF_congr h4 p 0 0 0 (by omega)]
    cases e : rgF (dN X) p 0 0 0 with
    | none => rw [e] at h2'; cases h2'
    | some r =>
      rw [e] at h2'
      have : r = a := Nat.eq_of_beq_eq_true h2'
      rw [this]
  | l + 1, p, U, X, a, u, x, h1, h2, h3, h4, h5 => by
    have hc : ∀ c, c < l + 1 → clN x p (u c) = clN (dN X) p (dN U c) := fun c hc => by
      rw [clN_congr (fun q hq => (h4 q hq).1), (h5 c hc).1]
    have h2' : cond (Nat.beq (SN (fun c => clN (dN X) p (dN U c)) (l + 1)) 1) (allB (fun c => chkP l (Nat.add p 1) (erU U c) (Nat.add X (Nat.mul (dN U c) (Nat.pow 16 p))) (Nat.add a (clN (dN X) p (dN U c)))) (l + 1)) false = true := h2
    cases e : Nat.beq (SN (fun c => clN (dN X) p (dN U c)) (l + 1)) 1 with
    | false => rw [e] at h2'; cases h2'
    | true =>
      rw [e] at h2'
      refine ⟨by rw [SN_congr hc]; exact Nat.eq_of_beq_eq_true e, fun c hcl => ?_⟩
      have h7 : allB (fun c => chkP l (Nat.add p 1) (erU U c) (Nat.add X (Nat.mul (dN U c) (Nat.pow 16 p))) (Nat.add a (clN (dN X) p (dN U c)))) (l + 1) = true := h2'
      have h6 := all_B h7 c hcl
      rw [hc c hcl]
      have hd := dN_lt U c
      refine chk_good (N := N) l (p + 1) (erU U c) (X + dN U c * 16 ^ p) (a + clN (dN X) p (dN U c)) _ _ (by omega) h6 ?_ (fun q hq => ?_) (fun i hi => ?_)
      · rw [Nat.pow_succ]
        have : dN U c * 16 ^ p ≤ 15 * 16 ^ p := Nat.mul_le_mul_right _ (by omega)
        omega
      · by_cases e2 : q = p
        · subst e2
          rw [un_s, dN_top h3 hd]
          exact h5 c hcl
        · rw [un_n e2, dN_low (by omega)]
          exact h4 q (by omega)
      · rw [dN_er]
        unfold skp
        split
        · exact h5 i (by omega)
        · exact h5 (i + 1) (by omega)
theorem chk1 : chkP 1 0 1985229328 0 0 = true := by decide +kernel
theorem chk2 : chkP 2 0 1985229328 0 0 = true := by decide +kernel
theorem chk3 : chkP 3 0 1985229328 0 0 = true := by decide +kernel
theorem chk4 : chkP 4 0 1985229328 0 0 = true := by decide +kernel
theorem chk5 : chkP 5 0 1985229328 0 0 = true := by decide +kernel
theorem chk6 : chkP 6 0 1985229328 0 0 = true := by decide +kernel
theorem chk7 : chkP 7 0 1985229328 0 0 = true := by decide +kernel
