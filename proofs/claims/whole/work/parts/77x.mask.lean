/-! the digits that are left, as bits -/
def nbm : Nat → Nat → Nat → Nat → Nat
  | 0, _, _, _ => 0
  | f + 1, m, i, pos => if m % 2 = 1 then (if i = 0 then pos else nbm f (m / 2) (i - 1) (pos + 1)) else nbm f (m / 2) i (pos + 1)
def pcm : Nat → Nat → Nat
  | 0, _ => 0
  | f + 1, m => m % 2 + pcm f (m / 2)
def okD (m c : Nat) : Bool := decide (pcm 8 m ≤ c) || (decide (f_X6_unusedDigit (nI m) (nI c) = some (nI (nbm 8 m c 0))) && (decide (nI m &&& (((1 : Int32) <<< (nI (nbm 8 m c 0) &&& 31)) ^^^ (-1 : Int32)) = nI (m - 2 ^ nbm 8 m c 0)) && (decide (pcm 8 (m - 2 ^ nbm 8 m c 0) + 1 = pcm 8 m) && decide (nbm 8 m c 0 < 8))))
theorem okD_all : ∀ m, m < 256 → ∀ c, c < 8 → okD m c = true := by decide +kernel
def okS (m c i : Nat) : Bool := decide (pcm 8 m ≤ c) || (decide (pcm 8 m ≤ i + 1) || decide (nbm 8 (m - 2 ^ nbm 8 m c 0) i 0 = if i < c then nbm 8 m i 0 else nbm 8 m (i + 1) 0))
theorem okS_all : ∀ m, m < 256 → ∀ c, c < 8 → ∀ i, i < 8 → okS m c i = true := by decide +kernel
def maskOk (m l : Nat) (u : Nat → Nat) : Prop := m < 256 ∧ pcm 8 m = l ∧ ∀ i, i < l → u i = nbm 8 m i 0
theorem mask_digit {m l : Nat} {u : Nat → Nat} (h : maskOk m l u) (hl : l ≤ 8) {c : Nat} (hc : c < l) : f_X6_unusedDigit (nI m) (nI c) = some (nI (u c)) ∧ nI m &&& (((1 : Int32) <<< (nI (u c) &&& 31)) ^^^ (-1 : Int32)) = nI (m - 2 ^ u c) := by
  have ho := okD_all m h.1 c (by omega)
  unfold okD at ho
  rw [Bool.or_eq_true, Bool.and_eq_true, Bool.and_eq_true, Bool.and_eq_true, decide_eq_true_eq, decide_eq_true_eq, decide_eq_true_eq, decide_eq_true_eq, decide_eq_true_eq, ← h.2.2 c hc] at ho
  rcases ho with q | q
  · have := h.2.1
    omega
  · exact ⟨q.1, q.2.1⟩
theorem mask_s {m l : Nat} {u : Nat → Nat} (h : maskOk m (l + 1) u) (hl : l + 1 ≤ 8) {c : Nat} (hc : c ≤ l) : maskOk (m - 2 ^ u c) l (skp u c) := by
  have ho := okD_all m h.1 c (by omega)
  unfold okD at ho
  rw [Bool.or_eq_true, Bool.and_eq_true, Bool.and_eq_true, Bool.and_eq_true, decide_eq_true_eq, decide_eq_true_eq, decide_eq_true_eq, decide_eq_true_eq, decide_eq_true_eq, ← h.2.2 c (by omega)] at ho
  have h21 := h.2.1
  have hm := h.1
  rcases ho with q | q
  · omega
  · refine ⟨Nat.lt_of_le_of_lt (Nat.sub_le _ _) hm, by omega, fun i hi => ?_⟩
    have hs := okS_all m hm c (by omega) i (by omega)
    unfold okS at hs
    rw [Bool.or_eq_true, Bool.or_eq_true, decide_eq_true_eq, decide_eq_true_eq, decide_eq_true_eq, ← h.2.2 c (by omega)] at hs
    rcases hs with z | z | z
    · omega
    · omega
    · rw [z]
      by_cases e : i < c
      · rw [if_pos e, skp_lt e, h.2.2 i (by omega)]
      · rw [if_neg e, skp_ge (by omega), h.2.2 (i + 1) (by omega)]
theorem mask_top0 : ∀ n, n < 9 → pcm 8 (2 ^ n - 1) = n ∧ ∀ i, i < n → i = nbm 8 (2 ^ n - 1) i 0 := by decide +kernel
theorem mask_top {n : Nat} (hn : n ≤ 8) : maskOk (2 ^ n - 1) n (fun i => i) := by
  have h := mask_top0 n (by omega)
  have hp : 2 ^ n ≤ 2 ^ 8 := Nat.pow_le_pow_right (by decide) hn
  exact ⟨by have := Nat.two_pow_pos n; omega, h.1, h.2⟩
