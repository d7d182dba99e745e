/-! lists that are walked through one by one -/
def chn {α : Type} (R : α → α → Prop) : List α → Prop
  | [] => True
  | x :: t => (∀ y, t.head? = some y → R x y) ∧ chn R t
theorem chn_app {α : Type} {R : α → α → Prop} {B : List α} (hB : chn R B) : ∀ {A : List α}, chn R A → (∀ x y, A.getLast? = some x → B.head? = some y → R x y) → chn R (A ++ B)
  | [], _, _ => hB
  | [x], _, h => ⟨fun y hy => h x y rfl hy, hB⟩
  | x :: z :: t, hA, h => ⟨hA.1, chn_app hB hA.2 (fun x' y hx hy => h x' y (by rw [List.getLast?_cons_cons]; exact hx) hy)⟩
def sibs {α : Type} (F : Nat → List α) : Nat → Nat → List α
  | _, 0 => []
  | s, c + 1 => F s ++ sibs F (s + 1) c
theorem sibs_head {α : Type} {F : Nat → List α} {s c : Nat} (hc : 0 < c) (hF : F s ≠ []) : (sibs F s c).head? = (F s).head? := by
  obtain ⟨c, rfl⟩ : ∃ q, c = q + 1 := ⟨c - 1, by omega⟩
  show (F s ++ sibs F (s + 1) c).head? = _
  cases h : F s with
  | nil => exact absurd h hF
  | cons x t => rfl
theorem sibs_ne {α : Type} {F : Nat → List α} {s c : Nat} (hc : 0 < c) (hF : F s ≠ []) : sibs F s c ≠ [] := by
  intro e
  have := sibs_head hc hF
  rw [e] at this
  cases h : F s with
  | nil => exact hF h
  | cons x t => rw [h] at this; cases this
theorem last_app {α : Type} {A B : List α} (hB : B ≠ []) : (A ++ B).getLast? = B.getLast? := by
  rw [List.getLast?_append]
  cases h : B.getLast? with
  | none => exact absurd (List.getLast?_eq_none_iff.mp h) hB
  | some x => rfl
theorem sibs_last {α : Type} {F : Nat → List α} : ∀ {c s : Nat}, (∀ d, s ≤ d → d ≤ s + c → F d ≠ []) → (sibs F s (c + 1)).getLast? = (F (s + c)).getLast?
  | 0, s, _ => by show (F s ++ []).getLast? = _; rw [List.append_nil]; rfl
  | c + 1, s, h => by
    show (F s ++ sibs F (s + 1) (c + 1)).getLast? = _
    rw [last_app (sibs_ne (by omega) (h (s + 1) (by omega) (by omega))), sibs_last (fun d h1 h2 => h d (by omega) (by omega)), show s + 1 + c = s + (c + 1) by omega]
theorem sibs_chn {α : Type} {R : α → α → Prop} {F : Nat → List α} : ∀ {c s : Nat}, (∀ d, s ≤ d → d < s + c → F d ≠ [] ∧ chn R (F d)) → (∀ d, s ≤ d → d + 1 < s + c → ∀ x y, (F d).getLast? = some x → (F (d + 1)).head? = some y → R x y) → chn R (sibs F s c)
  | 0, _, _, _ => trivial
  | c + 1, s, h1, h2 => by
    show chn R (F s ++ sibs F (s + 1) c)
    refine chn_app (sibs_chn (fun d a b => h1 d (by omega) (by omega)) (fun d a b => h2 d (by omega) (by omega))) (h1 s (by omega) (by omega)).2 (fun x y hx hy => ?_)
    cases c with
    | zero => cases hy
    | succ c =>
      rw [sibs_head (by omega) (h1 (s + 1) (by omega) (by omega)).1] at hy
      exact h2 s (by omega) (by omega) x y hx hy
/-- how many are right -/
def cntP {α : Type} (p : α → Bool) : List α → Nat
  | [] => 0
  | x :: t => (if p x then 1 else 0) + cntP p t
theorem cnt_app {α : Type} (p : α → Bool) (B : List α) : ∀ A, cntP p (A ++ B) = cntP p A + cntP p B
  | [] => (Nat.zero_add _).symm
  | x :: t => by
    show (if p x then 1 else 0) + cntP p (t ++ B) = (if p x then 1 else 0) + cntP p t + cntP p B
    rw [cnt_app p B t, Nat.add_assoc]
/-- the i-th that is right -/
def nthP {α : Type} (p : α → Bool) : List α → Nat → Option α
  | [], _ => none
  | x :: t, i => if p x then (match i with
    | 0 => some x
    | i + 1 => nthP p t i) else nthP p t i
theorem nth_app {α : Type} (p : α → Bool) (B : List α) : ∀ (A : List α) (i : Nat), nthP p (A ++ B) i = if i < cntP p A then nthP p A i else nthP p B (i - cntP p A)
  | [], i => by
    show nthP p B i = if i < 0 then none else nthP p B (i - 0)
    rw [if_neg (by omega)]; rfl
  | x :: t, i => by
    show (if p x then (match i with | 0 => some x | i + 1 => nthP p (t ++ B) i) else nthP p (t ++ B) i) = if i < (if p x then 1 else 0) + cntP p t then (if p x then (match i with | 0 => some x | i + 1 => nthP p t i) else nthP p t i) else nthP p B (i - ((if p x then 1 else 0) + cntP p t))
    by_cases h : p x
    · simp only [if_pos h]
      cases i with
      | zero => rw [if_pos (by omega)]
      | succ i =>
        show nthP p (t ++ B) i = if i + 1 < 1 + cntP p t then nthP p t i else nthP p B (i + 1 - (1 + cntP p t))
        rw [nth_app p B t i]
        by_cases h2 : i < cntP p t
        · rw [if_pos h2, if_pos (by omega)]
        · rw [if_neg h2, if_neg (by omega), show i + 1 - (1 + cntP p t) = i - cntP p t by omega]
    · simp only [if_neg h]
      rw [nth_app p B t i, Nat.zero_add]
theorem nth_none {α : Type} (p : α → Bool) : ∀ (A : List α) (i : Nat), cntP p A ≤ i → nthP p A i = none
  | [], _, _ => rfl
  | x :: t, i, h => by
    have h' : (if p x then 1 else 0) + cntP p t ≤ i := h
    by_cases hx : p x
    · rw [if_pos hx] at h'
      cases i with
      | zero => omega
      | succ i =>
        show (if p x then nthP p t i else nthP p t (i + 1)) = none
        rw [if_pos hx]; exact nth_none p t i (by omega)
    · rw [if_neg hx] at h'
      cases i with
      | zero =>
        show (if p x then some x else nthP p t 0) = none
        rw [if_neg hx]; exact nth_none p t 0 (by omega)
      | succ i =>
        show (if p x then nthP p t i else nthP p t (i + 1)) = none
        rw [if_neg hx]; exact nth_none p t (i + 1) (by omega)
theorem nth_some {α : Type} (p : α → Bool) : ∀ (A : List α) (i : Nat), i < cntP p A → ∃ x, nthP p A i = some x
  | [], i, h => by
    have : i < 0 := h
    omega
  | x :: t, i, h => by
    show ∃ y, (if p x then (match i with | 0 => some x | i + 1 => nthP p t i) else nthP p t i) = some y
    have h' : i < (if p x then 1 else 0) + cntP p t := h
    by_cases hx : p x
    · rw [if_pos hx] at h' ⊢
      cases i with
      | zero => exact ⟨x, rfl⟩
      | succ i => exact nth_some p t i (by omega)
    · rw [if_neg hx] at h' ⊢
      exact nth_some p t i (by omega)
/-- how many are right ahead of the first one that is sought -/
def bef {α : Type} (p q : α → Bool) : List α → Nat
  | [] => 0
  | x :: t => if q x then 0 else (if p x then 1 else 0) + bef p q t
theorem bef_app {α : Type} (p q : α → Bool) (B : List α) : ∀ A, (∀ x, x ∈ A → q x = false) → bef p q (A ++ B) = cntP p A + bef p q B
  | [], _ => (Nat.zero_add _).symm
  | x :: t, h => by
    show (if q x then 0 else (if p x then 1 else 0) + bef p q (t ++ B)) = (if p x then 1 else 0) + cntP p t + bef p q B
    rw [h x List.mem_cons_self, bef_app p q B t (fun y hy => h y (List.mem_cons_of_mem _ hy)), Nat.add_assoc]
    rfl
theorem bef_in {α : Type} (p q : α → Bool) (B : List α) : ∀ A, (∃ x, x ∈ A ∧ q x = true) → bef p q (A ++ B) = bef p q A
  | [], h => by obtain ⟨x, hx, _⟩ := h; cases hx
  | x :: t, h => by
    show (if q x then 0 else (if p x then 1 else 0) + bef p q (t ++ B)) = if q x then 0 else (if p x then 1 else 0) + bef p q t
    by_cases hx : q x = true
    · rw [if_pos hx, if_pos hx]
    · rw [if_neg hx, if_neg hx, bef_in p q B t (by
        obtain ⟨y, h1, h2⟩ := h
        rcases List.mem_cons.mp h1 with e | e
        · subst e; exact absurd h2 hx
        · exact ⟨y, e, h2⟩)]
/-- what the reference's loop answers -/
def scanR {α : Type} (p : α → Bool) (pack : α → Int32) (i : Int32) : List α → Nat → Int32
  | [], c => if i = -1 then nI c else -4
  | x :: t, c => if p x then (if nI c = i then pack x else scanR p pack i t (c + 1)) else scanR p pack i t c
theorem scan_m1 {α : Type} (p : α → Bool) (pack : α → Int32) : ∀ (L : List α) (c : Nat), c + L.length < 2 ^ 31 → scanR p pack (-1) L c = nI (c + cntP p L)
  | [], c, _ => if_pos rfl
  | x :: t, c, h => by
    have h' : c + (t.length + 1) < 2 ^ 31 := h
    show (if p x then (if nI c = -1 then pack x else scanR p pack (-1) t (c + 1)) else scanR p pack (-1) t c) = nI (c + ((if p x then 1 else 0) + cntP p t))
    by_cases hx : p x
    · rw [if_pos hx, if_pos hx, if_neg (nI_m1 (by omega)), scan_m1 p pack t (c + 1) (by omega), Nat.add_assoc]
    · rw [if_neg hx, if_neg hx, scan_m1 p pack t c (by omega), Nat.zero_add]
theorem scan_i {α : Type} (p : α → Bool) (pack : α → Int32) {j : Nat} (hj : j < 2 ^ 31) : ∀ (L : List α) (c : Nat), c + L.length < 2 ^ 31 → c ≤ j → scanR p pack (nI j) L c = match nthP p L (j - c) with
    | some x => pack x
    | none => -4
  | [], c, _, _ => if_neg (nI_m1 hj)
  | x :: t, c, h, hc => by
    have h' : c + (t.length + 1) < 2 ^ 31 := h
    show (if p x then (if nI c = nI j then pack x else scanR p pack (nI j) t (c + 1)) else scanR p pack (nI j) t c) = match (if p x then (match j - c with | 0 => some x | i + 1 => nthP p t i) else nthP p t (j - c)) with
      | some x => pack x
      | none => -4
    by_cases hx : p x
    · rw [if_pos hx, if_pos hx]
      by_cases e : c = j
      · subst e
        rw [if_pos rfl, Nat.sub_self]
      · rw [if_neg (fun e2 => e ((nI_eq (by omega) hj).mp e2)), scan_i p pack hj t (c + 1) (by omega) (by omega)]
        obtain ⟨q, hq⟩ : ∃ q, j - c = q + 1 := ⟨j - c - 1, by omega⟩
        rw [hq, show j - (c + 1) = q by omega]
    · rw [if_neg hx, if_neg hx, scan_i p pack hj t c (by omega) hc]
theorem sibs_congr {α : Type} {F G : Nat → List α} : ∀ {c s : Nat}, (∀ d, s ≤ d → d < s + c → F d = G d) → sibs F s c = sibs G s c
  | 0, _, _ => rfl
  | c + 1, s, h => by
    show F s ++ sibs F (s + 1) c = G s ++ sibs G (s + 1) c
    rw [h s (by omega) (by omega), sibs_congr (fun d a b => h d (by omega) (by omega))]
theorem sibs_snoc {α : Type} (F : Nat → List α) : ∀ (c s : Nat), sibs F s (c + 1) = sibs F s c ++ F (s + c)
  | 0, s => by show F s ++ [] = [] ++ F s; rw [List.append_nil, List.nil_append]
  | c + 1, s => by
    show F s ++ sibs F (s + 1) (c + 1) = (F s ++ sibs F (s + 1) c) ++ F (s + (c + 1))
    rw [sibs_snoc F c (s + 1), List.append_assoc, show s + 1 + c = s + (c + 1) by omega]
theorem sibs_len {α : Type} {F : Nat → List α} {b : Nat} : ∀ {c s : Nat}, (∀ d, s ≤ d → d < s + c → (F d).length = b) → (sibs F s c).length = c * b
  | 0, _, _ => (Nat.zero_mul _).symm
  | c + 1, s, h => by
    show (F s ++ sibs F (s + 1) c).length = _
    rw [List.length_append, h s (by omega) (by omega), sibs_len (fun d a b => h d (by omega) (by omega)), Nat.succ_mul, Nat.add_comm]
theorem sibs_cnt {α : Type} {p : α → Bool} {F : Nat → List α} {b : Nat} : ∀ {c s : Nat}, (∀ d, s ≤ d → d < s + c → cntP p (F d) = b) → cntP p (sibs F s c) = c * b
  | 0, _, _ => (Nat.zero_mul _).symm
  | c + 1, s, h => by
    show cntP p (F s ++ sibs F (s + 1) c) = _
    rw [cnt_app, h s (by omega) (by omega), sibs_cnt (fun d a b => h d (by omega) (by omega)), Nat.succ_mul, Nat.add_comm]
/-- blocks of one size -/
theorem sibs_nth {α : Type} {p : α → Bool} {F : Nat → List α} {b : Nat} (hb : 0 < b) (T : List α) : ∀ {c s i : Nat}, (∀ d, s ≤ d → d < s + c → cntP p (F d) = b) → nthP p (sibs F s c ++ T) i = if i / b < c then nthP p (F (s + i / b)) (i % b) else nthP p T (i - c * b)
  | 0, s, i, _ => by
    show nthP p T i = if i / b < 0 then _ else nthP p T (i - 0 * b)
    rw [if_neg (Nat.not_lt_zero _), Nat.zero_mul]; rfl
  | c + 1, s, i, h => by
    show nthP p ((F s ++ sibs F (s + 1) c) ++ T) i = _
    rw [List.append_assoc, nth_app, h s (by omega) (by omega)]
    by_cases hi : i < b
    · rw [if_pos hi, Nat.div_eq_of_lt hi, if_pos (by omega), Nat.mod_eq_of_lt hi]; rfl
    · rw [if_neg hi, sibs_nth hb T (fun d a e => h d (by omega) (by omega))]
      obtain ⟨q, rfl⟩ : ∃ q, i = q + b := ⟨i - b, by omega⟩
      rw [Nat.add_sub_cancel, Nat.add_div_right _ hb, Nat.add_mod_right]
      by_cases h2 : q / b < c
      · rw [if_pos h2, if_pos (by omega), show s + 1 + q / b = s + (q / b).succ by omega]
      · rw [if_neg h2, if_neg (by omega), Nat.succ_mul, show q + b - (c * b + b) = q - c * b by omega]
theorem mem_sibs {α : Type} {F : Nat → List α} {x : α} : ∀ {c s : Nat}, x ∈ sibs F s c ↔ ∃ d, s ≤ d ∧ d < s + c ∧ x ∈ F d
  | 0, s => ⟨fun h => (by cases h), fun ⟨d, h1, h2, _⟩ => by omega⟩
  | c + 1, s => by
    show x ∈ F s ++ sibs F (s + 1) c ↔ _
    rw [List.mem_append, mem_sibs (c := c) (s := s + 1)]
    constructor
    · rintro (h | ⟨d, h1, h2, h3⟩)
      · exact ⟨s, by omega, by omega, h⟩
      · exact ⟨d, by omega, by omega, h3⟩
    · rintro ⟨d, h1, h2, h3⟩
      by_cases e : d = s
      · subst e; exact Or.inl h3
      · exact Or.inr ⟨d, by omega, by omega, h3⟩
theorem sibs_bef {α : Type} {p q : α → Bool} {F : Nat → List α} {b : Nat} (d : Nat) : ∀ {c s : Nat}, s ≤ d → d < s + c → (∀ e, s ≤ e → e < d → cntP p (F e) = b ∧ ∀ x, x ∈ F e → q x = false) → (∃ x, x ∈ F d ∧ q x = true) → bef p q (sibs F s c) = (d - s) * b + bef p q (F d)
  | 0, s, h1, h2, _, _ => by omega
  | c + 1, s, h1, h2, h, hx => by
    show bef p q (F s ++ sibs F (s + 1) c) = _
    by_cases e : d = s
    · subst e
      rw [bef_in p q _ _ hx, Nat.sub_self, Nat.zero_mul, Nat.zero_add]
    · obtain ⟨h3, h4⟩ := h s (by omega) (by omega)
      rw [bef_app p q _ _ h4, h3, sibs_bef d (by omega) (by omega) (fun e a b => h e (by omega) b) hx, show d - s = (d - (s + 1)) + 1 by omega, Nat.succ_mul]
      omega
