/-! how many orders have a mark -/
def wN (T : Nat → Nat → Nat → Nat) (s l v a : Nat) : Nat := if v < a then 0 else T s l (v - a)
def T0 (_s l m : Nat) : Nat := if m ≤ 8 then pN tRg (l * 9 + m) else 0
def T1 (s l m : Nat) : Nat := if m ≤ 8 then pN tFa ((l * 9 + s) * 9 + m) else 0
def T2 (_s l m : Nat) : Nat := if m ≤ 28 then pN tPa (l * 29 + m) else 0
def T3 (s l m : Nat) : Nat := fc l / fc s * T0 0 s m
def T4 (s _l m : Nat) : Nat := if 1 ≤ ocw 9 s + m ∧ ocw 9 s + m ≤ 8 then pN (tRi (ocw 9 s + m)) s else 0
theorem rec0 : ∀ l, l < 8 → ∀ m, m < 29 → T0 0 (l + 1) m = wN T0 0 l m 1 + l * T0 0 l m := by decide +kernel
theorem rec1 : ∀ l, l < 8 → ∀ s, s < l + 2 → ∀ m, m < 29 → T1 s (l + 1) m = SN (fun c => wN T1 c l m (if c < s then 1 else 0)) (l + 1) := by decide +kernel
theorem rec2 : ∀ l, l < 8 → ∀ m, m < 29 → T2 0 (l + 1) m = SN (fun c => wN T2 0 l m c) (l + 1) := by decide +kernel
theorem rec3 : ∀ l, l < 8 → ∀ s, s < l + 2 → ∀ m, m < 29 → T3 s (l + 1) m = SN (fun c => wN T3 (min s (l - c)) l m (if l + 1 - s ≤ c then 1 else 0)) (l + 1) := by decide +kernel
def ok4 (s m : Nat) : Bool := decide (s = 0) || (decide (zcw 9 s = 0) || decide (T4 s 0 m = SN (fun c => wN T4 (nxW s c) 0 m (ocw 9 (nxW s c) - ocw 9 s)) (zcw 9 s)))
theorem ok4_all : ∀ s, s < 512 → ∀ m, m < 9 → ok4 s m = true := by decide +kernel
theorem base4 : ∀ s, s < 512 → ∀ m, m < 29 → (decide (ocw 9 s = 0) || (decide (0 < zcw 9 s) || decide (T4 s 0 m = if m = 0 then 1 else 0))) = true := by decide +kernel
theorem base0 : ∀ m, m < 29 → T0 0 0 m = if m = 0 then 1 else 0 := by decide +kernel
theorem base1 : ∀ m, m < 29 → T1 0 0 m = if m = 0 then 1 else 0 := by decide +kernel
theorem base2 : ∀ m, m < 29 → T2 0 0 m = if m = 0 then 1 else 0 := by decide +kernel
theorem base3 : ∀ m, m < 29 → T3 0 0 m = if m = 0 then 1 else 0 := by decide +kernel
theorem T3_b : ∀ l, l < 9 → ∀ s, s < l + 1 → ∀ m, m < 29 → T3 s l m ≤ 65536 := by decide +kernel
theorem pN_lt (N i : Nat) : pN N i < 65536 := Nat.mod_lt _ (by decide)
theorem rec4 {s l m : Nat} (h1 : 1 ≤ s) (h2 : s < 512) (hz : zcw 9 s = l + 1) : T4 s (l + 1) m = SN (fun c => wN T4 (nxW s c) l m (ocw 9 (nxW s c) - ocw 9 s)) (l + 1) := by
  by_cases hm : m < 9
  · have h := ok4_all s h2 m hm
    unfold ok4 at h
    rw [Bool.or_eq_true, Bool.or_eq_true, decide_eq_true_eq, decide_eq_true_eq, decide_eq_true_eq, hz] at h
    rcases h with h | h | h
    · omega
    · omega
    · exact h
  · have e : T4 s (l + 1) m = 0 := by unfold T4; rw [if_neg (by omega)]
    have hle := zcw_le s h2
    rw [e, SN_congr (g := fun _ => 0) (fun c hc => ?_)]
    · have : ∀ n, SN (fun _ => 0) n = 0 := fun n => by
        induction n with
        | zero => rfl
        | succ n ih => show SN (fun _ => 0) n + 0 = 0; rw [ih]
      exact (this _).symm
    · obtain ⟨_, _, _, a4⟩ := nxW_ok s h2 h1 c (by omega) (by omega)
      unfold wN
      split
      · rfl
      · unfold T4; rw [if_neg (by omega)]
theorem wN_rec {T : Nat → Nat → Nat → Nat} {s l : Nat} {nN gN : Nat → Nat} (h : ∀ m, m < 29 → T s (l + 1) m = SN (fun c => wN T (nN c) l m (gN c)) (l + 1)) {v a : Nat} (hv : v < 29) : wN T s (l + 1) v a = SN (fun c => wN T (nN c) l v (a + gN c)) (l + 1) := by
  unfold wN
  by_cases e : v < a
  · rw [if_pos e, SN_congr (g := fun _ => 0) (fun c hc => by rw [if_pos (by omega)])]
    have : ∀ n, SN (fun _ => 0) n = 0 := fun n => by
      induction n with
      | zero => rfl
      | succ n ih => show SN (fun _ => 0) n + 0 = 0; rw [ih]
    exact (this _).symm
  · rw [if_neg e, h (v - a) (by omega)]
    refine SN_congr (fun c hc => ?_)
    show (if v - a < gN c then 0 else T (nN c) l (v - a - gN c)) = _
    by_cases e2 : v - a < gN c
    · rw [if_pos e2, if_pos (by omega)]
    · rw [if_neg e2, if_neg (by omega), Nat.sub_sub]
theorem wN_0 {T : Nat → Nat → Nat → Nat} {s v a : Nat} (h : ∀ m, m < 29 → T s 0 m = if m = 0 then 1 else 0) (hv : v < 29) : wN T s 0 v a = if a = v then 1 else 0 := by
  unfold wN
  by_cases e : v < a
  · rw [if_pos e, if_neg (by omega)]
  · rw [if_neg e, h (v - a) (by omega)]
    by_cases e2 : a = v
    · rw [if_pos (by omega), if_pos e2]
    · rw [if_neg (by omega), if_neg e2]
theorem sibs_cntS {α : Type} {p : α → Bool} {F : Nat → List α} {w : Nat → Nat} : ∀ {c : Nat}, (∀ d, d < c → cntP p (F d) = w d) → cntP p (sibs F 0 c) = SN w c
  | 0, _ => rfl
  | c + 1, h => by
    rw [sibs_snoc, cnt_app, sibs_cntS (fun d hd => h d (by omega)), Nat.zero_add, h c (by omega)]; rfl
/-! a mark: its growth g, its next state nx, and what is kept, Iv -/
def Good (n : Nat) (mk : (Nat → Nat) → Nat) (T : Nat → Nat → Nat → Nat) (g nx : Nat → (Nat → Nat) → (Nat → Nat) → Nat → Nat → Nat → Nat) (Iv : Nat → Nat → (Nat → Nat) → (Nat → Nat) → Nat → Nat → Prop) : Prop :=
  (∀ u x s a, Iv n 0 u x s a → mk x = a ∧ ∀ m, m < 29 → T s 0 m = if m = 0 then 1 else 0) ∧
  (∀ p l u x s a c, p + (l + 1) = n → Iv p (l + 1) u x s a → inc u (l + 1) → c ≤ l → Iv (p + 1) l (skp u c) (updN x p (u c)) (nx p u x s (l + 1) c) (a + g p u x s (l + 1) c)) ∧
  (∀ p l u x s a, p + (l + 1) = n → Iv p (l + 1) u x s a → ∀ m, m < 29 → T s (l + 1) m = SN (fun c => wN T (nx p u x s (l + 1) c) l m (g p u x s (l + 1) c)) (l + 1))
theorem cnt_gen {n v : Nat} (hv : v < 29) {mk : (Nat → Nat) → Nat} {T : Nat → Nat → Nat → Nat} {g nx : Nat → (Nat → Nat) → (Nat → Nat) → Nat → Nat → Nat → Nat} {Iv : Nat → Nat → (Nat → Nat) → (Nat → Nat) → Nat → Nat → Prop} (H : Good n mk T g nx Iv) : ∀ l p u x s a, p + l = n → inc u l → Iv p l u x s a → cntP (fun y => decide (mk y = v)) (prm l p u x) = wN T s l v a := by
  intro l
  induction l with
  | zero =>
    intro p u x s a hp hi hI
    obtain rfl : p = n := by omega
    obtain ⟨h1, h2⟩ := H.1 u x s a hI
    show (if decide (mk x = v) = true then 1 else 0) + 0 = _
    rw [h1, wN_0 h2 hv]
    by_cases e : a = v
    · rw [if_pos (decide_eq_true e), if_pos e]
    · rw [if_neg (by rw [decide_eq_true_eq]; exact e), if_neg e]
  | succ l ih =>
    intro p u x s a hp hi hI
    show cntP _ (sibs _ 0 (l + 1)) = _
    rw [wN_rec (H.2.2 p l u x s a hp hI) hv]
    exact sibs_cntS (fun c hc => ih (p + 1) _ _ _ _ (by omega) (inc_skp hi c) (H.2.1 p l u x s a c hp hI hi (by omega)))
theorem good1 (n : Nat) (hn : n ≤ 8) : Good n (fun y => mkR 1 y n) T1 (fun _ _ _ s _ c => if c < s then 1 else 0) (fun _ _ _ _ _ c => c) (fun p l u x s a => I1 p l u x s a) := by
  refine ⟨fun u x s a h => ⟨h.1.symm, fun m hm => ?_⟩, fun p l u x s a c hp h hi hc => I1_s h hi hc, fun p l u x s a hp h m hm => rec1 l (by omega) s (by have := h.2.1; omega) m hm⟩
  have := h.2.1
  obtain rfl : s = 0 := by omega
  exact base1 m hm
theorem good2 (n : Nat) (hn : n ≤ 8) : Good n (fun y => mkR 2 y n) T2 (fun _ _ _ _ _ c => c) (fun _ _ _ _ _ _ => 0) (fun p l u x s a => s = 0 ∧ I2 p l u x a) := by
  refine ⟨fun u x s a h => ⟨?_, fun m hm => ?_⟩, fun p l u x s a c hp h hi hc => ⟨rfl, I2_s h.2 hi hc⟩, fun p l u x s a hp h m hm => ?_⟩
  · have := h.2
    unfold I2 at this
    rw [this]; rfl
  · rw [h.1]; exact base2 m hm
  · rw [h.1]; exact rec2 l (by omega) m hm
theorem good3 (n : Nat) (hn : n ≤ 8) : Good n (fun y => mkR 3 y n) T3 (fun _ _ _ s l c => if l - s ≤ c then 1 else 0) (fun _ _ _ s l c => min s (l - 1 - c)) (fun p l u x s a => I3 p l u x s a) := by
  refine ⟨fun u x s a h => ⟨h.1.symm, fun m hm => ?_⟩, fun p l u x s a c hp h hi hc => ?_, fun p l u x s a hp h m hm => ?_⟩
  · have := h.2.1
    obtain rfl : s = 0 := by omega
    exact base3 m hm
  · exact I3_s h hi hc
  · exact rec3 l (by omega) s (by have := h.2.1; omega) m hm
theorem good4 (n : Nat) (h1 : 1 ≤ n) (hn : n ≤ 8) : Good n (fun y => mkR 4 y n) T4 (fun _ _ _ s _ c => ocw 9 (nxW s c) - ocw 9 s) (fun _ _ _ s _ c => nxW s c) (fun p l u x s a => I4 p l u x s a) := by
  refine ⟨fun u x s a h => ⟨h.1.symm, fun m hm => ?_⟩, fun p l u x s a c hp h hi hc => I4_s h hi hc, fun p l u x s a hp h m hm => rec4 h.2.1 h.2.2.1 h.2.2.2.1⟩
  obtain ⟨a1, a2, a3, a4, a5, _⟩ := h
  have hb := base4 s a3 m hm
  rw [Bool.or_eq_true, Bool.or_eq_true, decide_eq_true_eq, decide_eq_true_eq, decide_eq_true_eq] at hb
  have hm1 : 1 ≤ mst x n := by
    obtain ⟨q, rfl⟩ : ∃ q, n = q + 1 := ⟨n - 1, by omega⟩
    show 1 ≤ max (mst x q) (lgC x (otF x q) q q + 1)
    omega
  rcases hb with h | h | h
  · omega
  · omega
  · exact h
