/-! sums -/
abbrev b8 (v : Int) : Prop := -100000000 ≤ v ∧ v ≤ 100000000
def tm (wh k : Nat) (v : Int) : Int := if wh = 1 ∧ k % 2 = 1 then -v else if wh = 3 then v * v else v
def sI (wh : Nat) (z : Nat → Option Int) : Nat → Option Int
  | 0 => some 0
  | k + 1 => match sI wh z k, z k with
    | some s, some v => if wh = 3 ∧ ¬ b8 v then none else some (s + tm wh k v)
    | _, _ => none
theorem sq8 {v : Int} (h : b8 v) : 0 ≤ v * v ∧ v * v ≤ 10000000000000000 := by
  have a : (v.natAbs : Int) ≤ 100000000 := by omega
  have b : v * v = (v.natAbs : Int) * (v.natAbs : Int) := by rw [← Int.natCast_mul, Int.natAbs_mul_self]
  have c : (v.natAbs : Int) * (v.natAbs : Int) ≤ 100000000 * 100000000 := Int.mul_le_mul a a (by omega) (by omega)
  have d : (0 : Int) ≤ (v.natAbs : Int) * (v.natAbs : Int) := Int.mul_nonneg (by omega) (by omega)
  omega
theorem tm_b {wh k : Nat} {v : Int} (h : b17 v) (h8 : wh = 3 → b8 v) : b17 (tm wh k v) := by
  unfold tm
  split
  · omega
  · split
    · rename_i h3; have := sq8 (h8 h3); unfold b17; omega
    · exact h
theorem sI_b {wh : Nat} {z : Nat → Option Int} (hz : ∀ k, okO (z k)) : ∀ k s, sI wh z k = some s → -(100000000000000000 * k) ≤ s ∧ s ≤ 100000000000000000 * k
  | 0, s, h => by cases h; omega
  | k + 1, s, h => by
    rw [sI] at h
    rcases e1 : sI wh z k with _ | s1
    · rw [e1] at h; cases h
    · rcases e2 : z k with _ | v
      · rw [e1, e2] at h; cases h
      · rw [e1, e2] at h
        have i := sI_b hz k s1 e1
        simp only at h
        split at h
        · cases h
        · rename_i hc
          cases h
          have := tm_b (wh := wh) (k := k) (hz k v e2) (fun h3 => Decidable.byContradiction (fun c => hc ⟨h3, c⟩))
          unfold b17 at this
          omega
theorem sI_sm {wh : Nat} {z : Nat → Option Int} (hz : ∀ k, okO (z k)) {k : Nat} (hk : k ≤ 25) {s : Int} (h : sI wh z k = some s) : sm s := by
  have := sI_b hz k s h
  unfold sm; omega
theorem sI_none {wh : Nat} {z : Nat → Option Int} {k : Nat} (h : sI wh z k = none) : ∀ d, sI wh z (k + d) = none
  | 0 => h
  | d + 1 => by
    show (match sI wh z (k + d), z (k + d) with
      | some s, some v => if wh = 3 ∧ ¬ b8 v then none else some (s + tm wh (k + d) v)
      | _, _ => none) = none
    rw [sI_none h d]
theorem sI_step {wh : Nat} {z : Nat → Option Int} {k : Nat} {s v : Int} (h1 : sI wh z k = some s) (h2 : z k = some v) (h3 : wh = 3 → b8 v) : sI wh z (k + 1) = some (s + tm wh k v) := by
  rw [sI, h1, h2]
  show (if wh = 3 ∧ ¬ b8 v then none else some (s + tm wh k v)) = _
  rw [if_neg (fun e => e.2 (h3 e.1))]
theorem sI_bad {wh : Nat} {z : Nat → Option Int} {k : Nat} (h : ∀ v, z k = some v → wh = 3 ∧ ¬ b8 v) : sI wh z (k + 1) = none := by
  rw [sI]
  rcases sI wh z k with _ | s
  · rfl
  · rcases e2 : z k with _ | v
    · rfl
    · show (if wh = 3 ∧ ¬ b8 v then none else some (s + tm wh k v)) = none
      rw [if_pos (h v e2)]
def rS (o : Option Int) (is : Int32) (sum : Int64) : Prop := match o with
  | none => is = 0
  | some s => is = 1 ∧ sum = E s
theorem par (k : Nat) (hk : k ≤ 60) : (nI k - nI k / (2 : Int32) * (2 : Int32)) = (1 : Int32) ↔ k % 2 = 1 := by
  rw [show (2 : Int32) = nI 2 from rfl, pk_rem (by omega) (by decide) (by decide), show (1 : Int32) = nI 1 from rfl, nI_eq (by omega) (by decide)]
theorem sum135 (k51 : Int32 → Int32 → Int64 → Int32 → Int32 → MS → Option (Int64 × MS)) (M : MS) (v2 : Int32) {wh k : Nat} (hw : wh ≤ 3) (hk : k ≤ 60) (s9 v : Int64) (t0 : Int32) :
    f_X12_sum_135 k51 v2 (nI wh) s9 (nI k) v t0 M = k51 v2 (nI wh) (s9 + (if wh = 1 ∧ k % 2 = 1 then -v else if wh = 3 then (if t0 = 0 then 0 else v * v) else v)) t0 (nI k + 1) M := by
  unfold f_X12_sum_135 f_X12_sum_158 f_X12_sum_182
  rcases (show wh = 0 ∨ wh = 1 ∨ wh = 2 ∨ wh = 3 by omega) with rfl | rfl | rfl | rfl
  · rw [if_neg (show ¬ nI 0 = 1 by decide), if_neg (show ¬ (3 : Int32) ≤ nI 0 by decide), if_neg (show ¬ (0 = 1 ∧ k % 2 = 1) by omega), if_neg (show ¬ 0 = 3 by decide)]
  · rw [if_pos (show nI 1 = 1 from rfl)]
    by_cases c : k % 2 = 1
    · rw [if_pos ((par k hk).mpr c), if_pos (show 1 = 1 ∧ k % 2 = 1 from ⟨rfl, c⟩)]
    · rw [if_neg (fun e => c ((par k hk).mp e)), if_neg (show ¬ (3 : Int32) ≤ nI 1 by decide), if_neg (show ¬ (1 = 1 ∧ k % 2 = 1) from fun e => c e.2), if_neg (show ¬ 1 = 3 by decide)]
  · rw [if_neg (show ¬ nI 2 = 1 by decide), if_neg (show ¬ (3 : Int32) ≤ nI 2 by decide), if_neg (show ¬ (2 = 1 ∧ k % 2 = 1) by omega), if_neg (show ¬ 2 = 3 by decide)]
  · rw [if_neg (show ¬ nI 3 = 1 by decide), if_pos (show (3 : Int32) ≤ nI 3 by decide), if_neg (show ¬ (3 = 1 ∧ k % 2 = 1) by omega), if_pos (show 3 = 3 from rfl)]
    by_cases c : t0 = 0
    · simp only [if_pos c]
    · simp only [if_neg c]
theorem sm8 : sm 100000000 := by unfold sm; omega
theorem sum82 (k51 : Int32 → Int32 → Int64 → Int32 → Int32 → MS → Option (Int64 × MS)) (M : MS) (v2 : Int32) {wh k m : Nat} (hw : wh ≤ 3) (hm : m ≤ 24) (hk : k ≤ m) (z : Nat → Option Int) (hz : okO (z k)) (hc : cIs M (tri m + k) (z k)) {is : Int32} {s9 : Int64} (hs : rS (sI wh z k) is s9) :
    ∃ is' s', f_X12_sum_82 k51 v2 (nI wh) s9 is (nI k) 0 (nI m) M = k51 v2 (nI wh) s' is' (nI k + 1) M ∧ rS (sI wh z (k + 1)) is' s' := by
  have hq := tri24 hm hk
  unfold f_X12_sum_82 f_X12_sum_130 f_X12_sum_134
  rw [show (0 : Int32) = nI 0 from rfl, at_eq' hm, jbd_s, Nat.mul_zero, Nat.zero_add, jgd_n _ (by omega) (by decide), jgd_n _ (by omega) (by decide), nI_clamp (by omega), hc.1, hc.2]
  rw [show nI 0 = (0 : Int32) from rfl]
  simp only [sum135 k51 M v2 hw (show k ≤ 60 by omega)]
  rcases e1 : sI wh z k with _ | s1
  · rw [e1] at hs
    rw [if_pos (show is = 0 from hs)]
    exact ⟨_, _, rfl, by rw [sI_none e1 1]; rfl⟩
  · rw [e1] at hs
    obtain ⟨rfl, rfl⟩ := hs
    rw [if_neg one_ne]
    rcases e2 : z k with _ | v
    · rw [if_neg (show ¬ gB none = 0 from one_ne)]
      exact ⟨_, _, rfl, by rw [sI_bad (fun v hv => by rw [e2] at hv; cases hv)]; rfl⟩
    · rw [if_pos (show gB (some v) = 0 from rfl), show gV (some v) = v from rfl]
      have hv := hz v e2
      rcases (show wh < 3 ∨ wh = 3 by omega) with c | c
      · rw [if_pos (show nI wh < 3 from nI_lt (b := 3) c (by decide))]
        refine ⟨_, _, rfl, ?_⟩
        rw [sI_step e1 e2 (by omega)]
        refine ⟨rfl, ?_⟩
        rw [← E_add]
        unfold tm
        rw [if_neg (show ¬ wh = 3 by omega), if_neg (show ¬ wh = 3 by omega)]
        by_cases d : wh = 1 ∧ k % 2 = 1
        · rw [if_pos d, if_pos d, E_neg]
        · rw [if_neg d, if_neg d]
      · subst c
        rw [if_neg (by decide), sizeM hv.s, jbd_s]
        by_cases d : b8 v
        · rw [if_neg (fun e => by have := (E_lt sm8 (sm_abs hv.s)).mp ((lg_cmp_gt _ _).mp e); omega)]
          refine ⟨_, _, rfl, ?_⟩
          rw [sI_step e1 e2 (fun _ => d)]
          refine ⟨rfl, ?_⟩
          rw [← E_add]
          unfold tm
          simp only [if_neg (show ¬ (3 = 1 ∧ k % 2 = 1) by omega), if_neg one_ne, E_mul, if_true]
        · rw [if_pos (show 0 < lg_cmp (E (v.natAbs : Int)) 100000000 from (lg_cmp_gt _ _).mpr ((E_lt sm8 (sm_abs hv.s)).mpr (by omega)))]
          exact ⟨_, _, rfl, by rw [sI_bad (fun w hw => by rw [e2] at hw; cases hw; exact ⟨rfl, d⟩)]; rfl⟩
/-- how many terms, and which -/
def sK (wh n : Nat) : Nat := if wh = 2 then n / 2 + 1 else n + 1
def sZ (M : MS) (l wh n k : Nat) : Option Int := if wh = 2 then T M l (n - k) k else T M l n k
theorem sumM_loop (M : MS) {n wh : Nat} (hn : n ≤ 24) (hw : wh ≤ 3) (z : Nat → Option Int) (hz : ∀ k, okO (z k)) (hc : ∀ k, k < sK wh n → cIs M (tri (if wh = 2 then n - k else n) + k) (z k)) : ∀ (d k f : Nat) (is : Int32) (s9 : Int64), k + d = sK wh n → d < f → rS (sI wh z k) is s9 → f_X12_sum_51 f (nI n) (nI wh) s9 is (nI k) M = some (ans (sI wh z (sK wh n)), M) := by
  have h2 : nI n / (2 : Int32) = nI (n / 2) := by rw [show (2 : Int32) = nI 2 from rfl, pk_div (by omega) (by decide) (by decide)]
  intro d
  induction d with
  | zero =>
    intro k f is s9 h1 hf hs
    obtain ⟨f, rfl⟩ : ∃ q, f = q + 1 := ⟨f - 1, by omega⟩
    have fin : f_X12_sum_191 s9 is M = some (ans (sI wh z (sK wh n)), M) := by
      unfold f_X12_sum_191
      rw [show sK wh n = k by omega]
      rcases e : sI wh z k with _ | s
      · rw [e] at hs; rw [if_pos (show is = 0 from hs)]; rfl
      · rw [e] at hs; obtain ⟨rfl, rfl⟩ := hs; rw [if_neg one_ne]; rfl
    rw [f_X12_sum_51]
    unfold f_X12_sum_65
    by_cases c : wh = 2
    · subst c
      rw [if_pos (by decide), h2, if_pos (nI_lt (by unfold sK at h1; rw [if_pos rfl] at h1; omega) (by unfold sK at h1; rw [if_pos rfl] at h1; omega))]
      exact fin
    · rw [if_neg (show ¬ nI wh = 2 from fun e => c ((nI_eq (b := 2) (by omega) (by decide)).mp e)), if_pos (nI_lt (by unfold sK at h1; rw [if_neg c] at h1; omega) (by unfold sK at h1; rw [if_neg c] at h1; omega))]
      exact fin
  | succ d ih =>
    intro k f is s9 h1 hf hs
    obtain ⟨f, rfl⟩ : ∃ q, f = q + 1 := ⟨f - 1, by omega⟩
    rw [f_X12_sum_51]
    unfold f_X12_sum_65
    have hk := hc k (by omega)
    by_cases c : wh = 2
    · subst c
      have h3 : k < n / 2 + 1 := by unfold sK at h1; rw [if_pos rfl] at h1; omega
      rw [if_pos rfl] at hk
      rw [if_pos (by decide), h2, if_neg (nI_nlt (by omega) (by omega)), if_pos (by decide), pk_sub (by omega)]
      obtain ⟨is', s', g1, g2⟩ := sum82 (f_X12_sum_51 f) M (nI n) (wh := 2) (by omega) (show n - k ≤ 24 by omega) (show k ≤ n - k by omega) z (hz k) hk hs
      rw [g1, nI_1]
      exact ih (k + 1) f is' s' (by omega) (by omega) g2
    · have c2 : ¬ nI wh = 2 := fun e => c ((nI_eq (b := 2) (by omega) (by decide)).mp e)
      have h3 : k < n + 1 := by unfold sK at h1; rw [if_neg c] at h1; omega
      rw [if_neg c] at hk
      rw [if_neg c2, if_neg (nI_nlt (by omega) (by omega)), if_neg c2]
      obtain ⟨is', s', g1, g2⟩ := sum82 (f_X12_sum_51 f) M (nI n) (wh := wh) (by omega) hn (show k ≤ n by omega) z (hz k) hk hs
      rw [g1, nI_1]
      exact ih (k + 1) f is' s' (by omega) (by omega) g2
/-! the class's sums -/
abbrev kp (m : Int) (z : Option Int) : Prop := match z with
  | none => False
  | some v => -m ≤ v ∧ v ≤ m
theorem beyond_T {z : Option Int} (hz : okO z) {m : Int64} {mi : Int} (hm : m = E mi) (hmi : mi = 100000000 ∨ mi = 100000000000000000) : ∃ r, f_X11_beyond (tEnc z) m = some r ∧ (r = 0 ↔ kp mi z) ∧ (r = 0 ∨ r = 1) := by
  subst hm
  have hs : sm mi := by unfold sm; omega
  refine ⟨_, beyond_eq _ _ (by rw [hs.t]; omega), ?_, ?_⟩
  · rw [b01_eq0]
    cases z with
    | none =>
      rw [tEnc_none]
      refine ⟨fun e => absurd (Or.inr ?_) e, fun e => absurd e id⟩
      rw [E_neg, Int64.lt_iff_toInt_lt, E_toInt (by omega) (by omega)]
      have e2 : ((-9000000000000000000 : Int64)).toInt = -9000000000000000000 := by decide
      rw [e2]; omega
    | some v =>
      have hv := (hz v rfl).s
      rw [tEnc_some, E_neg, gt_iff_lt, E_lt hs hv, E_lt hv (by unfold sm; omega)]
      show _ ↔ -mi ≤ v ∧ v ≤ mi
      omega
  · unfold b01; split
    · exact Or.inr rfl
    · exact Or.inl rfl
theorem keeps_loop {l : Nat} {w : LawS} {M : MS} (h : RLaw l w M) {n : Nat} (hn : n ≤ 24) {m : Int64} {mi : Int} (hm : m = E mi) (hmi : mi = 100000000 ∨ mi = 100000000000000000) : ∀ (d k f : Nat), k + d = n + 1 → d < f → ∃ r, f_X2_rowKeepsTo_3 f (nI n) m (nI k) w = some r ∧ (r = 0 ∨ r = 1) ∧ (r = 1 ↔ ∀ j, k ≤ j → j ≤ n → kp mi (T M l n j)) := by
  intro d
  induction d with
  | zero =>
    intro k f h1 hf
    obtain ⟨f, rfl⟩ : ∃ q, f = q + 1 := ⟨f - 1, by omega⟩
    rw [f_X2_rowKeepsTo_3, if_pos (nI_lt (by omega) (by omega))]
    exact ⟨1, rfl, Or.inr rfl, fun _ j h2 h3 => by omega, fun _ => rfl⟩
  | succ d ih =>
    intro k f h1 hf
    obtain ⟨f, rfl⟩ : ∃ q, f = q + 1 := ⟨f - 1, by omega⟩
    obtain ⟨r, r1, r2, r3⟩ := beyond_T (okT h n k) hm hmi
    rw [f_X2_rowKeepsTo_3, if_neg (nI_nlt (by omega) (by omega)), num_T h hn (by omega), jbd_s, r1, jbd_s, nI_1]
    by_cases c : r = 0
    · rw [if_pos c]
      obtain ⟨r', g1, g2, g3⟩ := ih (k + 1) f (by omega) (by omega)
      refine ⟨r', g1, g2, g3.trans ⟨fun e j h2 h3 => ?_, fun e j h2 h3 => e j (by omega) h3⟩⟩
      by_cases hj : j = k
      · subst hj; exact r2.mp c
      · exact e j (by omega) h3
    · rw [if_neg c]
      exact ⟨0, rfl, Or.inl rfl, fun e => absurd e (by decide), fun e => absurd (r2.mpr (e k (Nat.le_refl _) (by omega))) c⟩
theorem kp_ok {z : Option Int} {mi : Int} (h : kp mi z) : ∃ v, z = some v ∧ -mi ≤ v ∧ v ≤ mi := by
  cases z with
  | none => exact absurd h id
  | some v => exact ⟨v, rfl, h⟩
theorem rowSum_loop {l : Nat} {w : LawS} {M : MS} (h : RLaw l w M) {n wh : Nat} (hn : n ≤ 24) (hw : wh ≤ 1) (hk : ∀ j, j ≤ n → kp 100000000000000000 (T M l n j)) : ∀ (d k f : Nat) (s : Int), k + d = n + 1 → d < f → sI wh (T M l n) k = some s → ∃ s', sI wh (T M l n) (n + 1) = some s' ∧ f_X2_rowSum_20 f (nI n) (nI wh) (E s) (nI k) w = some (E s') := by
  intro d
  induction d with
  | zero =>
    intro k f s h1 hf hs
    obtain ⟨f, rfl⟩ : ∃ q, f = q + 1 := ⟨f - 1, by omega⟩
    obtain rfl : k = n + 1 := by omega
    exact ⟨s, hs, by rw [f_X2_rowSum_20, if_pos (nI_lt (by omega) (by omega))]⟩
  | succ d ih =>
    intro k f s h1 hf hs
    obtain ⟨f, rfl⟩ : ∃ q, f = q + 1 := ⟨f - 1, by omega⟩
    obtain ⟨v, hv, _⟩ := kp_ok (hk k (by omega))
    have st := sI_step hs hv (show wh = 3 → b8 v by omega)
    obtain ⟨s', g1, g2⟩ := ih (k + 1) f _ (by omega) (by omega) st
    refine ⟨s', g1, ?_⟩
    have nt : f_X2_numberAt (nI n) (nI k) w = some (E v) := by rw [num_T h hn (by omega), hv]; rfl
    rw [f_X2_rowSum_20, if_neg (nI_nlt (by omega) (by omega))]
    unfold f_X2_rowSum_50 f_X2_rowSum_57
    rw [nt, jbd_s, jbd_s, nI_1, E_neg, E_add, E_add]
    unfold tm at g2
    rw [if_neg (show ¬ wh = 3 by omega)] at g2
    rcases (show wh = 0 ∨ wh = 1 by omega) with rfl | rfl
    · rw [if_pos (show nI 0 = 0 from rfl)]
      rw [if_neg (by omega)] at g2
      exact g2
    · rw [if_neg (show ¬ nI 1 = 0 by decide)]
      by_cases c : k % 2 = 1
      · rw [if_pos ((par k (by omega)).mpr c)]
        rw [if_pos ⟨rfl, c⟩] at g2
        exact g2
      · rw [if_neg (fun e => c ((par k (by omega)).mp e))]
        rw [if_neg (fun e => c e.2)] at g2
        exact g2
theorem rowSum_eq {l : Nat} {w : LawS} {M : MS} (h : RLaw l w M) {n wh : Nat} (hn : n ≤ 24) (hw : wh ≤ 1) : f_X2_rowSum (nI n) (nI wh) w = some (tEnc (sI wh (T M l n) (n + 1))) := by
  unfold f_X2_rowSum f_X2_rowKeepsTo
  obtain ⟨r, r1, r2, r3⟩ := keeps_loop h hn (m := 100000000000000000) (mi := 100000000000000000) (by decide) (Or.inr rfl) (n + 1) 0 1000000 (by omega) (by omega)
  rw [show f_X2_rowKeepsTo_3 jFU (nI n) 100000000000000000 (0 : Int32) w = some r from r1, jbd_s]
  by_cases c : r = 1
  · subst c
    rw [if_neg one_ne]
    obtain ⟨s', g1, g2⟩ := rowSum_loop h hn hw (fun j hj => r3.mp rfl j (by omega) hj) (n + 1) 0 1000000 0 (by omega) (by omega) rfl
    rw [g1]; exact g2
  · have r0 : r = 0 := by rcases r2 with e | e; · exact e
                          · exact absurd e c
    rw [if_pos r0]
    have : sI wh (T M l n) (n + 1) = none := by
      apply Classical.byContradiction
      intro hne
      apply c
      refine r3.mpr (fun j _ hj => ?_)
      rcases e : T M l n j with _ | v
      · exfalso
        apply hne
        have := sI_none (sI_bad (wh := wh) (z := T M l n) (k := j) (fun v hv => by rw [e] at hv; cases hv)) (n - j)
        rw [show j + 1 + (n - j) = n + 1 by omega] at this
        exact this
      · exact okT h n j v e
    rw [this, tEnc_none]
theorem square_loop {l : Nat} {w : LawS} {M : MS} (h : RLaw l w M) {n : Nat} (hn : n ≤ 24) (hk : ∀ j, j ≤ n → kp 100000000 (T M l n j)) : ∀ (d k f : Nat) (s : Int), k + d = n + 1 → d < f → sI 3 (T M l n) k = some s → ∃ s', sI 3 (T M l n) (n + 1) = some s' ∧ f_X2_squareSum_20 f (nI n) (E s) (nI k) w = some (E s') := by
  intro d
  induction d with
  | zero =>
    intro k f s h1 hf hs
    obtain ⟨f, rfl⟩ : ∃ q, f = q + 1 := ⟨f - 1, by omega⟩
    obtain rfl : k = n + 1 := by omega
    exact ⟨s, hs, by rw [f_X2_squareSum_20, if_pos (nI_lt (by omega) (by omega))]⟩
  | succ d ih =>
    intro k f s h1 hf hs
    obtain ⟨f, rfl⟩ : ∃ q, f = q + 1 := ⟨f - 1, by omega⟩
    obtain ⟨v, hv, hv8⟩ := kp_ok (hk k (by omega))
    have st := sI_step hs hv (show 3 = 3 → b8 v from fun _ => hv8)
    obtain ⟨s', g1, g2⟩ := ih (k + 1) f _ (by omega) (by omega) st
    refine ⟨s', g1, ?_⟩
    have nt : f_X2_numberAt (nI n) (nI k) w = some (E v) := by rw [num_T h hn (by omega), hv]; rfl
    rw [f_X2_squareSum_20, if_neg (nI_nlt (by omega) (by omega)), nt, jbd_s, jbd_s, nI_1, E_mul, E_add]
    unfold tm at g2
    rw [if_neg (by omega), if_pos rfl] at g2
    exact g2
theorem squareSum_eq {l : Nat} {w : LawS} {M : MS} (h : RLaw l w M) {n : Nat} (hn : n ≤ 24) : f_X2_squareSum (nI n) w = some (tEnc (sI 3 (T M l n) (n + 1))) := by
  unfold f_X2_squareSum f_X2_rowKeepsTo
  obtain ⟨r, r1, r2, r3⟩ := keeps_loop h hn (m := 100000000) (mi := 100000000) (by decide) (Or.inl rfl) (n + 1) 0 1000000 (by omega) (by omega)
  rw [show f_X2_rowKeepsTo_3 jFU (nI n) 100000000 (0 : Int32) w = some r from r1, jbd_s]
  by_cases c : r = 1
  · subst c
    rw [if_neg one_ne]
    obtain ⟨s', g1, g2⟩ := square_loop h hn (fun j hj => r3.mp rfl j (by omega) hj) (n + 1) 0 1000000 0 (by omega) (by omega) rfl
    rw [g1]; exact g2
  · have r0 : r = 0 := by rcases r2 with e | e; · exact e
                          · exact absurd e c
    rw [if_pos r0]
    have : sI 3 (T M l n) (n + 1) = none := by
      apply Classical.byContradiction
      intro hne
      apply c
      refine r3.mpr (fun j _ hj => ?_)
      apply Classical.byContradiction
      intro hb
      apply hne
      have := sI_none (sI_bad (wh := 3) (z := T M l n) (k := j) (fun v hv => ⟨rfl, fun hv8 => hb (by rw [hv]; exact hv8)⟩)) (n - j)
      rw [show j + 1 + (n - j) = n + 1 by omega] at this
      exact this
    rw [this, tEnc_none]
theorem slant_loop {l : Nat} {w : LawS} {M : MS} (h : RLaw l w M) {n : Nat} (hn : n ≤ 24) : ∀ (d k f : Nat) (s : Int), k + d = n / 2 + 1 → d < f → sI 2 (sZ M l 2 n) k = some s → f_X2_slantSum_5 f (nI n) (E s) (nI k) w = some (tEnc (sI 2 (sZ M l 2 n) (n / 2 + 1))) := by
  intro d
  induction d with
  | zero =>
    intro k f s h1 hf hs
    obtain ⟨f, rfl⟩ : ∃ q, f = q + 1 := ⟨f - 1, by omega⟩
    obtain rfl : k = n / 2 + 1 := by omega
    rw [hs, f_X2_slantSum_5]
    by_cases c : n / 2 + 1 ≤ n
    · rw [pk_sub c, if_pos (nI_lt (by omega) (by omega))]; rfl
    · rw [if_pos]; · rfl
      · obtain rfl | rfl : n = 0 ∨ n = 1 := by omega
        · decide
        · decide
  | succ d ih =>
    intro k f s h1 hf hs
    obtain ⟨f, rfl⟩ : ∃ q, f = q + 1 := ⟨f - 1, by omega⟩
    rw [f_X2_slantSum_5, pk_sub (by omega), if_neg (nI_nlt (by omega) (by omega)), num_T h (by omega) (by omega), jbd_s, nI_1]
    have e0 : sZ M l 2 n k = T M l (n - k) k := if_pos rfl
    rcases e : T M l (n - k) k with _ | v
    · rw [if_pos ((lg_eq0 _ _).mpr tEnc_none)]
      have := sI_none (sI_bad (wh := 2) (z := sZ M l 2 n) (k := k) (fun v hv => by rw [e0, e] at hv; cases hv)) (n / 2 - k)
      rw [show k + 1 + (n / 2 - k) = n / 2 + 1 by omega] at this
      rw [this, tEnc_none]
    · have hv := okT h _ _ v e
      rw [tEnc_some, if_neg (fun c => E_min hv ((lg_eq0 _ _).mp c)), E_add]
      have st := sI_step hs (e0.trans e) (show 2 = 3 → b8 v by omega)
      have := ih (k + 1) f _ (by omega) (by omega) st
      unfold tm at this
      rw [if_neg (by omega), if_neg (by omega)] at this
      exact this
theorem slantSum_eq {l : Nat} {w : LawS} {M : MS} (h : RLaw l w M) {n : Nat} (hn : n ≤ 24) : f_X2_slantSum (nI n) w = some (tEnc (sI 2 (sZ M l 2 n) (n / 2 + 1))) := slant_loop h hn (n / 2 + 1) 0 1000000 0 (by omega) (by omega) rfl
theorem rngA {x M : Int32} {m : Nat} (hM : M.toInt = m) : (∃ j : Nat, j ≤ m ∧ x = nI j) ∨ ¬ (0 ≤ x ∧ x ≤ M) := rng hM
theorem okZ {l : Nat} {w : LawS} {M : MS} (h : RLaw l w M) (wh n k : Nat) : okO (sZ M l wh n k) := by
  unfold sZ; split
  · exact okT h _ _
  · exact okT h _ _
theorem op_sum (a0 : Int32) (a1 : Int32) (a2 : Int32) : oRW (f_X11_sum a0 a1 a2) (f_X12_sum a0 a1 a2) := by
  intro X M hR
  unfold f_X11_sum f_X12_sum
  rw [isLawX, isLawM, jbd_s, jbd_s]
  rcases rng (x := a0) (M := 3) (m := 3) (by decide) with ⟨l, hl, rfl⟩ | hbad
  · have hl4 : l < 4 := by omega
    rw [b01_in (m := 3) (M := 3) rfl hl (by decide), if_neg one_ne, if_neg one_ne, within_eq, inI a1 24 24 (by decide), jbd_s, jbd_s]
    rcases rng (x := a1) (M := 24) (m := 24) (by decide) with ⟨n, hn, rfl⟩ | hbad
    · rw [b01_in (m := 24) (M := 24) rfl hn (by decide), if_neg one_ne, if_neg one_ne, within_eq, inI a2 3 3 (by decide), jbd_s, jbd_s]
      rcases rng (x := a2) (M := 3) (m := 3) (by decide) with ⟨wh, hw, rfl⟩ | hbad
      · rw [b01_in (m := 3) (M := 3) rfl hw (by decide), if_neg one_ne, if_neg one_ne]
        obtain ⟨M', r1, r2, _, r4⟩ := findRows_eq M (s := 0) (l := l) (N := n) (by omega) hl4 hn (hR.lawB hl4)
        have hcc := rowsCore r4
        have hR' := hR.core hcc
        have eT : ∀ n k, T M' l n k = T M l n k := by obtain ⟨g, c, rfl⟩ := r4; intro n k; rfl
        have eM := sumM_loop M' hn hw (sZ M l wh n) (fun k => okZ (hR.law hl4) wh n k) (fun k hk => by
          unfold sK at hk
          have := r2 (if wh = 2 then n - k else n) k (by split <;> omega) (by
            by_cases c : wh = 2
            · rw [if_pos c] at hk ⊢; omega
            · rw [if_neg c] at hk ⊢; omega)
          rw [Nat.mul_zero, Nat.zero_add] at this
          unfold sZ
          by_cases c : wh = 2
          · rw [if_pos c] at this ⊢; rw [if_pos c]; exact this
          · rw [if_neg c] at this ⊢; rw [if_neg c]; exact this) (sK wh n) 0 1000000 1 0 (by omega) (by unfold sK; split <;> omega) ⟨rfl, rfl⟩
        rw [show (0 : Int32) = nI 0 from rfl, r1, jbd_s]
        refine ⟨_, M', ?_, eM, hR'⟩
        have sm0' : ∀ q, q < 4 → ∀ v, sI wh (sZ M q wh n) (sK wh n) = some v → sm v := fun q hq v hv => sI_sm (fun k => okZ (hR.law hq) wh n k) (by unfold sK; split <;> omega) hv
        have step : ∀ (F : LawS → Option Int64), (∀ q, q < 4 → F (xLaw X q) = some (tEnc (sI wh (sZ M q wh n) (sK wh n)))) → jgd (nI l) 4 (if nI l = 0 then jbd (F (X_law0 X)) (fun r => jbd (f_X11_answer r) (fun r2 => some r2)) else if nI l = 1 then jbd (F (X_law1 X)) (fun r => jbd (f_X11_answer r) (fun r2 => some r2)) else if nI l = 2 then jbd (F (X_law2 X)) (fun r => jbd (f_X11_answer r) (fun r2 => some r2)) else jbd (F (X_law3 X)) (fun r => jbd (f_X11_answer r) (fun r2 => some r2))) = some (ans (sI wh (sZ M l wh n) (sK wh n))) := by
          intro F hF
          rw [jgd_n _ hl4 (by decide), ← sel4 l hl4 (fun q => some (ans (sI wh (sZ M q wh n) (sK wh n))))]
          have e : ∀ q, q < 4 → jbd (F (xLaw X q)) (fun r => jbd (f_X11_answer r) (fun r2 => some r2)) = some (ans (sI wh (sZ M q wh n) (sK wh n))) := fun q hq => by
            rw [hF q hq, jbd_s, answer_eq (sm0' q hq), jbd_s]
          rw [← e 0 (by omega), ← e 1 (by omega), ← e 2 (by omega), ← e 3 (by omega)]; rfl
        rcases (show wh = 0 ∨ wh = 1 ∨ wh = 2 ∨ wh = 3 by omega) with rfl | rfl | rfl | rfl
        · rw [if_pos rfl]
          exact step (f_X2_rowSum (nI n) (nI 0)) (fun q hq => rowSum_eq (hR.law hq) hn (by omega))
        · rw [if_neg (by decide), if_pos (show nI 1 = 1 from rfl)]
          exact step (f_X2_rowSum (nI n) (nI 1)) (fun q hq => rowSum_eq (hR.law hq) hn (by omega))
        · rw [if_neg (by decide), if_neg (by decide), if_pos (show nI 2 = 2 from rfl)]
          exact step (f_X2_slantSum (nI n)) (fun q hq => slantSum_eq (hR.law hq) hn)
        · rw [if_neg (by decide), if_neg (by decide), if_neg (by decide)]
          exact step (f_X2_squareSum (nI n)) (fun q hq => squareSum_eq (hR.law hq) hn)
      · rw [b01_f hbad, if_pos rfl, if_pos rfl]; exact ⟨_, M, rfl, rfl, hR⟩
    · rw [b01_f hbad, if_pos rfl, if_pos rfl]; exact ⟨_, M, rfl, rfl, hR⟩
  · rw [b01_f hbad, if_pos rfl, if_pos rfl]
    exact ⟨_, M, rfl, rfl, hR⟩
