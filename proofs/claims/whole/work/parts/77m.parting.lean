/-! parting, partRank -/
theorem rgs_pre : ∀ l j m x y, y ∈ rgs l j m x → ∀ i, i < j → y i = x i
  | 0, j, m, x, y, h, i, hi => by
    have : y = x := List.mem_singleton.mp h
    rw [this]
  | l + 1, j, m, x, y, h, i, hi => by
    obtain ⟨d, _, _, h3⟩ := mem_sibs.mp (show y ∈ sibs _ 0 (m + 1) from h)
    rw [rgs_pre l (j + 1) _ _ y h3 i (by omega), un_n (by omega)]
theorem val_upd {x : Nat → Nat} {j d : Nat} (h : val x j) (hd : d ≤ pt x j) : val (updN x j d) (j + 1) := by
  intro k hk
  rw [pt_congr (y := x) (fun i hi => un_n (by omega))]
  by_cases e : k = j
  · subst e; rw [un_s]; exact hd
  · rw [un_n e]; exact h k (by omega)
theorem rgs_val : ∀ l j m x y, y ∈ rgs l j m x → val x j → pt x j = m → val y (j + l)
  | 0, j, m, x, y, h, hv, _ => by
    have : y = x := List.mem_singleton.mp h
    rw [this]; exact hv
  | l + 1, j, m, x, y, h, hv, hm => by
    obtain ⟨d, _, h2, h3⟩ := mem_sibs.mp (show y ∈ sibs _ 0 (m + 1) from h)
    have := rgs_val l (j + 1) _ _ y h3 (val_upd hv (by omega)) (by rw [pt_upd, hm])
    rwa [show j + 1 + l = j + (l + 1) by omega] at this
theorem val_16 {x : Nat → Nat} {n : Nat} (hn : n ≤ 8) (h : val x n) {k : Nat} (hk : k < n) : x k < 16 := by
  have h1 := h k hk
  have h2 := pt_le h k (by omega)
  omega
/-- the last one has no next -/
def FP (M : MS) (n : Nat) (x : Nat → Nat) : Prop := ∀ g, rep n g x → f_X12_turnParting (nI n) (M_digit_s M g) = some (0, M_digit_s M g)
theorem pack_rep {n : Nat} (hn : n ≤ 8) {g : Nat → Int32} {x : Nat → Nat} (hg : rep n g x) : pkI g n = nI (pkN x n) := pkI_nI hn hg
theorem part50 (M : MS) {n k : Nat} (h1 : 1 ≤ n) (hn : n ≤ 8) (hk : k ≤ 8) (i : Int32) : ∀ (L : List (Nat → Nat)) (x : Nat → Nat) (f c : Nat) (g : Nat → Int32), chn (RP M n) (x :: L) → (∀ z, (x :: L).getLast? = some z → FP M n z) → (∀ y, y ∈ x :: L → val y n) → L.length + 1 < f → rep n g x → ∃ g', f_X12_parting_50 f (nI n) (nI k) i (nI c) 1 (M_digit_s M g) = some (scanR (fun y => decide (pt y n = k)) (fun y => nI (pkN y n)) i (x :: L) c, M_digit_s M g') := by
  intro L
  induction L with
  | nil =>
    intro x f c g hc hl hv hf hg
    obtain ⟨f, rfl⟩ : ∃ x, f = x + 1 + 1 := ⟨f - 2, by have : 0 + 1 < f := hf; omega⟩
    have hvx := hv x List.mem_cons_self
    obtain ⟨r, r1, r2⟩ := partsM M h1 hn hg
    have hr : r = pt x n := by
      rcases r2 with ⟨_, e⟩ | ⟨e, _⟩
      · exact e
      · exact absurd hvx e
    subst hr
    have hpl := pt_le hvx n (Nat.le_refl _)
    have e1 : nI (pt x n) = nI k ↔ pt x n = k := nI_eq (by omega) (by omega)
    have fin : ∀ c : Nat, f_X12_parting_79 (f_X12_parting_50 (f + 1)) (nI n) (nI k) i (nI c) (M_digit_s M g) = some (if i = -1 then nI c else -4, M_digit_s M g) := by
      intro c
      unfold f_X12_parting_79
      rw [hl x rfl g hg, jbd_s]
      show f_X12_parting_50 (f + 1) (nI n) (nI k) i (nI c) 0 (M_digit_s M g) = _
      rw [f_X12_parting_50, if_pos rfl]
      unfold f_X12_parting_89
      split <;> rfl
    refine ⟨g, ?_⟩
    rw [f_X12_parting_50, if_neg one_ne, r1, jbd_s]
    show _ = some (if decide (pt x n = k) = true then (if nI c = i then nI (pkN x n) else if i = -1 then nI (c + 1) else -4) else if i = -1 then nI c else -4, M_digit_s M g)
    by_cases e : pt x n = k
    · rw [if_pos (e1.mpr e), if_pos (decide_eq_true e)]
      by_cases ec : nI c = i
      · rw [if_pos ec, if_pos ec]
        unfold f_X12_parting_70
        rw [packM _ hn, jbd_s, dig_get, pack_rep hn hg]
      · rw [if_neg ec, if_neg ec, nI_1]; exact fin (c + 1)
    · rw [if_neg (fun q => e (e1.mp q)), if_neg (by rw [decide_eq_true_eq]; exact e)]; exact fin c
  | cons y L ih =>
    intro x f c g hc hl hv hf hg
    obtain ⟨f, rfl⟩ : ∃ x, f = x + 1 := ⟨f - 1, by have : L.length + 1 + 1 < f := hf; omega⟩
    have hvx := hv x List.mem_cons_self
    obtain ⟨r, r1, r2⟩ := partsM M h1 hn hg
    have hr : r = pt x n := by
      rcases r2 with ⟨_, e⟩ | ⟨e, _⟩
      · exact e
      · exact absurd hvx e
    subst hr
    have hpl := pt_le hvx n (Nat.le_refl _)
    have e1 : nI (pt x n) = nI k ↔ pt x n = k := nI_eq (by omega) (by omega)
    obtain ⟨g1, t1, t2⟩ := hc.1 y rfl g hg
    have fin : ∀ c : Nat, ∃ g', f_X12_parting_79 (f_X12_parting_50 f) (nI n) (nI k) i (nI c) (M_digit_s M g) = some (scanR (fun y => decide (pt y n = k)) (fun y => nI (pkN y n)) i (y :: L) c, M_digit_s M g') := by
      intro c
      obtain ⟨g', e⟩ := ih y f c g1 hc.2 (fun z hz => hl z (by rw [List.getLast?_cons_cons]; exact hz)) (fun z hz => hv z (List.mem_cons_of_mem _ hz)) (by have : L.length + 1 + 1 < f + 1 := hf; omega) t2
      refine ⟨g', ?_⟩
      unfold f_X12_parting_79
      rw [t1, jbd_s]
      exact e
    rw [f_X12_parting_50, if_neg one_ne, r1, jbd_s]
    show ∃ g', _ = some (if decide (pt x n = k) = true then (if nI c = i then nI (pkN x n) else scanR _ _ i (y :: L) (c + 1)) else scanR _ _ i (y :: L) c, M_digit_s M g')
    by_cases e : pt x n = k
    · rw [if_pos (e1.mpr e), if_pos (decide_eq_true e)]
      by_cases ec : nI c = i
      · rw [if_pos ec, if_pos ec]
        unfold f_X12_parting_70
        rw [packM _ hn, jbd_s, dig_get, pack_rep hn hg]
        exact ⟨g, rfl⟩
      · rw [if_neg ec, if_neg ec, nI_1]; exact fin (c + 1)
    · rw [if_neg (fun q => e (e1.mp q)), if_neg (by rw [decide_eq_true_eq]; exact e)]; exact fin c
/-! the whole list -/
def o0 : Nat → Nat := fun _ => 0
theorem top_eq {n : Nat} : rgs (n + 1) 0 0 o0 = rgs n 1 1 (updN o0 0 0) := by
  show rgs n 1 (max 0 (0 + 1)) (updN o0 0 0) ++ [] = _
  rw [List.append_nil]; rfl
theorem top_chn (M : MS) {n : Nat} (hn : n + 1 ≤ 8) : chn (RP M (n + 1)) (rgs (n + 1) 0 0 o0) := by
  rw [top_eq]
  exact rgs_chn M hn n 1 1 _ (by omega) (by omega) rfl (by omega)
theorem top_last (M : MS) {n : Nat} (hn : n + 1 ≤ 8) {z : Nat → Nat} (h : (rgs (n + 1) 0 0 o0).getLast? = some z) : FP M (n + 1) z := by
  rw [top_eq, rgs_last] at h
  cases h
  intro g hg
  have hz : ∀ k, k < n + 1 → ls n 1 1 (updN o0 0 0) k = k := fun k hk => by
    rw [ls_at]
    by_cases e : k = 0
    · subst e; rw [if_neg (by omega), un_s]
    · rw [if_pos (by omega)]; omega
  have hm : ∀ q, q ≤ n → pt (ls n 1 1 (updN o0 0 0)) q = q := by
    intro q
    induction q with
    | zero => intro _; rfl
    | succ q ih =>
      intro hq
      show max (pt _ q) (ls n 1 1 (updN o0 0 0) q + 1) = q + 1
      rw [ih (by omega), hz q (by omega)]; omega
  refine turn_false M (by omega) hn hg (fun i h1 h2 => ?_)
  obtain ⟨q, rfl⟩ : ∃ q, i = q + 1 := ⟨i - 1, by omega⟩
  have := mx_pt (ls n 1 1 (updN o0 0 0)) q
  rw [hm (q + 1) (by omega)] at this
  rw [hz (q + 1) h2]; omega
theorem top_val {n : Nat} {y : Nat → Nat} (h : y ∈ rgs n 0 0 o0) : val y n := by
  have := rgs_val n 0 0 o0 y h (fun k hk => by omega) rfl
  rwa [Nat.zero_add] at this
theorem top_split (n : Nat) : ∃ L, rgs (n + 1) 0 0 o0 = zs (n + 1) 0 o0 :: L := by
  have h := rgs_head (n + 1) 0 0 o0
  cases e : rgs (n + 1) 0 0 o0 with
  | nil => rw [e] at h; cases h
  | cons a L =>
    rw [e] at h
    cases h
    exact ⟨L, rfl⟩
theorem part24 (M : MS) {n : Nat} (hn : n ≤ 8) (k i : Int32) : ∀ (d q f : Nat) (g : Nat → Int32), q + d = n → d < f → (∀ j, j < q → g j = 0) → ∃ g', f_X12_parting_24 f (nI n) k i (nI q) (M_digit_s M g) = f_X12_parting_44 (nI n) k i (M_digit_s M g') ∧ ∀ j, j < n → g' j = 0 := by
  intro d
  induction d with
  | zero =>
    intro q f g h1 hf hg
    obtain ⟨f, rfl⟩ : ∃ x, f = x + 1 := ⟨f - 1, by omega⟩
    obtain rfl : q = n := by omega
    exact ⟨g, by rw [f_X12_parting_24, if_pos (nI_le (by omega) (by omega))], hg⟩
  | succ d ih =>
    intro q f g h1 hf hg
    obtain ⟨f, rfl⟩ : ∃ x, f = x + 1 := ⟨f - 1, by omega⟩
    obtain ⟨g', e1, e2⟩ := ih (q + 1) f (upd g q 0) (by omega) (by omega) (fun j hj => by
      by_cases h : j = q
      · subst h; exact pk_us
      · rw [pk_un h]; exact hg j (by omega))
    refine ⟨g', ?_, e2⟩
    rw [f_X12_parting_24, if_neg (nI_ge (by omega) (by omega)), jgd_n _ (by omega) (by decide), nI_clamp (by omega), dig_get, dig_dig, nI_1]
    exact e1
theorem dig_self (M : MS) : M_digit_s M (M_digit M) = M := rfl
theorem zrep {n : Nat} {g : Nat → Int32} (hg : ∀ j, j < n → g j = 0) : rep n g (zs n 0 o0) := fun k hk => by
  rw [hg k hk, zs_at, if_pos (by omega)]; exact ⟨rfl, by decide⟩
theorem len_top {n : Nat} (hn : n ≤ 8) : (rgs n 0 0 o0).length ≤ 4140 := by rw [rgs_len]; exact lenN_le n hn
theorem Rel.part {X : XS} {M : MS} (h : Rel X M) (f : Nat → Int32) : Rel (X_partings_s X f) M := h
theorem m1_or {i : Int32} (h : (-1 : Int32) ≤ i) : i = -1 ∨ ∃ j : Nat, j < 2 ^ 31 ∧ i = nI j := by
  by_cases e : i < 0
  · left
    have e1 : (-1 : Int32).toInt = -1 := by decide
    have e0 : (0 : Int32).toInt = 0 := by decide
    rw [Int32.le_iff_toInt_le, e1] at h
    rw [Int32.lt_iff_toInt_lt, e0] at e
    rw [← Int32.toInt_inj, e1]; omega
  · exact Or.inr (nI_of e)
theorem op_parting (a0 : Int32) (a1 : Int32) (a2 : Int32) : oWW (f_X11_parting a0 a1 a2) (f_X12_parting a0 a1 a2) := by
  intro X M hR
  unfold f_X11_parting f_X12_parting
  rw [within_eq, isSizeM, jbd_s, jbd_s]
  rcases rng8 a0 with ⟨n, h1, hn, rfl⟩ | hbad
  · rw [b01_t (in18 h1 hn), if_neg one_ne, if_neg one_ne, within_eq, isSizeM, jbd_s, jbd_s]
    rcases rng8 a1 with ⟨k, k1, hk, rfl⟩ | hbad
    · rw [b01_t (in18 k1 hk), if_neg one_ne, if_neg one_ne]
      by_cases hi : (-1 : Int32) ≤ a2
      · rw [if_pos hi, if_pos hi]
        obtain ⟨t, w1, w2⟩ := want_eq hk (X_partings X)
        obtain ⟨g, p1, p2⟩ := part24 M hn (nI k) a2 n 0 1000000 (M_digit M) (by omega) (by omega) (fun j hj => by omega)
        rw [dig_self] at p1
        obtain ⟨n, rfl⟩ : ∃ q, n = q + 1 := ⟨n - 1, by omega⟩
        obtain ⟨L, hL⟩ := top_split n
        have hlen := len_top hn
        have hch := top_chn M hn
        rw [hL] at hlen hch
        have hlen' : L.length + 1 ≤ 4140 := hlen
        obtain ⟨g', s1⟩ := part50 M h1 hn hk a2 L _ 1000000 0 g hch (fun z hz => top_last M hn (by rw [hL]; exact hz)) (fun y hy => top_val (by rw [hL]; exact hy)) (by omega) (zrep p2)
        have hcnt : cntP (fun y => decide (pt y (n + 1) = k)) (rgs (n + 1) 0 0 o0) = Wk k (n + 1) 0 := rgs_cnt (n + 1) 0 0 o0 (by omega) rfl
        have hwb := Wk_b k hk (n + 1) hn 0 (by omega)
        rw [← hL] at s1
        have hM : f_X12_parting_24 jFU (nI (n + 1)) (nI k) a2 0 M = some (scanR (fun y => decide (pt y (n + 1) = k)) (fun y => nI (pkN y (n + 1))) a2 (rgs (n + 1) 0 0 o0) 0, M_digit_s M g') := (show _ = _ from p1).trans s1
        rw [hM, w1, jbd_s]
        have hway : f_X7_howMany (nI (n + 1)) (X_partings (X_partings_s X t)) = some (nI (Wk k (n + 1) 0)) := by
          unfold f_X7_howMany
          rw [show X_partings (X_partings_s X t) = t from rfl, show (0 : Int32) = nI 0 from rfl, ways_tab hk w2 hn (by omega) (by omega), jbd_s]
        rw [hway, jbd_s]
        rw [← hL] at hlen
        rcases m1_or hi with rfl | ⟨j, hj, rfl⟩
        · rw [if_pos rfl, scan_m1 _ _ _ _ (by omega), hcnt, Nat.zero_add]
          exact ⟨_, _, _, rfl, rfl, (hR.core (dig_core M g')).part t⟩
        · rw [if_neg (nI_m1 hj), scan_i _ _ hj _ _ (by omega) (Nat.zero_le _), Nat.sub_zero]
          by_cases hw : j < Wk k (n + 1) 0
          · rw [if_neg (nI_ge hw (by omega))]
            obtain ⟨y, y1, y2⟩ := ithX hn hk w2 (n + 1) 0 0 j 1000000 o0 (nI (n + 1) + (-1)) (by omega) (by omega) rfl (fun q hq => by omega) (by omega) hw rfl
            rw [y1]
            have hX : f_X7_ith (nI (n + 1)) (nI j) (X_partings (X_partings_s X t)) = some (nI (pkN y (n + 1))) := by
              unfold f_X7_ith
              rw [show X_partings (X_partings_s X t) = t from rfl, nI_pred, show jFU = 1000000 from rfl]
              rw [pk_m1] at y2
              exact y2
            rw [hX, jbd_s]
            exact ⟨_, _, _, rfl, rfl, (hR.core (dig_core M g')).part t⟩
          · rw [if_pos (nI_le (by omega) hj), nth_none _ _ _ (by rw [hcnt]; omega)]
            exact ⟨_, _, _, rfl, rfl, (hR.core (dig_core M g')).part t⟩
      · rw [if_neg hi, if_neg hi]
        exact ⟨_, X, M, rfl, rfl, hR⟩
    · rw [b01_f hbad, if_pos rfl, if_pos rfl]
      exact ⟨_, X, M, rfl, rfl, hR⟩
  · rw [b01_f hbad, if_pos rfl, if_pos rfl]
    exact ⟨_, X, M, rfl, rfl, hR⟩
