/-! ranks of partings -/
theorem pkN_inj {x y : Nat → Nat} : ∀ {n : Nat}, (∀ k, k < n → x k < 16 ∧ y k < 16) → pkN x n = pkN y n → ∀ k, k < n → x k = y k
  | 0, _, _, k, hk => by omega
  | n + 1, h, e, k, hk => by
    have e' : pkN x n * 16 + x n = pkN y n * 16 + y n := e
    obtain ⟨h1, h2⟩ := h n (by omega)
    by_cases ek : k = n
    · subst ek; omega
    · exact pkN_inj (n := n) (fun k hk => h k (by omega)) (by omega) k (by omega)
theorem pkN_congr {x y : Nat → Nat} : ∀ {n : Nat}, (∀ k, k < n → x k = y k) → pkN x n = pkN y n
  | 0, _ => rfl
  | n + 1, h => by
    show pkN x n * 16 + x n = pkN y n * 16 + y n
    rw [pkN_congr (fun k hk => h k (by omega)), h n (by omega)]
theorem val_congr {x y : Nat → Nat} {n : Nat} (h : ∀ k, k < n → x k = y k) (hv : val y n) : val x n := by
  intro k hk
  rw [h k hk, pt_congr (fun i hi => h i (by omega))]
  exact hv k hk
theorem rgs_mem {n : Nat} {d : Nat → Nat} (hd : val d n) : ∀ l j m x, j + l = n → (∀ i, i < j → x i = d i) → m = pt d j → ∃ y, y ∈ rgs l j m x ∧ ∀ i, i < n → y i = d i
  | 0, j, m, x, h1, h2, _ => ⟨x, List.mem_singleton.mpr rfl, fun i hi => h2 i (by omega)⟩
  | l + 1, j, m, x, h1, h2, h3 => by
    have hj := hd j (by omega)
    obtain ⟨y, y1, y2⟩ := rgs_mem hd l (j + 1) (max m (d j + 1)) (updN x j (d j)) (by omega) (fun i hi => by
      by_cases e : i = j
      · subst e; exact un_s
      · rw [un_n e]; exact h2 i (by omega)) (by rw [h3]; rfl)
    refine ⟨y, ?_, y2⟩
    show y ∈ sibs _ 0 (m + 1)
    exact mem_sibs.mpr ⟨d j, by omega, by omega, y1⟩
def qdB (d : Nat → Nat) (n : Nat) (y : Nat → Nat) : Bool := decide (pkN y n = pkN d n)
theorem rankX {n k : Nat} (hn : n ≤ 8) (hk : k ≤ 8) {g : Nat → Int32} (hg : tabP k g 81) (row : Int32) (hd : val (dg row n) n) : ∀ (l j m f a : Nat) (x : Nat → Nat), j + l = n → (∀ i, i < j → x i = dg row n i) → m = pt (dg row n) j → l < f → f_X7_rankOf_8 f (nI n) row (nI a) (nI m) (nI j) g = some (nI (a + bef (fun y => decide (pt y n = k)) (qdB (dg row n) n) (rgs l j m x))) := by
  intro l
  induction l with
  | zero =>
    intro j m f a x h1 h2 h3 hf
    obtain ⟨f, rfl⟩ : ∃ x, f = x + 1 := ⟨f - 1, by omega⟩
    obtain rfl : j = n := by omega
    rw [f_X7_rankOf_8, if_pos (nI_le (by omega) (by omega))]
    show _ = some (nI (a + (if qdB (dg row j) j x = true then 0 else _)))
    rw [if_pos (show qdB (dg row j) j x = true from decide_eq_true (pkN_congr h2))]; rfl
  | succ l ih =>
    intro j m f a x h1 h2 h3 hf
    obtain ⟨f, rfl⟩ : ∃ x, f = x + 1 := ⟨f - 1, by omega⟩
    have hj := hd j (by omega)
    have hpl := pt_le hd j (by omega)
    have hx : val x j := val_congr h2 (fun i hi => hd i (by omega))
    have hpx : pt x j = m := by rw [h3]; exact pt_congr h2
    have hb : bef (fun y => decide (pt y n = k)) (qdB (dg row n) n) (rgs (l + 1) j m x) = dg row n j * Wk k l m + bef (fun y => decide (pt y n = k)) (qdB (dg row n) n) (rgs l (j + 1) (max m (dg row n j + 1)) (updN x j (dg row n j))) := by
      have c1 : ∀ e, 0 ≤ e → e < dg row n j → cntP (fun y => decide (pt y n = k)) (rgs l (j + 1) (max m (e + 1)) (updN x j e)) = Wk k l m ∧ ∀ y, y ∈ rgs l (j + 1) (max m (e + 1)) (updN x j e) → qdB (dg row n) n y = false := by
        intro e _ he
        refine ⟨?_, fun y hy => ?_⟩
        · rw [rgs_cnt l (j + 1) (max m (e + 1)) _ (by omega) (by rw [pt_upd, hpx]), show max m (e + 1) = m by omega]
        · refine decide_eq_false (fun hq => ?_)
          have hvy := rgs_val l (j + 1) _ _ y hy (val_upd hx (by omega)) (by rw [pt_upd, hpx])
          rw [show j + 1 + l = n by omega] at hvy
          have e1 := pkN_inj (fun q hq => ⟨val_16 hn hvy hq, dg_lt row n q⟩) hq j (by omega)
          rw [rgs_pre l (j + 1) _ _ y hy j (by omega), un_s] at e1
          omega
      have c2 : ∃ y, y ∈ rgs l (j + 1) (max m (dg row n j + 1)) (updN x j (dg row n j)) ∧ qdB (dg row n) n y = true := by
        obtain ⟨y, y1, y2⟩ := rgs_mem hd l (j + 1) (max m (dg row n j + 1)) (updN x j (dg row n j)) (by omega) (fun i hi => by
          by_cases e : i = j
          · subst e; exact un_s
          · rw [un_n e]; exact h2 i (by omega)) (by rw [h3]; rfl)
        exact ⟨y, y1, decide_eq_true (pkN_congr y2)⟩
      exact sibs_bef (F := fun d => rgs l (j + 1) (max m (d + 1)) (updN x j d)) (b := Wk k l m) (c := m + 1) (s := 0) (dg row n j) (Nat.zero_le _) (by omega) c1 c2
    rw [f_X7_rankOf_8, if_neg (nI_ge (by omega) (by omega)), digX row hn (by omega), jbd_s]
    have e3 : (nI n - (1 : Int32)) - nI j = nI l := by
      obtain ⟨q, rfl⟩ : ∃ q, n = q + 1 := ⟨n - 1, by omega⟩
      rw [nI_pred, pk_sub (by omega), show q - j = l by omega]
    rw [e3, ways_tab hk hg (by omega) (by omega) (by omega), jbd_s, nI_1, max32 (by omega) (by omega), jbd_s, pk_mul, nI_add, nI_1, hb, ← Nat.add_assoc]
    exact ih (j + 1) (max m (dg row n j + 1)) f _ (updN x j (dg row n j)) (by omega) (fun i hi => by
      by_cases e : i = j
      · subst e; exact un_s
      · rw [un_n e]; exact h2 i (by omega)) (by rw [h3]; rfl) (by omega)
theorem rank58 (M : MS) {n k : Nat} (h1 : 1 ≤ n) (hn : n ≤ 8) (hk : k ≤ 8) (row : Int32) (hu : UN row < 16 ^ n) : ∀ (L : List (Nat → Nat)) (x : Nat → Nat) (f c : Nat) (g : Nat → Int32), chn (RP M n) (x :: L) → (∀ y, y ∈ x :: L → val y n) → (∃ y, y ∈ x :: L ∧ qdB (dg row n) n y = true) → L.length + 1 < f → rep n g x → ∃ g', f_X12_partRank_58 f (nI n) row (nI k) (nI c) (M_digit_s M g) = some (nI (c + bef (fun y => decide (pt y n = k)) (qdB (dg row n) n) (x :: L)), M_digit_s M g') := by
  have hrow : nI (pkN (dg row n) n) = row := by rw [pkN_all, Nat.mod_eq_of_lt hu, nI_UN]
  intro L
  induction L with
  | nil =>
    intro x f c g hc hv hq hf hg
    obtain ⟨f, rfl⟩ : ∃ x, f = x + 1 := ⟨f - 1, by have : 0 + 1 < f := hf; omega⟩
    obtain ⟨y, y1, y2⟩ := hq
    obtain rfl : y = x := List.mem_singleton.mp y1
    refine ⟨g, ?_⟩
    rw [f_X12_partRank_58, packM _ hn, jbd_s, dig_get, pack_rep hn hg, if_pos (by rw [of_decide_eq_true y2]; exact hrow)]
    show _ = some (nI (c + (if qdB (dg row n) n y = true then 0 else _)), M_digit_s M g)
    rw [if_pos y2]; rfl
  | cons z L ih =>
    intro x f c g hc hv hq hf hg
    obtain ⟨f, rfl⟩ : ∃ x, f = x + 1 := ⟨f - 1, by have : L.length + 1 + 1 < f := hf; omega⟩
    have hvx := hv x List.mem_cons_self
    rw [f_X12_partRank_58, packM _ hn, jbd_s, dig_get, pack_rep hn hg]
    show ∃ g', _ = some (nI (c + (if qdB (dg row n) n x = true then 0 else (if decide (pt x n = k) = true then 1 else 0) + bef _ _ (z :: L))), M_digit_s M g')
    by_cases hx : qdB (dg row n) n x = true
    · rw [if_pos (by rw [of_decide_eq_true hx]; exact hrow), if_pos hx]
      exact ⟨g, rfl⟩
    · have hne : ¬ nI (pkN x n) = row := by
        intro e
        rw [← hrow] at e
        have a1 := pkN_lt (d := x) (n := n) (fun q hq => (hg q hq).2)
        have a2 := pkN_lt (d := dg row n) (n := n) (fun q _ => dg_lt row n q)
        have a3 := p16_le hn
        exact hx (decide_eq_true ((nI_inj32 (by omega) (by omega)).mp e))
      rw [if_neg hne, if_neg hx]
      obtain ⟨r, r1, r2⟩ := partsM M h1 hn hg
      have hr : r = pt x n := by
        rcases r2 with ⟨_, e⟩ | ⟨e, _⟩
        · exact e
        · exact absurd hvx e
      subst hr
      have hpl := pt_le hvx n (Nat.le_refl _)
      have e1 : nI (pt x n) = nI k ↔ pt x n = k := nI_eq (by omega) (by omega)
      obtain ⟨g1, t1, t2⟩ := hc.1 z rfl g hg
      have hq' : ∃ y, y ∈ z :: L ∧ qdB (dg row n) n y = true := by
        obtain ⟨y, y1, y2⟩ := hq
        rcases List.mem_cons.mp y1 with e | e
        · subst e; exact absurd y2 hx
        · exact ⟨y, e, y2⟩
      have fin : ∀ c t : Nat, ∃ g', f_X12_partRank_83 (f_X12_partRank_58 f) (nI n) row (nI k) (nI c) (nI t) (M_digit_s M g) = some (nI (c + t + bef (fun y => decide (pt y n = k)) (qdB (dg row n) n) (z :: L)), M_digit_s M g') := by
        intro c t
        obtain ⟨g', e⟩ := ih z f (c + t) g1 hc.2 (fun z hz => hv z (List.mem_cons_of_mem _ hz)) hq' (by have : L.length + 1 + 1 < f + 1 := hf; omega) t2
        refine ⟨g', ?_⟩
        unfold f_X12_partRank_83
        rw [t1, jbd_s, nI_add]
        exact e
      rw [r1, jbd_s]
      by_cases e : pt x n = k
      · rw [if_pos (e1.mpr e), if_pos (decide_eq_true e), ← Nat.add_assoc]; exact fin c 1
      · rw [if_neg (fun q => e (e1.mp q)), if_neg (by rw [decide_eq_true_eq]; exact e), ← Nat.add_assoc]; exact fin c 0
theorem rank38 (M : MS) {n : Nat} (hn : n ≤ 8) (row k a : Int32) : ∀ (d q f : Nat) (g : Nat → Int32), q + d = n → d < f → (∀ j, j < q → g j = 0) → ∃ g', f_X12_partRank_38 f (nI n) row k a (nI q) (M_digit_s M g) = f_X12_partRank_58 jFU (nI n) row k a (M_digit_s M g') ∧ ∀ j, j < n → g' j = 0 := by
  intro d
  induction d with
  | zero =>
    intro q f g h1 hf hg
    obtain ⟨f, rfl⟩ : ∃ x, f = x + 1 := ⟨f - 1, by omega⟩
    obtain rfl : q = n := by omega
    exact ⟨g, by rw [f_X12_partRank_38, if_pos (nI_le (by omega) (by omega))], hg⟩
  | succ d ih =>
    intro q f g h1 hf hg
    obtain ⟨f, rfl⟩ : ∃ x, f = x + 1 := ⟨f - 1, by omega⟩
    obtain ⟨g', e1, e2⟩ := ih (q + 1) f (upd g q 0) (by omega) (by omega) (fun j hj => by
      by_cases h : j = q
      · subst h; exact pk_us
      · rw [pk_un h]; exact hg j (by omega))
    refine ⟨g', ?_, e2⟩
    rw [f_X12_partRank_38, if_neg (nI_ge (by omega) (by omega)), jgd_n _ (by omega) (by decide), nI_clamp (by omega), dig_get, dig_dig, nI_1]
    exact e1
theorem op_partRank (a0 : Int32) (a1 : Int32) : oWW (f_X11_partRank a0 a1) (f_X12_partRank a0 a1) := by
  intro X M hR
  unfold f_X11_partRank f_X12_partRank
  rw [within_eq, isSizeM, jbd_s, jbd_s]
  rcases rng8 a0 with ⟨n, h1, hn, rfl⟩ | hbad
  · rw [b01_t (in18 h1 hn), if_neg one_ne, if_neg one_ne]
    obtain ⟨r, x1, x2⟩ := partsX a1 hn
    obtain ⟨r', g, m1, m2, m3, m4⟩ := unpackM M a1 hn
    rw [x1, jbd_s, m1, jbd_s]
    by_cases hu : UN a1 < 16 ^ n
    · obtain rfl := m3.mpr hu
      have hrep : rep n g (dg a1 n) := fun k hk => ⟨m4 k hk, dg_lt a1 n k⟩
      obtain ⟨q, q1, q2⟩ := partsM M h1 hn hrep
      have hx : pvI (dg a1 n) n r := by
        rcases x2 with ⟨_, e⟩ | ⟨e, _⟩
        · exact e
        · exact absurd hu e
      have hqr : q = r := by
        rcases hx with ⟨a, b⟩ | ⟨a, b⟩ <;> rcases q2 with ⟨c, d⟩ | ⟨c, d⟩
        · omega
        · exact absurd a c
        · exact absurd c a
        · omega
      subst hqr
      rw [if_neg one_ne]
      show ∃ v X' M', _ ∧ jbd (f_X12_partsOf (nI n) (M_digit_s M g)) _ = _ ∧ _
      rw [q1, jbd_s]
      by_cases hv : val (dg a1 n) n
      · have hq : q = pt (dg a1 n) n := by
          rcases q2 with ⟨_, e⟩ | ⟨e, _⟩
          · exact e
          · exact absurd hv e
        have hpl := pt_le hv n (Nat.le_refl _)
        obtain ⟨n, rfl⟩ : ∃ q, n = q + 1 := ⟨n - 1, by omega⟩
        have hpp := pt_pos (dg a1 (n + 1)) n
        rw [if_neg (nI_ne0 (by omega) (by omega)), if_neg (nI_ne0 (by omega) (by omega))]
        obtain ⟨t, w1, w2⟩ := want_eq (show q ≤ 8 by omega) (X_partings X)
        rw [jbd_s, w1, jbd_s]
        obtain ⟨g2, p1, p2⟩ := rank38 M hn a1 (nI q) 0 (n + 1) 0 1000000 g (by omega) (by omega) (fun j hj => by omega)
        obtain ⟨L, hL⟩ := top_split n
        have hlen := len_top hn
        have hch := top_chn M hn
        obtain ⟨y, y1, y2⟩ := rgs_mem hv (n + 1) 0 0 o0 (by omega) (fun i hi => by omega) rfl
        rw [hL] at hlen hch y1
        have hlen' : L.length + 1 ≤ 4140 := hlen
        obtain ⟨g', s1⟩ := rank58 M h1 hn (show q ≤ 8 by omega) a1 hu L _ 1000000 0 g2 hch (fun y hy => top_val (by rw [hL]; exact hy)) ⟨y, y1, decide_eq_true (pkN_congr y2)⟩ (by omega) (zrep p2)
        rw [← hL] at s1
        have hX := rankX hn (show q ≤ 8 by omega) w2 a1 hv (n + 1) 0 0 1000000 0 o0 (by omega) (fun i hi => by omega) rfl (by omega)
        rw [show f_X7_rankOf (nI (n + 1)) a1 (X_partings (X_partings_s X t)) = _ from hX, jbd_s]
        exact ⟨_, _, _, rfl, (show _ = _ from p1).trans s1, (hR.core (dig_core M g')).part t⟩
      · have hq : q = 0 := by
          rcases q2 with ⟨e, _⟩ | ⟨_, e⟩
          · exact absurd e hv
          · exact e
        subst hq
        rw [if_pos (show nI 0 = 0 from rfl), if_pos (show nI 0 = 0 from rfl)]
        exact ⟨_, X, _, rfl, rfl, hR.core (dig_core M g)⟩
    · have hr : r = 0 := by
        rcases x2 with ⟨e, _⟩ | ⟨_, e⟩
        · exact absurd e hu
        · exact e
      subst hr
      rw [ord_no m2 m3 hu, if_pos rfl, if_pos (show nI 0 = 0 from rfl)]
      exact ⟨_, X, _, rfl, rfl, hR.core (dig_core M g)⟩
  · rw [b01_f hbad, if_pos rfl, if_pos rfl]
    exact ⟨_, X, M, rfl, rfl, hR⟩
