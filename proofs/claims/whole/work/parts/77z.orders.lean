/-! mark, orders -/
def stA (mu n : Nat) : Nat := if mu = 3 then n else if mu = 4 then 2 ^ n else 0
theorem w2n : ∀ n, n < 9 → (1 ≤ 2 ^ n ∧ 2 ^ n < 512 ∧ zcw 9 (2 ^ n) = n ∧ ocw 9 (2 ^ n) = 0) ∧ ∀ i, i < n → prf 9 (2 ^ n) i 0 = 0 := by decide +kernel
theorem packA (mu : Nat) (hmu : mu ≤ 4) (n : Nat) (h1 : 1 ≤ n) (hn : n ≤ 8) : ∃ (T : Nat → Nat → Nat → Nat) (g nx : Nat → (Nat → Nat) → (Nat → Nat) → Nat → Nat → Nat → Nat) (Iv : Nat → Nat → (Nat → Nat) → (Nat → Nat) → Nat → Nat → Prop), Good n (mkA mu n) T g nx Iv ∧ (∀ v, v < 29 → Cls n v T g nx Iv mu) ∧ Iv 0 n (fun i => i) o0 (stA mu n) 0 := by
  rcases (show mu = 0 ∨ mu = 1 ∨ mu = 2 ∨ mu = 3 ∨ mu = 4 by omega) with rfl | rfl | rfl | rfl | rfl
  · have e : mkA 0 n = mk0 n := by funext y; exact if_pos rfl
    rw [e]
    exact ⟨_, _, _, _, good_0 n hn, fun v hv => cls0 n v hn hv, rfl, good_top n h1 hn⟩
  · have e : mkA 1 n = fun y => mkR 1 y n := by funext y; exact if_neg (by decide)
    rw [e]
    exact ⟨_, _, _, _, good1 n hn, fun v hv => cls1 n v hn hv, rfl, Nat.zero_le _, Or.inl ⟨rfl, rfl⟩⟩
  · have e : mkA 2 n = fun y => mkR 2 y n := by funext y; exact if_neg (by decide)
    rw [e]
    refine ⟨_, _, _, _, good2 n hn, fun v hv => cls2 n v hn hv, rfl, ?_⟩
    show 0 = 0 + SN (fun i => 0) n
    have : ∀ n, SN (fun _ => 0) n = 0 := fun n => by
      induction n with
      | zero => rfl
      | succ n ih => show SN (fun _ => 0) n + 0 = 0; rw [ih]
    rw [this]
  · have e : mkA 3 n = fun y => mkR 3 y n := by funext y; exact if_neg (by decide)
    rw [e]
    refine ⟨_, _, _, _, good3 n hn, fun v hv => cls3 n v hn hv, rfl, Nat.le_refl _, fun i hi => ⟨fun _ => ?_, fun _ q hq => by omega⟩⟩
    show n - n ≤ i
    omega
  · have e : mkA 4 n = fun y => mkR 4 y n := by funext y; exact if_neg (by decide)
    rw [e]
    obtain ⟨⟨a1, a2, a3, a4⟩, a5⟩ := w2n n (by omega)
    exact ⟨_, _, _, _, good4 n h1 hn, fun v hv => cls4 n v hn hv, rfl, a1, a2, a3, a4, fun i hi => a5 i hi⟩
theorem inc_id (n : Nat) : inc (fun i => i) n := fun i j h _ => h
theorem op_mark (a0 : Int32) (a1 : Int32) (a2 : Int32) : oWW (f_X11_mark a0 a1 a2) (f_X12_mark a0 a1 a2) := by
  intro X M hR
  unfold f_X11_mark f_X12_mark
  rcases rng8 a0 with ⟨n, h1, hn, rfl⟩ | hbad
  · obtain ⟨r, x1, x2, x3⟩ := isOrderX X a1 h1 hn
    obtain ⟨r', gd, m1, m2, m3, m4⟩ := takeM M a1 h1 hn
    rw [x1, jbd_s, m1, jbd_s]
    by_cases hc : isRow n a1
    · obtain rfl := x3.mpr hc
      obtain rfl := m3.mpr hc
      rw [if_neg one_ne, if_neg one_ne, within_eq, inI a2 4 4 (by decide), jbd_s, jbd_s]
      rcases rng (x := a2) (M := 4) (m := 4) (by decide) with ⟨mu, hmu, rfl⟩ | hbad
      · rw [b01_in (m := 4) (M := 4) rfl hmu (by decide), if_neg one_ne, if_neg one_ne]
        have hrep : rep n gd (dg a1 n) := fun k hk => ⟨m4 k hk, dg_lt a1 n k⟩
        obtain ⟨h, e⟩ := markAll M h1 hn hrep hc.2 hmu
        obtain ⟨T, g, nx, Iv, HG, HC, HI⟩ := packA mu hmu n h1 hn
        obtain ⟨s, e1, e2⟩ := unpackX (Orders_row (X_orders X)) a1 hn
        have hw := gMark HG (HC 0 (by decide)) hn hc.2 (fun x hx => mkA_congr hx hc.2.1) (o := Orders_row_s (X_orders X) s) e2 n 0 (fun i => i) o0 (stA mu n) 0 1000000 (by omega) (inc_id n) HI (fun i hi => by omega) (fun q hq => by omega) (cov_top n o0) (by omega)
        have hX : f_X6_markOf (nI n) a1 (nI mu) (X_orders X) = some (nI (mkA mu n (dg a1 n)), Orders_row_s (X_orders X) s) := by
          unfold f_X6_markOf
          rw [e1, jbd_s, jgd_n _ (by omega) (by decide)]
          rcases (show mu = 0 ∨ mu = 1 ∨ mu = 2 ∨ mu = 3 ∨ mu = 4 by omega) with rfl | rfl | rfl | rfl | rfl
          · rw [if_pos (by decide), ← hw]
            unfold f_X9_start
            rw [jbd_s, GM_0]; rfl
          · rw [if_neg (by decide), if_pos (by decide), ← hw]
            unfold f_X0_start
            rw [jbd_s, GM_1]; rfl
          · rw [if_neg (by decide), if_neg (by decide), if_pos (by decide), ← hw]
            unfold f_X3_start
            rw [jbd_s, GM_2]; rfl
          · rw [if_neg (by decide), if_neg (by decide), if_neg (by decide), if_pos (by decide), ← hw]
            unfold f_X1_start
            rw [jbd_s, GM_3]; rfl
          · rw [if_neg (by decide), if_neg (by decide), if_neg (by decide), if_neg (by decide), ← hw]
            unfold f_X4_start
            rw [jbd_s, GM_4, sh1 n (by omega)]; rfl
        rw [hX, jbd_s]
        refine ⟨nI (mkA mu n (dg a1 n)), _, M_digit_s (M_other_s M h) gd, rfl, ?_, ?_⟩
        · show jbd (f_X12_markOf (nI n) (nI mu) (M_digit_s M gd)) _ = _
          rw [e, jbd_s]
        · exact ((hR.core (mo_core M h)).core (dig_core _ gd)).row s
      · rw [b01_f hbad, if_pos rfl, if_pos rfl]
        exact ⟨-1, X, _, rfl, rfl, hR.core (dig_core M gd)⟩
    · rw [ord_no x2 x3 hc, ord_no m2 m3 hc, if_pos rfl, if_pos rfl]
      exact ⟨-1, X, _, rfl, rfl, hR.core (dig_core M gd)⟩
  · rw [isOrderX_no X _ _ hbad, takeM_no M _ _ hbad, jbd_s, jbd_s, if_pos rfl, if_pos rfl]
    exact ⟨-1, X, M, rfl, rfl, hR⟩
/-! a mark is no great number -/
theorem con_b {mu : Nat} {y : Nat → Nat} {k : Nat} (hk : k ≤ 8) : con mu y k ≤ 8 := by
  unfold con
  split
  · split <;> omega
  · split
    · have := gtC_le y k k
      omega
    · have := hiN_le y k k
      omega
theorem vSm_b (mu : Nat) (y : Nat → Nat) : ∀ k, k ≤ 8 → vSm mu y k ≤ 8 * k
  | 0, _ => Nat.le_refl _
  | k + 1, h => by
    have h1 := vSm_b mu y k (by omega)
    have h2 := con_b (mu := mu) (y := y) (k := k) (by omega)
    show vSm mu y k + con mu y k ≤ 8 * (k + 1)
    omega
theorem rgF_b (y : Nat → Nat) : ∀ c d met many r, rgF y c d met many = some r → r ≤ many + c
  | 0, _, _, many, r, h => by cases h; omega
  | c + 1, d, met, many, r, h => by
    have h' : (match wkF y 9 met d with | none => none | some met' => rgF y c (d + 1) met' (many + cond (tb met d) 0 1)) = some r := h
    cases hw : wkF y 9 met d with
    | none => rw [hw] at h'; cases h'
    | some met' =>
      rw [hw] at h'
      have := rgF_b y c _ _ _ r h'
      have hb : cond (tb met d) 0 1 ≤ 1 := by cases tb met d <;> decide
      omega
theorem mkA_b {mu n : Nat} (hn : n ≤ 8) (y : Nat → Nat) : mkA mu n y ≤ 64 := by
  unfold mkA
  split
  · unfold mk0
    cases h : rgF y n 0 0 0 with
    | none => exact Nat.zero_le _
    | some r =>
      have := rgF_b y n 0 0 0 r h
      show r ≤ 64
      omega
  · unfold mkR
    split
    · have := mst_le y n
      omega
    · have := vSm_b mu y n hn
      omega
theorem ord50 {n mu v : Nat} (h1 : 1 ≤ n) (hn : n ≤ 8) (hmu : mu ≤ 4) (hv : v < 29) (i : Int32) : ∀ (L : List (Nat → Nat)) (x : Nat → Nat) (f c : Nat) (g : Nat → Int32) (M : MS), (∀ M, chn (RO M n) (x :: L)) → (∀ M z, (x :: L).getLast? = some z → FO M n z) → (∀ y, y ∈ x :: L → perm n y) → L.length + 1 < f → rep n g x → ∃ M', f_X12_orders_50 f (nI n) (nI mu) (nI v) i (nI c) 1 (M_digit_s M g) = some (scanR (fun y => decide (mkA mu n y = v)) (fun y => nI (pkN y n)) i (x :: L) c, M') ∧ core M' = core M := by
  intro L
  induction L with
  | nil =>
    intro x f c g M hc hl hv hf hg
    obtain ⟨f, rfl⟩ : ∃ x, f = x + 1 + 1 := ⟨f - 2, by have : 0 + 1 < f := hf; omega⟩
    obtain ⟨h, e⟩ := markAll M h1 hn hg (hv x List.mem_cons_self) hmu
    have hb := mkA_b (mu := mu) hn x
    have e1 : nI (mkA mu n x) = nI v ↔ mkA mu n x = v := nI_eq (by omega) (by omega)
    have hcore : core (M_digit_s (M_other_s M h) g) = core M := (dig_core _ g).trans (mo_core M h)
    have fin : ∀ c : Nat, f_X12_orders_81 (f_X12_orders_50 (f + 1)) (nI n) (nI mu) (nI v) i (nI c) (M_digit_s (M_other_s M h) g) = some (if i = -1 then nI c else -4, M_digit_s (M_other_s M h) g) := by
      intro c
      unfold f_X12_orders_81
      rw [hl (M_other_s M h) x rfl g hg, jbd_s]
      show f_X12_orders_50 (f + 1) (nI n) (nI mu) (nI v) i (nI c) 0 (M_digit_s (M_other_s M h) g) = _
      rw [f_X12_orders_50, if_pos rfl]
      unfold f_X12_orders_91
      split <;> rfl
    refine ⟨M_digit_s (M_other_s M h) g, ?_, hcore⟩
    rw [f_X12_orders_50, if_neg one_ne, e, jbd_s]
    show _ = some (if decide (mkA mu n x = v) = true then (if nI c = i then nI (pkN x n) else if i = -1 then nI (c + 1) else -4) else if i = -1 then nI c else -4, M_digit_s (M_other_s M h) g)
    by_cases q : mkA mu n x = v
    · rw [if_pos (e1.mpr q), if_pos (decide_eq_true q)]
      by_cases ec : nI c = i
      · rw [if_pos ec, if_pos ec]
        unfold f_X12_orders_72
        rw [packM _ hn, jbd_s, dig_get, pack_rep hn hg]
      · rw [if_neg ec, if_neg ec, nI_1]; exact fin (c + 1)
    · rw [if_neg (fun z => q (e1.mp z)), if_neg (by rw [decide_eq_true_eq]; exact q)]; exact fin c
  | cons y L ih =>
    intro x f c g M hc hl hv hf hg
    obtain ⟨f, rfl⟩ : ∃ x, f = x + 1 := ⟨f - 1, by have : L.length + 1 + 1 < f := hf; omega⟩
    obtain ⟨h, e⟩ := markAll M h1 hn hg (hv x List.mem_cons_self) hmu
    have hb := mkA_b (mu := mu) hn x
    have e1 : nI (mkA mu n x) = nI v ↔ mkA mu n x = v := nI_eq (by omega) (by omega)
    have hcore : core (M_digit_s (M_other_s M h) g) = core M := (dig_core _ g).trans (mo_core M h)
    obtain ⟨g1, t1, t2⟩ := (hc (M_other_s M h)).1 y rfl g hg
    have fin : ∀ c : Nat, ∃ M', f_X12_orders_81 (f_X12_orders_50 f) (nI n) (nI mu) (nI v) i (nI c) (M_digit_s (M_other_s M h) g) = some (scanR (fun y => decide (mkA mu n y = v)) (fun y => nI (pkN y n)) i (y :: L) c, M') ∧ core M' = core M := by
      intro c
      obtain ⟨M', q1, q2⟩ := ih y f c g1 (M_other_s M h) (fun M => (hc M).2) (fun M z hz => hl M z (by rw [List.getLast?_cons_cons]; exact hz)) (fun z hz => hv z (List.mem_cons_of_mem _ hz)) (by have : L.length + 1 + 1 < f + 1 := hf; omega) t2
      refine ⟨M', ?_, q2.trans (mo_core M h)⟩
      unfold f_X12_orders_81
      rw [t1, jbd_s]
      exact q1
    rw [f_X12_orders_50, if_neg one_ne, e, jbd_s]
    show ∃ M', (if nI (mkA mu n x) = nI v then if nI c = i then f_X12_orders_72 (nI n) (M_digit_s (M_other_s M h) g) else f_X12_orders_81 (f_X12_orders_50 f) (nI n) (nI mu) (nI v) i (nI c + 1) (M_digit_s (M_other_s M h) g) else f_X12_orders_81 (f_X12_orders_50 f) (nI n) (nI mu) (nI v) i (nI c) (M_digit_s (M_other_s M h) g)) = some (if decide (mkA mu n x = v) = true then (if nI c = i then nI (pkN x n) else scanR _ _ i (y :: L) (c + 1)) else scanR _ _ i (y :: L) c, M') ∧ _
    by_cases q : mkA mu n x = v
    · rw [if_pos (e1.mpr q), if_pos (decide_eq_true q)]
      by_cases ec : nI c = i
      · rw [if_pos ec, if_pos ec]
        unfold f_X12_orders_72
        rw [packM _ hn, jbd_s, dig_get, pack_rep hn hg]
        exact ⟨_, rfl, hcore⟩
      · rw [if_neg ec, if_neg ec, nI_1]; exact fin (c + 1)
    · rw [if_neg (fun z => q (e1.mp z)), if_neg (by rw [decide_eq_true_eq]; exact q)]; exact fin c
theorem beginM (M : MS) {n : Nat} (hn : n ≤ 8) : ∀ (d q f : Nat) (g : Nat → Int32), q + d = n → d < f → (∀ j, j < q → g j = nI j) → ∃ g', f_X12_beginOrder_2 f (nI n) (nI q) (M_digit_s M g) = some (M_digit_s M g') ∧ ∀ j, j < n → g' j = nI j := by
  intro d
  induction d with
  | zero =>
    intro q f g h1 hf hg
    obtain ⟨f, rfl⟩ : ∃ x, f = x + 1 := ⟨f - 1, by omega⟩
    obtain rfl : q = n := by omega
    exact ⟨g, by rw [f_X12_beginOrder_2, if_pos (nI_le (by omega) (by omega))], hg⟩
  | succ d ih =>
    intro q f g h1 hf hg
    obtain ⟨f, rfl⟩ : ∃ x, f = x + 1 := ⟨f - 1, by omega⟩
    obtain ⟨g', e1, e2⟩ := ih (q + 1) f (upd g q (nI q)) (by omega) (by omega) (fun j hj => by
      by_cases h : j = q
      · subst h; exact pk_us
      · rw [pk_un h]; exact hg j (by omega))
    refine ⟨g', ?_, e2⟩
    rw [f_X12_beginOrder_2, if_neg (nI_ge (by omega) (by omega)), jgd_n _ (by omega) (by decide), nI_clamp (by omega), dig_get, dig_dig, nI_1]
    exact e1
theorem howX {n mu : Nat} (hn : n ≤ 8) (hmu : mu ≤ 4) (w : Int32) (o : OrdersS) : f_X6_howMany (nI n) (nI mu) w o = wyA mu (nI (stA mu n)) (nI n) w o := by
  unfold f_X6_howMany
  rw [jgd_n _ (by omega) (by decide), jgd_n _ (by omega) (by decide), jgd_n _ (by omega) (by decide), jgd_n _ (by omega) (by decide), jgd_n _ (by omega) (by decide), jgd_n _ (by omega) (by decide)]
  rcases (show mu = 0 ∨ mu = 1 ∨ mu = 2 ∨ mu = 3 ∨ mu = 4 by omega) with rfl | rfl | rfl | rfl | rfl
  · rw [if_pos (by decide), if_pos (by decide)]; rfl
  · rw [if_neg (by decide), if_pos (by decide), if_neg (by decide), if_pos (by decide)]; rfl
  · rw [if_neg (by decide), if_neg (by decide), if_pos (by decide), if_neg (by decide), if_neg (by decide), if_pos (by decide)]; rfl
  · rw [if_neg (by decide), if_neg (by decide), if_neg (by decide), if_pos (by decide), if_neg (by decide), if_neg (by decide), if_neg (by decide), if_pos (by decide)]; rfl
  · rw [if_neg (by decide), if_neg (by decide), if_neg (by decide), if_neg (by decide), if_neg (by decide), if_neg (by decide), if_neg (by decide), if_neg (by decide)]
    unfold f_X4_start
    rw [jbd_s, sh1 n (by omega)]; rfl
theorem ithA {n mu : Nat} (hn : n ≤ 8) (hmu : mu ≤ 4) (w i : Int32) (o : OrdersS) : f_X6_ith (nI n) (nI mu) w i o = G33 (grA mu) (nxA mu) (wyA mu) jFU (nI n) (nI (stA mu n)) w i (nI (2 ^ n - 1)) (nI 0) o := by
  unfold f_X6_ith
  rw [jgd_n _ (by omega) (by decide), sh1m n (by omega)]
  rcases (show mu = 0 ∨ mu = 1 ∨ mu = 2 ∨ mu = 3 ∨ mu = 4 by omega) with rfl | rfl | rfl | rfl | rfl
  · rw [if_pos (by decide)]
    unfold f_X9_start
    rw [jbd_s, G33_0]; rfl
  · rw [if_neg (by decide), if_pos (by decide)]
    unfold f_X0_start
    rw [jbd_s, G33_1]; rfl
  · rw [if_neg (by decide), if_neg (by decide), if_pos (by decide)]
    unfold f_X3_start
    rw [jbd_s, G33_2]; rfl
  · rw [if_neg (by decide), if_neg (by decide), if_neg (by decide), if_pos (by decide)]
    unfold f_X1_start
    rw [jbd_s, G33_3]; rfl
  · rw [if_neg (by decide), if_neg (by decide), if_neg (by decide), if_neg (by decide)]
    unfold f_X4_start
    rw [jbd_s, G33_4, sh1 n (by omega)]; rfl
theorem Rel.ord {X : XS} {M : MS} (h : Rel X M) {o : OrdersS} (ho : ROrd o) : Rel (X_orders_s X o) M := ⟨h.1, h.2.1, ho, h.2.2.2⟩
theorem op_orders (a0 : Int32) (a1 : Int32) (a2 : Int32) (a3 : Int32) : oWW (f_X11_orders a0 a1 a2 a3) (f_X12_orders a0 a1 a2 a3) := by
  intro X M hR
  unfold f_X11_orders f_X12_orders
  rw [within_eq, isSizeM, jbd_s, jbd_s]
  rcases rng8 a0 with ⟨n, h1, hn, rfl⟩ | hbad
  · rw [b01_t (in18 h1 hn), if_neg one_ne, if_neg one_ne, within_eq, inI a1 4 4 (by decide), jbd_s, jbd_s]
    rcases rng (x := a1) (M := 4) (m := 4) (by decide) with ⟨mu, hmu, rfl⟩ | hbad
    · rw [b01_in (m := 4) (M := 4) rfl hmu (by decide), if_neg one_ne, if_neg one_ne, within_eq, inI a2 28 28 (by decide), jbd_s, jbd_s]
      rcases rng (x := a2) (M := 28) (m := 28) (by decide) with ⟨v, hv28, rfl⟩ | hbad
      · rw [b01_in (m := 28) (M := 28) rfl hv28 (by decide), if_neg one_ne, if_neg one_ne]
        have hv : v < 29 := by omega
        by_cases hi : (-1 : Int32) ≤ a3
        · rw [if_pos hi, if_pos hi]
          obtain ⟨T, g, nx, Iv, HG, HC, HI⟩ := packA mu hmu n h1 hn
          have hO : ROrd (X_orders X) := hR.2.2.1
          obtain ⟨o1, w1, w2, w3⟩ := (HC v hv).2.2 0 n (fun i => i) o0 (stA mu n) 0 (X_orders X) (by omega) HI (by omega) hO
          have hJ0 : J32 ((v : Int) - ((0 : Nat) : Int)) = nI v := by rw [J_nI]; exact congrArg J32 (by omega)
          have hcnt := cnt_gen hv HG n 0 (fun i => i) o0 (stA mu n) 0 (by omega) (inc_id n) HI
          have hlen := prm_len n 0 (fun i => i) o0 hn
          have hfc := fc_r n (by omega)
          have hcl := cnt_len (fun y => decide (mkA mu n y = v)) (prm n 0 (fun i => i) o0)
          rw [hJ0] at w1
          obtain ⟨gb, b1, b2⟩ := beginM M hn n 0 1000000 (M_digit M) (by omega) (by omega) (fun j hj => by omega)
          rw [dig_self] at b1
          obtain ⟨y0, y1, y2⟩ := prm_head n 0 (fun i => i) o0
          obtain ⟨L, hL⟩ : ∃ L, prm n 0 (fun i => i) o0 = y0 :: L := by
            cases e : prm n 0 (fun i => i) o0 with
            | nil => rw [e] at y1; cases y1
            | cons a L =>
              rw [e] at y1
              cases y1
              exact ⟨L, rfl⟩
          have hlen' : L.length + 1 = fc n := by rw [hL] at hlen; exact hlen
          obtain ⟨M', s1, s2⟩ := ord50 (v := v) h1 hn hmu hv a3 L y0 1000000 0 gb M (fun M => by
              have := prm_chn M hn n 0 (fun i => i) o0 (by omega) (inc_id n) (fun i hi => hi)
              rw [hL] at this
              exact this) (fun M z hz => by
              obtain ⟨z', z1, z2⟩ := prm_last n 0 (fun i => i) o0
              rw [hL, hz] at z1
              cases z1
              intro g hg
              refine turnO_false M h1 hn hg (fun i hi => ?_)
              rw [z2 (i + 1) (by omega), z2 i (by omega), if_neg (by omega), if_neg (by omega)]
              show n - 1 - (i + 1 - 0) < n - 1 - (i - 0)
              omega) (fun y hy => prm_perm n 0 (fun i => i) o0 y (by rw [hL]; exact hy) (by omega) (cov_top n o0)) (by omega) (fun k hk => by
              rw [b2 k hk, y2 k (by omega), if_neg (by omega)]
              exact ⟨rfl, by show k - 0 < 16; omega⟩)
          rw [← hL] at s1
          rw [howX hn hmu, w1, jbd_s, show f_X12_beginOrder (nI n) M = some (M_digit_s M gb) from b1, jbd_s]
          have hM : f_X12_orders_50 jFU (nI n) (nI mu) (nI v) a3 0 1 (M_digit_s M gb) = some (scanR (fun y => decide (mkA mu n y = v)) (fun y => nI (pkN y n)) a3 (prm n 0 (fun i => i) o0) 0, M') := s1
          rw [hM, ← hcnt]
          rcases m1_or hi with rfl | ⟨j, hj, rfl⟩
          · rw [if_pos rfl, scan_m1 _ _ _ _ (by omega), Nat.zero_add]
            exact ⟨_, _, _, rfl, rfl, (hR.core s2).ord w2⟩
          · rw [if_neg (nI_m1 hj), scan_i _ _ hj _ _ (by omega) (Nat.zero_le _), Nat.sub_zero]
            by_cases hw : j < cntP (fun y => decide (mkA mu n y = v)) (prm n 0 (fun i => i) o0)
            · rw [if_neg (show ¬ nI (cntP (fun y => decide (mkA mu n y = v)) (prm n 0 (fun i => i) o0)) ≤ nI j from nI_ge hw (by omega))]
              obtain ⟨y, o2, c1, c2, c3⟩ := g33 HG (HC v hv) hv hn n 0 (fun i => i) o0 (stA mu n) 0 j 1000000 (2 ^ n - 1) o1 (by omega) (inc_id n) HI (fun i hi => by omega) (fun q hq => by omega) (by omega) (mask_top hn) w2 (fun q hq => by omega) hw hj (by omega)
              rw [hJ0] at c2
              rw [c1, ithA hn hmu, show X_orders (X_orders_s X o1) = o1 from rfl, show jFU = 1000000 from rfl, c2, jbd_s]
              exact ⟨_, _, _, rfl, rfl, ((hR.core s2).ord w2).ord c3⟩
            · rw [if_pos (show nI (cntP (fun y => decide (mkA mu n y = v)) (prm n 0 (fun i => i) o0)) ≤ nI j from nI_le (by omega) hj), nth_none _ _ _ (by omega)]
              exact ⟨_, _, _, rfl, rfl, (hR.core s2).ord w2⟩
        · rw [if_neg hi, if_neg hi]
          exact ⟨_, X, M, rfl, rfl, hR⟩
      · rw [b01_f hbad, if_pos rfl, if_pos rfl]
        exact ⟨_, X, M, rfl, rfl, hR⟩
    · rw [b01_f hbad, if_pos rfl, if_pos rfl]
      exact ⟨_, X, M, rfl, rfl, hR⟩
  · rw [b01_f hbad, if_pos rfl, if_pos rfl]
    exact ⟨_, X, M, rfl, rfl, hR⟩
