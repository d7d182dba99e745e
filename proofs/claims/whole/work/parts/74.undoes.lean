/-! whether one triangle undoes another -/
section
variable {X : XS} {M0 : MS} {a b N : Nat}
theorem und_in (hR : Rel X M0) (ha4 : a < 4) (hb4 : b < 4) (hN : N ≤ 24) (M : MS) (r4 : ∀ m j, m ≤ N → j ≤ m → cIs M (tri m + j) (T M0 a m j)) (r5 : ∀ m j, m ≤ N → j ≤ m → cIs M (325 + tri m + j) (T M0 b m j)) (k2 : Int32 → Int32 → LawS → LawS → Option Int32) (k45 : Int32 → Int32 → MS → Option (Int32 × MS)) {n : Nat} (hn : n ≤ N) : ∀ (d k f g : Nat) (no : Int32), k + d = n + 1 → d < f → d < g →
    (∃ r no', f_X2_firstRowNotUndone_10 k2 f (nI N) (nI n) (nI k) (xLaw X a) (xLaw X b) = some r ∧ f_X12_undoes_54 k45 g (nI N) (nI n) (nI k) (M_isNo_s M no) = some (r, M_isNo_s M no')) ∨
    (∃ no', f_X2_firstRowNotUndone_10 k2 f (nI N) (nI n) (nI k) (xLaw X a) (xLaw X b) = k2 (nI N) (nI (n + 1)) (xLaw X a) (xLaw X b) ∧ f_X12_undoes_54 k45 g (nI N) (nI n) (nI k) (M_isNo_s M no) = k45 (nI N) (nI (n + 1)) (M_isNo_s M no')) := by
  intro d
  induction d with
  | zero =>
    intro k f g no h1 hf hg
    obtain ⟨f, rfl⟩ : ∃ q, f = q + 1 := ⟨f - 1, by omega⟩
    obtain ⟨g, rfl⟩ : ∃ q, g = q + 1 := ⟨g - 1, by omega⟩
    refine Or.inr ⟨no, ?_, ?_⟩
    · rw [f_X2_firstRowNotUndone_10, if_pos (nI_lt (by omega) (by omega))]
      unfold f_X2_firstRowNotUndone_64
      rw [nI_1]
    · rw [f_X12_undoes_54, if_pos (nI_lt (by omega) (by omega))]
      unfold f_X12_undoes_117
      rw [nI_1]
  | succ d ih =>
    intro k f g no h1 hf hg
    obtain ⟨f, rfl⟩ : ∃ q, f = q + 1 := ⟨f - 1, by omega⟩
    obtain ⟨g, rfl⟩ : ∃ q, g = q + 1 := ⟨g - 1, by omega⟩
    obtain ⟨no1, s', p1, p2⟩ := PT_M (M := M_isNo_s M no) (okT (hR.law ha4)) (okT (hR.law hb4)) hN hn (show k ≤ n by omega) r4 r5
    rw [f_X2_firstRowNotUndone_10, if_neg (nI_nlt (by omega) (by omega)), PT_X hR ha4 hb4 (show n ≤ 24 by omega) (show k ≤ n by omega), jbd_s]
    rw [f_X12_undoes_54, if_neg (nI_nlt (by omega) (by omega)), p1, jbd_s]
    show (∃ r no', _ ∧ (if no1 = 0 then (if nI k = nI n then f_X12_undoes_92 k45 (f_X12_undoes_54 k45 g) (nI N) (nI n) (nI k) s' (1 : Int64) (M_isNo_s M no1) else f_X12_undoes_92 k45 (f_X12_undoes_54 k45 g) (nI N) (nI n) (nI k) s' (0 : Int64) (M_isNo_s M no1)) else f_X12_undoes_96 (nI n) (M_isNo_s M no1)) = some (r, M_isNo_s M no')) ∨ (∃ no', _ ∧ (if no1 = 0 then (if nI k = nI n then f_X12_undoes_92 k45 (f_X12_undoes_54 k45 g) (nI N) (nI n) (nI k) s' (1 : Int64) (M_isNo_s M no1) else f_X12_undoes_92 k45 (f_X12_undoes_54 k45 g) (nI N) (nI n) (nI k) s' (0 : Int64) (M_isNo_s M no1)) else f_X12_undoes_96 (nI n) (M_isNo_s M no1)) = k45 (nI N) (nI (n + 1)) (M_isNo_s M no'))
    rcases e : PT M0 a b n k with _ | v
    · rw [e] at p2
      obtain rfl : no1 = 1 := p2
      refine Or.inl ⟨-2, 1, ?_, ?_⟩
      · rw [if_pos ((lg_eq0 _ _).mpr tEnc_none)]
      · rw [if_neg one_ne]; rfl
    · rw [e] at p2
      obtain ⟨rfl, rfl⟩ := p2
      have hv := PT_sm hR ha4 hb4 (show n ≤ 24 by omega) v e
      rw [tEnc_some, if_neg (fun c => E_min' hv ((lg_eq0 _ _).mp c)), if_pos rfl]
      have key : ∀ (t : Int32) (u : Int64), t.toInt64 = u →
        ((∃ r no', f_X2_firstRowNotUndone_51 k2 (f_X2_firstRowNotUndone_10 k2 f) (nI N) (nI n) (nI k) (E v) t (xLaw X a) (xLaw X b) = some r ∧ f_X12_undoes_92 k45 (f_X12_undoes_54 k45 g) (nI N) (nI n) (nI k) (E v) u (M_isNo_s M 0) = some (r, M_isNo_s M no')) ∨
        (∃ no', f_X2_firstRowNotUndone_51 k2 (f_X2_firstRowNotUndone_10 k2 f) (nI N) (nI n) (nI k) (E v) t (xLaw X a) (xLaw X b) = k2 (nI N) (nI (n + 1)) (xLaw X a) (xLaw X b) ∧ f_X12_undoes_92 k45 (f_X12_undoes_54 k45 g) (nI N) (nI n) (nI k) (E v) u (M_isNo_s M 0) = k45 (nI N) (nI (n + 1)) (M_isNo_s M no'))) := by
        intro t u htu
        unfold f_X2_firstRowNotUndone_51 f_X12_undoes_92
        rw [htu, nI_1]
        by_cases c : lg_cmp (E v) u = 0
        · rw [if_pos c, if_pos c]
          exact ih (k + 1) f g 0 (by omega) (by omega) (by omega)
        · rw [if_neg c, if_neg c]
          exact Or.inl ⟨nI n, 0, rfl, rfl⟩
      by_cases c : nI k = nI n
      · rw [if_pos c, if_pos c]
        exact key 1 1 (by decide)
      · rw [if_neg c, if_neg c]
        exact key 0 0 (by decide)
theorem und_out (hR : Rel X M0) (ha4 : a < 4) (hb4 : b < 4) (hN : N ≤ 24) (M : MS) (r4 : ∀ m j, m ≤ N → j ≤ m → cIs M (tri m + j) (T M0 a m j)) (r5 : ∀ m j, m ≤ N → j ≤ m → cIs M (325 + tri m + j) (T M0 b m j)) : ∀ (d n f g : Nat) (no : Int32), n + d = N + 1 → d < f → d < g →
    ∃ r no', f_X2_firstRowNotUndone_2 f (nI N) (nI n) (xLaw X a) (xLaw X b) = some r ∧ f_X12_undoes_45 g (nI N) (nI n) (M_isNo_s M no) = some (r, M_isNo_s M no') := by
  intro d
  induction d with
  | zero =>
    intro n f g no h1 hf hg
    obtain ⟨f, rfl⟩ : ∃ q, f = q + 1 := ⟨f - 1, by omega⟩
    obtain ⟨g, rfl⟩ : ∃ q, g = q + 1 := ⟨g - 1, by omega⟩
    refine ⟨-4, no, ?_, ?_⟩
    · rw [f_X2_firstRowNotUndone_2, if_pos (nI_lt (by omega) (by omega))]
    · rw [f_X12_undoes_45, if_pos (nI_lt (by omega) (by omega))]
  | succ d ih =>
    intro n f g no h1 hf hg
    obtain ⟨f, rfl⟩ : ∃ q, f = q + 1 := ⟨f - 1, by omega⟩
    obtain ⟨g, rfl⟩ : ∃ q, g = q + 1 := ⟨g - 1, by omega⟩
    rw [f_X2_firstRowNotUndone_2, if_neg (nI_nlt (by omega) (by omega)), f_X12_undoes_45, if_neg (nI_nlt (by omega) (by omega))]
    rcases und_in hR ha4 hb4 hN M r4 r5 (f_X2_firstRowNotUndone_2 f) (f_X12_undoes_45 g) (show n ≤ N by omega) (n + 1) 0 1000000 1000000 no (by omega) (by omega) (by omega) with ⟨r, no', q1, q2⟩ | ⟨no', q1, q2⟩
    · exact ⟨r, no', q1, q2⟩
    · obtain ⟨r, no2, w1, w2⟩ := ih (n + 1) f g no' (by omega) (by omega) (by omega)
      exact ⟨r, no2, q1.trans w1, q2.trans w2⟩
end
theorem op_undoes (a0 : Int32) (a1 : Int32) (a2 : Int32) : oRW (f_X11_undoes a0 a1 a2) (f_X12_undoes a0 a1 a2) := by
  intro X M hR
  unfold f_X11_undoes f_X12_undoes
  rw [isLawX, isLawM, jbd_s, jbd_s]
  rcases rng (x := a0) (M := 3) (m := 3) (by decide) with ⟨a, ha, rfl⟩ | hbad
  · have ha4 : a < 4 := by omega
    rw [b01_in (m := 3) (M := 3) rfl ha (by decide), if_neg one_ne, if_neg one_ne, isLawX, isLawM, jbd_s, jbd_s]
    rcases rng (x := a1) (M := 3) (m := 3) (by decide) with ⟨b, hb, rfl⟩ | hbad
    · have hb4 : b < 4 := by omega
      rw [b01_in (m := 3) (M := 3) rfl hb (by decide), if_neg one_ne, if_neg one_ne, within_eq, inI a2 24 24 (by decide), jbd_s, jbd_s]
      rcases rng (x := a2) (M := 24) (m := 24) (by decide) with ⟨n, hn, rfl⟩ | hbad
      · rw [b01_in (m := 24) (M := 24) rfl hn (by decide), if_neg one_ne, if_neg one_ne, jgd_n _ ha4 (by decide)]
        simp only [jgd_n _ hb4 (show 4 < 2 ^ 31 by decide)]
        obtain ⟨M1, M2, r1, r2, r3, r4, r5⟩ := two_rows hR ha4 hb4 hn
        rw [r1, jbd_s, r2, jbd_s]
        obtain ⟨r, no', u1, u2⟩ := und_out hR ha4 hb4 hn M2 r4 r5 (n + 1) 0 1000000 1000000 (M_isNo M2) (by omega) (by omega) (by omega)
        refine ⟨r, M_isNo_s M2 no', ?_, u2, hR.core r3⟩
        have fin : jbd (f_X2_firstRowNotUndone (nI n) (xLaw X a) (xLaw X b)) (fun r39 => some r39) = some r := by
          rw [show f_X2_firstRowNotUndone (nI n) (xLaw X a) (xLaw X b) = some r from u1, jbd_s]
        rw [← fin]
        rcases (show a = 0 ∨ a = 1 ∨ a = 2 ∨ a = 3 by omega) with rfl | rfl | rfl | rfl <;> rcases (show b = 0 ∨ b = 1 ∨ b = 2 ∨ b = 3 by omega) with rfl | rfl | rfl | rfl <;> rfl
      · rw [b01_f hbad, if_pos rfl, if_pos rfl]; exact ⟨_, M, rfl, rfl, hR⟩
    · rw [b01_f hbad, if_pos rfl, if_pos rfl]
      exact ⟨_, M, rfl, rfl, hR⟩
  · rw [b01_f hbad, if_pos rfl, if_pos rfl]
    exact ⟨_, M, rfl, rfl, hR⟩
