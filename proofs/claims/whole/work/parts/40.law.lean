def jScr (E : jE) (b L : Nat) (xs : Nat → Int32) : Prop := match E with
  | (p, l, e, R, s, m, args, below, meth, c, G, A, rw, Q, kc, ks) => va_X b L xs s s.heap ∧ b < s.heap.size ∧ ¬ A b
theorem j_sld {E : jE} {cc : ByteArray} {nL : Nat} {own : String} {h : Nat} {ws : va_W} {pc pc' : Nat} {lv : List (Nat × Value)} {st : List Value} {b L : Nat} {xs : Nat → Int32} {i : Int32} (K : jC E cc nL own h) (hd : decode cc pc = .ok (.iaload, 1)) (hs : jScr E b L xs) (hi : vp_in i L) (hp : pc + 1 = pc') (k : J E nL ws pc' lv (.int (xs i.toNatClampNeg) :: st)) : J E nL ws pc lv (.int i :: .ref b :: st) := by
  obtain ⟨p, l, e, R, s, m, args, below, meth, c, G, A, rw, Q, kc, ks⟩ := E
  subst hp
  intro H locs ls hP hD hS hl
  exact va_sld K.1.1 K.1.2.1 hs.1 hs.2.1 hs.2.2 hS hi hd (k H locs ls hP hD hS hl)
theorem j_slen {E : jE} {cc : ByteArray} {nL : Nat} {own : String} {h : Nat} {ws : va_W} {pc pc' : Nat} {lv : List (Nat × Value)} {st : List Value} {b L : Nat} {xs : Nat → Int32} (K : jC E cc nL own h) (hd : decode cc pc = .ok (.arraylength, 1)) (hs : jScr E b L xs) (hp : pc + 1 = pc') (k : J E nL ws pc' lv (.int (Int32.ofNat L) :: st)) : J E nL ws pc lv (.ref b :: st) := by
  obtain ⟨p, l, e, R, s, m, args, below, meth, c, G, A, rw, Q, kc, ks⟩ := E
  subst hp
  intro H locs ls hP hD hS hl
  exact va_slen K.1.1 K.1.2.1 hs.1 hs.2.1 hs.2.2 hS hd (k H locs ls hP hD hS hl)
theorem jmrg_mid : ∀ (A' A P B : va_W), A.length = A'.length → jmrg (P ++ (A ++ B)) (List.range' P.length A'.length) A' = P ++ (A' ++ B)
  | [], A, P, B, h => by
    have h1 : A = [] := List.eq_nil_of_length_eq_zero h
    subst h1
    rfl
  | a' :: A', [], P, B, h => by simp at h
  | a' :: A', a :: A, P, B, h => by
    have ih := jmrg_mid A' A (P ++ [a]) B (by simpa using h)
    have e1 : (P ++ [a]) ++ (A ++ B) = P ++ (a :: A ++ B) := by simp
    have e2 : (P ++ [a]).length = P.length + 1 := by simp
    rw [e1, e2] at ih
    show (jmrg (P ++ (a :: A ++ B)) (List.range' (P.length + 1) A'.length) A').set P.length a' = _
    rw [ih, List.append_assoc, List.set_append_right _ _ (Nat.le_refl _), Nat.sub_self]
    rfl
theorem ad_XM (G : jG) (a0 a1 : Nat → Nat) (s s' : XS) (t t' : MS) : (wX G a0 s' ++ wM G a1 t').map Prod.fst = (wX G a0 s ++ wM G a1 t).map Prod.fst := rfl
theorem jtab27 {x : Int32} (h0 : ¬ x = 0) (h1 : ¬ x = 1) (h2 : ¬ x = 2) (h3 : ¬ x = 3) (h4 : ¬ x = 4) (h5 : ¬ x = 5) (h6 : ¬ x = 6) (h7 : ¬ x = 7) (h8 : ¬ x = 8) (h9 : ¬ x = 9) (h10 : ¬ x = 10) (h11 : ¬ x = 11) (h12 : ¬ x = 12) (h13 : ¬ x = 13) (h14 : ¬ x = 14) (h15 : ¬ x = 15) (h16 : ¬ x = 16) (h17 : ¬ x = 17) (h18 : ¬ x = 18) (h19 : ¬ x = 19) (h20 : ¬ x = 20) (h21 : ¬ x = 21) (h22 : ¬ x = 22) (h23 : ¬ x = 23) (h24 : ¬ x = 24) (h25 : ¬ x = 25) (h26 : ¬ x = 26) : x.toInt < 0 ∨ 26 < x.toInt := by
  have g0 := lv_neT (a := 0) h0 (by decide)
  have g1 := lv_neT (a := 1) h1 (by decide)
  have g2 := lv_neT (a := 2) h2 (by decide)
  have g3 := lv_neT (a := 3) h3 (by decide)
  have g4 := lv_neT (a := 4) h4 (by decide)
  have g5 := lv_neT (a := 5) h5 (by decide)
  have g6 := lv_neT (a := 6) h6 (by decide)
  have g7 := lv_neT (a := 7) h7 (by decide)
  have g8 := lv_neT (a := 8) h8 (by decide)
  have g9 := lv_neT (a := 9) h9 (by decide)
  have g10 := lv_neT (a := 10) h10 (by decide)
  have g11 := lv_neT (a := 11) h11 (by decide)
  have g12 := lv_neT (a := 12) h12 (by decide)
  have g13 := lv_neT (a := 13) h13 (by decide)
  have g14 := lv_neT (a := 14) h14 (by decide)
  have g15 := lv_neT (a := 15) h15 (by decide)
  have g16 := lv_neT (a := 16) h16 (by decide)
  have g17 := lv_neT (a := 17) h17 (by decide)
  have g18 := lv_neT (a := 18) h18 (by decide)
  have g19 := lv_neT (a := 19) h19 (by decide)
  have g20 := lv_neT (a := 20) h20 (by decide)
  have g21 := lv_neT (a := 21) h21 (by decide)
  have g22 := lv_neT (a := 22) h22 (by decide)
  have g23 := lv_neT (a := 23) h23 (by decide)
  have g24 := lv_neT (a := 24) h24 (by decide)
  have g25 := lv_neT (a := 25) h25 (by decide)
  have g26 := lv_neT (a := 26) h26 (by decide)
  omega
theorem cl_1000_s (G : jG) (a0 : Nat → Nat) (a1 : Nat → Nat) (s : XS) (t : MS) : ([0, 1, 2, 3, 4, 5, 6, 7, 8, 9, 10, 11, 12, 13, 14, 15, 16, 17, 18, 19, 20, 21, 22, 23, 24, 25, 26, 27, 28, 29, 30, 31, 32, 33, 34, 35, 36, 37, 38, 39, 40, 41, 42, 43, 44, 45, 46, 47, 48, 49, 50, 51, 52, 53, 54, 55] : List Nat).map (fun i => ((wX G a0 s ++ wM G a1 t))[i]?) = (wX G a0 s).map some := rfl
theorem cl_1000_m (G : jG) (a0 : Nat → Nat) (a1 : Nat → Nat) (s : XS) (t : MS) (t0 : XS) : jmrg ((wX G a0 s ++ wM G a1 t)) [0, 1, 2, 3, 4, 5, 6, 7, 8, 9, 10, 11, 12, 13, 14, 15, 16, 17, 18, 19, 20, 21, 22, 23, 24, 25, 26, 27, 28, 29, 30, 31, 32, 33, 34, 35, 36, 37, 38, 39, 40, 41, 42, 43, 44, 45, 46, 47, 48, 49, 50, 51, 52, 53, 54, 55] (wX G a0 t0) = (wX G a0 t0 ++ wM G a1 t) := jmrg_mid (wX G a0 t0) (wX G a0 s) [] (wM G a1 t) rfl
theorem cl_1001_s (G : jG) (a0 : Nat → Nat) (a1 : Nat → Nat) (s : XS) (t : MS) : ([56, 57, 58, 59, 60, 61, 62, 63, 64, 65, 66, 67, 68, 69, 70, 71, 72] : List Nat).map (fun i => ((wX G a0 s ++ wM G a1 t))[i]?) = (wM G a1 t).map some := rfl
theorem cl_1001_m (G : jG) (a0 : Nat → Nat) (a1 : Nat → Nat) (s : XS) (t : MS) (t0 : MS) : jmrg ((wX G a0 s ++ wM G a1 t)) [56, 57, 58, 59, 60, 61, 62, 63, 64, 65, 66, 67, 68, 69, 70, 71, 72] (wM G a1 t0) = (wX G a0 s ++ wM G a1 t0) := (congrArg (fun z => jmrg (wX G a0 s ++ z) _ _) (List.append_nil (wM G a1 t)).symm).trans ((jmrg_mid (wM G a1 t0) (wM G a1 t) (wX G a0 s) [] rfl).trans (congrArg (fun z => wX G a0 s ++ z) (List.append_nil _)))
theorem cl_1002_f (G : jG) (a0 : Nat → Nat) (a1 : Nat → Nat) (s : XS) (t : MS) : ([0, 1, 2, 3, 4, 5, 6, 7, 8, 9, 10, 11, 12, 13, 14, 15, 16, 17, 18, 19, 20, 21, 22, 23, 24, 25, 26, 27, 28, 29, 30, 31, 32, 33, 34, 35, 36, 37, 38, 39, 40, 41, 42, 43, 44, 45, 46, 47, 48, 49, 50, 51, 52, 53, 54, 55] : List Nat).filterMap (fun i => ((wX G a0 s ++ wM G a1 t))[i]?) = (wX G a0 s) := rfl
theorem cl_1003_f (G : jG) (a0 : Nat → Nat) (a1 : Nat → Nat) (s : XS) (t : MS) : ([56, 57, 58, 59, 60, 61, 62, 63, 64, 65, 66, 67, 68, 69, 70, 71, 72] : List Nat).filterMap (fun i => ((wX G a0 s ++ wM G a1 t))[i]?) = (wM G a1 t) := rfl
def f_L_law_1204 (k18 : Int32 → XS → MS → (Nat → Int32) → Nat → Option (Int32 × XS × MS)) (v3 : Int32) (s0 : XS) (s1 : MS) (xs : (Nat → Int32)) (L : Nat) : Option (Int32 × XS × MS) :=
   k18 (v3 + (5 : Int32)) s0 s1 xs L
def f_L_law_18 : Nat → Int32 → XS → MS → (Nat → Int32) → Nat → Option (Int32 × XS × MS)
  | 0, _, _, _, _, _ => none
  | n + 1, v3, s0, s1, xs, L =>
   if ((Int32.ofNat L) - (5 : Int32)) < v3 then
   jzb (1 : Int32) (
    some ((1 : Int32), s0, s1))
  else
   jgd v3 L (
    if ((xs (Int32.toNatClampNeg v3)) &&& (31 : Int32)) = 0 then (
     jgd (v3 + (1 : Int32)) L (
      jgd (v3 + (2 : Int32)) L (
       jgd (v3 + (3 : Int32)) L (
        jbd (f_X11_write (xs (Int32.toNatClampNeg (v3 + (1 : Int32)))) (((Int32.toInt64 (xs (Int32.toNatClampNeg (v3 + (2 : Int32))))) <<< (Int32.toInt64 (32 : Int32) &&& 63)) ||| ((Int32.toInt64 (xs (Int32.toNatClampNeg (v3 + (3 : Int32))))) &&& (4294967295 : Int64))) s0) (fun r182 =>
         jgd (v3 + (1 : Int32)) L (
          jgd (v3 + (2 : Int32)) L (
           jgd (v3 + (3 : Int32)) L (
            jbd (f_X12_write (xs (Int32.toNatClampNeg (v3 + (1 : Int32)))) (((Int32.toInt64 (xs (Int32.toNatClampNeg (v3 + (2 : Int32))))) <<< (Int32.toInt64 (32 : Int32) &&& 63)) ||| ((Int32.toInt64 (xs (Int32.toNatClampNeg (v3 + (3 : Int32))))) &&& (4294967295 : Int64))) s1) (fun r211 =>
             if (r182.1) = (r211.1) then
              f_L_law_1204 (f_L_law_18 n) v3 (r182.2) (r211.2) xs L
             else
              jzb (0 : Int32) (
               some ((0 : Int32), (r182.2), (r211.2)))))))))))) else if ((xs (Int32.toNatClampNeg v3)) &&& (31 : Int32)) = 1 then (
     jbd (f_X11_wipe s0) (fun r220 =>
      jbd (f_X12_wipe s1) (fun r224 =>
       if (r220.1) = (r224.1) then
        f_L_law_1204 (f_L_law_18 n) v3 (r220.2) (r224.2) xs L
       else
        jzb (0 : Int32) (
         some ((0 : Int32), (r220.2), (r224.2)))))) else if ((xs (Int32.toNatClampNeg v3)) &&& (31 : Int32)) = 2 then (
     jbd (f_X11_fault s0) (fun r233 =>
      jbd (f_X12_fault s1) (fun r237 =>
       if r233 = (r237.1) then
        f_L_law_1204 (f_L_law_18 n) v3 s0 (r237.2) xs L
       else
        jzb (0 : Int32) (
         some ((0 : Int32), s0, (r237.2)))))) else if ((xs (Int32.toNatClampNeg v3)) &&& (31 : Int32)) = 3 then (
     jgd (v3 + (1 : Int32)) L (
      jbd (f_X11_lay (xs (Int32.toNatClampNeg (v3 + (1 : Int32)))) s0) (fun r251 =>
       jgd (v3 + (1 : Int32)) L (
        jbd (f_X12_lay (xs (Int32.toNatClampNeg (v3 + (1 : Int32)))) s1) (fun r260 =>
         if (r251.1) = (r260.1) then
          f_L_law_1204 (f_L_law_18 n) v3 (r251.2) (r260.2) xs L
         else
          jzb (0 : Int32) (
           some ((0 : Int32), (r251.2), (r260.2)))))))) else if ((xs (Int32.toNatClampNeg v3)) &&& (31 : Int32)) = 4 then (
     jgd (v3 + (1 : Int32)) L (
      jgd (v3 + (2 : Int32)) L (
       jgd (v3 + (3 : Int32)) L (
        jbd (f_X11_number (xs (Int32.toNatClampNeg (v3 + (1 : Int32)))) (xs (Int32.toNatClampNeg (v3 + (2 : Int32)))) (xs (Int32.toNatClampNeg (v3 + (3 : Int32)))) s0) (fun r284 =>
         jgd (v3 + (1 : Int32)) L (
          jgd (v3 + (2 : Int32)) L (
           jgd (v3 + (3 : Int32)) L (
            jbd (f_X12_number (xs (Int32.toNatClampNeg (v3 + (1 : Int32)))) (xs (Int32.toNatClampNeg (v3 + (2 : Int32)))) (xs (Int32.toNatClampNeg (v3 + (3 : Int32)))) s1) (fun r303 =>
             if (lg_cmp r284 (r303.1)) = 0 then
              f_L_law_1204 (f_L_law_18 n) v3 s0 (r303.2) xs L
             else
              jzb (0 : Int32) (
               some ((0 : Int32), s0, (r303.2)))))))))))) else if ((xs (Int32.toNatClampNeg v3)) &&& (31 : Int32)) = 5 then (
     jgd (v3 + (1 : Int32)) L (
      jgd (v3 + (2 : Int32)) L (
       jgd (v3 + (3 : Int32)) L (
        jbd (f_X11_sum (xs (Int32.toNatClampNeg (v3 + (1 : Int32)))) (xs (Int32.toNatClampNeg (v3 + (2 : Int32)))) (xs (Int32.toNatClampNeg (v3 + (3 : Int32)))) s0) (fun r328 =>
         jgd (v3 + (1 : Int32)) L (
          jgd (v3 + (2 : Int32)) L (
           jgd (v3 + (3 : Int32)) L (
            jbd (f_X12_sum (xs (Int32.toNatClampNeg (v3 + (1 : Int32)))) (xs (Int32.toNatClampNeg (v3 + (2 : Int32)))) (xs (Int32.toNatClampNeg (v3 + (3 : Int32)))) s1) (fun r347 =>
             if (lg_cmp r328 (r347.1)) = 0 then
              f_L_law_1204 (f_L_law_18 n) v3 s0 (r347.2) xs L
             else
              jzb (0 : Int32) (
               some ((0 : Int32), s0, (r347.2)))))))))))) else if ((xs (Int32.toNatClampNeg v3)) &&& (31 : Int32)) = 6 then (
     jgd (v3 + (1 : Int32)) L (
      jgd (v3 + (2 : Int32)) L (
       jgd (v3 + (3 : Int32)) L (
        jbd (f_X11_shape (xs (Int32.toNatClampNeg (v3 + (1 : Int32)))) (xs (Int32.toNatClampNeg (v3 + (2 : Int32)))) (xs (Int32.toNatClampNeg (v3 + (3 : Int32)))) s0) (fun r372 =>
         jgd (v3 + (1 : Int32)) L (
          jgd (v3 + (2 : Int32)) L (
           jgd (v3 + (3 : Int32)) L (
            jbd (f_X12_shape (xs (Int32.toNatClampNeg (v3 + (1 : Int32)))) (xs (Int32.toNatClampNeg (v3 + (2 : Int32)))) (xs (Int32.toNatClampNeg (v3 + (3 : Int32)))) s1) (fun r391 =>
             if r372 = (r391.1) then
              f_L_law_1204 (f_L_law_18 n) v3 s0 (r391.2) xs L
             else
              jzb (0 : Int32) (
               some ((0 : Int32), s0, (r391.2)))))))))))) else if ((xs (Int32.toNatClampNeg v3)) &&& (31 : Int32)) = 7 then (
     jgd (v3 + (1 : Int32)) L (
      jgd (v3 + (2 : Int32)) L (
       jgd (v3 + (3 : Int32)) L (
        jgd (v3 + (4 : Int32)) L (
         jbd (f_X11_rest (xs (Int32.toNatClampNeg (v3 + (1 : Int32)))) (xs (Int32.toNatClampNeg (v3 + (2 : Int32)))) (xs (Int32.toNatClampNeg (v3 + (3 : Int32)))) (xs (Int32.toNatClampNeg (v3 + (4 : Int32)))) s0) (fun r420 =>
          jgd (v3 + (1 : Int32)) L (
           jgd (v3 + (2 : Int32)) L (
            jgd (v3 + (3 : Int32)) L (
             jgd (v3 + (4 : Int32)) L (
              jbd (f_X12_rest (xs (Int32.toNatClampNeg (v3 + (1 : Int32)))) (xs (Int32.toNatClampNeg (v3 + (2 : Int32)))) (xs (Int32.toNatClampNeg (v3 + (3 : Int32)))) (xs (Int32.toNatClampNeg (v3 + (4 : Int32)))) s1) (fun r444 =>
               if (r420.1) = (r444.1) then
                f_L_law_1204 (f_L_law_18 n) v3 (r420.2) (r444.2) xs L
               else
                jzb (0 : Int32) (
                 some ((0 : Int32), (r420.2), (r444.2)))))))))))))) else if ((xs (Int32.toNatClampNeg v3)) &&& (31 : Int32)) = 8 then (
     jgd (v3 + (1 : Int32)) L (
      jgd (v3 + (2 : Int32)) L (
       jgd (v3 + (3 : Int32)) L (
        jgd (v3 + (4 : Int32)) L (
         jbd (f_X11_times (xs (Int32.toNatClampNeg (v3 + (1 : Int32)))) (xs (Int32.toNatClampNeg (v3 + (2 : Int32)))) (xs (Int32.toNatClampNeg (v3 + (3 : Int32)))) (xs (Int32.toNatClampNeg (v3 + (4 : Int32)))) s0) (fun r473 =>
          jgd (v3 + (1 : Int32)) L (
           jgd (v3 + (2 : Int32)) L (
            jgd (v3 + (3 : Int32)) L (
             jgd (v3 + (4 : Int32)) L (
              jbd (f_X12_times (xs (Int32.toNatClampNeg (v3 + (1 : Int32)))) (xs (Int32.toNatClampNeg (v3 + (2 : Int32)))) (xs (Int32.toNatClampNeg (v3 + (3 : Int32)))) (xs (Int32.toNatClampNeg (v3 + (4 : Int32)))) s1) (fun r497 =>
               if (lg_cmp r473 (r497.1)) = 0 then
                f_L_law_1204 (f_L_law_18 n) v3 s0 (r497.2) xs L
               else
                jzb (0 : Int32) (
                 some ((0 : Int32), s0, (r497.2)))))))))))))) else if ((xs (Int32.toNatClampNeg v3)) &&& (31 : Int32)) = 9 then (
     jgd (v3 + (1 : Int32)) L (
      jgd (v3 + (2 : Int32)) L (
       jgd (v3 + (3 : Int32)) L (
        jbd (f_X11_undoes (xs (Int32.toNatClampNeg (v3 + (1 : Int32)))) (xs (Int32.toNatClampNeg (v3 + (2 : Int32)))) (xs (Int32.toNatClampNeg (v3 + (3 : Int32)))) s0) (fun r522 =>
         jgd (v3 + (1 : Int32)) L (
          jgd (v3 + (2 : Int32)) L (
           jgd (v3 + (3 : Int32)) L (
            jbd (f_X12_undoes (xs (Int32.toNatClampNeg (v3 + (1 : Int32)))) (xs (Int32.toNatClampNeg (v3 + (2 : Int32)))) (xs (Int32.toNatClampNeg (v3 + (3 : Int32)))) s1) (fun r541 =>
             if r522 = (r541.1) then
              f_L_law_1204 (f_L_law_18 n) v3 s0 (r541.2) xs L
             else
              jzb (0 : Int32) (
               some ((0 : Int32), s0, (r541.2)))))))))))) else if ((xs (Int32.toNatClampNeg v3)) &&& (31 : Int32)) = 10 then (
     jgd (v3 + (1 : Int32)) L (
      jgd (v3 + (2 : Int32)) L (
       jgd (v3 + (3 : Int32)) L (
        jbd (f_X11_back (xs (Int32.toNatClampNeg (v3 + (1 : Int32)))) (xs (Int32.toNatClampNeg (v3 + (2 : Int32)))) (xs (Int32.toNatClampNeg (v3 + (3 : Int32)))) s0) (fun r565 =>
         jgd (v3 + (1 : Int32)) L (
          jgd (v3 + (2 : Int32)) L (
           jgd (v3 + (3 : Int32)) L (
            jbd (f_X12_back (xs (Int32.toNatClampNeg (v3 + (1 : Int32)))) (xs (Int32.toNatClampNeg (v3 + (2 : Int32)))) (xs (Int32.toNatClampNeg (v3 + (3 : Int32)))) s1) (fun r584 =>
             if (lg_cmp (r565.1) (r584.1)) = 0 then
              f_L_law_1204 (f_L_law_18 n) v3 (r565.2) (r584.2) xs L
             else
              jzb (0 : Int32) (
               some ((0 : Int32), (r565.2), (r584.2)))))))))))) else if ((xs (Int32.toNatClampNeg v3)) &&& (31 : Int32)) = 11 then (
     jgd (v3 + (1 : Int32)) L (
      jgd (v3 + (2 : Int32)) L (
       jgd (v3 + (3 : Int32)) L (
        jbd (f_X11_parting (xs (Int32.toNatClampNeg (v3 + (1 : Int32)))) (xs (Int32.toNatClampNeg (v3 + (2 : Int32)))) (xs (Int32.toNatClampNeg (v3 + (3 : Int32)))) s0) (fun r609 =>
         jgd (v3 + (1 : Int32)) L (
          jgd (v3 + (2 : Int32)) L (
           jgd (v3 + (3 : Int32)) L (
            jbd (f_X12_parting (xs (Int32.toNatClampNeg (v3 + (1 : Int32)))) (xs (Int32.toNatClampNeg (v3 + (2 : Int32)))) (xs (Int32.toNatClampNeg (v3 + (3 : Int32)))) s1) (fun r628 =>
             if (r609.1) = (r628.1) then
              f_L_law_1204 (f_L_law_18 n) v3 (r609.2) (r628.2) xs L
             else
              jzb (0 : Int32) (
               some ((0 : Int32), (r609.2), (r628.2)))))))))))) else if ((xs (Int32.toNatClampNeg v3)) &&& (31 : Int32)) = 12 then (
     jgd (v3 + (1 : Int32)) L (
      jgd (v3 + (2 : Int32)) L (
       jbd (f_X11_partRank (xs (Int32.toNatClampNeg (v3 + (1 : Int32)))) (xs (Int32.toNatClampNeg (v3 + (2 : Int32)))) s0) (fun r647 =>
        jgd (v3 + (1 : Int32)) L (
         jgd (v3 + (2 : Int32)) L (
          jbd (f_X12_partRank (xs (Int32.toNatClampNeg (v3 + (1 : Int32)))) (xs (Int32.toNatClampNeg (v3 + (2 : Int32)))) s1) (fun r661 =>
           if (r647.1) = (r661.1) then
            f_L_law_1204 (f_L_law_18 n) v3 (r647.2) (r661.2) xs L
           else
            jzb (0 : Int32) (
             some ((0 : Int32), (r647.2), (r661.2)))))))))) else if ((xs (Int32.toNatClampNeg v3)) &&& (31 : Int32)) = 13 then (
     jgd (v3 + (1 : Int32)) L (
      jgd (v3 + (2 : Int32)) L (
       jgd (v3 + (3 : Int32)) L (
        jgd (v3 + (4 : Int32)) L (
         jbd (f_X11_orders (xs (Int32.toNatClampNeg (v3 + (1 : Int32)))) (xs (Int32.toNatClampNeg (v3 + (2 : Int32)))) (xs (Int32.toNatClampNeg (v3 + (3 : Int32)))) (xs (Int32.toNatClampNeg (v3 + (4 : Int32)))) s0) (fun r690 =>
          jgd (v3 + (1 : Int32)) L (
           jgd (v3 + (2 : Int32)) L (
            jgd (v3 + (3 : Int32)) L (
             jgd (v3 + (4 : Int32)) L (
              jbd (f_X12_orders (xs (Int32.toNatClampNeg (v3 + (1 : Int32)))) (xs (Int32.toNatClampNeg (v3 + (2 : Int32)))) (xs (Int32.toNatClampNeg (v3 + (3 : Int32)))) (xs (Int32.toNatClampNeg (v3 + (4 : Int32)))) s1) (fun r714 =>
               if (r690.1) = (r714.1) then
                f_L_law_1204 (f_L_law_18 n) v3 (r690.2) (r714.2) xs L
               else
                jzb (0 : Int32) (
                 some ((0 : Int32), (r690.2), (r714.2)))))))))))))) else if ((xs (Int32.toNatClampNeg v3)) &&& (31 : Int32)) = 14 then (
     jgd (v3 + (1 : Int32)) L (
      jgd (v3 + (2 : Int32)) L (
       jgd (v3 + (3 : Int32)) L (
        jbd (f_X11_mark (xs (Int32.toNatClampNeg (v3 + (1 : Int32)))) (xs (Int32.toNatClampNeg (v3 + (2 : Int32)))) (xs (Int32.toNatClampNeg (v3 + (3 : Int32)))) s0) (fun r738 =>
         jgd (v3 + (1 : Int32)) L (
          jgd (v3 + (2 : Int32)) L (
           jgd (v3 + (3 : Int32)) L (
            jbd (f_X12_mark (xs (Int32.toNatClampNeg (v3 + (1 : Int32)))) (xs (Int32.toNatClampNeg (v3 + (2 : Int32)))) (xs (Int32.toNatClampNeg (v3 + (3 : Int32)))) s1) (fun r757 =>
             if (r738.1) = (r757.1) then
              f_L_law_1204 (f_L_law_18 n) v3 (r738.2) (r757.2) xs L
             else
              jzb (0 : Int32) (
               some ((0 : Int32), (r738.2), (r757.2)))))))))))) else if ((xs (Int32.toNatClampNeg v3)) &&& (31 : Int32)) = 15 then (
     jgd (v3 + (1 : Int32)) L (
      jgd (v3 + (2 : Int32)) L (
       jbd (f_X11_rank (xs (Int32.toNatClampNeg (v3 + (1 : Int32)))) (xs (Int32.toNatClampNeg (v3 + (2 : Int32)))) s0) (fun r776 =>
        jgd (v3 + (1 : Int32)) L (
         jgd (v3 + (2 : Int32)) L (
          jbd (f_X12_rank (xs (Int32.toNatClampNeg (v3 + (1 : Int32)))) (xs (Int32.toNatClampNeg (v3 + (2 : Int32)))) s1) (fun r790 =>
           if (r776.1) = (r790.1) then
            f_L_law_1204 (f_L_law_18 n) v3 (r776.2) (r790.2) xs L
           else
            jzb (0 : Int32) (
             some ((0 : Int32), (r776.2), (r790.2)))))))))) else if ((xs (Int32.toNatClampNeg v3)) &&& (31 : Int32)) = 16 then (
     jgd (v3 + (1 : Int32)) L (
      jgd (v3 + (2 : Int32)) L (
       jbd (f_X11_over (xs (Int32.toNatClampNeg (v3 + (1 : Int32)))) (xs (Int32.toNatClampNeg (v3 + (2 : Int32)))) s0) (fun r809 =>
        jgd (v3 + (1 : Int32)) L (
         jgd (v3 + (2 : Int32)) L (
          jbd (f_X12_over (xs (Int32.toNatClampNeg (v3 + (1 : Int32)))) (xs (Int32.toNatClampNeg (v3 + (2 : Int32)))) s1) (fun r823 =>
           if (r809.1) = (r823.1) then
            f_L_law_1204 (f_L_law_18 n) v3 (r809.2) (r823.2) xs L
           else
            jzb (0 : Int32) (
             some ((0 : Int32), (r809.2), (r823.2)))))))))) else if ((xs (Int32.toNatClampNeg v3)) &&& (31 : Int32)) = 17 then (
     jgd (v3 + (1 : Int32)) L (
      jgd (v3 + (2 : Int32)) L (
       jgd (v3 + (3 : Int32)) L (
        jbd (f_X11_behind (xs (Int32.toNatClampNeg (v3 + (1 : Int32)))) (xs (Int32.toNatClampNeg (v3 + (2 : Int32)))) (xs (Int32.toNatClampNeg (v3 + (3 : Int32)))) s0) (fun r847 =>
         jgd (v3 + (1 : Int32)) L (
          jgd (v3 + (2 : Int32)) L (
           jgd (v3 + (3 : Int32)) L (
            jbd (f_X12_behind (xs (Int32.toNatClampNeg (v3 + (1 : Int32)))) (xs (Int32.toNatClampNeg (v3 + (2 : Int32)))) (xs (Int32.toNatClampNeg (v3 + (3 : Int32)))) s1) (fun r866 =>
             if (r847.1) = (r866.1) then
              f_L_law_1204 (f_L_law_18 n) v3 (r847.2) (r866.2) xs L
             else
              jzb (0 : Int32) (
               some ((0 : Int32), (r847.2), (r866.2)))))))))))) else if ((xs (Int32.toNatClampNeg v3)) &&& (31 : Int32)) = 18 then (
     jgd (v3 + (1 : Int32)) L (
      jgd (v3 + (2 : Int32)) L (
       jbd (f_X11_base (xs (Int32.toNatClampNeg (v3 + (1 : Int32)))) (xs (Int32.toNatClampNeg (v3 + (2 : Int32)))) s0) (fun r885 =>
        jgd (v3 + (1 : Int32)) L (
         jgd (v3 + (2 : Int32)) L (
          jbd (f_X12_base (xs (Int32.toNatClampNeg (v3 + (1 : Int32)))) (xs (Int32.toNatClampNeg (v3 + (2 : Int32)))) s1) (fun r899 =>
           if (r885.1) = (r899.1) then
            f_L_law_1204 (f_L_law_18 n) v3 (r885.2) (r899.2) xs L
           else
            jzb (0 : Int32) (
             some ((0 : Int32), (r885.2), (r899.2)))))))))) else if ((xs (Int32.toNatClampNeg v3)) &&& (31 : Int32)) = 19 then (
     jgd (v3 + (1 : Int32)) L (
      jgd (v3 + (2 : Int32)) L (
       jgd (v3 + (3 : Int32)) L (
        jgd (v3 + (4 : Int32)) L (
         jbd (f_X11_set (xs (Int32.toNatClampNeg (v3 + (1 : Int32)))) (xs (Int32.toNatClampNeg (v3 + (2 : Int32)))) (((Int32.toInt64 (xs (Int32.toNatClampNeg (v3 + (3 : Int32))))) <<< (Int32.toInt64 (32 : Int32) &&& 63)) ||| ((Int32.toInt64 (xs (Int32.toNatClampNeg (v3 + (4 : Int32))))) &&& (4294967295 : Int64))) s0) (fun r938 =>
          jgd (v3 + (1 : Int32)) L (
           jgd (v3 + (2 : Int32)) L (
            jgd (v3 + (3 : Int32)) L (
             jgd (v3 + (4 : Int32)) L (
              jbd (f_X12_set (xs (Int32.toNatClampNeg (v3 + (1 : Int32)))) (xs (Int32.toNatClampNeg (v3 + (2 : Int32)))) (((Int32.toInt64 (xs (Int32.toNatClampNeg (v3 + (3 : Int32))))) <<< (Int32.toInt64 (32 : Int32) &&& 63)) ||| ((Int32.toInt64 (xs (Int32.toNatClampNeg (v3 + (4 : Int32))))) &&& (4294967295 : Int64))) s1) (fun r972 =>
               if (lg_cmp (r938.1) (r972.1)) = 0 then
                f_L_law_1204 (f_L_law_18 n) v3 (r938.2) (r972.2) xs L
               else
                jzb (0 : Int32) (
                 some ((0 : Int32), (r938.2), (r972.2)))))))))))))) else if ((xs (Int32.toNatClampNeg v3)) &&& (31 : Int32)) = 20 then (
     jgd (v3 + (1 : Int32)) L (
      jgd (v3 + (2 : Int32)) L (
       jbd (f_X11_coefficient (xs (Int32.toNatClampNeg (v3 + (1 : Int32)))) (xs (Int32.toNatClampNeg (v3 + (2 : Int32)))) s0) (fun r992 =>
        jgd (v3 + (1 : Int32)) L (
         jgd (v3 + (2 : Int32)) L (
          jbd (f_X12_coefficient (xs (Int32.toNatClampNeg (v3 + (1 : Int32)))) (xs (Int32.toNatClampNeg (v3 + (2 : Int32)))) s1) (fun r1006 =>
           if (lg_cmp r992 r1006) = 0 then
            f_L_law_1204 (f_L_law_18 n) v3 s0 s1 xs L
           else
            jzb (0 : Int32) (
             some ((0 : Int32), s0, s1))))))))) else if ((xs (Int32.toNatClampNeg v3)) &&& (31 : Int32)) = 21 then (
     jgd (v3 + (1 : Int32)) L (
      jgd (v3 + (2 : Int32)) L (
       jbd (f_X11_told (xs (Int32.toNatClampNeg (v3 + (1 : Int32)))) (xs (Int32.toNatClampNeg (v3 + (2 : Int32)))) s0) (fun r1026 =>
        jgd (v3 + (1 : Int32)) L (
         jgd (v3 + (2 : Int32)) L (
          jbd (f_X12_told (xs (Int32.toNatClampNeg (v3 + (1 : Int32)))) (xs (Int32.toNatClampNeg (v3 + (2 : Int32)))) s1) (fun r1040 =>
           if r1026 = r1040 then
            f_L_law_1204 (f_L_law_18 n) v3 s0 s1 xs L
           else
            jzb (0 : Int32) (
             some ((0 : Int32), s0, s1))))))))) else if ((xs (Int32.toNatClampNeg v3)) &&& (31 : Int32)) = 22 then (
     jgd (v3 + (1 : Int32)) L (
      jgd (v3 + (2 : Int32)) L (
       jbd (f_X11_turn (xs (Int32.toNatClampNeg (v3 + (1 : Int32)))) (xs (Int32.toNatClampNeg (v3 + (2 : Int32)))) s0) (fun r1059 =>
        jgd (v3 + (1 : Int32)) L (
         jgd (v3 + (2 : Int32)) L (
          jbd (f_X12_turn (xs (Int32.toNatClampNeg (v3 + (1 : Int32)))) (xs (Int32.toNatClampNeg (v3 + (2 : Int32)))) s1) (fun r1073 =>
           if (r1059.1) = (r1073.1) then
            f_L_law_1204 (f_L_law_18 n) v3 (r1059.2) (r1073.2) xs L
           else
            jzb (0 : Int32) (
             some ((0 : Int32), (r1059.2), (r1073.2)))))))))) else if ((xs (Int32.toNatClampNeg v3)) &&& (31 : Int32)) = 23 then (
     jgd (v3 + (1 : Int32)) L (
      jgd (v3 + (2 : Int32)) L (
       jgd (v3 + (3 : Int32)) L (
        jbd (f_X11_value (xs (Int32.toNatClampNeg (v3 + (1 : Int32)))) (xs (Int32.toNatClampNeg (v3 + (2 : Int32)))) (xs (Int32.toNatClampNeg (v3 + (3 : Int32)))) s0) (fun r1097 =>
         jgd (v3 + (1 : Int32)) L (
          jgd (v3 + (2 : Int32)) L (
           jgd (v3 + (3 : Int32)) L (
            jbd (f_X12_value (xs (Int32.toNatClampNeg (v3 + (1 : Int32)))) (xs (Int32.toNatClampNeg (v3 + (2 : Int32)))) (xs (Int32.toNatClampNeg (v3 + (3 : Int32)))) s1) (fun r1116 =>
             if (lg_cmp (r1097.1) (r1116.1)) = 0 then
              f_L_law_1204 (f_L_law_18 n) v3 (r1097.2) (r1116.2) xs L
             else
              jzb (0 : Int32) (
               some ((0 : Int32), (r1097.2), (r1116.2)))))))))))) else if ((xs (Int32.toNatClampNeg v3)) &&& (31 : Int32)) = 24 then (
     jgd (v3 + (1 : Int32)) L (
      jbd (f_X11_sumUp (xs (Int32.toNatClampNeg (v3 + (1 : Int32)))) s0) (fun r1131 =>
       jgd (v3 + (1 : Int32)) L (
        jbd (f_X12_sumUp (xs (Int32.toNatClampNeg (v3 + (1 : Int32)))) s1) (fun r1140 =>
         if (r1131.1) = (r1140.1) then
          f_L_law_1204 (f_L_law_18 n) v3 (r1131.2) (r1140.2) xs L
         else
          jzb (0 : Int32) (
           some ((0 : Int32), (r1131.2), (r1140.2)))))))) else if ((xs (Int32.toNatClampNeg v3)) &&& (31 : Int32)) = 25 then (
     jgd (v3 + (1 : Int32)) L (
      jgd (v3 + (2 : Int32)) L (
       jbd (f_X11_root (xs (Int32.toNatClampNeg (v3 + (1 : Int32)))) (xs (Int32.toNatClampNeg (v3 + (2 : Int32)))) s0) (fun r1159 =>
        jgd (v3 + (1 : Int32)) L (
         jgd (v3 + (2 : Int32)) L (
          jbd (f_X12_root (xs (Int32.toNatClampNeg (v3 + (1 : Int32)))) (xs (Int32.toNatClampNeg (v3 + (2 : Int32)))) s1) (fun r1173 =>
           if r1159 = r1173 then
            f_L_law_1204 (f_L_law_18 n) v3 s0 s1 xs L
           else
            jzb (0 : Int32) (
             some ((0 : Int32), s0, s1))))))))) else if ((xs (Int32.toNatClampNeg v3)) &&& (31 : Int32)) = 26 then (
     jgd (v3 + (1 : Int32)) L (
      jbd (f_X11_count (xs (Int32.toNatClampNeg (v3 + (1 : Int32)))) s0) (fun r1187 =>
       jgd (v3 + (1 : Int32)) L (
        jbd (f_X12_count (xs (Int32.toNatClampNeg (v3 + (1 : Int32)))) s1) (fun r1196 =>
         if r1187 = r1196 then
          f_L_law_1204 (f_L_law_18 n) v3 s0 s1 xs L
         else
          jzb (0 : Int32) (
           some ((0 : Int32), s0, s1))))))) else (
     f_L_law_1204 (f_L_law_18 n) v3 s0 s1 xs L))
def f_L_law_16 (s0 : XS) (s1 : MS) (xs : (Nat → Int32)) (L : Nat) : Option (Int32 × XS × MS) :=
   f_L_law_18 jFU (0 : Int32) s0 s1 xs L
set_option maxRecDepth 100000 in
set_option maxHeartbeats 4000000 in
theorem b_L_law_1204 {E : jE} (a0 : Nat → Nat) (a1 : Nat → Nat) (b : Nat) (xs : Nat → Int32) (L : Nat) (hscr : jScr E b L xs) {res : Int32 × XS × MS} (K : jC E cL_law 4 RL 9) (hrw : jrw E) (HR : jRZ E cL_law 4 (wX (jg E) a0 (res.2.1) ++ wM (jg E) a1 (res.2.2)) (res.1)) (k18 : Int32 → XS → MS → (Nat → Int32) → Nat → Option (Int32 × XS × MS)) (hk18 : ∀ (v3 : Int32) (s0 : XS) (s1 : MS), k18 v3 s0 s1 xs L = some res → J E 4 (wX (jg E) a0 s0 ++ wM (jg E) a1 s1) 18 [(0, .ref b), (1, .ref (a0 0)), (2, .ref (a1 0)), (3, .int v3)] []) : ∀ (v3 : Int32) (s0 : XS) (s1 : MS), f_L_law_1204 k18 v3 s0 s1 xs L = some res → J E 4 (wX (jg E) a0 s0 ++ wM (jg E) a1 s1) 1204 [(0, .ref b), (1, .ref (a0 0)), (2, .ref (a1 0)), (3, .int v3)] [] := by
  intro v3 s0 s1 h
  unfold f_L_law_1204 at h
  refine j_iinc (pc' := 1207) (j := 3) (v := (v3 + (5 : Int32))) (lv' := [(3, .int (v3 + (5 : Int32))), (0, .ref b), (1, .ref (a0 0)), (2, .ref (a1 0))]) K dL_law_1204 rfl rfl (by decide) rfl rfl ?_
  refine j_goto (tgt := 18) K dL_law_1207 (by decide) ?_
  refine j_sub [1, 2, 3, 0] rfl ?_
  exact hk18 (v3 + (5 : Int32)) s0 s1 h
set_option maxRecDepth 100000 in
set_option maxHeartbeats 4000000 in
theorem b_L_law_18 {E : jE} (a0 : Nat → Nat) (a1 : Nat → Nat) (b : Nat) (xs : Nat → Int32) (L : Nat) (hscr : jScr E b L xs) {res : Int32 × XS × MS} (K : jC E cL_law 4 RL 9) (hrw : jrw E) (HR : jRZ E cL_law 4 (wX (jg E) a0 (res.2.1) ++ wM (jg E) a1 (res.2.2)) (res.1)) : ∀ (n : Nat) (v3 : Int32) (s0 : XS) (s1 : MS), f_L_law_18 n v3 s0 s1 xs L = some res → J E 4 (wX (jg E) a0 s0 ++ wM (jg E) a1 s1) 18 [(0, .ref b), (1, .ref (a0 0)), (2, .ref (a1 0)), (3, .int v3)] [] := by
  intro n
  induction n with
  | zero => intro _ _ _ h; cases h
  | succ n ih =>
    intro v3 s0 s1 h
    rw [f_L_law_18] at h
    refine j_iload_n (pc' := 19) K dL_law_18 rfl 3 rfl rfl ?_
    refine j_aload_n (pc' := 20) K dL_law_19 rfl 0 rfl rfl ?_
    refine j_slen (pc' := 21) K dL_law_20 hscr rfl ?_
    refine j_iconst (pc' := 22) (v := (5 : Int32)) K dL_law_21 (by decide) rfl ?_
    refine j_isub (pc' := 23) K dL_law_22 rfl ?_
    refine j_icmp_gt (pc' := 26) (tgt := 1210) K dL_law_23 (by decide) rfl (fun hc => ?_) (fun hc => ?_)
    · have h := jit hc h
      refine j_iconst (pc' := 1211) (v := (1 : Int32)) K dL_law_1210 (by decide) rfl ?_
      obtain ⟨hg, h⟩ := jzb_some h
      obtain rfl := Option.some.inj h
      exact HR _ _ hg dL_law_1211
    · have h := jif hc h
      refine j_aload_n (pc' := 27) K dL_law_26 rfl 0 rfl rfl ?_
      refine j_iload_n (pc' := 28) K dL_law_27 rfl 3 rfl rfl ?_
      obtain ⟨hg, h⟩ := jgd_some h
      refine j_sld (pc' := 29) K dL_law_28 hscr hg rfl ?_
      refine j_bipush (pc' := 31) (v := (31 : Int32)) K dL_law_29 (by decide) rfl ?_
      refine j_iand (pc' := 32) K dL_law_31 rfl ?_
      by_cases hc : ((xs (Int32.toNatClampNeg v3)) &&& (31 : Int32)) = 0
      · have h := jit hc h
        refine j_tabIn (tgt := 156) K dL_law_32 (by rw [hc]; decide) (by rw [hc]; decide) (by rw [hc]; rfl) (by decide) ?_
        refine j_aload_n (pc' := 157) K dL_law_156 rfl 1 rfl rfl ?_
        refine j_aload_n (pc' := 158) K dL_law_157 rfl 0 rfl rfl ?_
        refine j_iload_n (pc' := 159) K dL_law_158 rfl 3 rfl rfl ?_
        refine j_iconst (pc' := 160) (v := (1 : Int32)) K dL_law_159 (by decide) rfl ?_
        refine j_iadd (pc' := 161) K dL_law_160 rfl ?_
        obtain ⟨hg, h⟩ := jgd_some h
        refine j_sld (pc' := 162) K dL_law_161 hscr hg rfl ?_
        refine j_aload_n (pc' := 163) K dL_law_162 rfl 0 rfl rfl ?_
        refine j_iload_n (pc' := 164) K dL_law_163 rfl 3 rfl rfl ?_
        refine j_iconst (pc' := 165) (v := (2 : Int32)) K dL_law_164 (by decide) rfl ?_
        refine j_iadd (pc' := 166) K dL_law_165 rfl ?_
        obtain ⟨hg, h⟩ := jgd_some h
        refine j_sld (pc' := 167) K dL_law_166 hscr hg rfl ?_
        refine j_i2l (pc' := 168) K dL_law_167 rfl ?_
        refine j_bipush (pc' := 170) (v := (32 : Int32)) K dL_law_168 (by decide) rfl ?_
        refine j_lshl (pc' := 171) K dL_law_170 rfl ?_
        refine j_aload_n (pc' := 172) K dL_law_171 rfl 0 rfl rfl ?_
        refine j_iload_n (pc' := 173) K dL_law_172 rfl 3 rfl rfl ?_
        refine j_iconst (pc' := 174) (v := (3 : Int32)) K dL_law_173 (by decide) rfl ?_
        refine j_iadd (pc' := 175) K dL_law_174 rfl ?_
        obtain ⟨hg, h⟩ := jgd_some h
        refine j_sld (pc' := 176) K dL_law_175 hscr hg rfl ?_
        refine j_i2l (pc' := 177) K dL_law_176 rfl ?_
        refine j_ldc2 (pc' := 180) K dL_law_177 u_5_111 rfl ?_
        refine j_land (pc' := 181) K dL_law_180 rfl ?_
        refine j_lor (pc' := 182) K dL_law_181 rfl ?_
        obtain ⟨r182, hr182, h⟩ := jbd_some h
        refine j_rw (pc' := 185) (ws' := (wX (jg E) a0 (r182.2) ++ wM (jg E) a1 s1)) K (fun H hP => jrun_V K dL_law_182 (M_X11_write (jl E) (jg E) a0 (xs (Int32.toNatClampNeg (v3 + (1 : Int32)))) (((Int32.toInt64 (xs (Int32.toNatClampNeg (v3 + (2 : Int32))))) <<< (Int32.toInt64 (32 : Int32) &&& 63)) ||| ((Int32.toInt64 (xs (Int32.toNatClampNeg (v3 + (3 : Int32))))) &&& (4294967295 : Int64))) s0 hr182) u_1_216 u_1_213 u_1_214 u_1_215 u_1_1 ⟨ok_X11_write, by decide, by decide⟩ rfl (Nat.le_of_ble_eq_true rfl) 0 rfl rfl H hP) hrw [0, 1, 2, 3, 4, 5, 6, 7, 8, 9, 10, 11, 12, 13, 14, 15, 16, 17, 18, 19, 20, 21, 22, 23, 24, 25, 26, 27, 28, 29, 30, 31, 32, 33, 34, 35, 36, 37, 38, 39, 40, 41, 42, 43, 44, 45, 46, 47, 48, 49, 50, 51, 52, 53, 54, 55] rfl (cl_1000_s ..) rfl (cl_1000_m ..) (ad_XM ..) rfl ?_
        refine j_aload_n (pc' := 186) K dL_law_185 rfl 2 rfl rfl ?_
        refine j_aload_n (pc' := 187) K dL_law_186 rfl 0 rfl rfl ?_
        refine j_iload_n (pc' := 188) K dL_law_187 rfl 3 rfl rfl ?_
        refine j_iconst (pc' := 189) (v := (1 : Int32)) K dL_law_188 (by decide) rfl ?_
        refine j_iadd (pc' := 190) K dL_law_189 rfl ?_
        obtain ⟨hg, h⟩ := jgd_some h
        refine j_sld (pc' := 191) K dL_law_190 hscr hg rfl ?_
        refine j_aload_n (pc' := 192) K dL_law_191 rfl 0 rfl rfl ?_
        refine j_iload_n (pc' := 193) K dL_law_192 rfl 3 rfl rfl ?_
        refine j_iconst (pc' := 194) (v := (2 : Int32)) K dL_law_193 (by decide) rfl ?_
        refine j_iadd (pc' := 195) K dL_law_194 rfl ?_
        obtain ⟨hg, h⟩ := jgd_some h
        refine j_sld (pc' := 196) K dL_law_195 hscr hg rfl ?_
        refine j_i2l (pc' := 197) K dL_law_196 rfl ?_
        refine j_bipush (pc' := 199) (v := (32 : Int32)) K dL_law_197 (by decide) rfl ?_
        refine j_lshl (pc' := 200) K dL_law_199 rfl ?_
        refine j_aload_n (pc' := 201) K dL_law_200 rfl 0 rfl rfl ?_
        refine j_iload_n (pc' := 202) K dL_law_201 rfl 3 rfl rfl ?_
        refine j_iconst (pc' := 203) (v := (3 : Int32)) K dL_law_202 (by decide) rfl ?_
        refine j_iadd (pc' := 204) K dL_law_203 rfl ?_
        obtain ⟨hg, h⟩ := jgd_some h
        refine j_sld (pc' := 205) K dL_law_204 hscr hg rfl ?_
        refine j_i2l (pc' := 206) K dL_law_205 rfl ?_
        refine j_ldc2 (pc' := 209) K dL_law_206 u_5_111 rfl ?_
        refine j_land (pc' := 210) K dL_law_209 rfl ?_
        refine j_lor (pc' := 211) K dL_law_210 rfl ?_
        obtain ⟨r211, hr211, h⟩ := jbd_some h
        refine j_rw (pc' := 214) (ws' := (wX (jg E) a0 (r182.2) ++ wM (jg E) a1 (r211.2))) K (fun H hP => jrun_V K dL_law_211 (M_X12_write (jl E) (jg E) a1 (xs (Int32.toNatClampNeg (v3 + (1 : Int32)))) (((Int32.toInt64 (xs (Int32.toNatClampNeg (v3 + (2 : Int32))))) <<< (Int32.toInt64 (32 : Int32) &&& 63)) ||| ((Int32.toInt64 (xs (Int32.toNatClampNeg (v3 + (3 : Int32))))) &&& (4294967295 : Int64))) s1 hr211) u_4_103 u_4_100 u_4_101 u_4_102 u_1_13 ⟨ok_X12_write, by decide, by decide⟩ rfl (Nat.le_of_ble_eq_true rfl) 56 rfl rfl H hP) hrw [56, 57, 58, 59, 60, 61, 62, 63, 64, 65, 66, 67, 68, 69, 70, 71, 72] rfl (cl_1001_s ..) rfl (cl_1001_m ..) (ad_XM ..) rfl ?_
        refine j_icmp_eq (pc' := 217) (tgt := 1204) K dL_law_214 (by decide) rfl (fun hc => ?_) (fun hc => ?_)
        · have h := jit hc h
          refine j_sub [0, 1, 2, 3] rfl ?_
          exact b_L_law_1204 a0 a1 b xs L hscr K hrw HR (f_L_law_18 n) (ih) v3 (r182.2) (r211.2) h
        · have h := jif hc h
          refine j_iconst (pc' := 218) (v := (0 : Int32)) K dL_law_217 (by decide) rfl ?_
          obtain ⟨hg, h⟩ := jzb_some h
          obtain rfl := Option.some.inj h
          exact HR _ _ hg dL_law_218
      have hc0 := hc
      have h := jif hc h
      by_cases hc : ((xs (Int32.toNatClampNeg v3)) &&& (31 : Int32)) = 1
      · have h := jit hc h
        refine j_tabIn (tgt := 219) K dL_law_32 (by rw [hc]; decide) (by rw [hc]; decide) (by rw [hc]; rfl) (by decide) ?_
        refine j_aload_n (pc' := 220) K dL_law_219 rfl 1 rfl rfl ?_
        obtain ⟨r220, hr220, h⟩ := jbd_some h
        refine j_rw (pc' := 223) (ws' := (wX (jg E) a0 (r220.2) ++ wM (jg E) a1 s1)) K (fun H hP => jrun_V K dL_law_220 (M_X11_wipe (jl E) (jg E) a0 s0 hr220) u_1_229 u_1_226 u_1_227 u_1_228 u_1_1 ⟨ok_X11_wipe, by decide, by decide⟩ rfl (Nat.le_of_ble_eq_true rfl) 0 rfl rfl H hP) hrw [0, 1, 2, 3, 4, 5, 6, 7, 8, 9, 10, 11, 12, 13, 14, 15, 16, 17, 18, 19, 20, 21, 22, 23, 24, 25, 26, 27, 28, 29, 30, 31, 32, 33, 34, 35, 36, 37, 38, 39, 40, 41, 42, 43, 44, 45, 46, 47, 48, 49, 50, 51, 52, 53, 54, 55] rfl (cl_1000_s ..) rfl (cl_1000_m ..) (ad_XM ..) rfl ?_
        refine j_aload_n (pc' := 224) K dL_law_223 rfl 2 rfl rfl ?_
        obtain ⟨r224, hr224, h⟩ := jbd_some h
        refine j_rw (pc' := 227) (ws' := (wX (jg E) a0 (r220.2) ++ wM (jg E) a1 (r224.2))) K (fun H hP => jrun_V K dL_law_224 (M_X12_wipe (jl E) (jg E) a1 s1 hr224) u_4_112 u_4_109 u_4_110 u_4_111 u_1_13 ⟨ok_X12_wipe, by decide, by decide⟩ rfl (Nat.le_of_ble_eq_true rfl) 56 rfl rfl H hP) hrw [56, 57, 58, 59, 60, 61, 62, 63, 64, 65, 66, 67, 68, 69, 70, 71, 72] rfl (cl_1001_s ..) rfl (cl_1001_m ..) (ad_XM ..) rfl ?_
        refine j_icmp_eq (pc' := 230) (tgt := 1204) K dL_law_227 (by decide) rfl (fun hc => ?_) (fun hc => ?_)
        · have h := jit hc h
          refine j_sub [0, 1, 2, 3] rfl ?_
          exact b_L_law_1204 a0 a1 b xs L hscr K hrw HR (f_L_law_18 n) (ih) v3 (r220.2) (r224.2) h
        · have h := jif hc h
          refine j_iconst (pc' := 231) (v := (0 : Int32)) K dL_law_230 (by decide) rfl ?_
          obtain ⟨hg, h⟩ := jzb_some h
          obtain rfl := Option.some.inj h
          exact HR _ _ hg dL_law_231
      have hc1 := hc
      have h := jif hc h
      by_cases hc : ((xs (Int32.toNatClampNeg v3)) &&& (31 : Int32)) = 2
      · have h := jit hc h
        refine j_tabIn (tgt := 232) K dL_law_32 (by rw [hc]; decide) (by rw [hc]; decide) (by rw [hc]; rfl) (by decide) ?_
        refine j_aload_n (pc' := 233) K dL_law_232 rfl 1 rfl rfl ?_
        obtain ⟨r233, hr233, h⟩ := jbd_some h
        refine j_ro (pc' := 236) K (fun H hP => jrun_V K dL_law_233 (M_X11_fault (jl E) (jg E) a0 s0 hr233) u_1_237 u_1_234 u_1_235 u_1_236 u_1_1 ⟨ok_X11_fault, by decide, by decide⟩ rfl (Nat.le_of_ble_eq_true rfl) 0 rfl rfl H hP) [0, 1, 2, 3, 4, 5, 6, 7, 8, 9, 10, 11, 12, 13, 14, 15, 16, 17, 18, 19, 20, 21, 22, 23, 24, 25, 26, 27, 28, 29, 30, 31, 32, 33, 34, 35, 36, 37, 38, 39, 40, 41, 42, 43, 44, 45, 46, 47, 48, 49, 50, 51, 52, 53, 54, 55] (cl_1002_f ..) rfl ?_
        refine j_aload_n (pc' := 237) K dL_law_236 rfl 2 rfl rfl ?_
        obtain ⟨r237, hr237, h⟩ := jbd_some h
        refine j_rw (pc' := 240) (ws' := (wX (jg E) a0 s0 ++ wM (jg E) a1 (r237.2))) K (fun H hP => jrun_V K dL_law_237 (M_X12_fault (jl E) (jg E) a1 s1 hr237) u_4_116 u_4_113 u_4_114 u_4_115 u_1_13 ⟨ok_X12_fault, by decide, by decide⟩ rfl (Nat.le_of_ble_eq_true rfl) 56 rfl rfl H hP) hrw [56, 57, 58, 59, 60, 61, 62, 63, 64, 65, 66, 67, 68, 69, 70, 71, 72] rfl (cl_1001_s ..) rfl (cl_1001_m ..) (ad_XM ..) rfl ?_
        refine j_icmp_eq (pc' := 243) (tgt := 1204) K dL_law_240 (by decide) rfl (fun hc => ?_) (fun hc => ?_)
        · have h := jit hc h
          refine j_sub [0, 1, 2, 3] rfl ?_
          exact b_L_law_1204 a0 a1 b xs L hscr K hrw HR (f_L_law_18 n) (ih) v3 s0 (r237.2) h
        · have h := jif hc h
          refine j_iconst (pc' := 244) (v := (0 : Int32)) K dL_law_243 (by decide) rfl ?_
          obtain ⟨hg, h⟩ := jzb_some h
          obtain rfl := Option.some.inj h
          exact HR _ _ hg dL_law_244
      have hc2 := hc
      have h := jif hc h
      by_cases hc : ((xs (Int32.toNatClampNeg v3)) &&& (31 : Int32)) = 3
      · have h := jit hc h
        refine j_tabIn (tgt := 245) K dL_law_32 (by rw [hc]; decide) (by rw [hc]; decide) (by rw [hc]; rfl) (by decide) ?_
        refine j_aload_n (pc' := 246) K dL_law_245 rfl 1 rfl rfl ?_
        refine j_aload_n (pc' := 247) K dL_law_246 rfl 0 rfl rfl ?_
        refine j_iload_n (pc' := 248) K dL_law_247 rfl 3 rfl rfl ?_
        refine j_iconst (pc' := 249) (v := (1 : Int32)) K dL_law_248 (by decide) rfl ?_
        refine j_iadd (pc' := 250) K dL_law_249 rfl ?_
        obtain ⟨hg, h⟩ := jgd_some h
        refine j_sld (pc' := 251) K dL_law_250 hscr hg rfl ?_
        obtain ⟨r251, hr251, h⟩ := jbd_some h
        refine j_rw (pc' := 254) (ws' := (wX (jg E) a0 (r251.2) ++ wM (jg E) a1 s1)) K (fun H hP => jrun_V K dL_law_251 (M_X11_lay (jl E) (jg E) a0 (xs (Int32.toNatClampNeg (v3 + (1 : Int32)))) s0 hr251) u_2_20 u_2_17 u_2_18 u_2_19 u_1_1 ⟨ok_X11_lay, by decide, by decide⟩ rfl (Nat.le_of_ble_eq_true rfl) 0 rfl rfl H hP) hrw [0, 1, 2, 3, 4, 5, 6, 7, 8, 9, 10, 11, 12, 13, 14, 15, 16, 17, 18, 19, 20, 21, 22, 23, 24, 25, 26, 27, 28, 29, 30, 31, 32, 33, 34, 35, 36, 37, 38, 39, 40, 41, 42, 43, 44, 45, 46, 47, 48, 49, 50, 51, 52, 53, 54, 55] rfl (cl_1000_s ..) rfl (cl_1000_m ..) (ad_XM ..) rfl ?_
        refine j_aload_n (pc' := 255) K dL_law_254 rfl 2 rfl rfl ?_
        refine j_aload_n (pc' := 256) K dL_law_255 rfl 0 rfl rfl ?_
        refine j_iload_n (pc' := 257) K dL_law_256 rfl 3 rfl rfl ?_
        refine j_iconst (pc' := 258) (v := (1 : Int32)) K dL_law_257 (by decide) rfl ?_
        refine j_iadd (pc' := 259) K dL_law_258 rfl ?_
        obtain ⟨hg, h⟩ := jgd_some h
        refine j_sld (pc' := 260) K dL_law_259 hscr hg rfl ?_
        obtain ⟨r260, hr260, h⟩ := jbd_some h
        refine j_rw (pc' := 263) (ws' := (wX (jg E) a0 (r251.2) ++ wM (jg E) a1 (r260.2))) K (fun H hP => jrun_V K dL_law_260 (M_X12_lay (jl E) (jg E) a1 (xs (Int32.toNatClampNeg (v3 + (1 : Int32)))) s1 hr260) u_4_137 u_4_134 u_4_135 u_4_136 u_1_13 ⟨ok_X12_lay, by decide, by decide⟩ rfl (Nat.le_of_ble_eq_true rfl) 56 rfl rfl H hP) hrw [56, 57, 58, 59, 60, 61, 62, 63, 64, 65, 66, 67, 68, 69, 70, 71, 72] rfl (cl_1001_s ..) rfl (cl_1001_m ..) (ad_XM ..) rfl ?_
        refine j_icmp_eq (pc' := 266) (tgt := 1204) K dL_law_263 (by decide) rfl (fun hc => ?_) (fun hc => ?_)
        · have h := jit hc h
          refine j_sub [0, 1, 2, 3] rfl ?_
          exact b_L_law_1204 a0 a1 b xs L hscr K hrw HR (f_L_law_18 n) (ih) v3 (r251.2) (r260.2) h
        · have h := jif hc h
          refine j_iconst (pc' := 267) (v := (0 : Int32)) K dL_law_266 (by decide) rfl ?_
          obtain ⟨hg, h⟩ := jzb_some h
          obtain rfl := Option.some.inj h
          exact HR _ _ hg dL_law_267
      have hc3 := hc
      have h := jif hc h
      by_cases hc : ((xs (Int32.toNatClampNeg v3)) &&& (31 : Int32)) = 4
      · have h := jit hc h
        refine j_tabIn (tgt := 268) K dL_law_32 (by rw [hc]; decide) (by rw [hc]; decide) (by rw [hc]; rfl) (by decide) ?_
        refine j_aload_n (pc' := 269) K dL_law_268 rfl 1 rfl rfl ?_
        refine j_aload_n (pc' := 270) K dL_law_269 rfl 0 rfl rfl ?_
        refine j_iload_n (pc' := 271) K dL_law_270 rfl 3 rfl rfl ?_
        refine j_iconst (pc' := 272) (v := (1 : Int32)) K dL_law_271 (by decide) rfl ?_
        refine j_iadd (pc' := 273) K dL_law_272 rfl ?_
        obtain ⟨hg, h⟩ := jgd_some h
        refine j_sld (pc' := 274) K dL_law_273 hscr hg rfl ?_
        refine j_aload_n (pc' := 275) K dL_law_274 rfl 0 rfl rfl ?_
        refine j_iload_n (pc' := 276) K dL_law_275 rfl 3 rfl rfl ?_
        refine j_iconst (pc' := 277) (v := (2 : Int32)) K dL_law_276 (by decide) rfl ?_
        refine j_iadd (pc' := 278) K dL_law_277 rfl ?_
        obtain ⟨hg, h⟩ := jgd_some h
        refine j_sld (pc' := 279) K dL_law_278 hscr hg rfl ?_
        refine j_aload_n (pc' := 280) K dL_law_279 rfl 0 rfl rfl ?_
        refine j_iload_n (pc' := 281) K dL_law_280 rfl 3 rfl rfl ?_
        refine j_iconst (pc' := 282) (v := (3 : Int32)) K dL_law_281 (by decide) rfl ?_
        refine j_iadd (pc' := 283) K dL_law_282 rfl ?_
        obtain ⟨hg, h⟩ := jgd_some h
        refine j_sld (pc' := 284) K dL_law_283 hscr hg rfl ?_
        obtain ⟨r284, hr284, h⟩ := jbd_some h
        refine j_ro (pc' := 287) K (fun H hP => jrun_V K dL_law_284 (M_X11_number (jl E) (jg E) a0 (xs (Int32.toNatClampNeg (v3 + (1 : Int32)))) (xs (Int32.toNatClampNeg (v3 + (2 : Int32)))) (xs (Int32.toNatClampNeg (v3 + (3 : Int32)))) s0 hr284) u_2_88 u_2_85 u_2_86 u_2_87 u_1_1 ⟨ok_X11_number, by decide, by decide⟩ rfl (Nat.le_of_ble_eq_true rfl) 0 rfl rfl H hP) [0, 1, 2, 3, 4, 5, 6, 7, 8, 9, 10, 11, 12, 13, 14, 15, 16, 17, 18, 19, 20, 21, 22, 23, 24, 25, 26, 27, 28, 29, 30, 31, 32, 33, 34, 35, 36, 37, 38, 39, 40, 41, 42, 43, 44, 45, 46, 47, 48, 49, 50, 51, 52, 53, 54, 55] (cl_1002_f ..) rfl ?_
        refine j_aload_n (pc' := 288) K dL_law_287 rfl 2 rfl rfl ?_
        refine j_aload_n (pc' := 289) K dL_law_288 rfl 0 rfl rfl ?_
        refine j_iload_n (pc' := 290) K dL_law_289 rfl 3 rfl rfl ?_
        refine j_iconst (pc' := 291) (v := (1 : Int32)) K dL_law_290 (by decide) rfl ?_
        refine j_iadd (pc' := 292) K dL_law_291 rfl ?_
        obtain ⟨hg, h⟩ := jgd_some h
        refine j_sld (pc' := 293) K dL_law_292 hscr hg rfl ?_
        refine j_aload_n (pc' := 294) K dL_law_293 rfl 0 rfl rfl ?_
        refine j_iload_n (pc' := 295) K dL_law_294 rfl 3 rfl rfl ?_
        refine j_iconst (pc' := 296) (v := (2 : Int32)) K dL_law_295 (by decide) rfl ?_
        refine j_iadd (pc' := 297) K dL_law_296 rfl ?_
        obtain ⟨hg, h⟩ := jgd_some h
        refine j_sld (pc' := 298) K dL_law_297 hscr hg rfl ?_
        refine j_aload_n (pc' := 299) K dL_law_298 rfl 0 rfl rfl ?_
        refine j_iload_n (pc' := 300) K dL_law_299 rfl 3 rfl rfl ?_
        refine j_iconst (pc' := 301) (v := (3 : Int32)) K dL_law_300 (by decide) rfl ?_
        refine j_iadd (pc' := 302) K dL_law_301 rfl ?_
        obtain ⟨hg, h⟩ := jgd_some h
        refine j_sld (pc' := 303) K dL_law_302 hscr hg rfl ?_
        obtain ⟨r303, hr303, h⟩ := jbd_some h
        refine j_rw (pc' := 306) (ws' := (wX (jg E) a0 s0 ++ wM (jg E) a1 (r303.2))) K (fun H hP => jrun_V K dL_law_303 (M_X12_number (jl E) (jg E) a1 (xs (Int32.toNatClampNeg (v3 + (1 : Int32)))) (xs (Int32.toNatClampNeg (v3 + (2 : Int32)))) (xs (Int32.toNatClampNeg (v3 + (3 : Int32)))) s1 hr303) u_4_145 u_4_142 u_4_143 u_4_144 u_1_13 ⟨ok_X12_number, by decide, by decide⟩ rfl (Nat.le_of_ble_eq_true rfl) 56 rfl rfl H hP) hrw [56, 57, 58, 59, 60, 61, 62, 63, 64, 65, 66, 67, 68, 69, 70, 71, 72] rfl (cl_1001_s ..) rfl (cl_1001_m ..) (ad_XM ..) rfl ?_
        refine j_lcmp (pc' := 307) K dL_law_306 rfl ?_
        refine j_if_eq (pc' := 310) (tgt := 1204) K dL_law_307 (by decide) rfl (fun hc => ?_) (fun hc => ?_)
        · have h := jit hc h
          refine j_sub [0, 1, 2, 3] rfl ?_
          exact b_L_law_1204 a0 a1 b xs L hscr K hrw HR (f_L_law_18 n) (ih) v3 s0 (r303.2) h
        · have h := jif hc h
          refine j_iconst (pc' := 311) (v := (0 : Int32)) K dL_law_310 (by decide) rfl ?_
          obtain ⟨hg, h⟩ := jzb_some h
          obtain rfl := Option.some.inj h
          exact HR _ _ hg dL_law_311
      have hc4 := hc
      have h := jif hc h
      by_cases hc : ((xs (Int32.toNatClampNeg v3)) &&& (31 : Int32)) = 5
      · have h := jit hc h
        refine j_tabIn (tgt := 312) K dL_law_32 (by rw [hc]; decide) (by rw [hc]; decide) (by rw [hc]; rfl) (by decide) ?_
        refine j_aload_n (pc' := 313) K dL_law_312 rfl 1 rfl rfl ?_
        refine j_aload_n (pc' := 314) K dL_law_313 rfl 0 rfl rfl ?_
        refine j_iload_n (pc' := 315) K dL_law_314 rfl 3 rfl rfl ?_
        refine j_iconst (pc' := 316) (v := (1 : Int32)) K dL_law_315 (by decide) rfl ?_
        refine j_iadd (pc' := 317) K dL_law_316 rfl ?_
        obtain ⟨hg, h⟩ := jgd_some h
        refine j_sld (pc' := 318) K dL_law_317 hscr hg rfl ?_
        refine j_aload_n (pc' := 319) K dL_law_318 rfl 0 rfl rfl ?_
        refine j_iload_n (pc' := 320) K dL_law_319 rfl 3 rfl rfl ?_
        refine j_iconst (pc' := 321) (v := (2 : Int32)) K dL_law_320 (by decide) rfl ?_
        refine j_iadd (pc' := 322) K dL_law_321 rfl ?_
        obtain ⟨hg, h⟩ := jgd_some h
        refine j_sld (pc' := 323) K dL_law_322 hscr hg rfl ?_
        refine j_aload_n (pc' := 324) K dL_law_323 rfl 0 rfl rfl ?_
        refine j_iload_n (pc' := 325) K dL_law_324 rfl 3 rfl rfl ?_
        refine j_iconst (pc' := 326) (v := (3 : Int32)) K dL_law_325 (by decide) rfl ?_
        refine j_iadd (pc' := 327) K dL_law_326 rfl ?_
        obtain ⟨hg, h⟩ := jgd_some h
        refine j_sld (pc' := 328) K dL_law_327 hscr hg rfl ?_
        obtain ⟨r328, hr328, h⟩ := jbd_some h
        refine j_ro (pc' := 331) K (fun H hP => jrun_V K dL_law_328 (M_X11_sum (jl E) (jg E) a0 (xs (Int32.toNatClampNeg (v3 + (1 : Int32)))) (xs (Int32.toNatClampNeg (v3 + (2 : Int32)))) (xs (Int32.toNatClampNeg (v3 + (3 : Int32)))) s0 hr328) u_2_100 u_2_97 u_2_98 u_2_99 u_1_1 ⟨ok_X11_sum, by decide, by decide⟩ rfl (Nat.le_of_ble_eq_true rfl) 0 rfl rfl H hP) [0, 1, 2, 3, 4, 5, 6, 7, 8, 9, 10, 11, 12, 13, 14, 15, 16, 17, 18, 19, 20, 21, 22, 23, 24, 25, 26, 27, 28, 29, 30, 31, 32, 33, 34, 35, 36, 37, 38, 39, 40, 41, 42, 43, 44, 45, 46, 47, 48, 49, 50, 51, 52, 53, 54, 55] (cl_1002_f ..) rfl ?_
        refine j_aload_n (pc' := 332) K dL_law_331 rfl 2 rfl rfl ?_
        refine j_aload_n (pc' := 333) K dL_law_332 rfl 0 rfl rfl ?_
        refine j_iload_n (pc' := 334) K dL_law_333 rfl 3 rfl rfl ?_
        refine j_iconst (pc' := 335) (v := (1 : Int32)) K dL_law_334 (by decide) rfl ?_
        refine j_iadd (pc' := 336) K dL_law_335 rfl ?_
        obtain ⟨hg, h⟩ := jgd_some h
        refine j_sld (pc' := 337) K dL_law_336 hscr hg rfl ?_
        refine j_aload_n (pc' := 338) K dL_law_337 rfl 0 rfl rfl ?_
        refine j_iload_n (pc' := 339) K dL_law_338 rfl 3 rfl rfl ?_
        refine j_iconst (pc' := 340) (v := (2 : Int32)) K dL_law_339 (by decide) rfl ?_
        refine j_iadd (pc' := 341) K dL_law_340 rfl ?_
        obtain ⟨hg, h⟩ := jgd_some h
        refine j_sld (pc' := 342) K dL_law_341 hscr hg rfl ?_
        refine j_aload_n (pc' := 343) K dL_law_342 rfl 0 rfl rfl ?_
        refine j_iload_n (pc' := 344) K dL_law_343 rfl 3 rfl rfl ?_
        refine j_iconst (pc' := 345) (v := (3 : Int32)) K dL_law_344 (by decide) rfl ?_
        refine j_iadd (pc' := 346) K dL_law_345 rfl ?_
        obtain ⟨hg, h⟩ := jgd_some h
        refine j_sld (pc' := 347) K dL_law_346 hscr hg rfl ?_
        obtain ⟨r347, hr347, h⟩ := jbd_some h
        refine j_rw (pc' := 350) (ws' := (wX (jg E) a0 s0 ++ wM (jg E) a1 (r347.2))) K (fun H hP => jrun_V K dL_law_347 (M_X12_sum (jl E) (jg E) a1 (xs (Int32.toNatClampNeg (v3 + (1 : Int32)))) (xs (Int32.toNatClampNeg (v3 + (2 : Int32)))) (xs (Int32.toNatClampNeg (v3 + (3 : Int32)))) s1 hr347) u_4_174 u_4_171 u_4_172 u_4_173 u_1_13 ⟨ok_X12_sum, by decide, by decide⟩ rfl (Nat.le_of_ble_eq_true rfl) 56 rfl rfl H hP) hrw [56, 57, 58, 59, 60, 61, 62, 63, 64, 65, 66, 67, 68, 69, 70, 71, 72] rfl (cl_1001_s ..) rfl (cl_1001_m ..) (ad_XM ..) rfl ?_
        refine j_lcmp (pc' := 351) K dL_law_350 rfl ?_
        refine j_if_eq (pc' := 354) (tgt := 1204) K dL_law_351 (by decide) rfl (fun hc => ?_) (fun hc => ?_)
        · have h := jit hc h
          refine j_sub [0, 1, 2, 3] rfl ?_
          exact b_L_law_1204 a0 a1 b xs L hscr K hrw HR (f_L_law_18 n) (ih) v3 s0 (r347.2) h
        · have h := jif hc h
          refine j_iconst (pc' := 355) (v := (0 : Int32)) K dL_law_354 (by decide) rfl ?_
          obtain ⟨hg, h⟩ := jzb_some h
          obtain rfl := Option.some.inj h
          exact HR _ _ hg dL_law_355
      have hc5 := hc
      have h := jif hc h
      by_cases hc : ((xs (Int32.toNatClampNeg v3)) &&& (31 : Int32)) = 6
      · have h := jit hc h
        refine j_tabIn (tgt := 356) K dL_law_32 (by rw [hc]; decide) (by rw [hc]; decide) (by rw [hc]; rfl) (by decide) ?_
        refine j_aload_n (pc' := 357) K dL_law_356 rfl 1 rfl rfl ?_
        refine j_aload_n (pc' := 358) K dL_law_357 rfl 0 rfl rfl ?_
        refine j_iload_n (pc' := 359) K dL_law_358 rfl 3 rfl rfl ?_
        refine j_iconst (pc' := 360) (v := (1 : Int32)) K dL_law_359 (by decide) rfl ?_
        refine j_iadd (pc' := 361) K dL_law_360 rfl ?_
        obtain ⟨hg, h⟩ := jgd_some h
        refine j_sld (pc' := 362) K dL_law_361 hscr hg rfl ?_
        refine j_aload_n (pc' := 363) K dL_law_362 rfl 0 rfl rfl ?_
        refine j_iload_n (pc' := 364) K dL_law_363 rfl 3 rfl rfl ?_
        refine j_iconst (pc' := 365) (v := (2 : Int32)) K dL_law_364 (by decide) rfl ?_
        refine j_iadd (pc' := 366) K dL_law_365 rfl ?_
        obtain ⟨hg, h⟩ := jgd_some h
        refine j_sld (pc' := 367) K dL_law_366 hscr hg rfl ?_
        refine j_aload_n (pc' := 368) K dL_law_367 rfl 0 rfl rfl ?_
        refine j_iload_n (pc' := 369) K dL_law_368 rfl 3 rfl rfl ?_
        refine j_iconst (pc' := 370) (v := (3 : Int32)) K dL_law_369 (by decide) rfl ?_
        refine j_iadd (pc' := 371) K dL_law_370 rfl ?_
        obtain ⟨hg, h⟩ := jgd_some h
        refine j_sld (pc' := 372) K dL_law_371 hscr hg rfl ?_
        obtain ⟨r372, hr372, h⟩ := jbd_some h
        refine j_ro (pc' := 375) K (fun H hP => jrun_V K dL_law_372 (M_X11_shape (jl E) (jg E) a0 (xs (Int32.toNatClampNeg (v3 + (1 : Int32)))) (xs (Int32.toNatClampNeg (v3 + (2 : Int32)))) (xs (Int32.toNatClampNeg (v3 + (3 : Int32)))) s0 hr372) u_2_121 u_2_118 u_2_119 u_2_120 u_1_1 ⟨ok_X11_shape, by decide, by decide⟩ rfl (Nat.le_of_ble_eq_true rfl) 0 rfl rfl H hP) [0, 1, 2, 3, 4, 5, 6, 7, 8, 9, 10, 11, 12, 13, 14, 15, 16, 17, 18, 19, 20, 21, 22, 23, 24, 25, 26, 27, 28, 29, 30, 31, 32, 33, 34, 35, 36, 37, 38, 39, 40, 41, 42, 43, 44, 45, 46, 47, 48, 49, 50, 51, 52, 53, 54, 55] (cl_1002_f ..) rfl ?_
        refine j_aload_n (pc' := 376) K dL_law_375 rfl 2 rfl rfl ?_
        refine j_aload_n (pc' := 377) K dL_law_376 rfl 0 rfl rfl ?_
        refine j_iload_n (pc' := 378) K dL_law_377 rfl 3 rfl rfl ?_
        refine j_iconst (pc' := 379) (v := (1 : Int32)) K dL_law_378 (by decide) rfl ?_
        refine j_iadd (pc' := 380) K dL_law_379 rfl ?_
        obtain ⟨hg, h⟩ := jgd_some h
        refine j_sld (pc' := 381) K dL_law_380 hscr hg rfl ?_
        refine j_aload_n (pc' := 382) K dL_law_381 rfl 0 rfl rfl ?_
        refine j_iload_n (pc' := 383) K dL_law_382 rfl 3 rfl rfl ?_
        refine j_iconst (pc' := 384) (v := (2 : Int32)) K dL_law_383 (by decide) rfl ?_
        refine j_iadd (pc' := 385) K dL_law_384 rfl ?_
        obtain ⟨hg, h⟩ := jgd_some h
        refine j_sld (pc' := 386) K dL_law_385 hscr hg rfl ?_
        refine j_aload_n (pc' := 387) K dL_law_386 rfl 0 rfl rfl ?_
        refine j_iload_n (pc' := 388) K dL_law_387 rfl 3 rfl rfl ?_
        refine j_iconst (pc' := 389) (v := (3 : Int32)) K dL_law_388 (by decide) rfl ?_
        refine j_iadd (pc' := 390) K dL_law_389 rfl ?_
        obtain ⟨hg, h⟩ := jgd_some h
        refine j_sld (pc' := 391) K dL_law_390 hscr hg rfl ?_
        obtain ⟨r391, hr391, h⟩ := jbd_some h
        refine j_rw (pc' := 394) (ws' := (wX (jg E) a0 s0 ++ wM (jg E) a1 (r391.2))) K (fun H hP => jrun_V K dL_law_391 (M_X12_shape (jl E) (jg E) a1 (xs (Int32.toNatClampNeg (v3 + (1 : Int32)))) (xs (Int32.toNatClampNeg (v3 + (2 : Int32)))) (xs (Int32.toNatClampNeg (v3 + (3 : Int32)))) s1 hr391) u_4_179 u_4_176 u_4_177 u_4_178 u_1_13 ⟨ok_X12_shape, by decide, by decide⟩ rfl (Nat.le_of_ble_eq_true rfl) 56 rfl rfl H hP) hrw [56, 57, 58, 59, 60, 61, 62, 63, 64, 65, 66, 67, 68, 69, 70, 71, 72] rfl (cl_1001_s ..) rfl (cl_1001_m ..) (ad_XM ..) rfl ?_
        refine j_icmp_eq (pc' := 397) (tgt := 1204) K dL_law_394 (by decide) rfl (fun hc => ?_) (fun hc => ?_)
        · have h := jit hc h
          refine j_sub [0, 1, 2, 3] rfl ?_
          exact b_L_law_1204 a0 a1 b xs L hscr K hrw HR (f_L_law_18 n) (ih) v3 s0 (r391.2) h
        · have h := jif hc h
          refine j_iconst (pc' := 398) (v := (0 : Int32)) K dL_law_397 (by decide) rfl ?_
          obtain ⟨hg, h⟩ := jzb_some h
          obtain rfl := Option.some.inj h
          exact HR _ _ hg dL_law_398
      have hc6 := hc
      have h := jif hc h
      by_cases hc : ((xs (Int32.toNatClampNeg v3)) &&& (31 : Int32)) = 7
      · have h := jit hc h
        refine j_tabIn (tgt := 399) K dL_law_32 (by rw [hc]; decide) (by rw [hc]; decide) (by rw [hc]; rfl) (by decide) ?_
        refine j_aload_n (pc' := 400) K dL_law_399 rfl 1 rfl rfl ?_
        refine j_aload_n (pc' := 401) K dL_law_400 rfl 0 rfl rfl ?_
        refine j_iload_n (pc' := 402) K dL_law_401 rfl 3 rfl rfl ?_
        refine j_iconst (pc' := 403) (v := (1 : Int32)) K dL_law_402 (by decide) rfl ?_
        refine j_iadd (pc' := 404) K dL_law_403 rfl ?_
        obtain ⟨hg, h⟩ := jgd_some h
        refine j_sld (pc' := 405) K dL_law_404 hscr hg rfl ?_
        refine j_aload_n (pc' := 406) K dL_law_405 rfl 0 rfl rfl ?_
        refine j_iload_n (pc' := 407) K dL_law_406 rfl 3 rfl rfl ?_
        refine j_iconst (pc' := 408) (v := (2 : Int32)) K dL_law_407 (by decide) rfl ?_
        refine j_iadd (pc' := 409) K dL_law_408 rfl ?_
        obtain ⟨hg, h⟩ := jgd_some h
        refine j_sld (pc' := 410) K dL_law_409 hscr hg rfl ?_
        refine j_aload_n (pc' := 411) K dL_law_410 rfl 0 rfl rfl ?_
        refine j_iload_n (pc' := 412) K dL_law_411 rfl 3 rfl rfl ?_
        refine j_iconst (pc' := 413) (v := (3 : Int32)) K dL_law_412 (by decide) rfl ?_
        refine j_iadd (pc' := 414) K dL_law_413 rfl ?_
        obtain ⟨hg, h⟩ := jgd_some h
        refine j_sld (pc' := 415) K dL_law_414 hscr hg rfl ?_
        refine j_aload_n (pc' := 416) K dL_law_415 rfl 0 rfl rfl ?_
        refine j_iload_n (pc' := 417) K dL_law_416 rfl 3 rfl rfl ?_
        refine j_iconst (pc' := 418) (v := (4 : Int32)) K dL_law_417 (by decide) rfl ?_
        refine j_iadd (pc' := 419) K dL_law_418 rfl ?_
        obtain ⟨hg, h⟩ := jgd_some h
        refine j_sld (pc' := 420) K dL_law_419 hscr hg rfl ?_
        obtain ⟨r420, hr420, h⟩ := jbd_some h
        refine j_rw (pc' := 423) (ws' := (wX (jg E) a0 (r420.2) ++ wM (jg E) a1 s1)) K (fun H hP => jrun_V K dL_law_420 (M_X11_rest (jl E) (jg E) a0 (xs (Int32.toNatClampNeg (v3 + (1 : Int32)))) (xs (Int32.toNatClampNeg (v3 + (2 : Int32)))) (xs (Int32.toNatClampNeg (v3 + (3 : Int32)))) (xs (Int32.toNatClampNeg (v3 + (4 : Int32)))) s0 hr420) u_2_140 u_2_137 u_2_138 u_2_139 u_1_1 ⟨ok_X11_rest, by decide, by decide⟩ rfl (Nat.le_of_ble_eq_true rfl) 0 rfl rfl H hP) hrw [0, 1, 2, 3, 4, 5, 6, 7, 8, 9, 10, 11, 12, 13, 14, 15, 16, 17, 18, 19, 20, 21, 22, 23, 24, 25, 26, 27, 28, 29, 30, 31, 32, 33, 34, 35, 36, 37, 38, 39, 40, 41, 42, 43, 44, 45, 46, 47, 48, 49, 50, 51, 52, 53, 54, 55] rfl (cl_1000_s ..) rfl (cl_1000_m ..) (ad_XM ..) rfl ?_
        refine j_aload_n (pc' := 424) K dL_law_423 rfl 2 rfl rfl ?_
        refine j_aload_n (pc' := 425) K dL_law_424 rfl 0 rfl rfl ?_
        refine j_iload_n (pc' := 426) K dL_law_425 rfl 3 rfl rfl ?_
        refine j_iconst (pc' := 427) (v := (1 : Int32)) K dL_law_426 (by decide) rfl ?_
        refine j_iadd (pc' := 428) K dL_law_427 rfl ?_
        obtain ⟨hg, h⟩ := jgd_some h
        refine j_sld (pc' := 429) K dL_law_428 hscr hg rfl ?_
        refine j_aload_n (pc' := 430) K dL_law_429 rfl 0 rfl rfl ?_
        refine j_iload_n (pc' := 431) K dL_law_430 rfl 3 rfl rfl ?_
        refine j_iconst (pc' := 432) (v := (2 : Int32)) K dL_law_431 (by decide) rfl ?_
        refine j_iadd (pc' := 433) K dL_law_432 rfl ?_
        obtain ⟨hg, h⟩ := jgd_some h
        refine j_sld (pc' := 434) K dL_law_433 hscr hg rfl ?_
        refine j_aload_n (pc' := 435) K dL_law_434 rfl 0 rfl rfl ?_
        refine j_iload_n (pc' := 436) K dL_law_435 rfl 3 rfl rfl ?_
        refine j_iconst (pc' := 437) (v := (3 : Int32)) K dL_law_436 (by decide) rfl ?_
        refine j_iadd (pc' := 438) K dL_law_437 rfl ?_
        obtain ⟨hg, h⟩ := jgd_some h
        refine j_sld (pc' := 439) K dL_law_438 hscr hg rfl ?_
        refine j_aload_n (pc' := 440) K dL_law_439 rfl 0 rfl rfl ?_
        refine j_iload_n (pc' := 441) K dL_law_440 rfl 3 rfl rfl ?_
        refine j_iconst (pc' := 442) (v := (4 : Int32)) K dL_law_441 (by decide) rfl ?_
        refine j_iadd (pc' := 443) K dL_law_442 rfl ?_
        obtain ⟨hg, h⟩ := jgd_some h
        refine j_sld (pc' := 444) K dL_law_443 hscr hg rfl ?_
        obtain ⟨r444, hr444, h⟩ := jbd_some h
        refine j_rw (pc' := 447) (ws' := (wX (jg E) a0 (r420.2) ++ wM (jg E) a1 (r444.2))) K (fun H hP => jrun_V K dL_law_444 (M_X12_rest (jl E) (jg E) a1 (xs (Int32.toNatClampNeg (v3 + (1 : Int32)))) (xs (Int32.toNatClampNeg (v3 + (2 : Int32)))) (xs (Int32.toNatClampNeg (v3 + (3 : Int32)))) (xs (Int32.toNatClampNeg (v3 + (4 : Int32)))) s1 hr444) u_4_184 u_4_181 u_4_182 u_4_183 u_1_13 ⟨ok_X12_rest, by decide, by decide⟩ rfl (Nat.le_of_ble_eq_true rfl) 56 rfl rfl H hP) hrw [56, 57, 58, 59, 60, 61, 62, 63, 64, 65, 66, 67, 68, 69, 70, 71, 72] rfl (cl_1001_s ..) rfl (cl_1001_m ..) (ad_XM ..) rfl ?_
        refine j_icmp_eq (pc' := 450) (tgt := 1204) K dL_law_447 (by decide) rfl (fun hc => ?_) (fun hc => ?_)
        · have h := jit hc h
          refine j_sub [0, 1, 2, 3] rfl ?_
          exact b_L_law_1204 a0 a1 b xs L hscr K hrw HR (f_L_law_18 n) (ih) v3 (r420.2) (r444.2) h
        · have h := jif hc h
          refine j_iconst (pc' := 451) (v := (0 : Int32)) K dL_law_450 (by decide) rfl ?_
          obtain ⟨hg, h⟩ := jzb_some h
          obtain rfl := Option.some.inj h
          exact HR _ _ hg dL_law_451
      have hc7 := hc
      have h := jif hc h
      by_cases hc : ((xs (Int32.toNatClampNeg v3)) &&& (31 : Int32)) = 8
      · have h := jit hc h
        refine j_tabIn (tgt := 452) K dL_law_32 (by rw [hc]; decide) (by rw [hc]; decide) (by rw [hc]; rfl) (by decide) ?_
        refine j_aload_n (pc' := 453) K dL_law_452 rfl 1 rfl rfl ?_
        refine j_aload_n (pc' := 454) K dL_law_453 rfl 0 rfl rfl ?_
        refine j_iload_n (pc' := 455) K dL_law_454 rfl 3 rfl rfl ?_
        refine j_iconst (pc' := 456) (v := (1 : Int32)) K dL_law_455 (by decide) rfl ?_
        refine j_iadd (pc' := 457) K dL_law_456 rfl ?_
        obtain ⟨hg, h⟩ := jgd_some h
        refine j_sld (pc' := 458) K dL_law_457 hscr hg rfl ?_
        refine j_aload_n (pc' := 459) K dL_law_458 rfl 0 rfl rfl ?_
        refine j_iload_n (pc' := 460) K dL_law_459 rfl 3 rfl rfl ?_
        refine j_iconst (pc' := 461) (v := (2 : Int32)) K dL_law_460 (by decide) rfl ?_
        refine j_iadd (pc' := 462) K dL_law_461 rfl ?_
        obtain ⟨hg, h⟩ := jgd_some h
        refine j_sld (pc' := 463) K dL_law_462 hscr hg rfl ?_
        refine j_aload_n (pc' := 464) K dL_law_463 rfl 0 rfl rfl ?_
        refine j_iload_n (pc' := 465) K dL_law_464 rfl 3 rfl rfl ?_
        refine j_iconst (pc' := 466) (v := (3 : Int32)) K dL_law_465 (by decide) rfl ?_
        refine j_iadd (pc' := 467) K dL_law_466 rfl ?_
        obtain ⟨hg, h⟩ := jgd_some h
        refine j_sld (pc' := 468) K dL_law_467 hscr hg rfl ?_
        refine j_aload_n (pc' := 469) K dL_law_468 rfl 0 rfl rfl ?_
        refine j_iload_n (pc' := 470) K dL_law_469 rfl 3 rfl rfl ?_
        refine j_iconst (pc' := 471) (v := (4 : Int32)) K dL_law_470 (by decide) rfl ?_
        refine j_iadd (pc' := 472) K dL_law_471 rfl ?_
        obtain ⟨hg, h⟩ := jgd_some h
        refine j_sld (pc' := 473) K dL_law_472 hscr hg rfl ?_
        obtain ⟨r473, hr473, h⟩ := jbd_some h
        refine j_ro (pc' := 476) K (fun H hP => jrun_V K dL_law_473 (M_X11_times (jl E) (jg E) a0 (xs (Int32.toNatClampNeg (v3 + (1 : Int32)))) (xs (Int32.toNatClampNeg (v3 + (2 : Int32)))) (xs (Int32.toNatClampNeg (v3 + (3 : Int32)))) (xs (Int32.toNatClampNeg (v3 + (4 : Int32)))) s0 hr473) u_2_154 u_2_151 u_2_152 u_2_153 u_1_1 ⟨ok_X11_times, by decide, by decide⟩ rfl (Nat.le_of_ble_eq_true rfl) 0 rfl rfl H hP) [0, 1, 2, 3, 4, 5, 6, 7, 8, 9, 10, 11, 12, 13, 14, 15, 16, 17, 18, 19, 20, 21, 22, 23, 24, 25, 26, 27, 28, 29, 30, 31, 32, 33, 34, 35, 36, 37, 38, 39, 40, 41, 42, 43, 44, 45, 46, 47, 48, 49, 50, 51, 52, 53, 54, 55] (cl_1002_f ..) rfl ?_
        refine j_aload_n (pc' := 477) K dL_law_476 rfl 2 rfl rfl ?_
        refine j_aload_n (pc' := 478) K dL_law_477 rfl 0 rfl rfl ?_
        refine j_iload_n (pc' := 479) K dL_law_478 rfl 3 rfl rfl ?_
        refine j_iconst (pc' := 480) (v := (1 : Int32)) K dL_law_479 (by decide) rfl ?_
        refine j_iadd (pc' := 481) K dL_law_480 rfl ?_
        obtain ⟨hg, h⟩ := jgd_some h
        refine j_sld (pc' := 482) K dL_law_481 hscr hg rfl ?_
        refine j_aload_n (pc' := 483) K dL_law_482 rfl 0 rfl rfl ?_
        refine j_iload_n (pc' := 484) K dL_law_483 rfl 3 rfl rfl ?_
        refine j_iconst (pc' := 485) (v := (2 : Int32)) K dL_law_484 (by decide) rfl ?_
        refine j_iadd (pc' := 486) K dL_law_485 rfl ?_
        obtain ⟨hg, h⟩ := jgd_some h
        refine j_sld (pc' := 487) K dL_law_486 hscr hg rfl ?_
        refine j_aload_n (pc' := 488) K dL_law_487 rfl 0 rfl rfl ?_
        refine j_iload_n (pc' := 489) K dL_law_488 rfl 3 rfl rfl ?_
        refine j_iconst (pc' := 490) (v := (3 : Int32)) K dL_law_489 (by decide) rfl ?_
        refine j_iadd (pc' := 491) K dL_law_490 rfl ?_
        obtain ⟨hg, h⟩ := jgd_some h
        refine j_sld (pc' := 492) K dL_law_491 hscr hg rfl ?_
        refine j_aload_n (pc' := 493) K dL_law_492 rfl 0 rfl rfl ?_
        refine j_iload_n (pc' := 494) K dL_law_493 rfl 3 rfl rfl ?_
        refine j_iconst (pc' := 495) (v := (4 : Int32)) K dL_law_494 (by decide) rfl ?_
        refine j_iadd (pc' := 496) K dL_law_495 rfl ?_
        obtain ⟨hg, h⟩ := jgd_some h
        refine j_sld (pc' := 497) K dL_law_496 hscr hg rfl ?_
        obtain ⟨r497, hr497, h⟩ := jbd_some h
        refine j_rw (pc' := 500) (ws' := (wX (jg E) a0 s0 ++ wM (jg E) a1 (r497.2))) K (fun H hP => jrun_V K dL_law_497 (M_X12_times (jl E) (jg E) a1 (xs (Int32.toNatClampNeg (v3 + (1 : Int32)))) (xs (Int32.toNatClampNeg (v3 + (2 : Int32)))) (xs (Int32.toNatClampNeg (v3 + (3 : Int32)))) (xs (Int32.toNatClampNeg (v3 + (4 : Int32)))) s1 hr497) u_4_190 u_4_187 u_4_188 u_4_189 u_1_13 ⟨ok_X12_times, by decide, by decide⟩ rfl (Nat.le_of_ble_eq_true rfl) 56 rfl rfl H hP) hrw [56, 57, 58, 59, 60, 61, 62, 63, 64, 65, 66, 67, 68, 69, 70, 71, 72] rfl (cl_1001_s ..) rfl (cl_1001_m ..) (ad_XM ..) rfl ?_
        refine j_lcmp (pc' := 501) K dL_law_500 rfl ?_
        refine j_if_eq (pc' := 504) (tgt := 1204) K dL_law_501 (by decide) rfl (fun hc => ?_) (fun hc => ?_)
        · have h := jit hc h
          refine j_sub [0, 1, 2, 3] rfl ?_
          exact b_L_law_1204 a0 a1 b xs L hscr K hrw HR (f_L_law_18 n) (ih) v3 s0 (r497.2) h
        · have h := jif hc h
          refine j_iconst (pc' := 505) (v := (0 : Int32)) K dL_law_504 (by decide) rfl ?_
          obtain ⟨hg, h⟩ := jzb_some h
          obtain rfl := Option.some.inj h
          exact HR _ _ hg dL_law_505
      have hc8 := hc
      have h := jif hc h
      by_cases hc : ((xs (Int32.toNatClampNeg v3)) &&& (31 : Int32)) = 9
      · have h := jit hc h
        refine j_tabIn (tgt := 506) K dL_law_32 (by rw [hc]; decide) (by rw [hc]; decide) (by rw [hc]; rfl) (by decide) ?_
        refine j_aload_n (pc' := 507) K dL_law_506 rfl 1 rfl rfl ?_
        refine j_aload_n (pc' := 508) K dL_law_507 rfl 0 rfl rfl ?_
        refine j_iload_n (pc' := 509) K dL_law_508 rfl 3 rfl rfl ?_
        refine j_iconst (pc' := 510) (v := (1 : Int32)) K dL_law_509 (by decide) rfl ?_
        refine j_iadd (pc' := 511) K dL_law_510 rfl ?_
        obtain ⟨hg, h⟩ := jgd_some h
        refine j_sld (pc' := 512) K dL_law_511 hscr hg rfl ?_
        refine j_aload_n (pc' := 513) K dL_law_512 rfl 0 rfl rfl ?_
        refine j_iload_n (pc' := 514) K dL_law_513 rfl 3 rfl rfl ?_
        refine j_iconst (pc' := 515) (v := (2 : Int32)) K dL_law_514 (by decide) rfl ?_
        refine j_iadd (pc' := 516) K dL_law_515 rfl ?_
        obtain ⟨hg, h⟩ := jgd_some h
        refine j_sld (pc' := 517) K dL_law_516 hscr hg rfl ?_
        refine j_aload_n (pc' := 518) K dL_law_517 rfl 0 rfl rfl ?_
        refine j_iload_n (pc' := 519) K dL_law_518 rfl 3 rfl rfl ?_
        refine j_iconst (pc' := 520) (v := (3 : Int32)) K dL_law_519 (by decide) rfl ?_
        refine j_iadd (pc' := 521) K dL_law_520 rfl ?_
        obtain ⟨hg, h⟩ := jgd_some h
        refine j_sld (pc' := 522) K dL_law_521 hscr hg rfl ?_
        obtain ⟨r522, hr522, h⟩ := jbd_some h
        refine j_ro (pc' := 525) K (fun H hP => jrun_V K dL_law_522 (M_X11_undoes (jl E) (jg E) a0 (xs (Int32.toNatClampNeg (v3 + (1 : Int32)))) (xs (Int32.toNatClampNeg (v3 + (2 : Int32)))) (xs (Int32.toNatClampNeg (v3 + (3 : Int32)))) s0 hr522) u_2_162 u_2_159 u_2_160 u_2_161 u_1_1 ⟨ok_X11_undoes, by decide, by decide⟩ rfl (Nat.le_of_ble_eq_true rfl) 0 rfl rfl H hP) [0, 1, 2, 3, 4, 5, 6, 7, 8, 9, 10, 11, 12, 13, 14, 15, 16, 17, 18, 19, 20, 21, 22, 23, 24, 25, 26, 27, 28, 29, 30, 31, 32, 33, 34, 35, 36, 37, 38, 39, 40, 41, 42, 43, 44, 45, 46, 47, 48, 49, 50, 51, 52, 53, 54, 55] (cl_1002_f ..) rfl ?_
        refine j_aload_n (pc' := 526) K dL_law_525 rfl 2 rfl rfl ?_
        refine j_aload_n (pc' := 527) K dL_law_526 rfl 0 rfl rfl ?_
        refine j_iload_n (pc' := 528) K dL_law_527 rfl 3 rfl rfl ?_
        refine j_iconst (pc' := 529) (v := (1 : Int32)) K dL_law_528 (by decide) rfl ?_
        refine j_iadd (pc' := 530) K dL_law_529 rfl ?_
        obtain ⟨hg, h⟩ := jgd_some h
        refine j_sld (pc' := 531) K dL_law_530 hscr hg rfl ?_
        refine j_aload_n (pc' := 532) K dL_law_531 rfl 0 rfl rfl ?_
        refine j_iload_n (pc' := 533) K dL_law_532 rfl 3 rfl rfl ?_
        refine j_iconst (pc' := 534) (v := (2 : Int32)) K dL_law_533 (by decide) rfl ?_
        refine j_iadd (pc' := 535) K dL_law_534 rfl ?_
        obtain ⟨hg, h⟩ := jgd_some h
        refine j_sld (pc' := 536) K dL_law_535 hscr hg rfl ?_
        refine j_aload_n (pc' := 537) K dL_law_536 rfl 0 rfl rfl ?_
        refine j_iload_n (pc' := 538) K dL_law_537 rfl 3 rfl rfl ?_
        refine j_iconst (pc' := 539) (v := (3 : Int32)) K dL_law_538 (by decide) rfl ?_
        refine j_iadd (pc' := 540) K dL_law_539 rfl ?_
        obtain ⟨hg, h⟩ := jgd_some h
        refine j_sld (pc' := 541) K dL_law_540 hscr hg rfl ?_
        obtain ⟨r541, hr541, h⟩ := jbd_some h
        refine j_rw (pc' := 544) (ws' := (wX (jg E) a0 s0 ++ wM (jg E) a1 (r541.2))) K (fun H hP => jrun_V K dL_law_541 (M_X12_undoes (jl E) (jg E) a1 (xs (Int32.toNatClampNeg (v3 + (1 : Int32)))) (xs (Int32.toNatClampNeg (v3 + (2 : Int32)))) (xs (Int32.toNatClampNeg (v3 + (3 : Int32)))) s1 hr541) u_4_198 u_4_195 u_4_196 u_4_197 u_1_13 ⟨ok_X12_undoes, by decide, by decide⟩ rfl (Nat.le_of_ble_eq_true rfl) 56 rfl rfl H hP) hrw [56, 57, 58, 59, 60, 61, 62, 63, 64, 65, 66, 67, 68, 69, 70, 71, 72] rfl (cl_1001_s ..) rfl (cl_1001_m ..) (ad_XM ..) rfl ?_
        refine j_icmp_eq (pc' := 547) (tgt := 1204) K dL_law_544 (by decide) rfl (fun hc => ?_) (fun hc => ?_)
        · have h := jit hc h
          refine j_sub [0, 1, 2, 3] rfl ?_
          exact b_L_law_1204 a0 a1 b xs L hscr K hrw HR (f_L_law_18 n) (ih) v3 s0 (r541.2) h
        · have h := jif hc h
          refine j_iconst (pc' := 548) (v := (0 : Int32)) K dL_law_547 (by decide) rfl ?_
          obtain ⟨hg, h⟩ := jzb_some h
          obtain rfl := Option.some.inj h
          exact HR _ _ hg dL_law_548
      have hc9 := hc
      have h := jif hc h
      by_cases hc : ((xs (Int32.toNatClampNeg v3)) &&& (31 : Int32)) = 10
      · have h := jit hc h
        refine j_tabIn (tgt := 549) K dL_law_32 (by rw [hc]; decide) (by rw [hc]; decide) (by rw [hc]; rfl) (by decide) ?_
        refine j_aload_n (pc' := 550) K dL_law_549 rfl 1 rfl rfl ?_
        refine j_aload_n (pc' := 551) K dL_law_550 rfl 0 rfl rfl ?_
        refine j_iload_n (pc' := 552) K dL_law_551 rfl 3 rfl rfl ?_
        refine j_iconst (pc' := 553) (v := (1 : Int32)) K dL_law_552 (by decide) rfl ?_
        refine j_iadd (pc' := 554) K dL_law_553 rfl ?_
        obtain ⟨hg, h⟩ := jgd_some h
        refine j_sld (pc' := 555) K dL_law_554 hscr hg rfl ?_
        refine j_aload_n (pc' := 556) K dL_law_555 rfl 0 rfl rfl ?_
        refine j_iload_n (pc' := 557) K dL_law_556 rfl 3 rfl rfl ?_
        refine j_iconst (pc' := 558) (v := (2 : Int32)) K dL_law_557 (by decide) rfl ?_
        refine j_iadd (pc' := 559) K dL_law_558 rfl ?_
        obtain ⟨hg, h⟩ := jgd_some h
        refine j_sld (pc' := 560) K dL_law_559 hscr hg rfl ?_
        refine j_aload_n (pc' := 561) K dL_law_560 rfl 0 rfl rfl ?_
        refine j_iload_n (pc' := 562) K dL_law_561 rfl 3 rfl rfl ?_
        refine j_iconst (pc' := 563) (v := (3 : Int32)) K dL_law_562 (by decide) rfl ?_
        refine j_iadd (pc' := 564) K dL_law_563 rfl ?_
        obtain ⟨hg, h⟩ := jgd_some h
        refine j_sld (pc' := 565) K dL_law_564 hscr hg rfl ?_
        obtain ⟨r565, hr565, h⟩ := jbd_some h
        refine j_rw (pc' := 568) (ws' := (wX (jg E) a0 (r565.2) ++ wM (jg E) a1 s1)) K (fun H hP => jrun_V K dL_law_565 (M_X11_back (jl E) (jg E) a0 (xs (Int32.toNatClampNeg (v3 + (1 : Int32)))) (xs (Int32.toNatClampNeg (v3 + (2 : Int32)))) (xs (Int32.toNatClampNeg (v3 + (3 : Int32)))) s0 hr565) u_2_171 u_2_168 u_2_169 u_2_170 u_1_1 ⟨ok_X11_back, by decide, by decide⟩ rfl (Nat.le_of_ble_eq_true rfl) 0 rfl rfl H hP) hrw [0, 1, 2, 3, 4, 5, 6, 7, 8, 9, 10, 11, 12, 13, 14, 15, 16, 17, 18, 19, 20, 21, 22, 23, 24, 25, 26, 27, 28, 29, 30, 31, 32, 33, 34, 35, 36, 37, 38, 39, 40, 41, 42, 43, 44, 45, 46, 47, 48, 49, 50, 51, 52, 53, 54, 55] rfl (cl_1000_s ..) rfl (cl_1000_m ..) (ad_XM ..) rfl ?_
        refine j_aload_n (pc' := 569) K dL_law_568 rfl 2 rfl rfl ?_
        refine j_aload_n (pc' := 570) K dL_law_569 rfl 0 rfl rfl ?_
        refine j_iload_n (pc' := 571) K dL_law_570 rfl 3 rfl rfl ?_
        refine j_iconst (pc' := 572) (v := (1 : Int32)) K dL_law_571 (by decide) rfl ?_
        refine j_iadd (pc' := 573) K dL_law_572 rfl ?_
        obtain ⟨hg, h⟩ := jgd_some h
        refine j_sld (pc' := 574) K dL_law_573 hscr hg rfl ?_
        refine j_aload_n (pc' := 575) K dL_law_574 rfl 0 rfl rfl ?_
        refine j_iload_n (pc' := 576) K dL_law_575 rfl 3 rfl rfl ?_
        refine j_iconst (pc' := 577) (v := (2 : Int32)) K dL_law_576 (by decide) rfl ?_
        refine j_iadd (pc' := 578) K dL_law_577 rfl ?_
        obtain ⟨hg, h⟩ := jgd_some h
        refine j_sld (pc' := 579) K dL_law_578 hscr hg rfl ?_
        refine j_aload_n (pc' := 580) K dL_law_579 rfl 0 rfl rfl ?_
        refine j_iload_n (pc' := 581) K dL_law_580 rfl 3 rfl rfl ?_
        refine j_iconst (pc' := 582) (v := (3 : Int32)) K dL_law_581 (by decide) rfl ?_
        refine j_iadd (pc' := 583) K dL_law_582 rfl ?_
        obtain ⟨hg, h⟩ := jgd_some h
        refine j_sld (pc' := 584) K dL_law_583 hscr hg rfl ?_
        obtain ⟨r584, hr584, h⟩ := jbd_some h
        refine j_rw (pc' := 587) (ws' := (wX (jg E) a0 (r565.2) ++ wM (jg E) a1 (r584.2))) K (fun H hP => jrun_V K dL_law_584 (M_X12_back (jl E) (jg E) a1 (xs (Int32.toNatClampNeg (v3 + (1 : Int32)))) (xs (Int32.toNatClampNeg (v3 + (2 : Int32)))) (xs (Int32.toNatClampNeg (v3 + (3 : Int32)))) s1 hr584) u_4_202 u_4_199 u_4_200 u_4_201 u_1_13 ⟨ok_X12_back, by decide, by decide⟩ rfl (Nat.le_of_ble_eq_true rfl) 56 rfl rfl H hP) hrw [56, 57, 58, 59, 60, 61, 62, 63, 64, 65, 66, 67, 68, 69, 70, 71, 72] rfl (cl_1001_s ..) rfl (cl_1001_m ..) (ad_XM ..) rfl ?_
        refine j_lcmp (pc' := 588) K dL_law_587 rfl ?_
        refine j_if_eq (pc' := 591) (tgt := 1204) K dL_law_588 (by decide) rfl (fun hc => ?_) (fun hc => ?_)
        · have h := jit hc h
          refine j_sub [0, 1, 2, 3] rfl ?_
          exact b_L_law_1204 a0 a1 b xs L hscr K hrw HR (f_L_law_18 n) (ih) v3 (r565.2) (r584.2) h
        · have h := jif hc h
          refine j_iconst (pc' := 592) (v := (0 : Int32)) K dL_law_591 (by decide) rfl ?_
          obtain ⟨hg, h⟩ := jzb_some h
          obtain rfl := Option.some.inj h
          exact HR _ _ hg dL_law_592
      have hc10 := hc
      have h := jif hc h
      by_cases hc : ((xs (Int32.toNatClampNeg v3)) &&& (31 : Int32)) = 11
      · have h := jit hc h
        refine j_tabIn (tgt := 593) K dL_law_32 (by rw [hc]; decide) (by rw [hc]; decide) (by rw [hc]; rfl) (by decide) ?_
        refine j_aload_n (pc' := 594) K dL_law_593 rfl 1 rfl rfl ?_
        refine j_aload_n (pc' := 595) K dL_law_594 rfl 0 rfl rfl ?_
        refine j_iload_n (pc' := 596) K dL_law_595 rfl 3 rfl rfl ?_
        refine j_iconst (pc' := 597) (v := (1 : Int32)) K dL_law_596 (by decide) rfl ?_
        refine j_iadd (pc' := 598) K dL_law_597 rfl ?_
        obtain ⟨hg, h⟩ := jgd_some h
        refine j_sld (pc' := 599) K dL_law_598 hscr hg rfl ?_
        refine j_aload_n (pc' := 600) K dL_law_599 rfl 0 rfl rfl ?_
        refine j_iload_n (pc' := 601) K dL_law_600 rfl 3 rfl rfl ?_
        refine j_iconst (pc' := 602) (v := (2 : Int32)) K dL_law_601 (by decide) rfl ?_
        refine j_iadd (pc' := 603) K dL_law_602 rfl ?_
        obtain ⟨hg, h⟩ := jgd_some h
        refine j_sld (pc' := 604) K dL_law_603 hscr hg rfl ?_
        refine j_aload_n (pc' := 605) K dL_law_604 rfl 0 rfl rfl ?_
        refine j_iload_n (pc' := 606) K dL_law_605 rfl 3 rfl rfl ?_
        refine j_iconst (pc' := 607) (v := (3 : Int32)) K dL_law_606 (by decide) rfl ?_
        refine j_iadd (pc' := 608) K dL_law_607 rfl ?_
        obtain ⟨hg, h⟩ := jgd_some h
        refine j_sld (pc' := 609) K dL_law_608 hscr hg rfl ?_
        obtain ⟨r609, hr609, h⟩ := jbd_some h
        refine j_rw (pc' := 612) (ws' := (wX (jg E) a0 (r609.2) ++ wM (jg E) a1 s1)) K (fun H hP => jrun_V K dL_law_609 (M_X11_parting (jl E) (jg E) a0 (xs (Int32.toNatClampNeg (v3 + (1 : Int32)))) (xs (Int32.toNatClampNeg (v3 + (2 : Int32)))) (xs (Int32.toNatClampNeg (v3 + (3 : Int32)))) s0 hr609) u_2_188 u_2_185 u_2_186 u_2_187 u_1_1 ⟨ok_X11_parting, by decide, by decide⟩ rfl (Nat.le_of_ble_eq_true rfl) 0 rfl rfl H hP) hrw [0, 1, 2, 3, 4, 5, 6, 7, 8, 9, 10, 11, 12, 13, 14, 15, 16, 17, 18, 19, 20, 21, 22, 23, 24, 25, 26, 27, 28, 29, 30, 31, 32, 33, 34, 35, 36, 37, 38, 39, 40, 41, 42, 43, 44, 45, 46, 47, 48, 49, 50, 51, 52, 53, 54, 55] rfl (cl_1000_s ..) rfl (cl_1000_m ..) (ad_XM ..) rfl ?_
        refine j_aload_n (pc' := 613) K dL_law_612 rfl 2 rfl rfl ?_
        refine j_aload_n (pc' := 614) K dL_law_613 rfl 0 rfl rfl ?_
        refine j_iload_n (pc' := 615) K dL_law_614 rfl 3 rfl rfl ?_
        refine j_iconst (pc' := 616) (v := (1 : Int32)) K dL_law_615 (by decide) rfl ?_
        refine j_iadd (pc' := 617) K dL_law_616 rfl ?_
        obtain ⟨hg, h⟩ := jgd_some h
        refine j_sld (pc' := 618) K dL_law_617 hscr hg rfl ?_
        refine j_aload_n (pc' := 619) K dL_law_618 rfl 0 rfl rfl ?_
        refine j_iload_n (pc' := 620) K dL_law_619 rfl 3 rfl rfl ?_
        refine j_iconst (pc' := 621) (v := (2 : Int32)) K dL_law_620 (by decide) rfl ?_
        refine j_iadd (pc' := 622) K dL_law_621 rfl ?_
        obtain ⟨hg, h⟩ := jgd_some h
        refine j_sld (pc' := 623) K dL_law_622 hscr hg rfl ?_
        refine j_aload_n (pc' := 624) K dL_law_623 rfl 0 rfl rfl ?_
        refine j_iload_n (pc' := 625) K dL_law_624 rfl 3 rfl rfl ?_
        refine j_iconst (pc' := 626) (v := (3 : Int32)) K dL_law_625 (by decide) rfl ?_
        refine j_iadd (pc' := 627) K dL_law_626 rfl ?_
        obtain ⟨hg, h⟩ := jgd_some h
        refine j_sld (pc' := 628) K dL_law_627 hscr hg rfl ?_
        obtain ⟨r628, hr628, h⟩ := jbd_some h
        refine j_rw (pc' := 631) (ws' := (wX (jg E) a0 (r609.2) ++ wM (jg E) a1 (r628.2))) K (fun H hP => jrun_V K dL_law_628 (M_X12_parting (jl E) (jg E) a1 (xs (Int32.toNatClampNeg (v3 + (1 : Int32)))) (xs (Int32.toNatClampNeg (v3 + (2 : Int32)))) (xs (Int32.toNatClampNeg (v3 + (3 : Int32)))) s1 hr628) u_4_206 u_4_203 u_4_204 u_4_205 u_1_13 ⟨ok_X12_parting, by decide, by decide⟩ rfl (Nat.le_of_ble_eq_true rfl) 56 rfl rfl H hP) hrw [56, 57, 58, 59, 60, 61, 62, 63, 64, 65, 66, 67, 68, 69, 70, 71, 72] rfl (cl_1001_s ..) rfl (cl_1001_m ..) (ad_XM ..) rfl ?_
        refine j_icmp_eq (pc' := 634) (tgt := 1204) K dL_law_631 (by decide) rfl (fun hc => ?_) (fun hc => ?_)
        · have h := jit hc h
          refine j_sub [0, 1, 2, 3] rfl ?_
          exact b_L_law_1204 a0 a1 b xs L hscr K hrw HR (f_L_law_18 n) (ih) v3 (r609.2) (r628.2) h
        · have h := jif hc h
          refine j_iconst (pc' := 635) (v := (0 : Int32)) K dL_law_634 (by decide) rfl ?_
          obtain ⟨hg, h⟩ := jzb_some h
          obtain rfl := Option.some.inj h
          exact HR _ _ hg dL_law_635
      have hc11 := hc
      have h := jif hc h
      by_cases hc : ((xs (Int32.toNatClampNeg v3)) &&& (31 : Int32)) = 12
      · have h := jit hc h
        refine j_tabIn (tgt := 636) K dL_law_32 (by rw [hc]; decide) (by rw [hc]; decide) (by rw [hc]; rfl) (by decide) ?_
        refine j_aload_n (pc' := 637) K dL_law_636 rfl 1 rfl rfl ?_
        refine j_aload_n (pc' := 638) K dL_law_637 rfl 0 rfl rfl ?_
        refine j_iload_n (pc' := 639) K dL_law_638 rfl 3 rfl rfl ?_
        refine j_iconst (pc' := 640) (v := (1 : Int32)) K dL_law_639 (by decide) rfl ?_
        refine j_iadd (pc' := 641) K dL_law_640 rfl ?_
        obtain ⟨hg, h⟩ := jgd_some h
        refine j_sld (pc' := 642) K dL_law_641 hscr hg rfl ?_
        refine j_aload_n (pc' := 643) K dL_law_642 rfl 0 rfl rfl ?_
        refine j_iload_n (pc' := 644) K dL_law_643 rfl 3 rfl rfl ?_
        refine j_iconst (pc' := 645) (v := (2 : Int32)) K dL_law_644 (by decide) rfl ?_
        refine j_iadd (pc' := 646) K dL_law_645 rfl ?_
        obtain ⟨hg, h⟩ := jgd_some h
        refine j_sld (pc' := 647) K dL_law_646 hscr hg rfl ?_
        obtain ⟨r647, hr647, h⟩ := jbd_some h
        refine j_rw (pc' := 650) (ws' := (wX (jg E) a0 (r647.2) ++ wM (jg E) a1 s1)) K (fun H hP => jrun_V K dL_law_647 (M_X11_partRank (jl E) (jg E) a0 (xs (Int32.toNatClampNeg (v3 + (1 : Int32)))) (xs (Int32.toNatClampNeg (v3 + (2 : Int32)))) s0 hr647) u_2_213 u_2_210 u_2_211 u_2_212 u_1_1 ⟨ok_X11_partRank, by decide, by decide⟩ rfl (Nat.le_of_ble_eq_true rfl) 0 rfl rfl H hP) hrw [0, 1, 2, 3, 4, 5, 6, 7, 8, 9, 10, 11, 12, 13, 14, 15, 16, 17, 18, 19, 20, 21, 22, 23, 24, 25, 26, 27, 28, 29, 30, 31, 32, 33, 34, 35, 36, 37, 38, 39, 40, 41, 42, 43, 44, 45, 46, 47, 48, 49, 50, 51, 52, 53, 54, 55] rfl (cl_1000_s ..) rfl (cl_1000_m ..) (ad_XM ..) rfl ?_
        refine j_aload_n (pc' := 651) K dL_law_650 rfl 2 rfl rfl ?_
        refine j_aload_n (pc' := 652) K dL_law_651 rfl 0 rfl rfl ?_
        refine j_iload_n (pc' := 653) K dL_law_652 rfl 3 rfl rfl ?_
        refine j_iconst (pc' := 654) (v := (1 : Int32)) K dL_law_653 (by decide) rfl ?_
        refine j_iadd (pc' := 655) K dL_law_654 rfl ?_
        obtain ⟨hg, h⟩ := jgd_some h
        refine j_sld (pc' := 656) K dL_law_655 hscr hg rfl ?_
        refine j_aload_n (pc' := 657) K dL_law_656 rfl 0 rfl rfl ?_
        refine j_iload_n (pc' := 658) K dL_law_657 rfl 3 rfl rfl ?_
        refine j_iconst (pc' := 659) (v := (2 : Int32)) K dL_law_658 (by decide) rfl ?_
        refine j_iadd (pc' := 660) K dL_law_659 rfl ?_
        obtain ⟨hg, h⟩ := jgd_some h
        refine j_sld (pc' := 661) K dL_law_660 hscr hg rfl ?_
        obtain ⟨r661, hr661, h⟩ := jbd_some h
        refine j_rw (pc' := 664) (ws' := (wX (jg E) a0 (r647.2) ++ wM (jg E) a1 (r661.2))) K (fun H hP => jrun_V K dL_law_661 (M_X12_partRank (jl E) (jg E) a1 (xs (Int32.toNatClampNeg (v3 + (1 : Int32)))) (xs (Int32.toNatClampNeg (v3 + (2 : Int32)))) s1 hr661) u_4_225 u_4_222 u_4_223 u_4_224 u_1_13 ⟨ok_X12_partRank, by decide, by decide⟩ rfl (Nat.le_of_ble_eq_true rfl) 56 rfl rfl H hP) hrw [56, 57, 58, 59, 60, 61, 62, 63, 64, 65, 66, 67, 68, 69, 70, 71, 72] rfl (cl_1001_s ..) rfl (cl_1001_m ..) (ad_XM ..) rfl ?_
        refine j_icmp_eq (pc' := 667) (tgt := 1204) K dL_law_664 (by decide) rfl (fun hc => ?_) (fun hc => ?_)
        · have h := jit hc h
          refine j_sub [0, 1, 2, 3] rfl ?_
          exact b_L_law_1204 a0 a1 b xs L hscr K hrw HR (f_L_law_18 n) (ih) v3 (r647.2) (r661.2) h
        · have h := jif hc h
          refine j_iconst (pc' := 668) (v := (0 : Int32)) K dL_law_667 (by decide) rfl ?_
          obtain ⟨hg, h⟩ := jzb_some h
          obtain rfl := Option.some.inj h
          exact HR _ _ hg dL_law_668
      have hc12 := hc
      have h := jif hc h
      by_cases hc : ((xs (Int32.toNatClampNeg v3)) &&& (31 : Int32)) = 13
      · have h := jit hc h
        refine j_tabIn (tgt := 669) K dL_law_32 (by rw [hc]; decide) (by rw [hc]; decide) (by rw [hc]; rfl) (by decide) ?_
        refine j_aload_n (pc' := 670) K dL_law_669 rfl 1 rfl rfl ?_
        refine j_aload_n (pc' := 671) K dL_law_670 rfl 0 rfl rfl ?_
        refine j_iload_n (pc' := 672) K dL_law_671 rfl 3 rfl rfl ?_
        refine j_iconst (pc' := 673) (v := (1 : Int32)) K dL_law_672 (by decide) rfl ?_
        refine j_iadd (pc' := 674) K dL_law_673 rfl ?_
        obtain ⟨hg, h⟩ := jgd_some h
        refine j_sld (pc' := 675) K dL_law_674 hscr hg rfl ?_
        refine j_aload_n (pc' := 676) K dL_law_675 rfl 0 rfl rfl ?_
        refine j_iload_n (pc' := 677) K dL_law_676 rfl 3 rfl rfl ?_
        refine j_iconst (pc' := 678) (v := (2 : Int32)) K dL_law_677 (by decide) rfl ?_
        refine j_iadd (pc' := 679) K dL_law_678 rfl ?_
        obtain ⟨hg, h⟩ := jgd_some h
        refine j_sld (pc' := 680) K dL_law_679 hscr hg rfl ?_
        refine j_aload_n (pc' := 681) K dL_law_680 rfl 0 rfl rfl ?_
        refine j_iload_n (pc' := 682) K dL_law_681 rfl 3 rfl rfl ?_
        refine j_iconst (pc' := 683) (v := (3 : Int32)) K dL_law_682 (by decide) rfl ?_
        refine j_iadd (pc' := 684) K dL_law_683 rfl ?_
        obtain ⟨hg, h⟩ := jgd_some h
        refine j_sld (pc' := 685) K dL_law_684 hscr hg rfl ?_
        refine j_aload_n (pc' := 686) K dL_law_685 rfl 0 rfl rfl ?_
        refine j_iload_n (pc' := 687) K dL_law_686 rfl 3 rfl rfl ?_
        refine j_iconst (pc' := 688) (v := (4 : Int32)) K dL_law_687 (by decide) rfl ?_
        refine j_iadd (pc' := 689) K dL_law_688 rfl ?_
        obtain ⟨hg, h⟩ := jgd_some h
        refine j_sld (pc' := 690) K dL_law_689 hscr hg rfl ?_
        obtain ⟨r690, hr690, h⟩ := jbd_some h
        refine j_rw (pc' := 693) (ws' := (wX (jg E) a0 (r690.2) ++ wM (jg E) a1 s1)) K (fun H hP => jrun_V K dL_law_690 (M_X11_orders (jl E) (jg E) a0 (xs (Int32.toNatClampNeg (v3 + (1 : Int32)))) (xs (Int32.toNatClampNeg (v3 + (2 : Int32)))) (xs (Int32.toNatClampNeg (v3 + (3 : Int32)))) (xs (Int32.toNatClampNeg (v3 + (4 : Int32)))) s0 hr690) u_2_231 u_2_228 u_2_229 u_2_230 u_1_1 ⟨ok_X11_orders, by decide, by decide⟩ rfl (Nat.le_of_ble_eq_true rfl) 0 rfl rfl H hP) hrw [0, 1, 2, 3, 4, 5, 6, 7, 8, 9, 10, 11, 12, 13, 14, 15, 16, 17, 18, 19, 20, 21, 22, 23, 24, 25, 26, 27, 28, 29, 30, 31, 32, 33, 34, 35, 36, 37, 38, 39, 40, 41, 42, 43, 44, 45, 46, 47, 48, 49, 50, 51, 52, 53, 54, 55] rfl (cl_1000_s ..) rfl (cl_1000_m ..) (ad_XM ..) rfl ?_
        refine j_aload_n (pc' := 694) K dL_law_693 rfl 2 rfl rfl ?_
        refine j_aload_n (pc' := 695) K dL_law_694 rfl 0 rfl rfl ?_
        refine j_iload_n (pc' := 696) K dL_law_695 rfl 3 rfl rfl ?_
        refine j_iconst (pc' := 697) (v := (1 : Int32)) K dL_law_696 (by decide) rfl ?_
        refine j_iadd (pc' := 698) K dL_law_697 rfl ?_
        obtain ⟨hg, h⟩ := jgd_some h
        refine j_sld (pc' := 699) K dL_law_698 hscr hg rfl ?_
        refine j_aload_n (pc' := 700) K dL_law_699 rfl 0 rfl rfl ?_
        refine j_iload_n (pc' := 701) K dL_law_700 rfl 3 rfl rfl ?_
        refine j_iconst (pc' := 702) (v := (2 : Int32)) K dL_law_701 (by decide) rfl ?_
        refine j_iadd (pc' := 703) K dL_law_702 rfl ?_
        obtain ⟨hg, h⟩ := jgd_some h
        refine j_sld (pc' := 704) K dL_law_703 hscr hg rfl ?_
        refine j_aload_n (pc' := 705) K dL_law_704 rfl 0 rfl rfl ?_
        refine j_iload_n (pc' := 706) K dL_law_705 rfl 3 rfl rfl ?_
        refine j_iconst (pc' := 707) (v := (3 : Int32)) K dL_law_706 (by decide) rfl ?_
        refine j_iadd (pc' := 708) K dL_law_707 rfl ?_
        obtain ⟨hg, h⟩ := jgd_some h
        refine j_sld (pc' := 709) K dL_law_708 hscr hg rfl ?_
        refine j_aload_n (pc' := 710) K dL_law_709 rfl 0 rfl rfl ?_
        refine j_iload_n (pc' := 711) K dL_law_710 rfl 3 rfl rfl ?_
        refine j_iconst (pc' := 712) (v := (4 : Int32)) K dL_law_711 (by decide) rfl ?_
        refine j_iadd (pc' := 713) K dL_law_712 rfl ?_
        obtain ⟨hg, h⟩ := jgd_some h
        refine j_sld (pc' := 714) K dL_law_713 hscr hg rfl ?_
        obtain ⟨r714, hr714, h⟩ := jbd_some h
        refine j_rw (pc' := 717) (ws' := (wX (jg E) a0 (r690.2) ++ wM (jg E) a1 (r714.2))) K (fun H hP => jrun_V K dL_law_714 (M_X12_orders (jl E) (jg E) a1 (xs (Int32.toNatClampNeg (v3 + (1 : Int32)))) (xs (Int32.toNatClampNeg (v3 + (2 : Int32)))) (xs (Int32.toNatClampNeg (v3 + (3 : Int32)))) (xs (Int32.toNatClampNeg (v3 + (4 : Int32)))) s1 hr714) u_4_233 u_4_230 u_4_231 u_4_232 u_1_13 ⟨ok_X12_orders, by decide, by decide⟩ rfl (Nat.le_of_ble_eq_true rfl) 56 rfl rfl H hP) hrw [56, 57, 58, 59, 60, 61, 62, 63, 64, 65, 66, 67, 68, 69, 70, 71, 72] rfl (cl_1001_s ..) rfl (cl_1001_m ..) (ad_XM ..) rfl ?_
        refine j_icmp_eq (pc' := 720) (tgt := 1204) K dL_law_717 (by decide) rfl (fun hc => ?_) (fun hc => ?_)
        · have h := jit hc h
          refine j_sub [0, 1, 2, 3] rfl ?_
          exact b_L_law_1204 a0 a1 b xs L hscr K hrw HR (f_L_law_18 n) (ih) v3 (r690.2) (r714.2) h
        · have h := jif hc h
          refine j_iconst (pc' := 721) (v := (0 : Int32)) K dL_law_720 (by decide) rfl ?_
          obtain ⟨hg, h⟩ := jzb_some h
          obtain rfl := Option.some.inj h
          exact HR _ _ hg dL_law_721
      have hc13 := hc
      have h := jif hc h
      by_cases hc : ((xs (Int32.toNatClampNeg v3)) &&& (31 : Int32)) = 14
      · have h := jit hc h
        refine j_tabIn (tgt := 722) K dL_law_32 (by rw [hc]; decide) (by rw [hc]; decide) (by rw [hc]; rfl) (by decide) ?_
        refine j_aload_n (pc' := 723) K dL_law_722 rfl 1 rfl rfl ?_
        refine j_aload_n (pc' := 724) K dL_law_723 rfl 0 rfl rfl ?_
        refine j_iload_n (pc' := 725) K dL_law_724 rfl 3 rfl rfl ?_
        refine j_iconst (pc' := 726) (v := (1 : Int32)) K dL_law_725 (by decide) rfl ?_
        refine j_iadd (pc' := 727) K dL_law_726 rfl ?_
        obtain ⟨hg, h⟩ := jgd_some h
        refine j_sld (pc' := 728) K dL_law_727 hscr hg rfl ?_
        refine j_aload_n (pc' := 729) K dL_law_728 rfl 0 rfl rfl ?_
        refine j_iload_n (pc' := 730) K dL_law_729 rfl 3 rfl rfl ?_
        refine j_iconst (pc' := 731) (v := (2 : Int32)) K dL_law_730 (by decide) rfl ?_
        refine j_iadd (pc' := 732) K dL_law_731 rfl ?_
        obtain ⟨hg, h⟩ := jgd_some h
        refine j_sld (pc' := 733) K dL_law_732 hscr hg rfl ?_
        refine j_aload_n (pc' := 734) K dL_law_733 rfl 0 rfl rfl ?_
        refine j_iload_n (pc' := 735) K dL_law_734 rfl 3 rfl rfl ?_
        refine j_iconst (pc' := 736) (v := (3 : Int32)) K dL_law_735 (by decide) rfl ?_
        refine j_iadd (pc' := 737) K dL_law_736 rfl ?_
        obtain ⟨hg, h⟩ := jgd_some h
        refine j_sld (pc' := 738) K dL_law_737 hscr hg rfl ?_
        obtain ⟨r738, hr738, h⟩ := jbd_some h
        refine j_rw (pc' := 741) (ws' := (wX (jg E) a0 (r738.2) ++ wM (jg E) a1 s1)) K (fun H hP => jrun_V K dL_law_738 (M_X11_mark (jl E) (jg E) a0 (xs (Int32.toNatClampNeg (v3 + (1 : Int32)))) (xs (Int32.toNatClampNeg (v3 + (2 : Int32)))) (xs (Int32.toNatClampNeg (v3 + (3 : Int32)))) s0 hr738) u_3_102 u_3_99 u_3_100 u_3_101 u_1_1 ⟨ok_X11_mark, by decide, by decide⟩ rfl (Nat.le_of_ble_eq_true rfl) 0 rfl rfl H hP) hrw [0, 1, 2, 3, 4, 5, 6, 7, 8, 9, 10, 11, 12, 13, 14, 15, 16, 17, 18, 19, 20, 21, 22, 23, 24, 25, 26, 27, 28, 29, 30, 31, 32, 33, 34, 35, 36, 37, 38, 39, 40, 41, 42, 43, 44, 45, 46, 47, 48, 49, 50, 51, 52, 53, 54, 55] rfl (cl_1000_s ..) rfl (cl_1000_m ..) (ad_XM ..) rfl ?_
        refine j_aload_n (pc' := 742) K dL_law_741 rfl 2 rfl rfl ?_
        refine j_aload_n (pc' := 743) K dL_law_742 rfl 0 rfl rfl ?_
        refine j_iload_n (pc' := 744) K dL_law_743 rfl 3 rfl rfl ?_
        refine j_iconst (pc' := 745) (v := (1 : Int32)) K dL_law_744 (by decide) rfl ?_
        refine j_iadd (pc' := 746) K dL_law_745 rfl ?_
        obtain ⟨hg, h⟩ := jgd_some h
        refine j_sld (pc' := 747) K dL_law_746 hscr hg rfl ?_
        refine j_aload_n (pc' := 748) K dL_law_747 rfl 0 rfl rfl ?_
        refine j_iload_n (pc' := 749) K dL_law_748 rfl 3 rfl rfl ?_
        refine j_iconst (pc' := 750) (v := (2 : Int32)) K dL_law_749 (by decide) rfl ?_
        refine j_iadd (pc' := 751) K dL_law_750 rfl ?_
        obtain ⟨hg, h⟩ := jgd_some h
        refine j_sld (pc' := 752) K dL_law_751 hscr hg rfl ?_
        refine j_aload_n (pc' := 753) K dL_law_752 rfl 0 rfl rfl ?_
        refine j_iload_n (pc' := 754) K dL_law_753 rfl 3 rfl rfl ?_
        refine j_iconst (pc' := 755) (v := (3 : Int32)) K dL_law_754 (by decide) rfl ?_
        refine j_iadd (pc' := 756) K dL_law_755 rfl ?_
        obtain ⟨hg, h⟩ := jgd_some h
        refine j_sld (pc' := 757) K dL_law_756 hscr hg rfl ?_
        obtain ⟨r757, hr757, h⟩ := jbd_some h
        refine j_rw (pc' := 760) (ws' := (wX (jg E) a0 (r738.2) ++ wM (jg E) a1 (r757.2))) K (fun H hP => jrun_V K dL_law_757 (M_X12_mark (jl E) (jg E) a1 (xs (Int32.toNatClampNeg (v3 + (1 : Int32)))) (xs (Int32.toNatClampNeg (v3 + (2 : Int32)))) (xs (Int32.toNatClampNeg (v3 + (3 : Int32)))) s1 hr757) u_5_15 u_5_12 u_5_13 u_5_14 u_1_13 ⟨ok_X12_mark, by decide, by decide⟩ rfl (Nat.le_of_ble_eq_true rfl) 56 rfl rfl H hP) hrw [56, 57, 58, 59, 60, 61, 62, 63, 64, 65, 66, 67, 68, 69, 70, 71, 72] rfl (cl_1001_s ..) rfl (cl_1001_m ..) (ad_XM ..) rfl ?_
        refine j_icmp_eq (pc' := 763) (tgt := 1204) K dL_law_760 (by decide) rfl (fun hc => ?_) (fun hc => ?_)
        · have h := jit hc h
          refine j_sub [0, 1, 2, 3] rfl ?_
          exact b_L_law_1204 a0 a1 b xs L hscr K hrw HR (f_L_law_18 n) (ih) v3 (r738.2) (r757.2) h
        · have h := jif hc h
          refine j_iconst (pc' := 764) (v := (0 : Int32)) K dL_law_763 (by decide) rfl ?_
          obtain ⟨hg, h⟩ := jzb_some h
          obtain rfl := Option.some.inj h
          exact HR _ _ hg dL_law_764
      have hc14 := hc
      have h := jif hc h
      by_cases hc : ((xs (Int32.toNatClampNeg v3)) &&& (31 : Int32)) = 15
      · have h := jit hc h
        refine j_tabIn (tgt := 765) K dL_law_32 (by rw [hc]; decide) (by rw [hc]; decide) (by rw [hc]; rfl) (by decide) ?_
        refine j_aload_n (pc' := 766) K dL_law_765 rfl 1 rfl rfl ?_
        refine j_aload_n (pc' := 767) K dL_law_766 rfl 0 rfl rfl ?_
        refine j_iload_n (pc' := 768) K dL_law_767 rfl 3 rfl rfl ?_
        refine j_iconst (pc' := 769) (v := (1 : Int32)) K dL_law_768 (by decide) rfl ?_
        refine j_iadd (pc' := 770) K dL_law_769 rfl ?_
        obtain ⟨hg, h⟩ := jgd_some h
        refine j_sld (pc' := 771) K dL_law_770 hscr hg rfl ?_
        refine j_aload_n (pc' := 772) K dL_law_771 rfl 0 rfl rfl ?_
        refine j_iload_n (pc' := 773) K dL_law_772 rfl 3 rfl rfl ?_
        refine j_iconst (pc' := 774) (v := (2 : Int32)) K dL_law_773 (by decide) rfl ?_
        refine j_iadd (pc' := 775) K dL_law_774 rfl ?_
        obtain ⟨hg, h⟩ := jgd_some h
        refine j_sld (pc' := 776) K dL_law_775 hscr hg rfl ?_
        obtain ⟨r776, hr776, h⟩ := jbd_some h
        refine j_rw (pc' := 779) (ws' := (wX (jg E) a0 (r776.2) ++ wM (jg E) a1 s1)) K (fun H hP => jrun_V K dL_law_776 (M_X11_rank (jl E) (jg E) a0 (xs (Int32.toNatClampNeg (v3 + (1 : Int32)))) (xs (Int32.toNatClampNeg (v3 + (2 : Int32)))) s0 hr776) u_3_127 u_3_124 u_3_125 u_3_126 u_1_1 ⟨ok_X11_rank, by decide, by decide⟩ rfl (Nat.le_of_ble_eq_true rfl) 0 rfl rfl H hP) hrw [0, 1, 2, 3, 4, 5, 6, 7, 8, 9, 10, 11, 12, 13, 14, 15, 16, 17, 18, 19, 20, 21, 22, 23, 24, 25, 26, 27, 28, 29, 30, 31, 32, 33, 34, 35, 36, 37, 38, 39, 40, 41, 42, 43, 44, 45, 46, 47, 48, 49, 50, 51, 52, 53, 54, 55] rfl (cl_1000_s ..) rfl (cl_1000_m ..) (ad_XM ..) rfl ?_
        refine j_aload_n (pc' := 780) K dL_law_779 rfl 2 rfl rfl ?_
        refine j_aload_n (pc' := 781) K dL_law_780 rfl 0 rfl rfl ?_
        refine j_iload_n (pc' := 782) K dL_law_781 rfl 3 rfl rfl ?_
        refine j_iconst (pc' := 783) (v := (1 : Int32)) K dL_law_782 (by decide) rfl ?_
        refine j_iadd (pc' := 784) K dL_law_783 rfl ?_
        obtain ⟨hg, h⟩ := jgd_some h
        refine j_sld (pc' := 785) K dL_law_784 hscr hg rfl ?_
        refine j_aload_n (pc' := 786) K dL_law_785 rfl 0 rfl rfl ?_
        refine j_iload_n (pc' := 787) K dL_law_786 rfl 3 rfl rfl ?_
        refine j_iconst (pc' := 788) (v := (2 : Int32)) K dL_law_787 (by decide) rfl ?_
        refine j_iadd (pc' := 789) K dL_law_788 rfl ?_
        obtain ⟨hg, h⟩ := jgd_some h
        refine j_sld (pc' := 790) K dL_law_789 hscr hg rfl ?_
        obtain ⟨r790, hr790, h⟩ := jbd_some h
        refine j_rw (pc' := 793) (ws' := (wX (jg E) a0 (r776.2) ++ wM (jg E) a1 (r790.2))) K (fun H hP => jrun_V K dL_law_790 (M_X12_rank (jl E) (jg E) a1 (xs (Int32.toNatClampNeg (v3 + (1 : Int32)))) (xs (Int32.toNatClampNeg (v3 + (2 : Int32)))) s1 hr790) u_5_27 u_5_24 u_5_25 u_5_26 u_1_13 ⟨ok_X12_rank, by decide, by decide⟩ rfl (Nat.le_of_ble_eq_true rfl) 56 rfl rfl H hP) hrw [56, 57, 58, 59, 60, 61, 62, 63, 64, 65, 66, 67, 68, 69, 70, 71, 72] rfl (cl_1001_s ..) rfl (cl_1001_m ..) (ad_XM ..) rfl ?_
        refine j_icmp_eq (pc' := 796) (tgt := 1204) K dL_law_793 (by decide) rfl (fun hc => ?_) (fun hc => ?_)
        · have h := jit hc h
          refine j_sub [0, 1, 2, 3] rfl ?_
          exact b_L_law_1204 a0 a1 b xs L hscr K hrw HR (f_L_law_18 n) (ih) v3 (r776.2) (r790.2) h
        · have h := jif hc h
          refine j_iconst (pc' := 797) (v := (0 : Int32)) K dL_law_796 (by decide) rfl ?_
          obtain ⟨hg, h⟩ := jzb_some h
          obtain rfl := Option.some.inj h
          exact HR _ _ hg dL_law_797
      have hc15 := hc
      have h := jif hc h
      by_cases hc : ((xs (Int32.toNatClampNeg v3)) &&& (31 : Int32)) = 16
      · have h := jit hc h
        refine j_tabIn (tgt := 798) K dL_law_32 (by rw [hc]; decide) (by rw [hc]; decide) (by rw [hc]; rfl) (by decide) ?_
        refine j_aload_n (pc' := 799) K dL_law_798 rfl 1 rfl rfl ?_
        refine j_aload_n (pc' := 800) K dL_law_799 rfl 0 rfl rfl ?_
        refine j_iload_n (pc' := 801) K dL_law_800 rfl 3 rfl rfl ?_
        refine j_iconst (pc' := 802) (v := (1 : Int32)) K dL_law_801 (by decide) rfl ?_
        refine j_iadd (pc' := 803) K dL_law_802 rfl ?_
        obtain ⟨hg, h⟩ := jgd_some h
        refine j_sld (pc' := 804) K dL_law_803 hscr hg rfl ?_
        refine j_aload_n (pc' := 805) K dL_law_804 rfl 0 rfl rfl ?_
        refine j_iload_n (pc' := 806) K dL_law_805 rfl 3 rfl rfl ?_
        refine j_iconst (pc' := 807) (v := (2 : Int32)) K dL_law_806 (by decide) rfl ?_
        refine j_iadd (pc' := 808) K dL_law_807 rfl ?_
        obtain ⟨hg, h⟩ := jgd_some h
        refine j_sld (pc' := 809) K dL_law_808 hscr hg rfl ?_
        obtain ⟨r809, hr809, h⟩ := jbd_some h
        refine j_rw (pc' := 812) (ws' := (wX (jg E) a0 (r809.2) ++ wM (jg E) a1 s1)) K (fun H hP => jrun_V K dL_law_809 (M_X11_over (jl E) (jg E) a0 (xs (Int32.toNatClampNeg (v3 + (1 : Int32)))) (xs (Int32.toNatClampNeg (v3 + (2 : Int32)))) s0 hr809) u_3_136 u_3_133 u_3_134 u_3_135 u_1_1 ⟨ok_X11_over, by decide, by decide⟩ rfl (Nat.le_of_ble_eq_true rfl) 0 rfl rfl H hP) hrw [0, 1, 2, 3, 4, 5, 6, 7, 8, 9, 10, 11, 12, 13, 14, 15, 16, 17, 18, 19, 20, 21, 22, 23, 24, 25, 26, 27, 28, 29, 30, 31, 32, 33, 34, 35, 36, 37, 38, 39, 40, 41, 42, 43, 44, 45, 46, 47, 48, 49, 50, 51, 52, 53, 54, 55] rfl (cl_1000_s ..) rfl (cl_1000_m ..) (ad_XM ..) rfl ?_
        refine j_aload_n (pc' := 813) K dL_law_812 rfl 2 rfl rfl ?_
        refine j_aload_n (pc' := 814) K dL_law_813 rfl 0 rfl rfl ?_
        refine j_iload_n (pc' := 815) K dL_law_814 rfl 3 rfl rfl ?_
        refine j_iconst (pc' := 816) (v := (1 : Int32)) K dL_law_815 (by decide) rfl ?_
        refine j_iadd (pc' := 817) K dL_law_816 rfl ?_
        obtain ⟨hg, h⟩ := jgd_some h
        refine j_sld (pc' := 818) K dL_law_817 hscr hg rfl ?_
        refine j_aload_n (pc' := 819) K dL_law_818 rfl 0 rfl rfl ?_
        refine j_iload_n (pc' := 820) K dL_law_819 rfl 3 rfl rfl ?_
        refine j_iconst (pc' := 821) (v := (2 : Int32)) K dL_law_820 (by decide) rfl ?_
        refine j_iadd (pc' := 822) K dL_law_821 rfl ?_
        obtain ⟨hg, h⟩ := jgd_some h
        refine j_sld (pc' := 823) K dL_law_822 hscr hg rfl ?_
        obtain ⟨r823, hr823, h⟩ := jbd_some h
        refine j_rw (pc' := 826) (ws' := (wX (jg E) a0 (r809.2) ++ wM (jg E) a1 (r823.2))) K (fun H hP => jrun_V K dL_law_823 (M_X12_over (jl E) (jg E) a1 (xs (Int32.toNatClampNeg (v3 + (1 : Int32)))) (xs (Int32.toNatClampNeg (v3 + (2 : Int32)))) s1 hr823) u_5_31 u_5_28 u_5_29 u_5_30 u_1_13 ⟨ok_X12_over, by decide, by decide⟩ rfl (Nat.le_of_ble_eq_true rfl) 56 rfl rfl H hP) hrw [56, 57, 58, 59, 60, 61, 62, 63, 64, 65, 66, 67, 68, 69, 70, 71, 72] rfl (cl_1001_s ..) rfl (cl_1001_m ..) (ad_XM ..) rfl ?_
        refine j_icmp_eq (pc' := 829) (tgt := 1204) K dL_law_826 (by decide) rfl (fun hc => ?_) (fun hc => ?_)
        · have h := jit hc h
          refine j_sub [0, 1, 2, 3] rfl ?_
          exact b_L_law_1204 a0 a1 b xs L hscr K hrw HR (f_L_law_18 n) (ih) v3 (r809.2) (r823.2) h
        · have h := jif hc h
          refine j_iconst (pc' := 830) (v := (0 : Int32)) K dL_law_829 (by decide) rfl ?_
          obtain ⟨hg, h⟩ := jzb_some h
          obtain rfl := Option.some.inj h
          exact HR _ _ hg dL_law_830
      have hc16 := hc
      have h := jif hc h
      by_cases hc : ((xs (Int32.toNatClampNeg v3)) &&& (31 : Int32)) = 17
      · have h := jit hc h
        refine j_tabIn (tgt := 831) K dL_law_32 (by rw [hc]; decide) (by rw [hc]; decide) (by rw [hc]; rfl) (by decide) ?_
        refine j_aload_n (pc' := 832) K dL_law_831 rfl 1 rfl rfl ?_
        refine j_aload_n (pc' := 833) K dL_law_832 rfl 0 rfl rfl ?_
        refine j_iload_n (pc' := 834) K dL_law_833 rfl 3 rfl rfl ?_
        refine j_iconst (pc' := 835) (v := (1 : Int32)) K dL_law_834 (by decide) rfl ?_
        refine j_iadd (pc' := 836) K dL_law_835 rfl ?_
        obtain ⟨hg, h⟩ := jgd_some h
        refine j_sld (pc' := 837) K dL_law_836 hscr hg rfl ?_
        refine j_aload_n (pc' := 838) K dL_law_837 rfl 0 rfl rfl ?_
        refine j_iload_n (pc' := 839) K dL_law_838 rfl 3 rfl rfl ?_
        refine j_iconst (pc' := 840) (v := (2 : Int32)) K dL_law_839 (by decide) rfl ?_
        refine j_iadd (pc' := 841) K dL_law_840 rfl ?_
        obtain ⟨hg, h⟩ := jgd_some h
        refine j_sld (pc' := 842) K dL_law_841 hscr hg rfl ?_
        refine j_aload_n (pc' := 843) K dL_law_842 rfl 0 rfl rfl ?_
        refine j_iload_n (pc' := 844) K dL_law_843 rfl 3 rfl rfl ?_
        refine j_iconst (pc' := 845) (v := (3 : Int32)) K dL_law_844 (by decide) rfl ?_
        refine j_iadd (pc' := 846) K dL_law_845 rfl ?_
        obtain ⟨hg, h⟩ := jgd_some h
        refine j_sld (pc' := 847) K dL_law_846 hscr hg rfl ?_
        obtain ⟨r847, hr847, h⟩ := jbd_some h
        refine j_rw (pc' := 850) (ws' := (wX (jg E) a0 (r847.2) ++ wM (jg E) a1 s1)) K (fun H hP => jrun_V K dL_law_847 (M_X11_behind (jl E) (jg E) a0 (xs (Int32.toNatClampNeg (v3 + (1 : Int32)))) (xs (Int32.toNatClampNeg (v3 + (2 : Int32)))) (xs (Int32.toNatClampNeg (v3 + (3 : Int32)))) s0 hr847) u_3_144 u_3_141 u_3_142 u_3_143 u_1_1 ⟨ok_X11_behind, by decide, by decide⟩ rfl (Nat.le_of_ble_eq_true rfl) 0 rfl rfl H hP) hrw [0, 1, 2, 3, 4, 5, 6, 7, 8, 9, 10, 11, 12, 13, 14, 15, 16, 17, 18, 19, 20, 21, 22, 23, 24, 25, 26, 27, 28, 29, 30, 31, 32, 33, 34, 35, 36, 37, 38, 39, 40, 41, 42, 43, 44, 45, 46, 47, 48, 49, 50, 51, 52, 53, 54, 55] rfl (cl_1000_s ..) rfl (cl_1000_m ..) (ad_XM ..) rfl ?_
        refine j_aload_n (pc' := 851) K dL_law_850 rfl 2 rfl rfl ?_
        refine j_aload_n (pc' := 852) K dL_law_851 rfl 0 rfl rfl ?_
        refine j_iload_n (pc' := 853) K dL_law_852 rfl 3 rfl rfl ?_
        refine j_iconst (pc' := 854) (v := (1 : Int32)) K dL_law_853 (by decide) rfl ?_
        refine j_iadd (pc' := 855) K dL_law_854 rfl ?_
        obtain ⟨hg, h⟩ := jgd_some h
        refine j_sld (pc' := 856) K dL_law_855 hscr hg rfl ?_
        refine j_aload_n (pc' := 857) K dL_law_856 rfl 0 rfl rfl ?_
        refine j_iload_n (pc' := 858) K dL_law_857 rfl 3 rfl rfl ?_
        refine j_iconst (pc' := 859) (v := (2 : Int32)) K dL_law_858 (by decide) rfl ?_
        refine j_iadd (pc' := 860) K dL_law_859 rfl ?_
        obtain ⟨hg, h⟩ := jgd_some h
        refine j_sld (pc' := 861) K dL_law_860 hscr hg rfl ?_
        refine j_aload_n (pc' := 862) K dL_law_861 rfl 0 rfl rfl ?_
        refine j_iload_n (pc' := 863) K dL_law_862 rfl 3 rfl rfl ?_
        refine j_iconst (pc' := 864) (v := (3 : Int32)) K dL_law_863 (by decide) rfl ?_
        refine j_iadd (pc' := 865) K dL_law_864 rfl ?_
        obtain ⟨hg, h⟩ := jgd_some h
        refine j_sld (pc' := 866) K dL_law_865 hscr hg rfl ?_
        obtain ⟨r866, hr866, h⟩ := jbd_some h
        refine j_rw (pc' := 869) (ws' := (wX (jg E) a0 (r847.2) ++ wM (jg E) a1 (r866.2))) K (fun H hP => jrun_V K dL_law_866 (M_X12_behind (jl E) (jg E) a1 (xs (Int32.toNatClampNeg (v3 + (1 : Int32)))) (xs (Int32.toNatClampNeg (v3 + (2 : Int32)))) (xs (Int32.toNatClampNeg (v3 + (3 : Int32)))) s1 hr866) u_5_35 u_5_32 u_5_33 u_5_34 u_1_13 ⟨ok_X12_behind, by decide, by decide⟩ rfl (Nat.le_of_ble_eq_true rfl) 56 rfl rfl H hP) hrw [56, 57, 58, 59, 60, 61, 62, 63, 64, 65, 66, 67, 68, 69, 70, 71, 72] rfl (cl_1001_s ..) rfl (cl_1001_m ..) (ad_XM ..) rfl ?_
        refine j_icmp_eq (pc' := 872) (tgt := 1204) K dL_law_869 (by decide) rfl (fun hc => ?_) (fun hc => ?_)
        · have h := jit hc h
          refine j_sub [0, 1, 2, 3] rfl ?_
          exact b_L_law_1204 a0 a1 b xs L hscr K hrw HR (f_L_law_18 n) (ih) v3 (r847.2) (r866.2) h
        · have h := jif hc h
          refine j_iconst (pc' := 873) (v := (0 : Int32)) K dL_law_872 (by decide) rfl ?_
          obtain ⟨hg, h⟩ := jzb_some h
          obtain rfl := Option.some.inj h
          exact HR _ _ hg dL_law_873
      have hc17 := hc
      have h := jif hc h
      by_cases hc : ((xs (Int32.toNatClampNeg v3)) &&& (31 : Int32)) = 18
      · have h := jit hc h
        refine j_tabIn (tgt := 874) K dL_law_32 (by rw [hc]; decide) (by rw [hc]; decide) (by rw [hc]; rfl) (by decide) ?_
        refine j_aload_n (pc' := 875) K dL_law_874 rfl 1 rfl rfl ?_
        refine j_aload_n (pc' := 876) K dL_law_875 rfl 0 rfl rfl ?_
        refine j_iload_n (pc' := 877) K dL_law_876 rfl 3 rfl rfl ?_
        refine j_iconst (pc' := 878) (v := (1 : Int32)) K dL_law_877 (by decide) rfl ?_
        refine j_iadd (pc' := 879) K dL_law_878 rfl ?_
        obtain ⟨hg, h⟩ := jgd_some h
        refine j_sld (pc' := 880) K dL_law_879 hscr hg rfl ?_
        refine j_aload_n (pc' := 881) K dL_law_880 rfl 0 rfl rfl ?_
        refine j_iload_n (pc' := 882) K dL_law_881 rfl 3 rfl rfl ?_
        refine j_iconst (pc' := 883) (v := (2 : Int32)) K dL_law_882 (by decide) rfl ?_
        refine j_iadd (pc' := 884) K dL_law_883 rfl ?_
        obtain ⟨hg, h⟩ := jgd_some h
        refine j_sld (pc' := 885) K dL_law_884 hscr hg rfl ?_
        obtain ⟨r885, hr885, h⟩ := jbd_some h
        refine j_rw (pc' := 888) (ws' := (wX (jg E) a0 (r885.2) ++ wM (jg E) a1 s1)) K (fun H hP => jrun_V K dL_law_885 (M_X11_base (jl E) (jg E) a0 (xs (Int32.toNatClampNeg (v3 + (1 : Int32)))) (xs (Int32.toNatClampNeg (v3 + (2 : Int32)))) s0 hr885) u_3_152 u_3_149 u_3_150 u_3_151 u_1_1 ⟨ok_X11_base, by decide, by decide⟩ rfl (Nat.le_of_ble_eq_true rfl) 0 rfl rfl H hP) hrw [0, 1, 2, 3, 4, 5, 6, 7, 8, 9, 10, 11, 12, 13, 14, 15, 16, 17, 18, 19, 20, 21, 22, 23, 24, 25, 26, 27, 28, 29, 30, 31, 32, 33, 34, 35, 36, 37, 38, 39, 40, 41, 42, 43, 44, 45, 46, 47, 48, 49, 50, 51, 52, 53, 54, 55] rfl (cl_1000_s ..) rfl (cl_1000_m ..) (ad_XM ..) rfl ?_
        refine j_aload_n (pc' := 889) K dL_law_888 rfl 2 rfl rfl ?_
        refine j_aload_n (pc' := 890) K dL_law_889 rfl 0 rfl rfl ?_
        refine j_iload_n (pc' := 891) K dL_law_890 rfl 3 rfl rfl ?_
        refine j_iconst (pc' := 892) (v := (1 : Int32)) K dL_law_891 (by decide) rfl ?_
        refine j_iadd (pc' := 893) K dL_law_892 rfl ?_
        obtain ⟨hg, h⟩ := jgd_some h
        refine j_sld (pc' := 894) K dL_law_893 hscr hg rfl ?_
        refine j_aload_n (pc' := 895) K dL_law_894 rfl 0 rfl rfl ?_
        refine j_iload_n (pc' := 896) K dL_law_895 rfl 3 rfl rfl ?_
        refine j_iconst (pc' := 897) (v := (2 : Int32)) K dL_law_896 (by decide) rfl ?_
        refine j_iadd (pc' := 898) K dL_law_897 rfl ?_
        obtain ⟨hg, h⟩ := jgd_some h
        refine j_sld (pc' := 899) K dL_law_898 hscr hg rfl ?_
        obtain ⟨r899, hr899, h⟩ := jbd_some h
        refine j_rw (pc' := 902) (ws' := (wX (jg E) a0 (r885.2) ++ wM (jg E) a1 (r899.2))) K (fun H hP => jrun_V K dL_law_899 (M_X12_base (jl E) (jg E) a1 (xs (Int32.toNatClampNeg (v3 + (1 : Int32)))) (xs (Int32.toNatClampNeg (v3 + (2 : Int32)))) s1 hr899) u_5_39 u_5_36 u_5_37 u_5_38 u_1_13 ⟨ok_X12_base, by decide, by decide⟩ rfl (Nat.le_of_ble_eq_true rfl) 56 rfl rfl H hP) hrw [56, 57, 58, 59, 60, 61, 62, 63, 64, 65, 66, 67, 68, 69, 70, 71, 72] rfl (cl_1001_s ..) rfl (cl_1001_m ..) (ad_XM ..) rfl ?_
        refine j_icmp_eq (pc' := 905) (tgt := 1204) K dL_law_902 (by decide) rfl (fun hc => ?_) (fun hc => ?_)
        · have h := jit hc h
          refine j_sub [0, 1, 2, 3] rfl ?_
          exact b_L_law_1204 a0 a1 b xs L hscr K hrw HR (f_L_law_18 n) (ih) v3 (r885.2) (r899.2) h
        · have h := jif hc h
          refine j_iconst (pc' := 906) (v := (0 : Int32)) K dL_law_905 (by decide) rfl ?_
          obtain ⟨hg, h⟩ := jzb_some h
          obtain rfl := Option.some.inj h
          exact HR _ _ hg dL_law_906
      have hc18 := hc
      have h := jif hc h
      by_cases hc : ((xs (Int32.toNatClampNeg v3)) &&& (31 : Int32)) = 19
      · have h := jit hc h
        refine j_tabIn (tgt := 907) K dL_law_32 (by rw [hc]; decide) (by rw [hc]; decide) (by rw [hc]; rfl) (by decide) ?_
        refine j_aload_n (pc' := 908) K dL_law_907 rfl 1 rfl rfl ?_
        refine j_aload_n (pc' := 909) K dL_law_908 rfl 0 rfl rfl ?_
        refine j_iload_n (pc' := 910) K dL_law_909 rfl 3 rfl rfl ?_
        refine j_iconst (pc' := 911) (v := (1 : Int32)) K dL_law_910 (by decide) rfl ?_
        refine j_iadd (pc' := 912) K dL_law_911 rfl ?_
        obtain ⟨hg, h⟩ := jgd_some h
        refine j_sld (pc' := 913) K dL_law_912 hscr hg rfl ?_
        refine j_aload_n (pc' := 914) K dL_law_913 rfl 0 rfl rfl ?_
        refine j_iload_n (pc' := 915) K dL_law_914 rfl 3 rfl rfl ?_
        refine j_iconst (pc' := 916) (v := (2 : Int32)) K dL_law_915 (by decide) rfl ?_
        refine j_iadd (pc' := 917) K dL_law_916 rfl ?_
        obtain ⟨hg, h⟩ := jgd_some h
        refine j_sld (pc' := 918) K dL_law_917 hscr hg rfl ?_
        refine j_aload_n (pc' := 919) K dL_law_918 rfl 0 rfl rfl ?_
        refine j_iload_n (pc' := 920) K dL_law_919 rfl 3 rfl rfl ?_
        refine j_iconst (pc' := 921) (v := (3 : Int32)) K dL_law_920 (by decide) rfl ?_
        refine j_iadd (pc' := 922) K dL_law_921 rfl ?_
        obtain ⟨hg, h⟩ := jgd_some h
        refine j_sld (pc' := 923) K dL_law_922 hscr hg rfl ?_
        refine j_i2l (pc' := 924) K dL_law_923 rfl ?_
        refine j_bipush (pc' := 926) (v := (32 : Int32)) K dL_law_924 (by decide) rfl ?_
        refine j_lshl (pc' := 927) K dL_law_926 rfl ?_
        refine j_aload_n (pc' := 928) K dL_law_927 rfl 0 rfl rfl ?_
        refine j_iload_n (pc' := 929) K dL_law_928 rfl 3 rfl rfl ?_
        refine j_iconst (pc' := 930) (v := (4 : Int32)) K dL_law_929 (by decide) rfl ?_
        refine j_iadd (pc' := 931) K dL_law_930 rfl ?_
        obtain ⟨hg, h⟩ := jgd_some h
        refine j_sld (pc' := 932) K dL_law_931 hscr hg rfl ?_
        refine j_i2l (pc' := 933) K dL_law_932 rfl ?_
        refine j_ldc2 (pc' := 936) K dL_law_933 u_5_111 rfl ?_
        refine j_land (pc' := 937) K dL_law_936 rfl ?_
        refine j_lor (pc' := 938) K dL_law_937 rfl ?_
        obtain ⟨r938, hr938, h⟩ := jbd_some h
        refine j_rw (pc' := 941) (ws' := (wX (jg E) a0 (r938.2) ++ wM (jg E) a1 s1)) K (fun H hP => jrun_V K dL_law_938 (M_X11_set (jl E) (jg E) a0 (xs (Int32.toNatClampNeg (v3 + (1 : Int32)))) (xs (Int32.toNatClampNeg (v3 + (2 : Int32)))) (((Int32.toInt64 (xs (Int32.toNatClampNeg (v3 + (3 : Int32))))) <<< (Int32.toInt64 (32 : Int32) &&& 63)) ||| ((Int32.toInt64 (xs (Int32.toNatClampNeg (v3 + (4 : Int32))))) &&& (4294967295 : Int64))) s0 hr938) u_3_170 u_3_167 u_3_168 u_3_169 u_1_1 ⟨ok_X11_set, by decide, by decide⟩ rfl (Nat.le_of_ble_eq_true rfl) 0 rfl rfl H hP) hrw [0, 1, 2, 3, 4, 5, 6, 7, 8, 9, 10, 11, 12, 13, 14, 15, 16, 17, 18, 19, 20, 21, 22, 23, 24, 25, 26, 27, 28, 29, 30, 31, 32, 33, 34, 35, 36, 37, 38, 39, 40, 41, 42, 43, 44, 45, 46, 47, 48, 49, 50, 51, 52, 53, 54, 55] rfl (cl_1000_s ..) rfl (cl_1000_m ..) (ad_XM ..) rfl ?_
        refine j_aload_n (pc' := 942) K dL_law_941 rfl 2 rfl rfl ?_
        refine j_aload_n (pc' := 943) K dL_law_942 rfl 0 rfl rfl ?_
        refine j_iload_n (pc' := 944) K dL_law_943 rfl 3 rfl rfl ?_
        refine j_iconst (pc' := 945) (v := (1 : Int32)) K dL_law_944 (by decide) rfl ?_
        refine j_iadd (pc' := 946) K dL_law_945 rfl ?_
        obtain ⟨hg, h⟩ := jgd_some h
        refine j_sld (pc' := 947) K dL_law_946 hscr hg rfl ?_
        refine j_aload_n (pc' := 948) K dL_law_947 rfl 0 rfl rfl ?_
        refine j_iload_n (pc' := 949) K dL_law_948 rfl 3 rfl rfl ?_
        refine j_iconst (pc' := 950) (v := (2 : Int32)) K dL_law_949 (by decide) rfl ?_
        refine j_iadd (pc' := 951) K dL_law_950 rfl ?_
        obtain ⟨hg, h⟩ := jgd_some h
        refine j_sld (pc' := 952) K dL_law_951 hscr hg rfl ?_
        refine j_aload_n (pc' := 953) K dL_law_952 rfl 0 rfl rfl ?_
        refine j_iload_n (pc' := 954) K dL_law_953 rfl 3 rfl rfl ?_
        refine j_iconst (pc' := 955) (v := (3 : Int32)) K dL_law_954 (by decide) rfl ?_
        refine j_iadd (pc' := 956) K dL_law_955 rfl ?_
        obtain ⟨hg, h⟩ := jgd_some h
        refine j_sld (pc' := 957) K dL_law_956 hscr hg rfl ?_
        refine j_i2l (pc' := 958) K dL_law_957 rfl ?_
        refine j_bipush (pc' := 960) (v := (32 : Int32)) K dL_law_958 (by decide) rfl ?_
        refine j_lshl (pc' := 961) K dL_law_960 rfl ?_
        refine j_aload_n (pc' := 962) K dL_law_961 rfl 0 rfl rfl ?_
        refine j_iload_n (pc' := 963) K dL_law_962 rfl 3 rfl rfl ?_
        refine j_iconst (pc' := 964) (v := (4 : Int32)) K dL_law_963 (by decide) rfl ?_
        refine j_iadd (pc' := 965) K dL_law_964 rfl ?_
        obtain ⟨hg, h⟩ := jgd_some h
        refine j_sld (pc' := 966) K dL_law_965 hscr hg rfl ?_
        refine j_i2l (pc' := 967) K dL_law_966 rfl ?_
        refine j_ldc2 (pc' := 970) K dL_law_967 u_5_111 rfl ?_
        refine j_land (pc' := 971) K dL_law_970 rfl ?_
        refine j_lor (pc' := 972) K dL_law_971 rfl ?_
        obtain ⟨r972, hr972, h⟩ := jbd_some h
        refine j_rw (pc' := 975) (ws' := (wX (jg E) a0 (r938.2) ++ wM (jg E) a1 (r972.2))) K (fun H hP => jrun_V K dL_law_972 (M_X12_set (jl E) (jg E) a1 (xs (Int32.toNatClampNeg (v3 + (1 : Int32)))) (xs (Int32.toNatClampNeg (v3 + (2 : Int32)))) (((Int32.toInt64 (xs (Int32.toNatClampNeg (v3 + (3 : Int32))))) <<< (Int32.toInt64 (32 : Int32) &&& 63)) ||| ((Int32.toInt64 (xs (Int32.toNatClampNeg (v3 + (4 : Int32))))) &&& (4294967295 : Int64))) s1 hr972) u_5_46 u_5_43 u_5_44 u_5_45 u_1_13 ⟨ok_X12_set, by decide, by decide⟩ rfl (Nat.le_of_ble_eq_true rfl) 56 rfl rfl H hP) hrw [56, 57, 58, 59, 60, 61, 62, 63, 64, 65, 66, 67, 68, 69, 70, 71, 72] rfl (cl_1001_s ..) rfl (cl_1001_m ..) (ad_XM ..) rfl ?_
        refine j_lcmp (pc' := 976) K dL_law_975 rfl ?_
        refine j_if_eq (pc' := 979) (tgt := 1204) K dL_law_976 (by decide) rfl (fun hc => ?_) (fun hc => ?_)
        · have h := jit hc h
          refine j_sub [0, 1, 2, 3] rfl ?_
          exact b_L_law_1204 a0 a1 b xs L hscr K hrw HR (f_L_law_18 n) (ih) v3 (r938.2) (r972.2) h
        · have h := jif hc h
          refine j_iconst (pc' := 980) (v := (0 : Int32)) K dL_law_979 (by decide) rfl ?_
          obtain ⟨hg, h⟩ := jzb_some h
          obtain rfl := Option.some.inj h
          exact HR _ _ hg dL_law_980
      have hc19 := hc
      have h := jif hc h
      by_cases hc : ((xs (Int32.toNatClampNeg v3)) &&& (31 : Int32)) = 20
      · have h := jit hc h
        refine j_tabIn (tgt := 981) K dL_law_32 (by rw [hc]; decide) (by rw [hc]; decide) (by rw [hc]; rfl) (by decide) ?_
        refine j_aload_n (pc' := 982) K dL_law_981 rfl 1 rfl rfl ?_
        refine j_aload_n (pc' := 983) K dL_law_982 rfl 0 rfl rfl ?_
        refine j_iload_n (pc' := 984) K dL_law_983 rfl 3 rfl rfl ?_
        refine j_iconst (pc' := 985) (v := (1 : Int32)) K dL_law_984 (by decide) rfl ?_
        refine j_iadd (pc' := 986) K dL_law_985 rfl ?_
        obtain ⟨hg, h⟩ := jgd_some h
        refine j_sld (pc' := 987) K dL_law_986 hscr hg rfl ?_
        refine j_aload_n (pc' := 988) K dL_law_987 rfl 0 rfl rfl ?_
        refine j_iload_n (pc' := 989) K dL_law_988 rfl 3 rfl rfl ?_
        refine j_iconst (pc' := 990) (v := (2 : Int32)) K dL_law_989 (by decide) rfl ?_
        refine j_iadd (pc' := 991) K dL_law_990 rfl ?_
        obtain ⟨hg, h⟩ := jgd_some h
        refine j_sld (pc' := 992) K dL_law_991 hscr hg rfl ?_
        obtain ⟨r992, hr992, h⟩ := jbd_some h
        refine j_ro (pc' := 995) K (fun H hP => jrun_V K dL_law_992 (M_X11_coefficient (jl E) (jg E) a0 (xs (Int32.toNatClampNeg (v3 + (1 : Int32)))) (xs (Int32.toNatClampNeg (v3 + (2 : Int32)))) s0 hr992) u_3_185 u_3_182 u_3_183 u_3_184 u_1_1 ⟨ok_X11_coefficient, by decide, by decide⟩ rfl (Nat.le_of_ble_eq_true rfl) 0 rfl rfl H hP) [0, 1, 2, 3, 4, 5, 6, 7, 8, 9, 10, 11, 12, 13, 14, 15, 16, 17, 18, 19, 20, 21, 22, 23, 24, 25, 26, 27, 28, 29, 30, 31, 32, 33, 34, 35, 36, 37, 38, 39, 40, 41, 42, 43, 44, 45, 46, 47, 48, 49, 50, 51, 52, 53, 54, 55] (cl_1002_f ..) rfl ?_
        refine j_aload_n (pc' := 996) K dL_law_995 rfl 2 rfl rfl ?_
        refine j_aload_n (pc' := 997) K dL_law_996 rfl 0 rfl rfl ?_
        refine j_iload_n (pc' := 998) K dL_law_997 rfl 3 rfl rfl ?_
        refine j_iconst (pc' := 999) (v := (1 : Int32)) K dL_law_998 (by decide) rfl ?_
        refine j_iadd (pc' := 1000) K dL_law_999 rfl ?_
        obtain ⟨hg, h⟩ := jgd_some h
        refine j_sld (pc' := 1001) K dL_law_1000 hscr hg rfl ?_
        refine j_aload_n (pc' := 1002) K dL_law_1001 rfl 0 rfl rfl ?_
        refine j_iload_n (pc' := 1003) K dL_law_1002 rfl 3 rfl rfl ?_
        refine j_iconst (pc' := 1004) (v := (2 : Int32)) K dL_law_1003 (by decide) rfl ?_
        refine j_iadd (pc' := 1005) K dL_law_1004 rfl ?_
        obtain ⟨hg, h⟩ := jgd_some h
        refine j_sld (pc' := 1006) K dL_law_1005 hscr hg rfl ?_
        obtain ⟨r1006, hr1006, h⟩ := jbd_some h
        refine j_ro (pc' := 1009) K (fun H hP => jrun_V K dL_law_1006 (M_X12_coefficient (jl E) (jg E) a1 (xs (Int32.toNatClampNeg (v3 + (1 : Int32)))) (xs (Int32.toNatClampNeg (v3 + (2 : Int32)))) s1 hr1006) u_5_52 u_5_49 u_5_50 u_5_51 u_1_13 ⟨ok_X12_coefficient, by decide, by decide⟩ rfl (Nat.le_of_ble_eq_true rfl) 56 rfl rfl H hP) [56, 57, 58, 59, 60, 61, 62, 63, 64, 65, 66, 67, 68, 69, 70, 71, 72] (cl_1003_f ..) rfl ?_
        refine j_lcmp (pc' := 1010) K dL_law_1009 rfl ?_
        refine j_if_eq (pc' := 1013) (tgt := 1204) K dL_law_1010 (by decide) rfl (fun hc => ?_) (fun hc => ?_)
        · have h := jit hc h
          refine j_sub [0, 1, 2, 3] rfl ?_
          exact b_L_law_1204 a0 a1 b xs L hscr K hrw HR (f_L_law_18 n) (ih) v3 s0 s1 h
        · have h := jif hc h
          refine j_iconst (pc' := 1014) (v := (0 : Int32)) K dL_law_1013 (by decide) rfl ?_
          obtain ⟨hg, h⟩ := jzb_some h
          obtain rfl := Option.some.inj h
          exact HR _ _ hg dL_law_1014
      have hc20 := hc
      have h := jif hc h
      by_cases hc : ((xs (Int32.toNatClampNeg v3)) &&& (31 : Int32)) = 21
      · have h := jit hc h
        refine j_tabIn (tgt := 1015) K dL_law_32 (by rw [hc]; decide) (by rw [hc]; decide) (by rw [hc]; rfl) (by decide) ?_
        refine j_aload_n (pc' := 1016) K dL_law_1015 rfl 1 rfl rfl ?_
        refine j_aload_n (pc' := 1017) K dL_law_1016 rfl 0 rfl rfl ?_
        refine j_iload_n (pc' := 1018) K dL_law_1017 rfl 3 rfl rfl ?_
        refine j_iconst (pc' := 1019) (v := (1 : Int32)) K dL_law_1018 (by decide) rfl ?_
        refine j_iadd (pc' := 1020) K dL_law_1019 rfl ?_
        obtain ⟨hg, h⟩ := jgd_some h
        refine j_sld (pc' := 1021) K dL_law_1020 hscr hg rfl ?_
        refine j_aload_n (pc' := 1022) K dL_law_1021 rfl 0 rfl rfl ?_
        refine j_iload_n (pc' := 1023) K dL_law_1022 rfl 3 rfl rfl ?_
        refine j_iconst (pc' := 1024) (v := (2 : Int32)) K dL_law_1023 (by decide) rfl ?_
        refine j_iadd (pc' := 1025) K dL_law_1024 rfl ?_
        obtain ⟨hg, h⟩ := jgd_some h
        refine j_sld (pc' := 1026) K dL_law_1025 hscr hg rfl ?_
        obtain ⟨r1026, hr1026, h⟩ := jbd_some h
        refine j_ro (pc' := 1029) K (fun H hP => jrun_V K dL_law_1026 (M_X11_told (jl E) (jg E) a0 (xs (Int32.toNatClampNeg (v3 + (1 : Int32)))) (xs (Int32.toNatClampNeg (v3 + (2 : Int32)))) s0 hr1026) u_3_189 u_3_186 u_3_187 u_3_188 u_1_1 ⟨ok_X11_told, by decide, by decide⟩ rfl (Nat.le_of_ble_eq_true rfl) 0 rfl rfl H hP) [0, 1, 2, 3, 4, 5, 6, 7, 8, 9, 10, 11, 12, 13, 14, 15, 16, 17, 18, 19, 20, 21, 22, 23, 24, 25, 26, 27, 28, 29, 30, 31, 32, 33, 34, 35, 36, 37, 38, 39, 40, 41, 42, 43, 44, 45, 46, 47, 48, 49, 50, 51, 52, 53, 54, 55] (cl_1002_f ..) rfl ?_
        refine j_aload_n (pc' := 1030) K dL_law_1029 rfl 2 rfl rfl ?_
        refine j_aload_n (pc' := 1031) K dL_law_1030 rfl 0 rfl rfl ?_
        refine j_iload_n (pc' := 1032) K dL_law_1031 rfl 3 rfl rfl ?_
        refine j_iconst (pc' := 1033) (v := (1 : Int32)) K dL_law_1032 (by decide) rfl ?_
        refine j_iadd (pc' := 1034) K dL_law_1033 rfl ?_
        obtain ⟨hg, h⟩ := jgd_some h
        refine j_sld (pc' := 1035) K dL_law_1034 hscr hg rfl ?_
        refine j_aload_n (pc' := 1036) K dL_law_1035 rfl 0 rfl rfl ?_
        refine j_iload_n (pc' := 1037) K dL_law_1036 rfl 3 rfl rfl ?_
        refine j_iconst (pc' := 1038) (v := (2 : Int32)) K dL_law_1037 (by decide) rfl ?_
        refine j_iadd (pc' := 1039) K dL_law_1038 rfl ?_
        obtain ⟨hg, h⟩ := jgd_some h
        refine j_sld (pc' := 1040) K dL_law_1039 hscr hg rfl ?_
        obtain ⟨r1040, hr1040, h⟩ := jbd_some h
        refine j_ro (pc' := 1043) K (fun H hP => jrun_V K dL_law_1040 (M_X12_told (jl E) (jg E) a1 (xs (Int32.toNatClampNeg (v3 + (1 : Int32)))) (xs (Int32.toNatClampNeg (v3 + (2 : Int32)))) s1 hr1040) u_5_56 u_5_53 u_5_54 u_5_55 u_1_13 ⟨ok_X12_told, by decide, by decide⟩ rfl (Nat.le_of_ble_eq_true rfl) 56 rfl rfl H hP) [56, 57, 58, 59, 60, 61, 62, 63, 64, 65, 66, 67, 68, 69, 70, 71, 72] (cl_1003_f ..) rfl ?_
        refine j_icmp_eq (pc' := 1046) (tgt := 1204) K dL_law_1043 (by decide) rfl (fun hc => ?_) (fun hc => ?_)
        · have h := jit hc h
          refine j_sub [0, 1, 2, 3] rfl ?_
          exact b_L_law_1204 a0 a1 b xs L hscr K hrw HR (f_L_law_18 n) (ih) v3 s0 s1 h
        · have h := jif hc h
          refine j_iconst (pc' := 1047) (v := (0 : Int32)) K dL_law_1046 (by decide) rfl ?_
          obtain ⟨hg, h⟩ := jzb_some h
          obtain rfl := Option.some.inj h
          exact HR _ _ hg dL_law_1047
      have hc21 := hc
      have h := jif hc h
      by_cases hc : ((xs (Int32.toNatClampNeg v3)) &&& (31 : Int32)) = 22
      · have h := jit hc h
        refine j_tabIn (tgt := 1048) K dL_law_32 (by rw [hc]; decide) (by rw [hc]; decide) (by rw [hc]; rfl) (by decide) ?_
        refine j_aload_n (pc' := 1049) K dL_law_1048 rfl 1 rfl rfl ?_
        refine j_aload_n (pc' := 1050) K dL_law_1049 rfl 0 rfl rfl ?_
        refine j_iload_n (pc' := 1051) K dL_law_1050 rfl 3 rfl rfl ?_
        refine j_iconst (pc' := 1052) (v := (1 : Int32)) K dL_law_1051 (by decide) rfl ?_
        refine j_iadd (pc' := 1053) K dL_law_1052 rfl ?_
        obtain ⟨hg, h⟩ := jgd_some h
        refine j_sld (pc' := 1054) K dL_law_1053 hscr hg rfl ?_
        refine j_aload_n (pc' := 1055) K dL_law_1054 rfl 0 rfl rfl ?_
        refine j_iload_n (pc' := 1056) K dL_law_1055 rfl 3 rfl rfl ?_
        refine j_iconst (pc' := 1057) (v := (2 : Int32)) K dL_law_1056 (by decide) rfl ?_
        refine j_iadd (pc' := 1058) K dL_law_1057 rfl ?_
        obtain ⟨hg, h⟩ := jgd_some h
        refine j_sld (pc' := 1059) K dL_law_1058 hscr hg rfl ?_
        obtain ⟨r1059, hr1059, h⟩ := jbd_some h
        refine j_rw (pc' := 1062) (ws' := (wX (jg E) a0 (r1059.2) ++ wM (jg E) a1 s1)) K (fun H hP => jrun_V K dL_law_1059 (M_X11_turn (jl E) (jg E) a0 (xs (Int32.toNatClampNeg (v3 + (1 : Int32)))) (xs (Int32.toNatClampNeg (v3 + (2 : Int32)))) s0 hr1059) u_3_197 u_3_194 u_3_195 u_3_196 u_1_1 ⟨ok_X11_turn, by decide, by decide⟩ rfl (Nat.le_of_ble_eq_true rfl) 0 rfl rfl H hP) hrw [0, 1, 2, 3, 4, 5, 6, 7, 8, 9, 10, 11, 12, 13, 14, 15, 16, 17, 18, 19, 20, 21, 22, 23, 24, 25, 26, 27, 28, 29, 30, 31, 32, 33, 34, 35, 36, 37, 38, 39, 40, 41, 42, 43, 44, 45, 46, 47, 48, 49, 50, 51, 52, 53, 54, 55] rfl (cl_1000_s ..) rfl (cl_1000_m ..) (ad_XM ..) rfl ?_
        refine j_aload_n (pc' := 1063) K dL_law_1062 rfl 2 rfl rfl ?_
        refine j_aload_n (pc' := 1064) K dL_law_1063 rfl 0 rfl rfl ?_
        refine j_iload_n (pc' := 1065) K dL_law_1064 rfl 3 rfl rfl ?_
        refine j_iconst (pc' := 1066) (v := (1 : Int32)) K dL_law_1065 (by decide) rfl ?_
        refine j_iadd (pc' := 1067) K dL_law_1066 rfl ?_
        obtain ⟨hg, h⟩ := jgd_some h
        refine j_sld (pc' := 1068) K dL_law_1067 hscr hg rfl ?_
        refine j_aload_n (pc' := 1069) K dL_law_1068 rfl 0 rfl rfl ?_
        refine j_iload_n (pc' := 1070) K dL_law_1069 rfl 3 rfl rfl ?_
        refine j_iconst (pc' := 1071) (v := (2 : Int32)) K dL_law_1070 (by decide) rfl ?_
        refine j_iadd (pc' := 1072) K dL_law_1071 rfl ?_
        obtain ⟨hg, h⟩ := jgd_some h
        refine j_sld (pc' := 1073) K dL_law_1072 hscr hg rfl ?_
        obtain ⟨r1073, hr1073, h⟩ := jbd_some h
        refine j_rw (pc' := 1076) (ws' := (wX (jg E) a0 (r1059.2) ++ wM (jg E) a1 (r1073.2))) K (fun H hP => jrun_V K dL_law_1073 (M_X12_turn (jl E) (jg E) a1 (xs (Int32.toNatClampNeg (v3 + (1 : Int32)))) (xs (Int32.toNatClampNeg (v3 + (2 : Int32)))) s1 hr1073) u_5_64 u_5_61 u_5_62 u_5_63 u_1_13 ⟨ok_X12_turn, by decide, by decide⟩ rfl (Nat.le_of_ble_eq_true rfl) 56 rfl rfl H hP) hrw [56, 57, 58, 59, 60, 61, 62, 63, 64, 65, 66, 67, 68, 69, 70, 71, 72] rfl (cl_1001_s ..) rfl (cl_1001_m ..) (ad_XM ..) rfl ?_
        refine j_icmp_eq (pc' := 1079) (tgt := 1204) K dL_law_1076 (by decide) rfl (fun hc => ?_) (fun hc => ?_)
        · have h := jit hc h
          refine j_sub [0, 1, 2, 3] rfl ?_
          exact b_L_law_1204 a0 a1 b xs L hscr K hrw HR (f_L_law_18 n) (ih) v3 (r1059.2) (r1073.2) h
        · have h := jif hc h
          refine j_iconst (pc' := 1080) (v := (0 : Int32)) K dL_law_1079 (by decide) rfl ?_
          obtain ⟨hg, h⟩ := jzb_some h
          obtain rfl := Option.some.inj h
          exact HR _ _ hg dL_law_1080
      have hc22 := hc
      have h := jif hc h
      by_cases hc : ((xs (Int32.toNatClampNeg v3)) &&& (31 : Int32)) = 23
      · have h := jit hc h
        refine j_tabIn (tgt := 1081) K dL_law_32 (by rw [hc]; decide) (by rw [hc]; decide) (by rw [hc]; rfl) (by decide) ?_
        refine j_aload_n (pc' := 1082) K dL_law_1081 rfl 1 rfl rfl ?_
        refine j_aload_n (pc' := 1083) K dL_law_1082 rfl 0 rfl rfl ?_
        refine j_iload_n (pc' := 1084) K dL_law_1083 rfl 3 rfl rfl ?_
        refine j_iconst (pc' := 1085) (v := (1 : Int32)) K dL_law_1084 (by decide) rfl ?_
        refine j_iadd (pc' := 1086) K dL_law_1085 rfl ?_
        obtain ⟨hg, h⟩ := jgd_some h
        refine j_sld (pc' := 1087) K dL_law_1086 hscr hg rfl ?_
        refine j_aload_n (pc' := 1088) K dL_law_1087 rfl 0 rfl rfl ?_
        refine j_iload_n (pc' := 1089) K dL_law_1088 rfl 3 rfl rfl ?_
        refine j_iconst (pc' := 1090) (v := (2 : Int32)) K dL_law_1089 (by decide) rfl ?_
        refine j_iadd (pc' := 1091) K dL_law_1090 rfl ?_
        obtain ⟨hg, h⟩ := jgd_some h
        refine j_sld (pc' := 1092) K dL_law_1091 hscr hg rfl ?_
        refine j_aload_n (pc' := 1093) K dL_law_1092 rfl 0 rfl rfl ?_
        refine j_iload_n (pc' := 1094) K dL_law_1093 rfl 3 rfl rfl ?_
        refine j_iconst (pc' := 1095) (v := (3 : Int32)) K dL_law_1094 (by decide) rfl ?_
        refine j_iadd (pc' := 1096) K dL_law_1095 rfl ?_
        obtain ⟨hg, h⟩ := jgd_some h
        refine j_sld (pc' := 1097) K dL_law_1096 hscr hg rfl ?_
        obtain ⟨r1097, hr1097, h⟩ := jbd_some h
        refine j_rw (pc' := 1100) (ws' := (wX (jg E) a0 (r1097.2) ++ wM (jg E) a1 s1)) K (fun H hP => jrun_V K dL_law_1097 (M_X11_value (jl E) (jg E) a0 (xs (Int32.toNatClampNeg (v3 + (1 : Int32)))) (xs (Int32.toNatClampNeg (v3 + (2 : Int32)))) (xs (Int32.toNatClampNeg (v3 + (3 : Int32)))) s0 hr1097) u_3_230 u_3_227 u_3_228 u_3_229 u_1_1 ⟨ok_X11_value, by decide, by decide⟩ rfl (Nat.le_of_ble_eq_true rfl) 0 rfl rfl H hP) hrw [0, 1, 2, 3, 4, 5, 6, 7, 8, 9, 10, 11, 12, 13, 14, 15, 16, 17, 18, 19, 20, 21, 22, 23, 24, 25, 26, 27, 28, 29, 30, 31, 32, 33, 34, 35, 36, 37, 38, 39, 40, 41, 42, 43, 44, 45, 46, 47, 48, 49, 50, 51, 52, 53, 54, 55] rfl (cl_1000_s ..) rfl (cl_1000_m ..) (ad_XM ..) rfl ?_
        refine j_aload_n (pc' := 1101) K dL_law_1100 rfl 2 rfl rfl ?_
        refine j_aload_n (pc' := 1102) K dL_law_1101 rfl 0 rfl rfl ?_
        refine j_iload_n (pc' := 1103) K dL_law_1102 rfl 3 rfl rfl ?_
        refine j_iconst (pc' := 1104) (v := (1 : Int32)) K dL_law_1103 (by decide) rfl ?_
        refine j_iadd (pc' := 1105) K dL_law_1104 rfl ?_
        obtain ⟨hg, h⟩ := jgd_some h
        refine j_sld (pc' := 1106) K dL_law_1105 hscr hg rfl ?_
        refine j_aload_n (pc' := 1107) K dL_law_1106 rfl 0 rfl rfl ?_
        refine j_iload_n (pc' := 1108) K dL_law_1107 rfl 3 rfl rfl ?_
        refine j_iconst (pc' := 1109) (v := (2 : Int32)) K dL_law_1108 (by decide) rfl ?_
        refine j_iadd (pc' := 1110) K dL_law_1109 rfl ?_
        obtain ⟨hg, h⟩ := jgd_some h
        refine j_sld (pc' := 1111) K dL_law_1110 hscr hg rfl ?_
        refine j_aload_n (pc' := 1112) K dL_law_1111 rfl 0 rfl rfl ?_
        refine j_iload_n (pc' := 1113) K dL_law_1112 rfl 3 rfl rfl ?_
        refine j_iconst (pc' := 1114) (v := (3 : Int32)) K dL_law_1113 (by decide) rfl ?_
        refine j_iadd (pc' := 1115) K dL_law_1114 rfl ?_
        obtain ⟨hg, h⟩ := jgd_some h
        refine j_sld (pc' := 1116) K dL_law_1115 hscr hg rfl ?_
        obtain ⟨r1116, hr1116, h⟩ := jbd_some h
        refine j_rw (pc' := 1119) (ws' := (wX (jg E) a0 (r1097.2) ++ wM (jg E) a1 (r1116.2))) K (fun H hP => jrun_V K dL_law_1116 (M_X12_value (jl E) (jg E) a1 (xs (Int32.toNatClampNeg (v3 + (1 : Int32)))) (xs (Int32.toNatClampNeg (v3 + (2 : Int32)))) (xs (Int32.toNatClampNeg (v3 + (3 : Int32)))) s1 hr1116) u_5_92 u_5_89 u_5_90 u_5_91 u_1_13 ⟨ok_X12_value, by decide, by decide⟩ rfl (Nat.le_of_ble_eq_true rfl) 56 rfl rfl H hP) hrw [56, 57, 58, 59, 60, 61, 62, 63, 64, 65, 66, 67, 68, 69, 70, 71, 72] rfl (cl_1001_s ..) rfl (cl_1001_m ..) (ad_XM ..) rfl ?_
        refine j_lcmp (pc' := 1120) K dL_law_1119 rfl ?_
        refine j_if_eq (pc' := 1123) (tgt := 1204) K dL_law_1120 (by decide) rfl (fun hc => ?_) (fun hc => ?_)
        · have h := jit hc h
          refine j_sub [0, 1, 2, 3] rfl ?_
          exact b_L_law_1204 a0 a1 b xs L hscr K hrw HR (f_L_law_18 n) (ih) v3 (r1097.2) (r1116.2) h
        · have h := jif hc h
          refine j_iconst (pc' := 1124) (v := (0 : Int32)) K dL_law_1123 (by decide) rfl ?_
          obtain ⟨hg, h⟩ := jzb_some h
          obtain rfl := Option.some.inj h
          exact HR _ _ hg dL_law_1124
      have hc23 := hc
      have h := jif hc h
      by_cases hc : ((xs (Int32.toNatClampNeg v3)) &&& (31 : Int32)) = 24
      · have h := jit hc h
        refine j_tabIn (tgt := 1125) K dL_law_32 (by rw [hc]; decide) (by rw [hc]; decide) (by rw [hc]; rfl) (by decide) ?_
        refine j_aload_n (pc' := 1126) K dL_law_1125 rfl 1 rfl rfl ?_
        refine j_aload_n (pc' := 1127) K dL_law_1126 rfl 0 rfl rfl ?_
        refine j_iload_n (pc' := 1128) K dL_law_1127 rfl 3 rfl rfl ?_
        refine j_iconst (pc' := 1129) (v := (1 : Int32)) K dL_law_1128 (by decide) rfl ?_
        refine j_iadd (pc' := 1130) K dL_law_1129 rfl ?_
        obtain ⟨hg, h⟩ := jgd_some h
        refine j_sld (pc' := 1131) K dL_law_1130 hscr hg rfl ?_
        obtain ⟨r1131, hr1131, h⟩ := jbd_some h
        refine j_rw (pc' := 1134) (ws' := (wX (jg E) a0 (r1131.2) ++ wM (jg E) a1 s1)) K (fun H hP => jrun_V K dL_law_1131 (M_X11_sumUp (jl E) (jg E) a0 (xs (Int32.toNatClampNeg (v3 + (1 : Int32)))) s0 hr1131) u_4_2 u_3_239 u_4_0 u_4_1 u_1_1 ⟨ok_X11_sumUp, by decide, by decide⟩ rfl (Nat.le_of_ble_eq_true rfl) 0 rfl rfl H hP) hrw [0, 1, 2, 3, 4, 5, 6, 7, 8, 9, 10, 11, 12, 13, 14, 15, 16, 17, 18, 19, 20, 21, 22, 23, 24, 25, 26, 27, 28, 29, 30, 31, 32, 33, 34, 35, 36, 37, 38, 39, 40, 41, 42, 43, 44, 45, 46, 47, 48, 49, 50, 51, 52, 53, 54, 55] rfl (cl_1000_s ..) rfl (cl_1000_m ..) (ad_XM ..) rfl ?_
        refine j_aload_n (pc' := 1135) K dL_law_1134 rfl 2 rfl rfl ?_
        refine j_aload_n (pc' := 1136) K dL_law_1135 rfl 0 rfl rfl ?_
        refine j_iload_n (pc' := 1137) K dL_law_1136 rfl 3 rfl rfl ?_
        refine j_iconst (pc' := 1138) (v := (1 : Int32)) K dL_law_1137 (by decide) rfl ?_
        refine j_iadd (pc' := 1139) K dL_law_1138 rfl ?_
        obtain ⟨hg, h⟩ := jgd_some h
        refine j_sld (pc' := 1140) K dL_law_1139 hscr hg rfl ?_
        obtain ⟨r1140, hr1140, h⟩ := jbd_some h
        refine j_rw (pc' := 1143) (ws' := (wX (jg E) a0 (r1131.2) ++ wM (jg E) a1 (r1140.2))) K (fun H hP => jrun_V K dL_law_1140 (M_X12_sumUp (jl E) (jg E) a1 (xs (Int32.toNatClampNeg (v3 + (1 : Int32)))) s1 hr1140) u_5_102 u_5_99 u_5_100 u_5_101 u_1_13 ⟨ok_X12_sumUp, by decide, by decide⟩ rfl (Nat.le_of_ble_eq_true rfl) 56 rfl rfl H hP) hrw [56, 57, 58, 59, 60, 61, 62, 63, 64, 65, 66, 67, 68, 69, 70, 71, 72] rfl (cl_1001_s ..) rfl (cl_1001_m ..) (ad_XM ..) rfl ?_
        refine j_icmp_eq (pc' := 1146) (tgt := 1204) K dL_law_1143 (by decide) rfl (fun hc => ?_) (fun hc => ?_)
        · have h := jit hc h
          refine j_sub [0, 1, 2, 3] rfl ?_
          exact b_L_law_1204 a0 a1 b xs L hscr K hrw HR (f_L_law_18 n) (ih) v3 (r1131.2) (r1140.2) h
        · have h := jif hc h
          refine j_iconst (pc' := 1147) (v := (0 : Int32)) K dL_law_1146 (by decide) rfl ?_
          obtain ⟨hg, h⟩ := jzb_some h
          obtain rfl := Option.some.inj h
          exact HR _ _ hg dL_law_1147
      have hc24 := hc
      have h := jif hc h
      by_cases hc : ((xs (Int32.toNatClampNeg v3)) &&& (31 : Int32)) = 25
      · have h := jit hc h
        refine j_tabIn (tgt := 1148) K dL_law_32 (by rw [hc]; decide) (by rw [hc]; decide) (by rw [hc]; rfl) (by decide) ?_
        refine j_aload_n (pc' := 1149) K dL_law_1148 rfl 1 rfl rfl ?_
        refine j_aload_n (pc' := 1150) K dL_law_1149 rfl 0 rfl rfl ?_
        refine j_iload_n (pc' := 1151) K dL_law_1150 rfl 3 rfl rfl ?_
        refine j_iconst (pc' := 1152) (v := (1 : Int32)) K dL_law_1151 (by decide) rfl ?_
        refine j_iadd (pc' := 1153) K dL_law_1152 rfl ?_
        obtain ⟨hg, h⟩ := jgd_some h
        refine j_sld (pc' := 1154) K dL_law_1153 hscr hg rfl ?_
        refine j_aload_n (pc' := 1155) K dL_law_1154 rfl 0 rfl rfl ?_
        refine j_iload_n (pc' := 1156) K dL_law_1155 rfl 3 rfl rfl ?_
        refine j_iconst (pc' := 1157) (v := (2 : Int32)) K dL_law_1156 (by decide) rfl ?_
        refine j_iadd (pc' := 1158) K dL_law_1157 rfl ?_
        obtain ⟨hg, h⟩ := jgd_some h
        refine j_sld (pc' := 1159) K dL_law_1158 hscr hg rfl ?_
        obtain ⟨r1159, hr1159, h⟩ := jbd_some h
        refine j_ro (pc' := 1162) K (fun H hP => jrun_V K dL_law_1159 (M_X11_root (jl E) (jg E) a0 (xs (Int32.toNatClampNeg (v3 + (1 : Int32)))) (xs (Int32.toNatClampNeg (v3 + (2 : Int32)))) s0 hr1159) u_4_11 u_4_8 u_4_9 u_4_10 u_1_1 ⟨ok_X11_root, by decide, by decide⟩ rfl (Nat.le_of_ble_eq_true rfl) 0 rfl rfl H hP) [0, 1, 2, 3, 4, 5, 6, 7, 8, 9, 10, 11, 12, 13, 14, 15, 16, 17, 18, 19, 20, 21, 22, 23, 24, 25, 26, 27, 28, 29, 30, 31, 32, 33, 34, 35, 36, 37, 38, 39, 40, 41, 42, 43, 44, 45, 46, 47, 48, 49, 50, 51, 52, 53, 54, 55] (cl_1002_f ..) rfl ?_
        refine j_aload_n (pc' := 1163) K dL_law_1162 rfl 2 rfl rfl ?_
        refine j_aload_n (pc' := 1164) K dL_law_1163 rfl 0 rfl rfl ?_
        refine j_iload_n (pc' := 1165) K dL_law_1164 rfl 3 rfl rfl ?_
        refine j_iconst (pc' := 1166) (v := (1 : Int32)) K dL_law_1165 (by decide) rfl ?_
        refine j_iadd (pc' := 1167) K dL_law_1166 rfl ?_
        obtain ⟨hg, h⟩ := jgd_some h
        refine j_sld (pc' := 1168) K dL_law_1167 hscr hg rfl ?_
        refine j_aload_n (pc' := 1169) K dL_law_1168 rfl 0 rfl rfl ?_
        refine j_iload_n (pc' := 1170) K dL_law_1169 rfl 3 rfl rfl ?_
        refine j_iconst (pc' := 1171) (v := (2 : Int32)) K dL_law_1170 (by decide) rfl ?_
        refine j_iadd (pc' := 1172) K dL_law_1171 rfl ?_
        obtain ⟨hg, h⟩ := jgd_some h
        refine j_sld (pc' := 1173) K dL_law_1172 hscr hg rfl ?_
        obtain ⟨r1173, hr1173, h⟩ := jbd_some h
        refine j_ro (pc' := 1176) K (fun H hP => jrun_V K dL_law_1173 (M_X12_root (jl E) (jg E) a1 (xs (Int32.toNatClampNeg (v3 + (1 : Int32)))) (xs (Int32.toNatClampNeg (v3 + (2 : Int32)))) s1 hr1173) u_5_106 u_5_103 u_5_104 u_5_105 u_1_13 ⟨ok_X12_root, by decide, by decide⟩ rfl (Nat.le_of_ble_eq_true rfl) 56 rfl rfl H hP) [56, 57, 58, 59, 60, 61, 62, 63, 64, 65, 66, 67, 68, 69, 70, 71, 72] (cl_1003_f ..) rfl ?_
        refine j_icmp_eq (pc' := 1179) (tgt := 1204) K dL_law_1176 (by decide) rfl (fun hc => ?_) (fun hc => ?_)
        · have h := jit hc h
          refine j_sub [0, 1, 2, 3] rfl ?_
          exact b_L_law_1204 a0 a1 b xs L hscr K hrw HR (f_L_law_18 n) (ih) v3 s0 s1 h
        · have h := jif hc h
          refine j_iconst (pc' := 1180) (v := (0 : Int32)) K dL_law_1179 (by decide) rfl ?_
          obtain ⟨hg, h⟩ := jzb_some h
          obtain rfl := Option.some.inj h
          exact HR _ _ hg dL_law_1180
      have hc25 := hc
      have h := jif hc h
      by_cases hc : ((xs (Int32.toNatClampNeg v3)) &&& (31 : Int32)) = 26
      · have h := jit hc h
        refine j_tabIn (tgt := 1181) K dL_law_32 (by rw [hc]; decide) (by rw [hc]; decide) (by rw [hc]; rfl) (by decide) ?_
        refine j_aload_n (pc' := 1182) K dL_law_1181 rfl 1 rfl rfl ?_
        refine j_aload_n (pc' := 1183) K dL_law_1182 rfl 0 rfl rfl ?_
        refine j_iload_n (pc' := 1184) K dL_law_1183 rfl 3 rfl rfl ?_
        refine j_iconst (pc' := 1185) (v := (1 : Int32)) K dL_law_1184 (by decide) rfl ?_
        refine j_iadd (pc' := 1186) K dL_law_1185 rfl ?_
        obtain ⟨hg, h⟩ := jgd_some h
        refine j_sld (pc' := 1187) K dL_law_1186 hscr hg rfl ?_
        obtain ⟨r1187, hr1187, h⟩ := jbd_some h
        refine j_ro (pc' := 1190) K (fun H hP => jrun_V K dL_law_1187 (M_X11_count (jl E) (jg E) a0 (xs (Int32.toNatClampNeg (v3 + (1 : Int32)))) s0 hr1187) u_4_16 u_4_13 u_4_14 u_4_15 u_1_1 ⟨ok_X11_count, by decide, by decide⟩ rfl (Nat.le_of_ble_eq_true rfl) 0 rfl rfl H hP) [0, 1, 2, 3, 4, 5, 6, 7, 8, 9, 10, 11, 12, 13, 14, 15, 16, 17, 18, 19, 20, 21, 22, 23, 24, 25, 26, 27, 28, 29, 30, 31, 32, 33, 34, 35, 36, 37, 38, 39, 40, 41, 42, 43, 44, 45, 46, 47, 48, 49, 50, 51, 52, 53, 54, 55] (cl_1002_f ..) rfl ?_
        refine j_aload_n (pc' := 1191) K dL_law_1190 rfl 2 rfl rfl ?_
        refine j_aload_n (pc' := 1192) K dL_law_1191 rfl 0 rfl rfl ?_
        refine j_iload_n (pc' := 1193) K dL_law_1192 rfl 3 rfl rfl ?_
        refine j_iconst (pc' := 1194) (v := (1 : Int32)) K dL_law_1193 (by decide) rfl ?_
        refine j_iadd (pc' := 1195) K dL_law_1194 rfl ?_
        obtain ⟨hg, h⟩ := jgd_some h
        refine j_sld (pc' := 1196) K dL_law_1195 hscr hg rfl ?_
        obtain ⟨r1196, hr1196, h⟩ := jbd_some h
        refine j_ro (pc' := 1199) K (fun H hP => jrun_V K dL_law_1196 (M_X12_count (jl E) (jg E) a1 (xs (Int32.toNatClampNeg (v3 + (1 : Int32)))) s1 hr1196) u_5_110 u_5_107 u_5_108 u_5_109 u_1_13 ⟨ok_X12_count, by decide, by decide⟩ rfl (Nat.le_of_ble_eq_true rfl) 56 rfl rfl H hP) [56, 57, 58, 59, 60, 61, 62, 63, 64, 65, 66, 67, 68, 69, 70, 71, 72] (cl_1003_f ..) rfl ?_
        refine j_icmp_eq (pc' := 1202) (tgt := 1204) K dL_law_1199 (by decide) rfl (fun hc => ?_) (fun hc => ?_)
        · have h := jit hc h
          refine j_sub [0, 1, 2, 3] rfl ?_
          exact b_L_law_1204 a0 a1 b xs L hscr K hrw HR (f_L_law_18 n) (ih) v3 s0 s1 h
        · have h := jif hc h
          refine j_iconst (pc' := 1203) (v := (0 : Int32)) K dL_law_1202 (by decide) rfl ?_
          obtain ⟨hg, h⟩ := jzb_some h
          obtain rfl := Option.some.inj h
          exact HR _ _ hg dL_law_1203
      have hc26 := hc
      have h := jif hc h
      refine j_tabOut (tgt := 1204) K dL_law_32 (jtab27 hc0 hc1 hc2 hc3 hc4 hc5 hc6 hc7 hc8 hc9 hc10 hc11 hc12 hc13 hc14 hc15 hc16 hc17 hc18 hc19 hc20 hc21 hc22 hc23 hc24 hc25 hc26) (by decide) ?_
      refine j_sub [0, 1, 2, 3] rfl ?_
      exact b_L_law_1204 a0 a1 b xs L hscr K hrw HR (f_L_law_18 n) (ih) v3 s0 s1 h
set_option maxRecDepth 100000 in
set_option maxHeartbeats 4000000 in
theorem b_L_law_16 {E : jE} (a0 : Nat → Nat) (a1 : Nat → Nat) (b : Nat) (xs : Nat → Int32) (L : Nat) (hscr : jScr E b L xs) {res : Int32 × XS × MS} (K : jC E cL_law 4 RL 9) (hrw : jrw E) (HR : jRZ E cL_law 4 (wX (jg E) a0 (res.2.1) ++ wM (jg E) a1 (res.2.2)) (res.1)) : ∀ (s0 : XS) (s1 : MS), f_L_law_16 s0 s1 xs L = some res → J E 4 (wX (jg E) a0 s0 ++ wM (jg E) a1 s1) 16 [(0, .ref b), (1, .ref (a0 0)), (2, .ref (a1 0))] [] := by
  intro s0 s1 h
  unfold f_L_law_16 at h
  refine j_iconst (pc' := 17) (v := (0 : Int32)) K dL_law_16 (by decide) rfl ?_
  refine j_istore_n (pc' := 18) (lv' := [(3, .int (0 : Int32)), (0, .ref b), (1, .ref (a0 0)), (2, .ref (a1 0))]) K dL_law_17 rfl (by decide) rfl rfl ?_
  refine j_sub [1, 2, 3, 0] rfl ?_
  exact b_L_law_18 a0 a1 b xs L hscr K hrw HR jFU (0 : Int32) s0 s1 h
