theorem cl_11_f (G : jG) (a0 : Nat → Nat) (s : XS) : ([] : List Nat).filterMap (fun i => (wX G a0 s)[i]?) = ([] : va_W) := rfl
theorem cl_12_s (G : jG) (a0 : Nat → Nat) (s : XS) : ([1, 2] : List Nat).map (fun i => (wX G a0 s)[i]?) = (wText G (a0 1) (a0 2) (X_text s)).map some := rfl
theorem cl_12_m (G : jG) (a0 : Nat → Nat) (s : XS) (t0 : TextS) : jmrg (wX G a0 s) [1, 2] (wText G (a0 1) (a0 2) t0) = wX G a0 (X_text_s s t0) := rfl
theorem cl_13_f (G : jG) (a0 : Nat → Nat) (s : XS) : ([1, 2] : List Nat).filterMap (fun i => (wX G a0 s)[i]?) = (wText G (a0 1) (a0 2) (X_text s)) := rfl
theorem cl_14_s (G : jG) (a0 : Nat → Nat) (s : XS) : ([4, 5, 6, 7, 8, 9, 1, 2] : List Nat).map (fun i => (wX G a0 s)[i]?) = (wLaw G (a0 4) (a0 5) (a0 6) (a0 7) (a0 8) (a0 9) (X_law0 s) ++ wText G (a0 1) (a0 2) (X_text s)).map some := rfl
theorem cl_14_m (G : jG) (a0 : Nat → Nat) (s : XS) (t0 : LawS) : jmrg (wX G a0 s) [4, 5, 6, 7, 8, 9, 1, 2] (wLaw G (a0 4) (a0 5) (a0 6) (a0 7) (a0 8) (a0 9) t0 ++ wText G (a0 1) (a0 2) (X_text s)) = wX G a0 (X_law0_s s t0) := rfl
theorem cl_15_f (G : jG) (a0 : Nat → Nat) (s : XS) : ([4, 5, 6, 7, 8, 9] : List Nat).filterMap (fun i => (wX G a0 s)[i]?) = (wLaw G (a0 4) (a0 5) (a0 6) (a0 7) (a0 8) (a0 9) (X_law0 s)) := rfl
theorem cl_16_f (G : jG) (a0 : Nat → Nat) (s : XS) : ([10, 11, 12, 13, 14, 15] : List Nat).filterMap (fun i => (wX G a0 s)[i]?) = (wLaw G (a0 10) (a0 11) (a0 12) (a0 13) (a0 14) (a0 15) (X_law1 s)) := rfl
theorem cl_17_f (G : jG) (a0 : Nat → Nat) (s : XS) : ([16, 17, 18, 19, 20, 21] : List Nat).filterMap (fun i => (wX G a0 s)[i]?) = (wLaw G (a0 16) (a0 17) (a0 18) (a0 19) (a0 20) (a0 21) (X_law2 s)) := rfl
theorem cl_18_f (G : jG) (a0 : Nat → Nat) (s : XS) : ([22, 23, 24, 25, 26, 27] : List Nat).filterMap (fun i => (wX G a0 s)[i]?) = (wLaw G (a0 22) (a0 23) (a0 24) (a0 25) (a0 26) (a0 27) (X_law3 s)) := rfl
theorem cl_19_s (G : jG) (a0 : Nat → Nat) (s : XS) : ([10, 11, 12, 13, 14, 15, 1, 2] : List Nat).map (fun i => (wX G a0 s)[i]?) = (wLaw G (a0 10) (a0 11) (a0 12) (a0 13) (a0 14) (a0 15) (X_law1 s) ++ wText G (a0 1) (a0 2) (X_text s)).map some := rfl
theorem cl_19_m (G : jG) (a0 : Nat → Nat) (s : XS) (t0 : LawS) : jmrg (wX G a0 s) [10, 11, 12, 13, 14, 15, 1, 2] (wLaw G (a0 10) (a0 11) (a0 12) (a0 13) (a0 14) (a0 15) t0 ++ wText G (a0 1) (a0 2) (X_text s)) = wX G a0 (X_law1_s s t0) := rfl
theorem cl_20_s (G : jG) (a0 : Nat → Nat) (s : XS) : ([16, 17, 18, 19, 20, 21, 1, 2] : List Nat).map (fun i => (wX G a0 s)[i]?) = (wLaw G (a0 16) (a0 17) (a0 18) (a0 19) (a0 20) (a0 21) (X_law2 s) ++ wText G (a0 1) (a0 2) (X_text s)).map some := rfl
theorem cl_20_m (G : jG) (a0 : Nat → Nat) (s : XS) (t0 : LawS) : jmrg (wX G a0 s) [16, 17, 18, 19, 20, 21, 1, 2] (wLaw G (a0 16) (a0 17) (a0 18) (a0 19) (a0 20) (a0 21) t0 ++ wText G (a0 1) (a0 2) (X_text s)) = wX G a0 (X_law2_s s t0) := rfl
theorem cl_21_s (G : jG) (a0 : Nat → Nat) (s : XS) : ([22, 23, 24, 25, 26, 27, 1, 2] : List Nat).map (fun i => (wX G a0 s)[i]?) = (wLaw G (a0 22) (a0 23) (a0 24) (a0 25) (a0 26) (a0 27) (X_law3 s) ++ wText G (a0 1) (a0 2) (X_text s)).map some := rfl
theorem cl_21_m (G : jG) (a0 : Nat → Nat) (s : XS) (t0 : LawS) : jmrg (wX G a0 s) [22, 23, 24, 25, 26, 27, 1, 2] (wLaw G (a0 22) (a0 23) (a0 24) (a0 25) (a0 26) (a0 27) t0 ++ wText G (a0 1) (a0 2) (X_text s)) = wX G a0 (X_law3_s s t0) := rfl
theorem cl_22_s (G : jG) (a0 : Nat → Nat) (s : XS) : ([4, 5, 6, 7, 8, 9] : List Nat).map (fun i => (wX G a0 s)[i]?) = (wLaw G (a0 4) (a0 5) (a0 6) (a0 7) (a0 8) (a0 9) (X_law0 s)).map some := rfl
theorem cl_22_m (G : jG) (a0 : Nat → Nat) (s : XS) (t0 : LawS) : jmrg (wX G a0 s) [4, 5, 6, 7, 8, 9] (wLaw G (a0 4) (a0 5) (a0 6) (a0 7) (a0 8) (a0 9) t0) = wX G a0 (X_law0_s s t0) := rfl
theorem cl_23_s (G : jG) (a0 : Nat → Nat) (s : XS) : ([10, 11, 12, 13, 14, 15] : List Nat).map (fun i => (wX G a0 s)[i]?) = (wLaw G (a0 10) (a0 11) (a0 12) (a0 13) (a0 14) (a0 15) (X_law1 s)).map some := rfl
theorem cl_23_m (G : jG) (a0 : Nat → Nat) (s : XS) (t0 : LawS) : jmrg (wX G a0 s) [10, 11, 12, 13, 14, 15] (wLaw G (a0 10) (a0 11) (a0 12) (a0 13) (a0 14) (a0 15) t0) = wX G a0 (X_law1_s s t0) := rfl
theorem cl_24_s (G : jG) (a0 : Nat → Nat) (s : XS) : ([16, 17, 18, 19, 20, 21] : List Nat).map (fun i => (wX G a0 s)[i]?) = (wLaw G (a0 16) (a0 17) (a0 18) (a0 19) (a0 20) (a0 21) (X_law2 s)).map some := rfl
theorem cl_24_m (G : jG) (a0 : Nat → Nat) (s : XS) (t0 : LawS) : jmrg (wX G a0 s) [16, 17, 18, 19, 20, 21] (wLaw G (a0 16) (a0 17) (a0 18) (a0 19) (a0 20) (a0 21) t0) = wX G a0 (X_law2_s s t0) := rfl
theorem cl_25_s (G : jG) (a0 : Nat → Nat) (s : XS) : ([22, 23, 24, 25, 26, 27] : List Nat).map (fun i => (wX G a0 s)[i]?) = (wLaw G (a0 22) (a0 23) (a0 24) (a0 25) (a0 26) (a0 27) (X_law3 s)).map some := rfl
theorem cl_25_m (G : jG) (a0 : Nat → Nat) (s : XS) (t0 : LawS) : jmrg (wX G a0 s) [22, 23, 24, 25, 26, 27] (wLaw G (a0 22) (a0 23) (a0 24) (a0 25) (a0 26) (a0 27) t0) = wX G a0 (X_law3_s s t0) := rfl
theorem cl_26_f (G : jG) (a0 : Nat → Nat) (s : XS) : ([4, 5, 6, 7, 8, 9, 4, 5, 6, 7, 8, 9] : List Nat).filterMap (fun i => (wX G a0 s)[i]?) = (wLaw G (a0 4) (a0 5) (a0 6) (a0 7) (a0 8) (a0 9) (X_law0 s) ++ wLaw G (a0 4) (a0 5) (a0 6) (a0 7) (a0 8) (a0 9) (X_law0 s)) := rfl
theorem cl_27_f (G : jG) (a0 : Nat → Nat) (s : XS) : ([4, 5, 6, 7, 8, 9, 10, 11, 12, 13, 14, 15] : List Nat).filterMap (fun i => (wX G a0 s)[i]?) = (wLaw G (a0 4) (a0 5) (a0 6) (a0 7) (a0 8) (a0 9) (X_law0 s) ++ wLaw G (a0 10) (a0 11) (a0 12) (a0 13) (a0 14) (a0 15) (X_law1 s)) := rfl
theorem cl_28_f (G : jG) (a0 : Nat → Nat) (s : XS) : ([4, 5, 6, 7, 8, 9, 16, 17, 18, 19, 20, 21] : List Nat).filterMap (fun i => (wX G a0 s)[i]?) = (wLaw G (a0 4) (a0 5) (a0 6) (a0 7) (a0 8) (a0 9) (X_law0 s) ++ wLaw G (a0 16) (a0 17) (a0 18) (a0 19) (a0 20) (a0 21) (X_law2 s)) := rfl
theorem cl_29_f (G : jG) (a0 : Nat → Nat) (s : XS) : ([4, 5, 6, 7, 8, 9, 22, 23, 24, 25, 26, 27] : List Nat).filterMap (fun i => (wX G a0 s)[i]?) = (wLaw G (a0 4) (a0 5) (a0 6) (a0 7) (a0 8) (a0 9) (X_law0 s) ++ wLaw G (a0 22) (a0 23) (a0 24) (a0 25) (a0 26) (a0 27) (X_law3 s)) := rfl
theorem cl_30_f (G : jG) (a0 : Nat → Nat) (s : XS) : ([10, 11, 12, 13, 14, 15, 4, 5, 6, 7, 8, 9] : List Nat).filterMap (fun i => (wX G a0 s)[i]?) = (wLaw G (a0 10) (a0 11) (a0 12) (a0 13) (a0 14) (a0 15) (X_law1 s) ++ wLaw G (a0 4) (a0 5) (a0 6) (a0 7) (a0 8) (a0 9) (X_law0 s)) := rfl
theorem cl_31_f (G : jG) (a0 : Nat → Nat) (s : XS) : ([10, 11, 12, 13, 14, 15, 10, 11, 12, 13, 14, 15] : List Nat).filterMap (fun i => (wX G a0 s)[i]?) = (wLaw G (a0 10) (a0 11) (a0 12) (a0 13) (a0 14) (a0 15) (X_law1 s) ++ wLaw G (a0 10) (a0 11) (a0 12) (a0 13) (a0 14) (a0 15) (X_law1 s)) := rfl
theorem cl_32_f (G : jG) (a0 : Nat → Nat) (s : XS) : ([10, 11, 12, 13, 14, 15, 16, 17, 18, 19, 20, 21] : List Nat).filterMap (fun i => (wX G a0 s)[i]?) = (wLaw G (a0 10) (a0 11) (a0 12) (a0 13) (a0 14) (a0 15) (X_law1 s) ++ wLaw G (a0 16) (a0 17) (a0 18) (a0 19) (a0 20) (a0 21) (X_law2 s)) := rfl
theorem cl_33_f (G : jG) (a0 : Nat → Nat) (s : XS) : ([10, 11, 12, 13, 14, 15, 22, 23, 24, 25, 26, 27] : List Nat).filterMap (fun i => (wX G a0 s)[i]?) = (wLaw G (a0 10) (a0 11) (a0 12) (a0 13) (a0 14) (a0 15) (X_law1 s) ++ wLaw G (a0 22) (a0 23) (a0 24) (a0 25) (a0 26) (a0 27) (X_law3 s)) := rfl
theorem cl_34_f (G : jG) (a0 : Nat → Nat) (s : XS) : ([16, 17, 18, 19, 20, 21, 4, 5, 6, 7, 8, 9] : List Nat).filterMap (fun i => (wX G a0 s)[i]?) = (wLaw G (a0 16) (a0 17) (a0 18) (a0 19) (a0 20) (a0 21) (X_law2 s) ++ wLaw G (a0 4) (a0 5) (a0 6) (a0 7) (a0 8) (a0 9) (X_law0 s)) := rfl
theorem cl_35_f (G : jG) (a0 : Nat → Nat) (s : XS) : ([16, 17, 18, 19, 20, 21, 10, 11, 12, 13, 14, 15] : List Nat).filterMap (fun i => (wX G a0 s)[i]?) = (wLaw G (a0 16) (a0 17) (a0 18) (a0 19) (a0 20) (a0 21) (X_law2 s) ++ wLaw G (a0 10) (a0 11) (a0 12) (a0 13) (a0 14) (a0 15) (X_law1 s)) := rfl
theorem cl_36_f (G : jG) (a0 : Nat → Nat) (s : XS) : ([16, 17, 18, 19, 20, 21, 16, 17, 18, 19, 20, 21] : List Nat).filterMap (fun i => (wX G a0 s)[i]?) = (wLaw G (a0 16) (a0 17) (a0 18) (a0 19) (a0 20) (a0 21) (X_law2 s) ++ wLaw G (a0 16) (a0 17) (a0 18) (a0 19) (a0 20) (a0 21) (X_law2 s)) := rfl
theorem cl_37_f (G : jG) (a0 : Nat → Nat) (s : XS) : ([16, 17, 18, 19, 20, 21, 22, 23, 24, 25, 26, 27] : List Nat).filterMap (fun i => (wX G a0 s)[i]?) = (wLaw G (a0 16) (a0 17) (a0 18) (a0 19) (a0 20) (a0 21) (X_law2 s) ++ wLaw G (a0 22) (a0 23) (a0 24) (a0 25) (a0 26) (a0 27) (X_law3 s)) := rfl
theorem cl_38_f (G : jG) (a0 : Nat → Nat) (s : XS) : ([22, 23, 24, 25, 26, 27, 4, 5, 6, 7, 8, 9] : List Nat).filterMap (fun i => (wX G a0 s)[i]?) = (wLaw G (a0 22) (a0 23) (a0 24) (a0 25) (a0 26) (a0 27) (X_law3 s) ++ wLaw G (a0 4) (a0 5) (a0 6) (a0 7) (a0 8) (a0 9) (X_law0 s)) := rfl
theorem cl_39_f (G : jG) (a0 : Nat → Nat) (s : XS) : ([22, 23, 24, 25, 26, 27, 10, 11, 12, 13, 14, 15] : List Nat).filterMap (fun i => (wX G a0 s)[i]?) = (wLaw G (a0 22) (a0 23) (a0 24) (a0 25) (a0 26) (a0 27) (X_law3 s) ++ wLaw G (a0 10) (a0 11) (a0 12) (a0 13) (a0 14) (a0 15) (X_law1 s)) := rfl
theorem cl_40_f (G : jG) (a0 : Nat → Nat) (s : XS) : ([22, 23, 24, 25, 26, 27, 16, 17, 18, 19, 20, 21] : List Nat).filterMap (fun i => (wX G a0 s)[i]?) = (wLaw G (a0 22) (a0 23) (a0 24) (a0 25) (a0 26) (a0 27) (X_law3 s) ++ wLaw G (a0 16) (a0 17) (a0 18) (a0 19) (a0 20) (a0 21) (X_law2 s)) := rfl
theorem cl_41_f (G : jG) (a0 : Nat → Nat) (s : XS) : ([22, 23, 24, 25, 26, 27, 22, 23, 24, 25, 26, 27] : List Nat).filterMap (fun i => (wX G a0 s)[i]?) = (wLaw G (a0 22) (a0 23) (a0 24) (a0 25) (a0 26) (a0 27) (X_law3 s) ++ wLaw G (a0 22) (a0 23) (a0 24) (a0 25) (a0 26) (a0 27) (X_law3 s)) := rfl
theorem cl_42_s (G : jG) (a0 : Nat → Nat) (s : XS) : ([28, 29] : List Nat).map (fun i => (wX G a0 s)[i]?) = (wPartings G (a0 28) (a0 29) (X_partings s)).map some := rfl
theorem cl_42_m (G : jG) (a0 : Nat → Nat) (s : XS) (t0 : PartingsS) : jmrg (wX G a0 s) [28, 29] (wPartings G (a0 28) (a0 29) t0) = wX G a0 (X_partings_s s t0) := rfl
theorem cl_43_f (G : jG) (a0 : Nat → Nat) (s : XS) : ([28, 29] : List Nat).filterMap (fun i => (wX G a0 s)[i]?) = (wPartings G (a0 28) (a0 29) (X_partings s)) := rfl
theorem cl_44_s (G : jG) (a0 : Nat → Nat) (s : XS) : ([30, 31, 32, 33, 34, 35, 36, 37, 38, 39, 40, 41, 42] : List Nat).map (fun i => (wX G a0 s)[i]?) = (wOrders G (a0 30) (a0 31) (a0 32) (a0 33) (a0 34) (a0 35) (a0 36) (a0 37) (a0 38) (a0 39) (a0 40) (a0 41) (a0 42) (X_orders s)).map some := rfl
theorem cl_44_m (G : jG) (a0 : Nat → Nat) (s : XS) (t0 : OrdersS) : jmrg (wX G a0 s) [30, 31, 32, 33, 34, 35, 36, 37, 38, 39, 40, 41, 42] (wOrders G (a0 30) (a0 31) (a0 32) (a0 33) (a0 34) (a0 35) (a0 36) (a0 37) (a0 38) (a0 39) (a0 40) (a0 41) (a0 42) t0) = wX G a0 (X_orders_s s t0) := rfl
theorem cl_45_f (G : jG) (a0 : Nat → Nat) (s : XS) : ([0, 1, 2, 3, 4, 5, 6, 7, 8, 9, 10, 11, 12, 13, 14, 15, 16, 17, 18, 19, 20, 21, 22, 23, 24, 25, 26, 27, 28, 29, 30, 31, 32, 33, 34, 35, 36, 37, 38, 39, 40, 41, 42, 43, 44, 45, 46, 47, 48, 49, 50, 51, 52, 53, 54, 55] : List Nat).filterMap (fun i => (wX G a0 s)[i]?) = (wX G a0 s) := rfl
theorem cl_46_f (G : jG) (a0 : Nat → Nat) (s : XS) : ([44, 45, 46] : List Nat).filterMap (fun i => (wX G a0 s)[i]?) = (wPolynomial G (a0 44) (a0 45) (a0 46) (X_poly0 s)) := rfl
theorem cl_47_s (G : jG) (a0 : Nat → Nat) (s : XS) : ([44, 45, 46] : List Nat).map (fun i => (wX G a0 s)[i]?) = (wPolynomial G (a0 44) (a0 45) (a0 46) (X_poly0 s)).map some := rfl
theorem cl_47_m (G : jG) (a0 : Nat → Nat) (s : XS) (t0 : PolynomialS) : jmrg (wX G a0 s) [44, 45, 46] (wPolynomial G (a0 44) (a0 45) (a0 46) t0) = wX G a0 (X_poly0_s s t0) := rfl
theorem cl_48_s (G : jG) (a0 : Nat → Nat) (s : XS) : ([47, 48, 49] : List Nat).map (fun i => (wX G a0 s)[i]?) = (wPolynomial G (a0 47) (a0 48) (a0 49) (X_poly1 s)).map some := rfl
theorem cl_48_m (G : jG) (a0 : Nat → Nat) (s : XS) (t0 : PolynomialS) : jmrg (wX G a0 s) [47, 48, 49] (wPolynomial G (a0 47) (a0 48) (a0 49) t0) = wX G a0 (X_poly1_s s t0) := rfl
theorem cl_49_s (G : jG) (a0 : Nat → Nat) (s : XS) : ([50, 51, 52] : List Nat).map (fun i => (wX G a0 s)[i]?) = (wPolynomial G (a0 50) (a0 51) (a0 52) (X_poly2 s)).map some := rfl
theorem cl_49_m (G : jG) (a0 : Nat → Nat) (s : XS) (t0 : PolynomialS) : jmrg (wX G a0 s) [50, 51, 52] (wPolynomial G (a0 50) (a0 51) (a0 52) t0) = wX G a0 (X_poly2_s s t0) := rfl
theorem cl_50_s (G : jG) (a0 : Nat → Nat) (s : XS) : ([53, 54, 55] : List Nat).map (fun i => (wX G a0 s)[i]?) = (wPolynomial G (a0 53) (a0 54) (a0 55) (X_poly3 s)).map some := rfl
theorem cl_50_m (G : jG) (a0 : Nat → Nat) (s : XS) (t0 : PolynomialS) : jmrg (wX G a0 s) [53, 54, 55] (wPolynomial G (a0 53) (a0 54) (a0 55) t0) = wX G a0 (X_poly3_s s t0) := rfl
theorem cl_51_f (G : jG) (a0 : Nat → Nat) (s : XS) : ([47, 48, 49] : List Nat).filterMap (fun i => (wX G a0 s)[i]?) = (wPolynomial G (a0 47) (a0 48) (a0 49) (X_poly1 s)) := rfl
theorem cl_52_f (G : jG) (a0 : Nat → Nat) (s : XS) : ([50, 51, 52] : List Nat).filterMap (fun i => (wX G a0 s)[i]?) = (wPolynomial G (a0 50) (a0 51) (a0 52) (X_poly2 s)) := rfl
theorem cl_53_f (G : jG) (a0 : Nat → Nat) (s : XS) : ([53, 54, 55] : List Nat).filterMap (fun i => (wX G a0 s)[i]?) = (wPolynomial G (a0 53) (a0 54) (a0 55) (X_poly3 s)) := rfl
theorem ok_X11_isOrder : yX11_isOrder.cls ≠ "java/lang/invoke/MethodHandle" ∧ yX11_isOrder.cls ≠ "java/lang/invoke/VarHandle" ∧ (parseMethodDescriptor yX11_isOrder.desc).map (fun d => d.parameters.length) = some 2 := ⟨by decide, by decide, by decide +kernel⟩
def f_X11_isOrder (v1 : Int32) (v2 : Int32) (s0 : XS) : Option (Int32) :=
   jbd (f_X11_within v1 (1 : Int32) (8 : Int32)) (fun r4 =>
   if r4 = 0 then
    jzb (0 : Int32) (
     some (0 : Int32))
   else
    jbd (f_X6_isOne v1 v2) (fun r16 =>
     if r16 = 0 then
      jzb (0 : Int32) (
       some (0 : Int32))
     else
      jzb (1 : Int32) (
       some (1 : Int32))))
set_option maxRecDepth 100000 in
set_option maxHeartbeats 4000000 in
theorem b_X11_isOrder {E : jE} (a0 : Nat → Nat) (s0 : XS) {res : Int32} (K : jC E cX11_isOrder 3 RX11 2) (HR : jRZ E cX11_isOrder 3 (wX (jg E) a0 s0) res) : ∀ (v1 : Int32) (v2 : Int32), f_X11_isOrder v1 v2 s0 = some res → J E 3 (wX (jg E) a0 s0) 0 [(0, .ref (a0 0)), (1, .int v1), (2, .int v2)] [] := by
  intro v1 v2 h
  unfold f_X11_isOrder at h
  refine j_iload_n (pc' := 1) K dX11_isOrder_0 rfl 1 rfl rfl ?_
  refine j_iconst (pc' := 2) (v := (1 : Int32)) K dX11_isOrder_1 (by decide) rfl ?_
  refine j_bipush (pc' := 4) (v := (8 : Int32)) K dX11_isOrder_2 (by decide) rfl ?_
  obtain ⟨r4, hr4, h⟩ := jbd_some h
  refine j_ro (pc' := 7) K (fun H hP => jrun_S K dX11_isOrder_4 (M_X11_within (jl E) (jg E) v1 (1 : Int32) (8 : Int32) hr4) u_1_76 u_1_217 u_1_75 u_1_1 ⟨ok_X11_within, by decide, by decide⟩ rfl (Nat.le_of_ble_eq_true rfl) H) [] rfl rfl ?_
  refine j_if_eq (pc' := 10) (tgt := 26) K dX11_isOrder_7 (by decide) rfl (fun hc => ?_) (fun hc => ?_)
  · have h := jit hc h
    refine j_iconst (pc' := 27) (v := (0 : Int32)) K dX11_isOrder_26 (by decide) rfl ?_
    obtain ⟨hg, h⟩ := jzb_some h
    obtain rfl := Option.some.inj h
    exact HR _ _ hg dX11_isOrder_27
  · have h := jif hc h
    refine j_aload_n (pc' := 11) K dX11_isOrder_10 rfl 0 rfl rfl ?_
    refine j_get (pc' := 14) K dX11_isOrder_11 inX11 0 rfl rfl 3 (by decide) u_1_200 rfl rfl rfl ?_
    refine j_iload_n (pc' := 15) K dX11_isOrder_14 rfl 1 rfl rfl ?_
    refine j_iload_n (pc' := 16) K dX11_isOrder_15 rfl 2 rfl rfl ?_
    obtain ⟨r16, hr16, h⟩ := jbd_some h
    refine j_ro (pc' := 19) K (fun H hP => jrun_V K dX11_isOrder_16 (M_X6_isOne (jl E) (jg E) (a0 30) v1 v2 hr16) u_3_110 u_3_107 u_3_108 u_3_109 u_1_4 ⟨ok_X6_isOne, by decide, by decide⟩ rfl (Nat.le_of_ble_eq_true rfl) 30 rfl rfl H hP) [] rfl rfl ?_
    refine j_if_eq (pc' := 22) (tgt := 26) K dX11_isOrder_19 (by decide) rfl (fun hc => ?_) (fun hc => ?_)
    · have h := jit hc h
      refine j_iconst (pc' := 27) (v := (0 : Int32)) K dX11_isOrder_26 (by decide) rfl ?_
      obtain ⟨hg, h⟩ := jzb_some h
      obtain rfl := Option.some.inj h
      exact HR _ _ hg dX11_isOrder_27
    · have h := jif hc h
      refine j_iconst (pc' := 23) (v := (1 : Int32)) K dX11_isOrder_22 (by decide) rfl ?_
      refine j_goto (tgt := 27) K dX11_isOrder_23 (by decide) ?_
      obtain ⟨hg, h⟩ := jzb_some h
      obtain rfl := Option.some.inj h
      exact HR _ _ hg dX11_isOrder_27
set_option maxRecDepth 100000 in
set_option maxHeartbeats 4000000 in
theorem M_X11_isOrder (l : Launch) (G : jG) (a0 : Nat → Nat) (v1 : Int32) (v2 : Int32) (s0 : XS) {r : Int32} (h : f_X11_isOrder v1 v2 s0 = some r) : MC l yX11_isOrder cX11_isOrder 3 (some .boolean) 2 G jNo False (wX G a0 s0) (wX G a0 s0) [.ref (a0 0), .int v1, .int v2] (some (.int r)) := by
  refine mc_bool (by decide +kernel) (Nat.le_of_ble_eq_true rfl) fun E hl hg hA hrw K HR => ?_
  subst hl
  subst hg
  exact b_X11_isOrder a0 s0 K HR v1 v2 h
theorem ok_X11_write : yX11_write.cls ≠ "java/lang/invoke/MethodHandle" ∧ yX11_write.cls ≠ "java/lang/invoke/VarHandle" ∧ (parseMethodDescriptor yX11_write.desc).map (fun d => d.parameters.length) = some 2 := ⟨by decide, by decide, by decide +kernel⟩
def f_X11_write (v1 : Int32) (v2 : Int64) (s0 : XS) : Option (Int32 × XS) :=
   jbd (f_X11_within v1 (1 : Int32) (8 : Int32)) (fun r4 =>
   if r4 = 0 then
    some ((-1 : Int32), s0)
   else
    jbd (f_X10_append v1 v2 (X_text s0)) (fun r18 =>
     if (r18.1) = 0 then
      some ((-3 : Int32), (X_text_s s0 (r18.2)))
     else
      jbd (f_X10_length (X_text (X_text_s s0 (r18.2)))) (fun r28 =>
       some (r28, (X_text_s s0 (r18.2))))))
set_option maxRecDepth 100000 in
set_option maxHeartbeats 4000000 in
theorem b_X11_write {E : jE} (a0 : Nat → Nat) {res : Int32 × XS} (K : jC E cX11_write 4 RX11 1) (hrw : jrw E) (HR : jRI E cX11_write 4 (wX (jg E) a0 (res.2)) (res.1)) : ∀ (v1 : Int32) (v2 : Int64) (s0 : XS), f_X11_write v1 v2 s0 = some res → J E 4 (wX (jg E) a0 s0) 0 [(0, .ref (a0 0)), (1, .int v1), (2, .long v2)] [] := by
  intro v1 v2 s0 h
  unfold f_X11_write at h
  refine j_iload_n (pc' := 1) K dX11_write_0 rfl 1 rfl rfl ?_
  refine j_iconst (pc' := 2) (v := (1 : Int32)) K dX11_write_1 (by decide) rfl ?_
  refine j_bipush (pc' := 4) (v := (8 : Int32)) K dX11_write_2 (by decide) rfl ?_
  obtain ⟨r4, hr4, h⟩ := jbd_some h
  refine j_ro (pc' := 7) K (fun H hP => jrun_S K dX11_write_4 (M_X11_within (jl E) (jg E) v1 (1 : Int32) (8 : Int32) hr4) u_1_76 u_1_217 u_1_75 u_1_1 ⟨ok_X11_within, by decide, by decide⟩ rfl (Nat.le_of_ble_eq_true rfl) H) [] rfl rfl ?_
  refine j_if_ne (pc' := 10) (tgt := 12) K dX11_write_7 (by decide) rfl (fun hc => ?_) (fun hc => ?_)
  · have h := jif hc h
    refine j_aload_n (pc' := 13) K dX11_write_12 rfl 0 rfl rfl ?_
    refine j_get (pc' := 16) K dX11_write_13 inX11 0 rfl rfl 0 (by decide) u_1_197 rfl rfl rfl ?_
    refine j_iload_n (pc' := 17) K dX11_write_16 rfl 1 rfl rfl ?_
    refine j_lload_n (pc' := 18) K dX11_write_17 rfl 2 rfl rfl ?_
    obtain ⟨r18, hr18, h⟩ := jbd_some h
    refine j_rw (pc' := 21) (ws' := (wX (jg E) a0 (X_text_s s0 (r18.2)))) K (fun H hP => jrun_V K dX11_write_18 (M_X10_append (jl E) (jg E) (a0 1) (a0 2) v1 v2 (X_text s0) hr18) u_1_221 u_1_218 u_1_219 u_1_220 u_1_2 ⟨ok_X10_append, by decide, by decide⟩ rfl (Nat.le_of_ble_eq_true rfl) 1 rfl rfl H hP) hrw [1, 2] rfl (cl_12_s ..) rfl (cl_12_m ..) (ad_X ..) rfl ?_
    refine j_if_eq (pc' := 24) (tgt := 34) K dX11_write_21 (by decide) rfl (fun hc => ?_) (fun hc => ?_)
    · have h := jit hc h
      refine j_bipush (pc' := 36) (v := (-3 : Int32)) K dX11_write_34 (by decide) rfl ?_
      obtain rfl := Option.some.inj h
      exact HR _ _ dX11_write_36
    · have h := jif hc h
      refine j_aload_n (pc' := 25) K dX11_write_24 rfl 0 rfl rfl ?_
      refine j_get (pc' := 28) K dX11_write_25 inX11 0 rfl rfl 0 (by decide) u_1_197 rfl rfl rfl ?_
      obtain ⟨r28, hr28, h⟩ := jbd_some h
      refine j_ro (pc' := 31) K (fun H hP => jrun_V K dX11_write_28 (M_X10_length (jl E) (jg E) (a0 1) (a0 2) (X_text (X_text_s s0 (r18.2))) hr28) u_1_225 u_1_222 u_1_223 u_1_224 u_1_2 ⟨ok_X10_length, by decide, by decide⟩ rfl (Nat.le_of_ble_eq_true rfl) 1 rfl rfl H hP) [1, 2] (cl_13_f ..) rfl ?_
      refine j_goto (tgt := 36) K dX11_write_31 (by decide) ?_
      obtain rfl := Option.some.inj h
      exact HR _ _ dX11_write_36
  · have h := jit hc h
    refine j_iconst (pc' := 11) (v := (-1 : Int32)) K dX11_write_10 (by decide) rfl ?_
    obtain rfl := Option.some.inj h
    exact HR _ _ dX11_write_11
set_option maxRecDepth 100000 in
set_option maxHeartbeats 4000000 in
theorem M_X11_write (l : Launch) (G : jG) (a0 : Nat → Nat) (v1 : Int32) (v2 : Int64) (s0 : XS) {r : Int32 × XS} (h : f_X11_write v1 v2 s0 = some r) : MC l yX11_write cX11_write 4 (some .int) 1 G (jad (wX G a0 s0)) True (wX G a0 s0) (wX G a0 (r.2)) [.ref (a0 0), .int v1, .long v2] (some (.int (r.1))) := by
  refine mc_int (by decide +kernel) (Nat.le_of_ble_eq_true rfl) fun E hl hg hA hrw K HR => ?_
  subst hl
  subst hg
  have hrw : jrw E := by rw [hrw]; trivial
  exact b_X11_write a0 K hrw HR v1 v2 s0 h
theorem ok_X11_wipe : yX11_wipe.cls ≠ "java/lang/invoke/MethodHandle" ∧ yX11_wipe.cls ≠ "java/lang/invoke/VarHandle" ∧ (parseMethodDescriptor yX11_wipe.desc).map (fun d => d.parameters.length) = some 0 := ⟨by decide, by decide, by decide +kernel⟩
def f_X11_wipe (s0 : XS) : Option (Int32 × XS) :=
   jbd (f_X10_length (X_text s0)) (fun r4 =>
   jbd (f_X10_clear (X_text s0)) (fun r12 =>
    some (r4, (X_text_s s0 r12))))
set_option maxRecDepth 100000 in
set_option maxHeartbeats 4000000 in
theorem b_X11_wipe {E : jE} (a0 : Nat → Nat) {res : Int32 × XS} (K : jC E cX11_wipe 2 RX11 1) (hrw : jrw E) (HR : jRI E cX11_wipe 2 (wX (jg E) a0 (res.2)) (res.1)) : ∀ (s0 : XS), f_X11_wipe s0 = some res → J E 2 (wX (jg E) a0 s0) 0 [(0, .ref (a0 0))] [] := by
  intro s0 h
  unfold f_X11_wipe at h
  refine j_aload_n (pc' := 1) K dX11_wipe_0 rfl 0 rfl rfl ?_
  refine j_get (pc' := 4) K dX11_wipe_1 inX11 0 rfl rfl 0 (by decide) u_1_197 rfl rfl rfl ?_
  obtain ⟨r4, hr4, h⟩ := jbd_some h
  refine j_ro (pc' := 7) K (fun H hP => jrun_V K dX11_wipe_4 (M_X10_length (jl E) (jg E) (a0 1) (a0 2) (X_text s0) hr4) u_1_225 u_1_222 u_1_223 u_1_224 u_1_2 ⟨ok_X10_length, by decide, by decide⟩ rfl (Nat.le_of_ble_eq_true rfl) 1 rfl rfl H hP) [1, 2] (cl_13_f ..) rfl ?_
  refine j_istore_n (pc' := 8) (lv' := [(1, .int r4), (0, .ref (a0 0))]) K dX11_wipe_7 rfl (by decide) rfl rfl ?_
  refine j_aload_n (pc' := 9) K dX11_wipe_8 rfl 1 rfl rfl ?_
  refine j_get (pc' := 12) K dX11_wipe_9 inX11 0 rfl rfl 0 (by decide) u_1_197 rfl rfl rfl ?_
  obtain ⟨r12, hr12, h⟩ := jbd_some h
  refine j_rw (pc' := 15) (ws' := (wX (jg E) a0 (X_text_s s0 r12))) K (fun H hP => jrun_V K dX11_wipe_12 (M_X10_clear (jl E) (jg E) (a0 1) (a0 2) (X_text s0) hr12) u_1_233 u_1_230 u_1_231 u_1_232 u_1_2 ⟨ok_X10_clear, by decide, by decide⟩ rfl (Nat.le_of_ble_eq_true rfl) 1 rfl rfl H hP) hrw [1, 2] rfl (cl_12_s ..) rfl (cl_12_m ..) (ad_X ..) rfl ?_
  refine j_iload_n (pc' := 16) K dX11_wipe_15 rfl 0 rfl rfl ?_
  obtain rfl := Option.some.inj h
  exact HR _ _ dX11_wipe_16
set_option maxRecDepth 100000 in
set_option maxHeartbeats 4000000 in
theorem M_X11_wipe (l : Launch) (G : jG) (a0 : Nat → Nat) (s0 : XS) {r : Int32 × XS} (h : f_X11_wipe s0 = some r) : MC l yX11_wipe cX11_wipe 2 (some .int) 1 G (jad (wX G a0 s0)) True (wX G a0 s0) (wX G a0 (r.2)) [.ref (a0 0)] (some (.int (r.1))) := by
  refine mc_int (by decide +kernel) (Nat.le_of_ble_eq_true rfl) fun E hl hg hA hrw K HR => ?_
  subst hl
  subst hg
  have hrw : jrw E := by rw [hrw]; trivial
  exact b_X11_wipe a0 K hrw HR s0 h
theorem ok_X11_fault : yX11_fault.cls ≠ "java/lang/invoke/MethodHandle" ∧ yX11_fault.cls ≠ "java/lang/invoke/VarHandle" ∧ (parseMethodDescriptor yX11_fault.desc).map (fun d => d.parameters.length) = some 0 := ⟨by decide, by decide, by decide +kernel⟩
def f_X11_fault (s0 : XS) : Option (Int32) :=
   jbd (f_X10_firstFault (X_text s0)) (fun r4 =>
   some r4)
set_option maxRecDepth 100000 in
set_option maxHeartbeats 4000000 in
theorem b_X11_fault {E : jE} (a0 : Nat → Nat) (s0 : XS) {res : Int32} (K : jC E cX11_fault 1 RX11 4) (HR : jRI E cX11_fault 1 (wX (jg E) a0 s0) res) : f_X11_fault s0 = some res → J E 1 (wX (jg E) a0 s0) 0 [(0, .ref (a0 0))] [] := by
  intro  h
  unfold f_X11_fault at h
  refine j_aload_n (pc' := 1) K dX11_fault_0 rfl 0 rfl rfl ?_
  refine j_get (pc' := 4) K dX11_fault_1 inX11 0 rfl rfl 0 (by decide) u_1_197 rfl rfl rfl ?_
  obtain ⟨r4, hr4, h⟩ := jbd_some h
  refine j_ro (pc' := 7) K (fun H hP => jrun_V K dX11_fault_4 (M_X10_firstFault (jl E) (jg E) (a0 1) (a0 2) (X_text s0) hr4) u_2_1 u_1_238 u_1_239 u_2_0 u_1_2 ⟨ok_X10_firstFault, by decide, by decide⟩ rfl (Nat.le_of_ble_eq_true rfl) 1 rfl rfl H hP) [1, 2] (cl_13_f ..) rfl ?_
  obtain rfl := Option.some.inj h
  exact HR _ _ dX11_fault_7
set_option maxRecDepth 100000 in
set_option maxHeartbeats 4000000 in
theorem M_X11_fault (l : Launch) (G : jG) (a0 : Nat → Nat) (s0 : XS) {r : Int32} (h : f_X11_fault s0 = some r) : MC l yX11_fault cX11_fault 1 (some .int) 4 G jNo False (wX G a0 s0) (wX G a0 s0) [.ref (a0 0)] (some (.int r)) := by
  refine mc_int (by decide +kernel) (Nat.le_of_ble_eq_true rfl) fun E hl hg hA hrw K HR => ?_
  subst hl
  subst hg
  exact b_X11_fault a0 s0 K HR h
theorem ok_X11_lay : yX11_lay.cls ≠ "java/lang/invoke/MethodHandle" ∧ yX11_lay.cls ≠ "java/lang/invoke/VarHandle" ∧ (parseMethodDescriptor yX11_lay.desc).map (fun d => d.parameters.length) = some 1 := ⟨by decide, by decide, by decide +kernel⟩
def f_X11_lay (v1 : Int32) (s0 : XS) : Option (Int32 × XS) :=
   jbd (f_X11_isLaw v1) (fun r1 =>
   if r1 = 0 then
    some ((-1 : Int32), s0)
   else
    jbd (f_X10_firstFault (X_text s0)) (fun r13 =>
     if r13 = (-4 : Int32) then
      jgd v1 4 (
       if v1 = 0 then (
        jbd (f_X2_layFrom (X_law0 s0) (X_text s0)) (fun r34 =>
         jgd v1 4 (
          if v1 = 0 then (
           jbd (f_X2_items (X_law0 (X_law0_s s0 r34))) (fun r43 =>
            some (r43, (X_law0_s s0 r34)))) else if v1 = 1 then (
           jbd (f_X2_items (X_law1 (X_law0_s s0 r34))) (fun r43 =>
            some (r43, (X_law0_s s0 r34)))) else if v1 = 2 then (
           jbd (f_X2_items (X_law2 (X_law0_s s0 r34))) (fun r43 =>
            some (r43, (X_law0_s s0 r34)))) else (
           jbd (f_X2_items (X_law3 (X_law0_s s0 r34))) (fun r43 =>
            some (r43, (X_law0_s s0 r34))))))) else if v1 = 1 then (
        jbd (f_X2_layFrom (X_law1 s0) (X_text s0)) (fun r34 =>
         jgd v1 4 (
          if v1 = 0 then (
           jbd (f_X2_items (X_law0 (X_law1_s s0 r34))) (fun r43 =>
            some (r43, (X_law1_s s0 r34)))) else if v1 = 1 then (
           jbd (f_X2_items (X_law1 (X_law1_s s0 r34))) (fun r43 =>
            some (r43, (X_law1_s s0 r34)))) else if v1 = 2 then (
           jbd (f_X2_items (X_law2 (X_law1_s s0 r34))) (fun r43 =>
            some (r43, (X_law1_s s0 r34)))) else (
           jbd (f_X2_items (X_law3 (X_law1_s s0 r34))) (fun r43 =>
            some (r43, (X_law1_s s0 r34))))))) else if v1 = 2 then (
        jbd (f_X2_layFrom (X_law2 s0) (X_text s0)) (fun r34 =>
         jgd v1 4 (
          if v1 = 0 then (
           jbd (f_X2_items (X_law0 (X_law2_s s0 r34))) (fun r43 =>
            some (r43, (X_law2_s s0 r34)))) else if v1 = 1 then (
           jbd (f_X2_items (X_law1 (X_law2_s s0 r34))) (fun r43 =>
            some (r43, (X_law2_s s0 r34)))) else if v1 = 2 then (
           jbd (f_X2_items (X_law2 (X_law2_s s0 r34))) (fun r43 =>
            some (r43, (X_law2_s s0 r34)))) else (
           jbd (f_X2_items (X_law3 (X_law2_s s0 r34))) (fun r43 =>
            some (r43, (X_law2_s s0 r34))))))) else (
        jbd (f_X2_layFrom (X_law3 s0) (X_text s0)) (fun r34 =>
         jgd v1 4 (
          if v1 = 0 then (
           jbd (f_X2_items (X_law0 (X_law3_s s0 r34))) (fun r43 =>
            some (r43, (X_law3_s s0 r34)))) else if v1 = 1 then (
           jbd (f_X2_items (X_law1 (X_law3_s s0 r34))) (fun r43 =>
            some (r43, (X_law3_s s0 r34)))) else if v1 = 2 then (
           jbd (f_X2_items (X_law2 (X_law3_s s0 r34))) (fun r43 =>
            some (r43, (X_law3_s s0 r34)))) else (
           jbd (f_X2_items (X_law3 (X_law3_s s0 r34))) (fun r43 =>
            some (r43, (X_law3_s s0 r34))))))))
     else
      some ((-2 : Int32), s0)))
set_option maxRecDepth 100000 in
set_option maxHeartbeats 4000000 in
theorem b_X11_lay {E : jE} (a0 : Nat → Nat) {res : Int32 × XS} (K : jC E cX11_lay 2 RX11 6) (hrw : jrw E) (HR : jRI E cX11_lay 2 (wX (jg E) a0 (res.2)) (res.1)) : ∀ (v1 : Int32) (s0 : XS), f_X11_lay v1 s0 = some res → J E 2 (wX (jg E) a0 s0) 0 [(0, .ref (a0 0)), (1, .int v1)] [] := by
  intro v1 s0 h
  unfold f_X11_lay at h
  refine j_iload_n (pc' := 1) K dX11_lay_0 rfl 1 rfl rfl ?_
  obtain ⟨r1, hr1, h⟩ := jbd_some h
  refine j_ro (pc' := 4) K (fun H hP => jrun_S K dX11_lay_1 (M_X11_isLaw (jl E) (jg E) v1 hr1) u_2_23 u_2_21 u_2_22 u_1_1 ⟨ok_X11_isLaw, by decide, by decide⟩ rfl (Nat.le_of_ble_eq_true rfl) H) [] rfl rfl ?_
  refine j_if_ne (pc' := 7) (tgt := 9) K dX11_lay_4 (by decide) rfl (fun hc => ?_) (fun hc => ?_)
  · have h := jif hc h
    refine j_aload_n (pc' := 10) K dX11_lay_9 rfl 0 rfl rfl ?_
    refine j_get (pc' := 13) K dX11_lay_10 inX11 0 rfl rfl 0 (by decide) u_1_197 rfl rfl rfl ?_
    obtain ⟨r13, hr13, h⟩ := jbd_some h
    refine j_ro (pc' := 16) K (fun H hP => jrun_V K dX11_lay_13 (M_X10_firstFault (jl E) (jg E) (a0 1) (a0 2) (X_text s0) hr13) u_2_1 u_1_238 u_1_239 u_2_0 u_1_2 ⟨ok_X10_firstFault, by decide, by decide⟩ rfl (Nat.le_of_ble_eq_true rfl) 1 rfl rfl H hP) [1, 2] (cl_13_f ..) rfl ?_
    refine j_bipush (pc' := 18) (v := (-4 : Int32)) K dX11_lay_16 (by decide) rfl ?_
    refine j_icmp_eq (pc' := 21) (tgt := 24) K dX11_lay_18 (by decide) rfl (fun hc => ?_) (fun hc => ?_)
    · have h := jit hc h
      refine j_aload_n (pc' := 25) K dX11_lay_24 rfl 0 rfl rfl ?_
      refine j_get (pc' := 28) K dX11_lay_25 inX11 0 rfl rfl 1 (by decide) u_1_198 rfl rfl rfl ?_
      refine j_iload_n (pc' := 29) K dX11_lay_28 rfl 1 rfl rfl ?_
      obtain ⟨hg, h⟩ := jgd_some h
      by_cases hc : v1 = 0
      · have h := jit hc h
        refine j_aald (pc' := 30) K dX11_lay_29 3 4 rfl rfl hg (by rw [hc]; rfl) rfl ?_
        refine j_aload_n (pc' := 31) K dX11_lay_30 rfl 0 rfl rfl ?_
        refine j_get (pc' := 34) K dX11_lay_31 inX11 0 rfl rfl 0 (by decide) u_1_197 rfl rfl rfl ?_
        obtain ⟨r34, hr34, h⟩ := jbd_some h
        refine j_rw (pc' := 37) (ws' := (wX (jg E) a0 (X_law0_s s0 r34))) K (fun H hP => jrun_V K dX11_lay_34 (M_X2_layFrom (jl E) (jg E) (a0 4) (a0 5) (a0 6) (a0 7) (a0 8) (a0 9) (a0 1) (a0 2) (X_law0 s0) (X_text s0) hr34) u_2_27 u_2_24 u_2_25 u_2_26 u_1_11 ⟨ok_X2_layFrom, by decide, by decide⟩ rfl (Nat.le_of_ble_eq_true rfl) 4 rfl rfl H hP) hrw [4, 5, 6, 7, 8, 9, 1, 2] rfl (cl_14_s ..) rfl (cl_14_m ..) (ad_X ..) rfl ?_
        refine j_aload_n (pc' := 38) K dX11_lay_37 rfl 0 rfl rfl ?_
        refine j_get (pc' := 41) K dX11_lay_38 inX11 0 rfl rfl 1 (by decide) u_1_198 rfl rfl rfl ?_
        refine j_iload_n (pc' := 42) K dX11_lay_41 rfl 1 rfl rfl ?_
        obtain ⟨hg, h⟩ := jgd_some h
        by_cases hc : v1 = 0
        · have h := jit hc h
          refine j_aald (pc' := 43) K dX11_lay_42 3 4 rfl rfl hg (by rw [hc]; rfl) rfl ?_
          obtain ⟨r43, hr43, h⟩ := jbd_some h
          refine j_ro (pc' := 46) K (fun H hP => jrun_V K dX11_lay_43 (M_X2_items (jl E) (jg E) (a0 4) (a0 5) (a0 6) (a0 7) (a0 8) (a0 9) (X_law0 (X_law0_s s0 r34)) hr43) u_2_84 u_2_81 u_2_82 u_2_83 u_1_11 ⟨ok_X2_items, by decide, by decide⟩ rfl (Nat.le_of_ble_eq_true rfl) 4 rfl rfl H hP) [4, 5, 6, 7, 8, 9] (cl_15_f ..) rfl ?_
          obtain rfl := Option.some.inj h
          exact HR _ _ dX11_lay_46
        have hc0 := hc
        have h := jif hc h
        by_cases hc : v1 = 1
        · have h := jit hc h
          refine j_aald (pc' := 43) K dX11_lay_42 3 4 rfl rfl hg (by rw [hc]; rfl) rfl ?_
          obtain ⟨r43, hr43, h⟩ := jbd_some h
          refine j_ro (pc' := 46) K (fun H hP => jrun_V K dX11_lay_43 (M_X2_items (jl E) (jg E) (a0 10) (a0 11) (a0 12) (a0 13) (a0 14) (a0 15) (X_law1 (X_law0_s s0 r34)) hr43) u_2_84 u_2_81 u_2_82 u_2_83 u_1_11 ⟨ok_X2_items, by decide, by decide⟩ rfl (Nat.le_of_ble_eq_true rfl) 10 rfl rfl H hP) [10, 11, 12, 13, 14, 15] (cl_16_f ..) rfl ?_
          obtain rfl := Option.some.inj h
          exact HR _ _ dX11_lay_46
        have hc1 := hc
        have h := jif hc h
        by_cases hc : v1 = 2
        · have h := jit hc h
          refine j_aald (pc' := 43) K dX11_lay_42 3 4 rfl rfl hg (by rw [hc]; rfl) rfl ?_
          obtain ⟨r43, hr43, h⟩ := jbd_some h
          refine j_ro (pc' := 46) K (fun H hP => jrun_V K dX11_lay_43 (M_X2_items (jl E) (jg E) (a0 16) (a0 17) (a0 18) (a0 19) (a0 20) (a0 21) (X_law2 (X_law0_s s0 r34)) hr43) u_2_84 u_2_81 u_2_82 u_2_83 u_1_11 ⟨ok_X2_items, by decide, by decide⟩ rfl (Nat.le_of_ble_eq_true rfl) 16 rfl rfl H hP) [16, 17, 18, 19, 20, 21] (cl_17_f ..) rfl ?_
          obtain rfl := Option.some.inj h
          exact HR _ _ dX11_lay_46
        have hc2 := hc
        have h := jif hc h
        have hc : v1 = 3 := jin4 hg hc0 hc1 hc2
        refine j_aald (pc' := 43) K dX11_lay_42 3 4 rfl rfl hg (by rw [hc]; rfl) rfl ?_
        obtain ⟨r43, hr43, h⟩ := jbd_some h
        refine j_ro (pc' := 46) K (fun H hP => jrun_V K dX11_lay_43 (M_X2_items (jl E) (jg E) (a0 22) (a0 23) (a0 24) (a0 25) (a0 26) (a0 27) (X_law3 (X_law0_s s0 r34)) hr43) u_2_84 u_2_81 u_2_82 u_2_83 u_1_11 ⟨ok_X2_items, by decide, by decide⟩ rfl (Nat.le_of_ble_eq_true rfl) 22 rfl rfl H hP) [22, 23, 24, 25, 26, 27] (cl_18_f ..) rfl ?_
        obtain rfl := Option.some.inj h
        exact HR _ _ dX11_lay_46
      have hc0 := hc
      have h := jif hc h
      by_cases hc : v1 = 1
      · have h := jit hc h
        refine j_aald (pc' := 30) K dX11_lay_29 3 4 rfl rfl hg (by rw [hc]; rfl) rfl ?_
        refine j_aload_n (pc' := 31) K dX11_lay_30 rfl 0 rfl rfl ?_
        refine j_get (pc' := 34) K dX11_lay_31 inX11 0 rfl rfl 0 (by decide) u_1_197 rfl rfl rfl ?_
        obtain ⟨r34, hr34, h⟩ := jbd_some h
        refine j_rw (pc' := 37) (ws' := (wX (jg E) a0 (X_law1_s s0 r34))) K (fun H hP => jrun_V K dX11_lay_34 (M_X2_layFrom (jl E) (jg E) (a0 10) (a0 11) (a0 12) (a0 13) (a0 14) (a0 15) (a0 1) (a0 2) (X_law1 s0) (X_text s0) hr34) u_2_27 u_2_24 u_2_25 u_2_26 u_1_11 ⟨ok_X2_layFrom, by decide, by decide⟩ rfl (Nat.le_of_ble_eq_true rfl) 10 rfl rfl H hP) hrw [10, 11, 12, 13, 14, 15, 1, 2] rfl (cl_19_s ..) rfl (cl_19_m ..) (ad_X ..) rfl ?_
        refine j_aload_n (pc' := 38) K dX11_lay_37 rfl 0 rfl rfl ?_
        refine j_get (pc' := 41) K dX11_lay_38 inX11 0 rfl rfl 1 (by decide) u_1_198 rfl rfl rfl ?_
        refine j_iload_n (pc' := 42) K dX11_lay_41 rfl 1 rfl rfl ?_
        obtain ⟨hg, h⟩ := jgd_some h
        by_cases hc : v1 = 0
        · have h := jit hc h
          refine j_aald (pc' := 43) K dX11_lay_42 3 4 rfl rfl hg (by rw [hc]; rfl) rfl ?_
          obtain ⟨r43, hr43, h⟩ := jbd_some h
          refine j_ro (pc' := 46) K (fun H hP => jrun_V K dX11_lay_43 (M_X2_items (jl E) (jg E) (a0 4) (a0 5) (a0 6) (a0 7) (a0 8) (a0 9) (X_law0 (X_law1_s s0 r34)) hr43) u_2_84 u_2_81 u_2_82 u_2_83 u_1_11 ⟨ok_X2_items, by decide, by decide⟩ rfl (Nat.le_of_ble_eq_true rfl) 4 rfl rfl H hP) [4, 5, 6, 7, 8, 9] (cl_15_f ..) rfl ?_
          obtain rfl := Option.some.inj h
          exact HR _ _ dX11_lay_46
        have hc0 := hc
        have h := jif hc h
        by_cases hc : v1 = 1
        · have h := jit hc h
          refine j_aald (pc' := 43) K dX11_lay_42 3 4 rfl rfl hg (by rw [hc]; rfl) rfl ?_
          obtain ⟨r43, hr43, h⟩ := jbd_some h
          refine j_ro (pc' := 46) K (fun H hP => jrun_V K dX11_lay_43 (M_X2_items (jl E) (jg E) (a0 10) (a0 11) (a0 12) (a0 13) (a0 14) (a0 15) (X_law1 (X_law1_s s0 r34)) hr43) u_2_84 u_2_81 u_2_82 u_2_83 u_1_11 ⟨ok_X2_items, by decide, by decide⟩ rfl (Nat.le_of_ble_eq_true rfl) 10 rfl rfl H hP) [10, 11, 12, 13, 14, 15] (cl_16_f ..) rfl ?_
          obtain rfl := Option.some.inj h
          exact HR _ _ dX11_lay_46
        have hc1 := hc
        have h := jif hc h
        by_cases hc : v1 = 2
        · have h := jit hc h
          refine j_aald (pc' := 43) K dX11_lay_42 3 4 rfl rfl hg (by rw [hc]; rfl) rfl ?_
          obtain ⟨r43, hr43, h⟩ := jbd_some h
          refine j_ro (pc' := 46) K (fun H hP => jrun_V K dX11_lay_43 (M_X2_items (jl E) (jg E) (a0 16) (a0 17) (a0 18) (a0 19) (a0 20) (a0 21) (X_law2 (X_law1_s s0 r34)) hr43) u_2_84 u_2_81 u_2_82 u_2_83 u_1_11 ⟨ok_X2_items, by decide, by decide⟩ rfl (Nat.le_of_ble_eq_true rfl) 16 rfl rfl H hP) [16, 17, 18, 19, 20, 21] (cl_17_f ..) rfl ?_
          obtain rfl := Option.some.inj h
          exact HR _ _ dX11_lay_46
        have hc2 := hc
        have h := jif hc h
        have hc : v1 = 3 := jin4 hg hc0 hc1 hc2
        refine j_aald (pc' := 43) K dX11_lay_42 3 4 rfl rfl hg (by rw [hc]; rfl) rfl ?_
        obtain ⟨r43, hr43, h⟩ := jbd_some h
        refine j_ro (pc' := 46) K (fun H hP => jrun_V K dX11_lay_43 (M_X2_items (jl E) (jg E) (a0 22) (a0 23) (a0 24) (a0 25) (a0 26) (a0 27) (X_law3 (X_law1_s s0 r34)) hr43) u_2_84 u_2_81 u_2_82 u_2_83 u_1_11 ⟨ok_X2_items, by decide, by decide⟩ rfl (Nat.le_of_ble_eq_true rfl) 22 rfl rfl H hP) [22, 23, 24, 25, 26, 27] (cl_18_f ..) rfl ?_
        obtain rfl := Option.some.inj h
        exact HR _ _ dX11_lay_46
      have hc1 := hc
      have h := jif hc h
      by_cases hc : v1 = 2
      · have h := jit hc h
        refine j_aald (pc' := 30) K dX11_lay_29 3 4 rfl rfl hg (by rw [hc]; rfl) rfl ?_
        refine j_aload_n (pc' := 31) K dX11_lay_30 rfl 0 rfl rfl ?_
        refine j_get (pc' := 34) K dX11_lay_31 inX11 0 rfl rfl 0 (by decide) u_1_197 rfl rfl rfl ?_
        obtain ⟨r34, hr34, h⟩ := jbd_some h
        refine j_rw (pc' := 37) (ws' := (wX (jg E) a0 (X_law2_s s0 r34))) K (fun H hP => jrun_V K dX11_lay_34 (M_X2_layFrom (jl E) (jg E) (a0 16) (a0 17) (a0 18) (a0 19) (a0 20) (a0 21) (a0 1) (a0 2) (X_law2 s0) (X_text s0) hr34) u_2_27 u_2_24 u_2_25 u_2_26 u_1_11 ⟨ok_X2_layFrom, by decide, by decide⟩ rfl (Nat.le_of_ble_eq_true rfl) 16 rfl rfl H hP) hrw [16, 17, 18, 19, 20, 21, 1, 2] rfl (cl_20_s ..) rfl (cl_20_m ..) (ad_X ..) rfl ?_
        refine j_aload_n (pc' := 38) K dX11_lay_37 rfl 0 rfl rfl ?_
        refine j_get (pc' := 41) K dX11_lay_38 inX11 0 rfl rfl 1 (by decide) u_1_198 rfl rfl rfl ?_
        refine j_iload_n (pc' := 42) K dX11_lay_41 rfl 1 rfl rfl ?_
        obtain ⟨hg, h⟩ := jgd_some h
        by_cases hc : v1 = 0
        · have h := jit hc h
          refine j_aald (pc' := 43) K dX11_lay_42 3 4 rfl rfl hg (by rw [hc]; rfl) rfl ?_
          obtain ⟨r43, hr43, h⟩ := jbd_some h
          refine j_ro (pc' := 46) K (fun H hP => jrun_V K dX11_lay_43 (M_X2_items (jl E) (jg E) (a0 4) (a0 5) (a0 6) (a0 7) (a0 8) (a0 9) (X_law0 (X_law2_s s0 r34)) hr43) u_2_84 u_2_81 u_2_82 u_2_83 u_1_11 ⟨ok_X2_items, by decide, by decide⟩ rfl (Nat.le_of_ble_eq_true rfl) 4 rfl rfl H hP) [4, 5, 6, 7, 8, 9] (cl_15_f ..) rfl ?_
          obtain rfl := Option.some.inj h
          exact HR _ _ dX11_lay_46
        have hc0 := hc
        have h := jif hc h
        by_cases hc : v1 = 1
        · have h := jit hc h
          refine j_aald (pc' := 43) K dX11_lay_42 3 4 rfl rfl hg (by rw [hc]; rfl) rfl ?_
          obtain ⟨r43, hr43, h⟩ := jbd_some h
          refine j_ro (pc' := 46) K (fun H hP => jrun_V K dX11_lay_43 (M_X2_items (jl E) (jg E) (a0 10) (a0 11) (a0 12) (a0 13) (a0 14) (a0 15) (X_law1 (X_law2_s s0 r34)) hr43) u_2_84 u_2_81 u_2_82 u_2_83 u_1_11 ⟨ok_X2_items, by decide, by decide⟩ rfl (Nat.le_of_ble_eq_true rfl) 10 rfl rfl H hP) [10, 11, 12, 13, 14, 15] (cl_16_f ..) rfl ?_
          obtain rfl := Option.some.inj h
          exact HR _ _ dX11_lay_46
        have hc1 := hc
        have h := jif hc h
        by_cases hc : v1 = 2
        · have h := jit hc h
          refine j_aald (pc' := 43) K dX11_lay_42 3 4 rfl rfl hg (by rw [hc]; rfl) rfl ?_
          obtain ⟨r43, hr43, h⟩ := jbd_some h
          refine j_ro (pc' := 46) K (fun H hP => jrun_V K dX11_lay_43 (M_X2_items (jl E) (jg E) (a0 16) (a0 17) (a0 18) (a0 19) (a0 20) (a0 21) (X_law2 (X_law2_s s0 r34)) hr43) u_2_84 u_2_81 u_2_82 u_2_83 u_1_11 ⟨ok_X2_items, by decide, by decide⟩ rfl (Nat.le_of_ble_eq_true rfl) 16 rfl rfl H hP) [16, 17, 18, 19, 20, 21] (cl_17_f ..) rfl ?_
          obtain rfl := Option.some.inj h
          exact HR _ _ dX11_lay_46
        have hc2 := hc
        have h := jif hc h
        have hc : v1 = 3 := jin4 hg hc0 hc1 hc2
        refine j_aald (pc' := 43) K dX11_lay_42 3 4 rfl rfl hg (by rw [hc]; rfl) rfl ?_
        obtain ⟨r43, hr43, h⟩ := jbd_some h
        refine j_ro (pc' := 46) K (fun H hP => jrun_V K dX11_lay_43 (M_X2_items (jl E) (jg E) (a0 22) (a0 23) (a0 24) (a0 25) (a0 26) (a0 27) (X_law3 (X_law2_s s0 r34)) hr43) u_2_84 u_2_81 u_2_82 u_2_83 u_1_11 ⟨ok_X2_items, by decide, by decide⟩ rfl (Nat.le_of_ble_eq_true rfl) 22 rfl rfl H hP) [22, 23, 24, 25, 26, 27] (cl_18_f ..) rfl ?_
        obtain rfl := Option.some.inj h
        exact HR _ _ dX11_lay_46
      have hc2 := hc
      have h := jif hc h
      have hc : v1 = 3 := jin4 hg hc0 hc1 hc2
      refine j_aald (pc' := 30) K dX11_lay_29 3 4 rfl rfl hg (by rw [hc]; rfl) rfl ?_
      refine j_aload_n (pc' := 31) K dX11_lay_30 rfl 0 rfl rfl ?_
      refine j_get (pc' := 34) K dX11_lay_31 inX11 0 rfl rfl 0 (by decide) u_1_197 rfl rfl rfl ?_
      obtain ⟨r34, hr34, h⟩ := jbd_some h
      refine j_rw (pc' := 37) (ws' := (wX (jg E) a0 (X_law3_s s0 r34))) K (fun H hP => jrun_V K dX11_lay_34 (M_X2_layFrom (jl E) (jg E) (a0 22) (a0 23) (a0 24) (a0 25) (a0 26) (a0 27) (a0 1) (a0 2) (X_law3 s0) (X_text s0) hr34) u_2_27 u_2_24 u_2_25 u_2_26 u_1_11 ⟨ok_X2_layFrom, by decide, by decide⟩ rfl (Nat.le_of_ble_eq_true rfl) 22 rfl rfl H hP) hrw [22, 23, 24, 25, 26, 27, 1, 2] rfl (cl_21_s ..) rfl (cl_21_m ..) (ad_X ..) rfl ?_
      refine j_aload_n (pc' := 38) K dX11_lay_37 rfl 0 rfl rfl ?_
      refine j_get (pc' := 41) K dX11_lay_38 inX11 0 rfl rfl 1 (by decide) u_1_198 rfl rfl rfl ?_
      refine j_iload_n (pc' := 42) K dX11_lay_41 rfl 1 rfl rfl ?_
      obtain ⟨hg, h⟩ := jgd_some h
      by_cases hc : v1 = 0
      · have h := jit hc h
        refine j_aald (pc' := 43) K dX11_lay_42 3 4 rfl rfl hg (by rw [hc]; rfl) rfl ?_
        obtain ⟨r43, hr43, h⟩ := jbd_some h
        refine j_ro (pc' := 46) K (fun H hP => jrun_V K dX11_lay_43 (M_X2_items (jl E) (jg E) (a0 4) (a0 5) (a0 6) (a0 7) (a0 8) (a0 9) (X_law0 (X_law3_s s0 r34)) hr43) u_2_84 u_2_81 u_2_82 u_2_83 u_1_11 ⟨ok_X2_items, by decide, by decide⟩ rfl (Nat.le_of_ble_eq_true rfl) 4 rfl rfl H hP) [4, 5, 6, 7, 8, 9] (cl_15_f ..) rfl ?_
        obtain rfl := Option.some.inj h
        exact HR _ _ dX11_lay_46
      have hc0 := hc
      have h := jif hc h
      by_cases hc : v1 = 1
      · have h := jit hc h
        refine j_aald (pc' := 43) K dX11_lay_42 3 4 rfl rfl hg (by rw [hc]; rfl) rfl ?_
        obtain ⟨r43, hr43, h⟩ := jbd_some h
        refine j_ro (pc' := 46) K (fun H hP => jrun_V K dX11_lay_43 (M_X2_items (jl E) (jg E) (a0 10) (a0 11) (a0 12) (a0 13) (a0 14) (a0 15) (X_law1 (X_law3_s s0 r34)) hr43) u_2_84 u_2_81 u_2_82 u_2_83 u_1_11 ⟨ok_X2_items, by decide, by decide⟩ rfl (Nat.le_of_ble_eq_true rfl) 10 rfl rfl H hP) [10, 11, 12, 13, 14, 15] (cl_16_f ..) rfl ?_
        obtain rfl := Option.some.inj h
        exact HR _ _ dX11_lay_46
      have hc1 := hc
      have h := jif hc h
      by_cases hc : v1 = 2
      · have h := jit hc h
        refine j_aald (pc' := 43) K dX11_lay_42 3 4 rfl rfl hg (by rw [hc]; rfl) rfl ?_
        obtain ⟨r43, hr43, h⟩ := jbd_some h
        refine j_ro (pc' := 46) K (fun H hP => jrun_V K dX11_lay_43 (M_X2_items (jl E) (jg E) (a0 16) (a0 17) (a0 18) (a0 19) (a0 20) (a0 21) (X_law2 (X_law3_s s0 r34)) hr43) u_2_84 u_2_81 u_2_82 u_2_83 u_1_11 ⟨ok_X2_items, by decide, by decide⟩ rfl (Nat.le_of_ble_eq_true rfl) 16 rfl rfl H hP) [16, 17, 18, 19, 20, 21] (cl_17_f ..) rfl ?_
        obtain rfl := Option.some.inj h
        exact HR _ _ dX11_lay_46
      have hc2 := hc
      have h := jif hc h
      have hc : v1 = 3 := jin4 hg hc0 hc1 hc2
      refine j_aald (pc' := 43) K dX11_lay_42 3 4 rfl rfl hg (by rw [hc]; rfl) rfl ?_
      obtain ⟨r43, hr43, h⟩ := jbd_some h
      refine j_ro (pc' := 46) K (fun H hP => jrun_V K dX11_lay_43 (M_X2_items (jl E) (jg E) (a0 22) (a0 23) (a0 24) (a0 25) (a0 26) (a0 27) (X_law3 (X_law3_s s0 r34)) hr43) u_2_84 u_2_81 u_2_82 u_2_83 u_1_11 ⟨ok_X2_items, by decide, by decide⟩ rfl (Nat.le_of_ble_eq_true rfl) 22 rfl rfl H hP) [22, 23, 24, 25, 26, 27] (cl_18_f ..) rfl ?_
      obtain rfl := Option.some.inj h
      exact HR _ _ dX11_lay_46
    · have h := jif hc h
      refine j_bipush (pc' := 23) (v := (-2 : Int32)) K dX11_lay_21 (by decide) rfl ?_
      obtain rfl := Option.some.inj h
      exact HR _ _ dX11_lay_23
  · have h := jit hc h
    refine j_iconst (pc' := 8) (v := (-1 : Int32)) K dX11_lay_7 (by decide) rfl ?_
    obtain rfl := Option.some.inj h
    exact HR _ _ dX11_lay_8
set_option maxRecDepth 100000 in
set_option maxHeartbeats 4000000 in
theorem M_X11_lay (l : Launch) (G : jG) (a0 : Nat → Nat) (v1 : Int32) (s0 : XS) {r : Int32 × XS} (h : f_X11_lay v1 s0 = some r) : MC l yX11_lay cX11_lay 2 (some .int) 6 G (jad (wX G a0 s0)) True (wX G a0 s0) (wX G a0 (r.2)) [.ref (a0 0), .int v1] (some (.int (r.1))) := by
  refine mc_int (by decide +kernel) (Nat.le_of_ble_eq_true rfl) fun E hl hg hA hrw K HR => ?_
  subst hl
  subst hg
  have hrw : jrw E := by rw [hrw]; trivial
  exact b_X11_lay a0 K hrw HR v1 s0 h
theorem ok_X11_number : yX11_number.cls ≠ "java/lang/invoke/MethodHandle" ∧ yX11_number.cls ≠ "java/lang/invoke/VarHandle" ∧ (parseMethodDescriptor yX11_number.desc).map (fun d => d.parameters.length) = some 3 := ⟨by decide, by decide, by decide +kernel⟩
def f_X11_number (v1 : Int32) (v2 : Int32) (v3 : Int32) (s0 : XS) : Option (Int64) :=
   jbd (f_X11_isLaw v1) (fun r1 =>
   if r1 = 0 then
    some (-1000000000000000001 : Int64)
   else
    jbd (f_X11_isPlace v2 v3 (24 : Int32)) (fun r11 =>
     if r11 = 0 then
      some (-1000000000000000001 : Int64)
     else
      jgd v1 4 (
       if v1 = 0 then (
        jbd (f_X2_numberAt v2 v3 (X_law0 s0)) (fun r29 =>
         jbd (f_X11_answer r29) (fun r32 =>
          some r32))) else if v1 = 1 then (
        jbd (f_X2_numberAt v2 v3 (X_law1 s0)) (fun r29 =>
         jbd (f_X11_answer r29) (fun r32 =>
          some r32))) else if v1 = 2 then (
        jbd (f_X2_numberAt v2 v3 (X_law2 s0)) (fun r29 =>
         jbd (f_X11_answer r29) (fun r32 =>
          some r32))) else (
        jbd (f_X2_numberAt v2 v3 (X_law3 s0)) (fun r29 =>
         jbd (f_X11_answer r29) (fun r32 =>
          some r32))))))
set_option maxRecDepth 100000 in
set_option maxHeartbeats 4000000 in
theorem b_X11_number {E : jE} (a0 : Nat → Nat) (s0 : XS) {res : Int64} (K : jC E cX11_number 4 RX11 3) (HR : jRL E cX11_number 4 (wX (jg E) a0 s0) res) : ∀ (v1 : Int32) (v2 : Int32) (v3 : Int32), f_X11_number v1 v2 v3 s0 = some res → J E 4 (wX (jg E) a0 s0) 0 [(0, .ref (a0 0)), (1, .int v1), (2, .int v2), (3, .int v3)] [] := by
  intro v1 v2 v3 h
  unfold f_X11_number at h
  refine j_iload_n (pc' := 1) K dX11_number_0 rfl 1 rfl rfl ?_
  obtain ⟨r1, hr1, h⟩ := jbd_some h
  refine j_ro (pc' := 4) K (fun H hP => jrun_S K dX11_number_1 (M_X11_isLaw (jl E) (jg E) v1 hr1) u_2_23 u_2_21 u_2_22 u_1_1 ⟨ok_X11_isLaw, by decide, by decide⟩ rfl (Nat.le_of_ble_eq_true rfl) H) [] rfl rfl ?_
  refine j_if_eq (pc' := 7) (tgt := 17) K dX11_number_4 (by decide) rfl (fun hc => ?_) (fun hc => ?_)
  · have h := jit hc h
    refine j_ldc2 (pc' := 20) K dX11_number_17 u_2_90 rfl ?_
    obtain rfl := Option.some.inj h
    exact HR _ _ dX11_number_20
  · have h := jif hc h
    refine j_iload_n (pc' := 8) K dX11_number_7 rfl 2 rfl rfl ?_
    refine j_iload_n (pc' := 9) K dX11_number_8 rfl 3 rfl rfl ?_
    refine j_bipush (pc' := 11) (v := (24 : Int32)) K dX11_number_9 (by decide) rfl ?_
    obtain ⟨r11, hr11, h⟩ := jbd_some h
    refine j_ro (pc' := 14) K (fun H hP => jrun_S K dX11_number_11 (M_X11_isPlace (jl E) (jg E) v2 v3 (24 : Int32) hr11) u_2_63 u_2_89 u_2_62 u_1_1 ⟨ok_X11_isPlace, by decide, by decide⟩ rfl (Nat.le_of_ble_eq_true rfl) H) [] rfl rfl ?_
    refine j_if_ne (pc' := 17) (tgt := 21) K dX11_number_14 (by decide) rfl (fun hc => ?_) (fun hc => ?_)
    · have h := jif hc h
      refine j_aload_n (pc' := 22) K dX11_number_21 rfl 0 rfl rfl ?_
      refine j_get (pc' := 25) K dX11_number_22 inX11 0 rfl rfl 1 (by decide) u_1_198 rfl rfl rfl ?_
      refine j_iload_n (pc' := 26) K dX11_number_25 rfl 1 rfl rfl ?_
      obtain ⟨hg, h⟩ := jgd_some h
      by_cases hc : v1 = 0
      · have h := jit hc h
        refine j_aald (pc' := 27) K dX11_number_26 3 4 rfl rfl hg (by rw [hc]; rfl) rfl ?_
        refine j_iload_n (pc' := 28) K dX11_number_27 rfl 2 rfl rfl ?_
        refine j_iload_n (pc' := 29) K dX11_number_28 rfl 3 rfl rfl ?_
        obtain ⟨r29, hr29, h⟩ := jbd_some h
        refine j_ro (pc' := 32) K (fun H hP => jrun_V K dX11_number_29 (M_X2_numberAt (jl E) (jg E) (a0 4) (a0 5) (a0 6) (a0 7) (a0 8) (a0 9) v2 v3 (X_law0 s0) hr29) u_2_60 u_2_91 u_2_58 u_2_59 u_1_11 ⟨ok_X2_numberAt, by decide, by decide⟩ rfl (Nat.le_of_ble_eq_true rfl) 4 rfl rfl H hP) [4, 5, 6, 7, 8, 9] (cl_15_f ..) rfl ?_
        obtain ⟨r32, hr32, h⟩ := jbd_some h
        refine j_ro (pc' := 35) K (fun H hP => jrun_S K dX11_number_32 (M_X11_answer (jl E) (jg E) r29 hr32) u_2_94 u_2_92 u_2_93 u_1_1 ⟨ok_X11_answer, by decide, by decide⟩ rfl (Nat.le_of_ble_eq_true rfl) H) [] rfl rfl ?_
        obtain rfl := Option.some.inj h
        exact HR _ _ dX11_number_35
      have hc0 := hc
      have h := jif hc h
      by_cases hc : v1 = 1
      · have h := jit hc h
        refine j_aald (pc' := 27) K dX11_number_26 3 4 rfl rfl hg (by rw [hc]; rfl) rfl ?_
        refine j_iload_n (pc' := 28) K dX11_number_27 rfl 2 rfl rfl ?_
        refine j_iload_n (pc' := 29) K dX11_number_28 rfl 3 rfl rfl ?_
        obtain ⟨r29, hr29, h⟩ := jbd_some h
        refine j_ro (pc' := 32) K (fun H hP => jrun_V K dX11_number_29 (M_X2_numberAt (jl E) (jg E) (a0 10) (a0 11) (a0 12) (a0 13) (a0 14) (a0 15) v2 v3 (X_law1 s0) hr29) u_2_60 u_2_91 u_2_58 u_2_59 u_1_11 ⟨ok_X2_numberAt, by decide, by decide⟩ rfl (Nat.le_of_ble_eq_true rfl) 10 rfl rfl H hP) [10, 11, 12, 13, 14, 15] (cl_16_f ..) rfl ?_
        obtain ⟨r32, hr32, h⟩ := jbd_some h
        refine j_ro (pc' := 35) K (fun H hP => jrun_S K dX11_number_32 (M_X11_answer (jl E) (jg E) r29 hr32) u_2_94 u_2_92 u_2_93 u_1_1 ⟨ok_X11_answer, by decide, by decide⟩ rfl (Nat.le_of_ble_eq_true rfl) H) [] rfl rfl ?_
        obtain rfl := Option.some.inj h
        exact HR _ _ dX11_number_35
      have hc1 := hc
      have h := jif hc h
      by_cases hc : v1 = 2
      · have h := jit hc h
        refine j_aald (pc' := 27) K dX11_number_26 3 4 rfl rfl hg (by rw [hc]; rfl) rfl ?_
        refine j_iload_n (pc' := 28) K dX11_number_27 rfl 2 rfl rfl ?_
        refine j_iload_n (pc' := 29) K dX11_number_28 rfl 3 rfl rfl ?_
        obtain ⟨r29, hr29, h⟩ := jbd_some h
        refine j_ro (pc' := 32) K (fun H hP => jrun_V K dX11_number_29 (M_X2_numberAt (jl E) (jg E) (a0 16) (a0 17) (a0 18) (a0 19) (a0 20) (a0 21) v2 v3 (X_law2 s0) hr29) u_2_60 u_2_91 u_2_58 u_2_59 u_1_11 ⟨ok_X2_numberAt, by decide, by decide⟩ rfl (Nat.le_of_ble_eq_true rfl) 16 rfl rfl H hP) [16, 17, 18, 19, 20, 21] (cl_17_f ..) rfl ?_
        obtain ⟨r32, hr32, h⟩ := jbd_some h
        refine j_ro (pc' := 35) K (fun H hP => jrun_S K dX11_number_32 (M_X11_answer (jl E) (jg E) r29 hr32) u_2_94 u_2_92 u_2_93 u_1_1 ⟨ok_X11_answer, by decide, by decide⟩ rfl (Nat.le_of_ble_eq_true rfl) H) [] rfl rfl ?_
        obtain rfl := Option.some.inj h
        exact HR _ _ dX11_number_35
      have hc2 := hc
      have h := jif hc h
      have hc : v1 = 3 := jin4 hg hc0 hc1 hc2
      refine j_aald (pc' := 27) K dX11_number_26 3 4 rfl rfl hg (by rw [hc]; rfl) rfl ?_
      refine j_iload_n (pc' := 28) K dX11_number_27 rfl 2 rfl rfl ?_
      refine j_iload_n (pc' := 29) K dX11_number_28 rfl 3 rfl rfl ?_
      obtain ⟨r29, hr29, h⟩ := jbd_some h
      refine j_ro (pc' := 32) K (fun H hP => jrun_V K dX11_number_29 (M_X2_numberAt (jl E) (jg E) (a0 22) (a0 23) (a0 24) (a0 25) (a0 26) (a0 27) v2 v3 (X_law3 s0) hr29) u_2_60 u_2_91 u_2_58 u_2_59 u_1_11 ⟨ok_X2_numberAt, by decide, by decide⟩ rfl (Nat.le_of_ble_eq_true rfl) 22 rfl rfl H hP) [22, 23, 24, 25, 26, 27] (cl_18_f ..) rfl ?_
      obtain ⟨r32, hr32, h⟩ := jbd_some h
      refine j_ro (pc' := 35) K (fun H hP => jrun_S K dX11_number_32 (M_X11_answer (jl E) (jg E) r29 hr32) u_2_94 u_2_92 u_2_93 u_1_1 ⟨ok_X11_answer, by decide, by decide⟩ rfl (Nat.le_of_ble_eq_true rfl) H) [] rfl rfl ?_
      obtain rfl := Option.some.inj h
      exact HR _ _ dX11_number_35
    · have h := jit hc h
      refine j_ldc2 (pc' := 20) K dX11_number_17 u_2_90 rfl ?_
      obtain rfl := Option.some.inj h
      exact HR _ _ dX11_number_20
set_option maxRecDepth 100000 in
set_option maxHeartbeats 4000000 in
theorem M_X11_number (l : Launch) (G : jG) (a0 : Nat → Nat) (v1 : Int32) (v2 : Int32) (v3 : Int32) (s0 : XS) {r : Int64} (h : f_X11_number v1 v2 v3 s0 = some r) : MC l yX11_number cX11_number 4 (some .long) 3 G jNo False (wX G a0 s0) (wX G a0 s0) [.ref (a0 0), .int v1, .int v2, .int v3] (some (.long r)) := by
  refine mc_long (by decide +kernel) (Nat.le_of_ble_eq_true rfl) fun E hl hg hA hrw K HR => ?_
  subst hl
  subst hg
  exact b_X11_number a0 s0 K HR v1 v2 v3 h
theorem ok_X11_sum : yX11_sum.cls ≠ "java/lang/invoke/MethodHandle" ∧ yX11_sum.cls ≠ "java/lang/invoke/VarHandle" ∧ (parseMethodDescriptor yX11_sum.desc).map (fun d => d.parameters.length) = some 3 := ⟨by decide, by decide, by decide +kernel⟩
def f_X11_sum (v1 : Int32) (v2 : Int32) (v3 : Int32) (s0 : XS) : Option (Int64) :=
   jbd (f_X11_isLaw v1) (fun r1 =>
   if r1 = 0 then
    some (-1000000000000000001 : Int64)
   else
    jbd (f_X11_within v2 (0 : Int32) (24 : Int32)) (fun r11 =>
     if r11 = 0 then
      some (-1000000000000000001 : Int64)
     else
      jbd (f_X11_within v3 (0 : Int32) (3 : Int32)) (fun r20 =>
       if r20 = 0 then
        some (-1000000000000000001 : Int64)
       else
        if v3 = 0 then (
         jgd v1 4 (
          if v1 = 0 then (
           jbd (f_X2_rowSum v2 (0 : Int32) (X_law0 s0)) (fun r64 =>
            jbd (f_X11_answer r64) (fun r67 =>
             some r67))) else if v1 = 1 then (
           jbd (f_X2_rowSum v2 (0 : Int32) (X_law1 s0)) (fun r64 =>
            jbd (f_X11_answer r64) (fun r67 =>
             some r67))) else if v1 = 2 then (
           jbd (f_X2_rowSum v2 (0 : Int32) (X_law2 s0)) (fun r64 =>
            jbd (f_X11_answer r64) (fun r67 =>
             some r67))) else (
           jbd (f_X2_rowSum v2 (0 : Int32) (X_law3 s0)) (fun r64 =>
            jbd (f_X11_answer r64) (fun r67 =>
             some r67))))) else if v3 = 1 then (
         jgd v1 4 (
          if v1 = 0 then (
           jbd (f_X2_rowSum v2 (1 : Int32) (X_law0 s0)) (fun r79 =>
            jbd (f_X11_answer r79) (fun r82 =>
             some r82))) else if v1 = 1 then (
           jbd (f_X2_rowSum v2 (1 : Int32) (X_law1 s0)) (fun r79 =>
            jbd (f_X11_answer r79) (fun r82 =>
             some r82))) else if v1 = 2 then (
           jbd (f_X2_rowSum v2 (1 : Int32) (X_law2 s0)) (fun r79 =>
            jbd (f_X11_answer r79) (fun r82 =>
             some r82))) else (
           jbd (f_X2_rowSum v2 (1 : Int32) (X_law3 s0)) (fun r79 =>
            jbd (f_X11_answer r79) (fun r82 =>
             some r82))))) else if v3 = 2 then (
         jgd v1 4 (
          if v1 = 0 then (
           jbd (f_X2_slantSum v2 (X_law0 s0)) (fun r93 =>
            jbd (f_X11_answer r93) (fun r96 =>
             some r96))) else if v1 = 1 then (
           jbd (f_X2_slantSum v2 (X_law1 s0)) (fun r93 =>
            jbd (f_X11_answer r93) (fun r96 =>
             some r96))) else if v1 = 2 then (
           jbd (f_X2_slantSum v2 (X_law2 s0)) (fun r93 =>
            jbd (f_X11_answer r93) (fun r96 =>
             some r96))) else (
           jbd (f_X2_slantSum v2 (X_law3 s0)) (fun r93 =>
            jbd (f_X11_answer r93) (fun r96 =>
             some r96))))) else (
         jgd v1 4 (
          if v1 = 0 then (
           jbd (f_X2_squareSum v2 (X_law0 s0)) (fun r107 =>
            jbd (f_X11_answer r107) (fun r110 =>
             some r110))) else if v1 = 1 then (
           jbd (f_X2_squareSum v2 (X_law1 s0)) (fun r107 =>
            jbd (f_X11_answer r107) (fun r110 =>
             some r110))) else if v1 = 2 then (
           jbd (f_X2_squareSum v2 (X_law2 s0)) (fun r107 =>
            jbd (f_X11_answer r107) (fun r110 =>
             some r110))) else (
           jbd (f_X2_squareSum v2 (X_law3 s0)) (fun r107 =>
            jbd (f_X11_answer r107) (fun r110 =>
             some r110))))))))
set_option maxRecDepth 100000 in
set_option maxHeartbeats 4000000 in
theorem b_X11_sum {E : jE} (a0 : Nat → Nat) (s0 : XS) {res : Int64} (K : jC E cX11_sum 4 RX11 5) (HR : jRL E cX11_sum 4 (wX (jg E) a0 s0) res) : ∀ (v1 : Int32) (v2 : Int32) (v3 : Int32), f_X11_sum v1 v2 v3 s0 = some res → J E 4 (wX (jg E) a0 s0) 0 [(0, .ref (a0 0)), (1, .int v1), (2, .int v2), (3, .int v3)] [] := by
  intro v1 v2 v3 h
  unfold f_X11_sum at h
  refine j_iload_n (pc' := 1) K dX11_sum_0 rfl 1 rfl rfl ?_
  obtain ⟨r1, hr1, h⟩ := jbd_some h
  refine j_ro (pc' := 4) K (fun H hP => jrun_S K dX11_sum_1 (M_X11_isLaw (jl E) (jg E) v1 hr1) u_2_23 u_2_21 u_2_22 u_1_1 ⟨ok_X11_isLaw, by decide, by decide⟩ rfl (Nat.le_of_ble_eq_true rfl) H) [] rfl rfl ?_
  refine j_if_eq (pc' := 7) (tgt := 26) K dX11_sum_4 (by decide) rfl (fun hc => ?_) (fun hc => ?_)
  · have h := jit hc h
    refine j_ldc2 (pc' := 29) K dX11_sum_26 u_2_90 rfl ?_
    obtain rfl := Option.some.inj h
    exact HR _ _ dX11_sum_29
  · have h := jif hc h
    refine j_iload_n (pc' := 8) K dX11_sum_7 rfl 2 rfl rfl ?_
    refine j_iconst (pc' := 9) (v := (0 : Int32)) K dX11_sum_8 (by decide) rfl ?_
    refine j_bipush (pc' := 11) (v := (24 : Int32)) K dX11_sum_9 (by decide) rfl ?_
    obtain ⟨r11, hr11, h⟩ := jbd_some h
    refine j_ro (pc' := 14) K (fun H hP => jrun_S K dX11_sum_11 (M_X11_within (jl E) (jg E) v2 (0 : Int32) (24 : Int32) hr11) u_1_76 u_1_217 u_1_75 u_1_1 ⟨ok_X11_within, by decide, by decide⟩ rfl (Nat.le_of_ble_eq_true rfl) H) [] rfl rfl ?_
    refine j_if_eq (pc' := 17) (tgt := 26) K dX11_sum_14 (by decide) rfl (fun hc => ?_) (fun hc => ?_)
    · have h := jit hc h
      refine j_ldc2 (pc' := 29) K dX11_sum_26 u_2_90 rfl ?_
      obtain rfl := Option.some.inj h
      exact HR _ _ dX11_sum_29
    · have h := jif hc h
      refine j_iload_n (pc' := 18) K dX11_sum_17 rfl 3 rfl rfl ?_
      refine j_iconst (pc' := 19) (v := (0 : Int32)) K dX11_sum_18 (by decide) rfl ?_
      refine j_iconst (pc' := 20) (v := (3 : Int32)) K dX11_sum_19 (by decide) rfl ?_
      obtain ⟨r20, hr20, h⟩ := jbd_some h
      refine j_ro (pc' := 23) K (fun H hP => jrun_S K dX11_sum_20 (M_X11_within (jl E) (jg E) v3 (0 : Int32) (3 : Int32) hr20) u_1_76 u_1_217 u_1_75 u_1_1 ⟨ok_X11_within, by decide, by decide⟩ rfl (Nat.le_of_ble_eq_true rfl) H) [] rfl rfl ?_
      refine j_if_ne (pc' := 26) (tgt := 30) K dX11_sum_23 (by decide) rfl (fun hc => ?_) (fun hc => ?_)
      · have h := jif hc h
        refine j_iload_n (pc' := 31) K dX11_sum_30 rfl 3 rfl rfl ?_
        by_cases hc : v3 = 0
        · have h := jit hc h
          refine j_tabIn (tgt := 56) K dX11_sum_31 (by rw [hc]; decide) (by rw [hc]; decide) (by rw [hc]; rfl) (by decide) ?_
          refine j_aload_n (pc' := 57) K dX11_sum_56 rfl 0 rfl rfl ?_
          refine j_get (pc' := 60) K dX11_sum_57 inX11 0 rfl rfl 1 (by decide) u_1_198 rfl rfl rfl ?_
          refine j_iload_n (pc' := 61) K dX11_sum_60 rfl 1 rfl rfl ?_
          obtain ⟨hg, h⟩ := jgd_some h
          by_cases hc : v1 = 0
          · have h := jit hc h
            refine j_aald (pc' := 62) K dX11_sum_61 3 4 rfl rfl hg (by rw [hc]; rfl) rfl ?_
            refine j_iload_n (pc' := 63) K dX11_sum_62 rfl 2 rfl rfl ?_
            refine j_iconst (pc' := 64) (v := (0 : Int32)) K dX11_sum_63 (by decide) rfl ?_
            obtain ⟨r64, hr64, h⟩ := jbd_some h
            refine j_ro (pc' := 67) K (fun H hP => jrun_V K dX11_sum_64 (M_X2_rowSum (jl E) (jg E) (a0 4) (a0 5) (a0 6) (a0 7) (a0 8) (a0 9) v2 (0 : Int32) (X_law0 s0) hr64) u_2_104 u_2_101 u_2_102 u_2_103 u_1_11 ⟨ok_X2_rowSum, by decide, by decide⟩ rfl (Nat.le_of_ble_eq_true rfl) 4 rfl rfl H hP) [4, 5, 6, 7, 8, 9] (cl_15_f ..) rfl ?_
            obtain ⟨r67, hr67, h⟩ := jbd_some h
            refine j_ro (pc' := 70) K (fun H hP => jrun_S K dX11_sum_67 (M_X11_answer (jl E) (jg E) r64 hr67) u_2_94 u_2_92 u_2_93 u_1_1 ⟨ok_X11_answer, by decide, by decide⟩ rfl (Nat.le_of_ble_eq_true rfl) H) [] rfl rfl ?_
            obtain rfl := Option.some.inj h
            exact HR _ _ dX11_sum_70
          have hc0 := hc
          have h := jif hc h
          by_cases hc : v1 = 1
          · have h := jit hc h
            refine j_aald (pc' := 62) K dX11_sum_61 3 4 rfl rfl hg (by rw [hc]; rfl) rfl ?_
            refine j_iload_n (pc' := 63) K dX11_sum_62 rfl 2 rfl rfl ?_
            refine j_iconst (pc' := 64) (v := (0 : Int32)) K dX11_sum_63 (by decide) rfl ?_
            obtain ⟨r64, hr64, h⟩ := jbd_some h
            refine j_ro (pc' := 67) K (fun H hP => jrun_V K dX11_sum_64 (M_X2_rowSum (jl E) (jg E) (a0 10) (a0 11) (a0 12) (a0 13) (a0 14) (a0 15) v2 (0 : Int32) (X_law1 s0) hr64) u_2_104 u_2_101 u_2_102 u_2_103 u_1_11 ⟨ok_X2_rowSum, by decide, by decide⟩ rfl (Nat.le_of_ble_eq_true rfl) 10 rfl rfl H hP) [10, 11, 12, 13, 14, 15] (cl_16_f ..) rfl ?_
            obtain ⟨r67, hr67, h⟩ := jbd_some h
            refine j_ro (pc' := 70) K (fun H hP => jrun_S K dX11_sum_67 (M_X11_answer (jl E) (jg E) r64 hr67) u_2_94 u_2_92 u_2_93 u_1_1 ⟨ok_X11_answer, by decide, by decide⟩ rfl (Nat.le_of_ble_eq_true rfl) H) [] rfl rfl ?_
            obtain rfl := Option.some.inj h
            exact HR _ _ dX11_sum_70
          have hc1 := hc
          have h := jif hc h
          by_cases hc : v1 = 2
          · have h := jit hc h
            refine j_aald (pc' := 62) K dX11_sum_61 3 4 rfl rfl hg (by rw [hc]; rfl) rfl ?_
            refine j_iload_n (pc' := 63) K dX11_sum_62 rfl 2 rfl rfl ?_
            refine j_iconst (pc' := 64) (v := (0 : Int32)) K dX11_sum_63 (by decide) rfl ?_
            obtain ⟨r64, hr64, h⟩ := jbd_some h
            refine j_ro (pc' := 67) K (fun H hP => jrun_V K dX11_sum_64 (M_X2_rowSum (jl E) (jg E) (a0 16) (a0 17) (a0 18) (a0 19) (a0 20) (a0 21) v2 (0 : Int32) (X_law2 s0) hr64) u_2_104 u_2_101 u_2_102 u_2_103 u_1_11 ⟨ok_X2_rowSum, by decide, by decide⟩ rfl (Nat.le_of_ble_eq_true rfl) 16 rfl rfl H hP) [16, 17, 18, 19, 20, 21] (cl_17_f ..) rfl ?_
            obtain ⟨r67, hr67, h⟩ := jbd_some h
            refine j_ro (pc' := 70) K (fun H hP => jrun_S K dX11_sum_67 (M_X11_answer (jl E) (jg E) r64 hr67) u_2_94 u_2_92 u_2_93 u_1_1 ⟨ok_X11_answer, by decide, by decide⟩ rfl (Nat.le_of_ble_eq_true rfl) H) [] rfl rfl ?_
            obtain rfl := Option.some.inj h
            exact HR _ _ dX11_sum_70
          have hc2 := hc
          have h := jif hc h
          have hc : v1 = 3 := jin4 hg hc0 hc1 hc2
          refine j_aald (pc' := 62) K dX11_sum_61 3 4 rfl rfl hg (by rw [hc]; rfl) rfl ?_
          refine j_iload_n (pc' := 63) K dX11_sum_62 rfl 2 rfl rfl ?_
          refine j_iconst (pc' := 64) (v := (0 : Int32)) K dX11_sum_63 (by decide) rfl ?_
          obtain ⟨r64, hr64, h⟩ := jbd_some h
          refine j_ro (pc' := 67) K (fun H hP => jrun_V K dX11_sum_64 (M_X2_rowSum (jl E) (jg E) (a0 22) (a0 23) (a0 24) (a0 25) (a0 26) (a0 27) v2 (0 : Int32) (X_law3 s0) hr64) u_2_104 u_2_101 u_2_102 u_2_103 u_1_11 ⟨ok_X2_rowSum, by decide, by decide⟩ rfl (Nat.le_of_ble_eq_true rfl) 22 rfl rfl H hP) [22, 23, 24, 25, 26, 27] (cl_18_f ..) rfl ?_
          obtain ⟨r67, hr67, h⟩ := jbd_some h
          refine j_ro (pc' := 70) K (fun H hP => jrun_S K dX11_sum_67 (M_X11_answer (jl E) (jg E) r64 hr67) u_2_94 u_2_92 u_2_93 u_1_1 ⟨ok_X11_answer, by decide, by decide⟩ rfl (Nat.le_of_ble_eq_true rfl) H) [] rfl rfl ?_
          obtain rfl := Option.some.inj h
          exact HR _ _ dX11_sum_70
        have hc0 := hc
        have h := jif hc h
        by_cases hc : v3 = 1
        · have h := jit hc h
          refine j_tabIn (tgt := 71) K dX11_sum_31 (by rw [hc]; decide) (by rw [hc]; decide) (by rw [hc]; rfl) (by decide) ?_
          refine j_aload_n (pc' := 72) K dX11_sum_71 rfl 0 rfl rfl ?_
          refine j_get (pc' := 75) K dX11_sum_72 inX11 0 rfl rfl 1 (by decide) u_1_198 rfl rfl rfl ?_
          refine j_iload_n (pc' := 76) K dX11_sum_75 rfl 1 rfl rfl ?_
          obtain ⟨hg, h⟩ := jgd_some h
          by_cases hc : v1 = 0
          · have h := jit hc h
            refine j_aald (pc' := 77) K dX11_sum_76 3 4 rfl rfl hg (by rw [hc]; rfl) rfl ?_
            refine j_iload_n (pc' := 78) K dX11_sum_77 rfl 2 rfl rfl ?_
            refine j_iconst (pc' := 79) (v := (1 : Int32)) K dX11_sum_78 (by decide) rfl ?_
            obtain ⟨r79, hr79, h⟩ := jbd_some h
            refine j_ro (pc' := 82) K (fun H hP => jrun_V K dX11_sum_79 (M_X2_rowSum (jl E) (jg E) (a0 4) (a0 5) (a0 6) (a0 7) (a0 8) (a0 9) v2 (1 : Int32) (X_law0 s0) hr79) u_2_104 u_2_101 u_2_102 u_2_103 u_1_11 ⟨ok_X2_rowSum, by decide, by decide⟩ rfl (Nat.le_of_ble_eq_true rfl) 4 rfl rfl H hP) [4, 5, 6, 7, 8, 9] (cl_15_f ..) rfl ?_
            obtain ⟨r82, hr82, h⟩ := jbd_some h
            refine j_ro (pc' := 85) K (fun H hP => jrun_S K dX11_sum_82 (M_X11_answer (jl E) (jg E) r79 hr82) u_2_94 u_2_92 u_2_93 u_1_1 ⟨ok_X11_answer, by decide, by decide⟩ rfl (Nat.le_of_ble_eq_true rfl) H) [] rfl rfl ?_
            obtain rfl := Option.some.inj h
            exact HR _ _ dX11_sum_85
          have hc0 := hc
          have h := jif hc h
          by_cases hc : v1 = 1
          · have h := jit hc h
            refine j_aald (pc' := 77) K dX11_sum_76 3 4 rfl rfl hg (by rw [hc]; rfl) rfl ?_
            refine j_iload_n (pc' := 78) K dX11_sum_77 rfl 2 rfl rfl ?_
            refine j_iconst (pc' := 79) (v := (1 : Int32)) K dX11_sum_78 (by decide) rfl ?_
            obtain ⟨r79, hr79, h⟩ := jbd_some h
            refine j_ro (pc' := 82) K (fun H hP => jrun_V K dX11_sum_79 (M_X2_rowSum (jl E) (jg E) (a0 10) (a0 11) (a0 12) (a0 13) (a0 14) (a0 15) v2 (1 : Int32) (X_law1 s0) hr79) u_2_104 u_2_101 u_2_102 u_2_103 u_1_11 ⟨ok_X2_rowSum, by decide, by decide⟩ rfl (Nat.le_of_ble_eq_true rfl) 10 rfl rfl H hP) [10, 11, 12, 13, 14, 15] (cl_16_f ..) rfl ?_
            obtain ⟨r82, hr82, h⟩ := jbd_some h
            refine j_ro (pc' := 85) K (fun H hP => jrun_S K dX11_sum_82 (M_X11_answer (jl E) (jg E) r79 hr82) u_2_94 u_2_92 u_2_93 u_1_1 ⟨ok_X11_answer, by decide, by decide⟩ rfl (Nat.le_of_ble_eq_true rfl) H) [] rfl rfl ?_
            obtain rfl := Option.some.inj h
            exact HR _ _ dX11_sum_85
          have hc1 := hc
          have h := jif hc h
          by_cases hc : v1 = 2
          · have h := jit hc h
            refine j_aald (pc' := 77) K dX11_sum_76 3 4 rfl rfl hg (by rw [hc]; rfl) rfl ?_
            refine j_iload_n (pc' := 78) K dX11_sum_77 rfl 2 rfl rfl ?_
            refine j_iconst (pc' := 79) (v := (1 : Int32)) K dX11_sum_78 (by decide) rfl ?_
            obtain ⟨r79, hr79, h⟩ := jbd_some h
            refine j_ro (pc' := 82) K (fun H hP => jrun_V K dX11_sum_79 (M_X2_rowSum (jl E) (jg E) (a0 16) (a0 17) (a0 18) (a0 19) (a0 20) (a0 21) v2 (1 : Int32) (X_law2 s0) hr79) u_2_104 u_2_101 u_2_102 u_2_103 u_1_11 ⟨ok_X2_rowSum, by decide, by decide⟩ rfl (Nat.le_of_ble_eq_true rfl) 16 rfl rfl H hP) [16, 17, 18, 19, 20, 21] (cl_17_f ..) rfl ?_
            obtain ⟨r82, hr82, h⟩ := jbd_some h
            refine j_ro (pc' := 85) K (fun H hP => jrun_S K dX11_sum_82 (M_X11_answer (jl E) (jg E) r79 hr82) u_2_94 u_2_92 u_2_93 u_1_1 ⟨ok_X11_answer, by decide, by decide⟩ rfl (Nat.le_of_ble_eq_true rfl) H) [] rfl rfl ?_
            obtain rfl := Option.some.inj h
            exact HR _ _ dX11_sum_85
          have hc2 := hc
          have h := jif hc h
          have hc : v1 = 3 := jin4 hg hc0 hc1 hc2
          refine j_aald (pc' := 77) K dX11_sum_76 3 4 rfl rfl hg (by rw [hc]; rfl) rfl ?_
          refine j_iload_n (pc' := 78) K dX11_sum_77 rfl 2 rfl rfl ?_
          refine j_iconst (pc' := 79) (v := (1 : Int32)) K dX11_sum_78 (by decide) rfl ?_
          obtain ⟨r79, hr79, h⟩ := jbd_some h
          refine j_ro (pc' := 82) K (fun H hP => jrun_V K dX11_sum_79 (M_X2_rowSum (jl E) (jg E) (a0 22) (a0 23) (a0 24) (a0 25) (a0 26) (a0 27) v2 (1 : Int32) (X_law3 s0) hr79) u_2_104 u_2_101 u_2_102 u_2_103 u_1_11 ⟨ok_X2_rowSum, by decide, by decide⟩ rfl (Nat.le_of_ble_eq_true rfl) 22 rfl rfl H hP) [22, 23, 24, 25, 26, 27] (cl_18_f ..) rfl ?_
          obtain ⟨r82, hr82, h⟩ := jbd_some h
          refine j_ro (pc' := 85) K (fun H hP => jrun_S K dX11_sum_82 (M_X11_answer (jl E) (jg E) r79 hr82) u_2_94 u_2_92 u_2_93 u_1_1 ⟨ok_X11_answer, by decide, by decide⟩ rfl (Nat.le_of_ble_eq_true rfl) H) [] rfl rfl ?_
          obtain rfl := Option.some.inj h
          exact HR _ _ dX11_sum_85
        have hc1 := hc
        have h := jif hc h
        by_cases hc : v3 = 2
        · have h := jit hc h
          refine j_tabIn (tgt := 86) K dX11_sum_31 (by rw [hc]; decide) (by rw [hc]; decide) (by rw [hc]; rfl) (by decide) ?_
          refine j_aload_n (pc' := 87) K dX11_sum_86 rfl 0 rfl rfl ?_
          refine j_get (pc' := 90) K dX11_sum_87 inX11 0 rfl rfl 1 (by decide) u_1_198 rfl rfl rfl ?_
          refine j_iload_n (pc' := 91) K dX11_sum_90 rfl 1 rfl rfl ?_
          obtain ⟨hg, h⟩ := jgd_some h
          by_cases hc : v1 = 0
          · have h := jit hc h
            refine j_aald (pc' := 92) K dX11_sum_91 3 4 rfl rfl hg (by rw [hc]; rfl) rfl ?_
            refine j_iload_n (pc' := 93) K dX11_sum_92 rfl 2 rfl rfl ?_
            obtain ⟨r93, hr93, h⟩ := jbd_some h
            refine j_ro (pc' := 96) K (fun H hP => jrun_V K dX11_sum_93 (M_X2_slantSum (jl E) (jg E) (a0 4) (a0 5) (a0 6) (a0 7) (a0 8) (a0 9) v2 (X_law0 s0) hr93) u_2_112 u_2_109 u_2_110 u_2_111 u_1_11 ⟨ok_X2_slantSum, by decide, by decide⟩ rfl (Nat.le_of_ble_eq_true rfl) 4 rfl rfl H hP) [4, 5, 6, 7, 8, 9] (cl_15_f ..) rfl ?_
            obtain ⟨r96, hr96, h⟩ := jbd_some h
            refine j_ro (pc' := 99) K (fun H hP => jrun_S K dX11_sum_96 (M_X11_answer (jl E) (jg E) r93 hr96) u_2_94 u_2_92 u_2_93 u_1_1 ⟨ok_X11_answer, by decide, by decide⟩ rfl (Nat.le_of_ble_eq_true rfl) H) [] rfl rfl ?_
            obtain rfl := Option.some.inj h
            exact HR _ _ dX11_sum_99
          have hc0 := hc
          have h := jif hc h
          by_cases hc : v1 = 1
          · have h := jit hc h
            refine j_aald (pc' := 92) K dX11_sum_91 3 4 rfl rfl hg (by rw [hc]; rfl) rfl ?_
            refine j_iload_n (pc' := 93) K dX11_sum_92 rfl 2 rfl rfl ?_
            obtain ⟨r93, hr93, h⟩ := jbd_some h
            refine j_ro (pc' := 96) K (fun H hP => jrun_V K dX11_sum_93 (M_X2_slantSum (jl E) (jg E) (a0 10) (a0 11) (a0 12) (a0 13) (a0 14) (a0 15) v2 (X_law1 s0) hr93) u_2_112 u_2_109 u_2_110 u_2_111 u_1_11 ⟨ok_X2_slantSum, by decide, by decide⟩ rfl (Nat.le_of_ble_eq_true rfl) 10 rfl rfl H hP) [10, 11, 12, 13, 14, 15] (cl_16_f ..) rfl ?_
            obtain ⟨r96, hr96, h⟩ := jbd_some h
            refine j_ro (pc' := 99) K (fun H hP => jrun_S K dX11_sum_96 (M_X11_answer (jl E) (jg E) r93 hr96) u_2_94 u_2_92 u_2_93 u_1_1 ⟨ok_X11_answer, by decide, by decide⟩ rfl (Nat.le_of_ble_eq_true rfl) H) [] rfl rfl ?_
            obtain rfl := Option.some.inj h
            exact HR _ _ dX11_sum_99
          have hc1 := hc
          have h := jif hc h
          by_cases hc : v1 = 2
          · have h := jit hc h
            refine j_aald (pc' := 92) K dX11_sum_91 3 4 rfl rfl hg (by rw [hc]; rfl) rfl ?_
            refine j_iload_n (pc' := 93) K dX11_sum_92 rfl 2 rfl rfl ?_
            obtain ⟨r93, hr93, h⟩ := jbd_some h
            refine j_ro (pc' := 96) K (fun H hP => jrun_V K dX11_sum_93 (M_X2_slantSum (jl E) (jg E) (a0 16) (a0 17) (a0 18) (a0 19) (a0 20) (a0 21) v2 (X_law2 s0) hr93) u_2_112 u_2_109 u_2_110 u_2_111 u_1_11 ⟨ok_X2_slantSum, by decide, by decide⟩ rfl (Nat.le_of_ble_eq_true rfl) 16 rfl rfl H hP) [16, 17, 18, 19, 20, 21] (cl_17_f ..) rfl ?_
            obtain ⟨r96, hr96, h⟩ := jbd_some h
            refine j_ro (pc' := 99) K (fun H hP => jrun_S K dX11_sum_96 (M_X11_answer (jl E) (jg E) r93 hr96) u_2_94 u_2_92 u_2_93 u_1_1 ⟨ok_X11_answer, by decide, by decide⟩ rfl (Nat.le_of_ble_eq_true rfl) H) [] rfl rfl ?_
            obtain rfl := Option.some.inj h
            exact HR _ _ dX11_sum_99
          have hc2 := hc
          have h := jif hc h
          have hc : v1 = 3 := jin4 hg hc0 hc1 hc2
          refine j_aald (pc' := 92) K dX11_sum_91 3 4 rfl rfl hg (by rw [hc]; rfl) rfl ?_
          refine j_iload_n (pc' := 93) K dX11_sum_92 rfl 2 rfl rfl ?_
          obtain ⟨r93, hr93, h⟩ := jbd_some h
          refine j_ro (pc' := 96) K (fun H hP => jrun_V K dX11_sum_93 (M_X2_slantSum (jl E) (jg E) (a0 22) (a0 23) (a0 24) (a0 25) (a0 26) (a0 27) v2 (X_law3 s0) hr93) u_2_112 u_2_109 u_2_110 u_2_111 u_1_11 ⟨ok_X2_slantSum, by decide, by decide⟩ rfl (Nat.le_of_ble_eq_true rfl) 22 rfl rfl H hP) [22, 23, 24, 25, 26, 27] (cl_18_f ..) rfl ?_
          obtain ⟨r96, hr96, h⟩ := jbd_some h
          refine j_ro (pc' := 99) K (fun H hP => jrun_S K dX11_sum_96 (M_X11_answer (jl E) (jg E) r93 hr96) u_2_94 u_2_92 u_2_93 u_1_1 ⟨ok_X11_answer, by decide, by decide⟩ rfl (Nat.le_of_ble_eq_true rfl) H) [] rfl rfl ?_
          obtain rfl := Option.some.inj h
          exact HR _ _ dX11_sum_99
        have hc2 := hc
        have h := jif hc h
        refine j_tabOut (tgt := 100) K dX11_sum_31 (jtab3 hc0 hc1 hc2) (by decide) ?_
        refine j_aload_n (pc' := 101) K dX11_sum_100 rfl 0 rfl rfl ?_
        refine j_get (pc' := 104) K dX11_sum_101 inX11 0 rfl rfl 1 (by decide) u_1_198 rfl rfl rfl ?_
        refine j_iload_n (pc' := 105) K dX11_sum_104 rfl 1 rfl rfl ?_
        obtain ⟨hg, h⟩ := jgd_some h
        by_cases hc : v1 = 0
        · have h := jit hc h
          refine j_aald (pc' := 106) K dX11_sum_105 3 4 rfl rfl hg (by rw [hc]; rfl) rfl ?_
          refine j_iload_n (pc' := 107) K dX11_sum_106 rfl 2 rfl rfl ?_
          obtain ⟨r107, hr107, h⟩ := jbd_some h
          refine j_ro (pc' := 110) K (fun H hP => jrun_V K dX11_sum_107 (M_X2_squareSum (jl E) (jg E) (a0 4) (a0 5) (a0 6) (a0 7) (a0 8) (a0 9) v2 (X_law0 s0) hr107) u_2_116 u_2_113 u_2_114 u_2_115 u_1_11 ⟨ok_X2_squareSum, by decide, by decide⟩ rfl (Nat.le_of_ble_eq_true rfl) 4 rfl rfl H hP) [4, 5, 6, 7, 8, 9] (cl_15_f ..) rfl ?_
          obtain ⟨r110, hr110, h⟩ := jbd_some h
          refine j_ro (pc' := 113) K (fun H hP => jrun_S K dX11_sum_110 (M_X11_answer (jl E) (jg E) r107 hr110) u_2_94 u_2_92 u_2_93 u_1_1 ⟨ok_X11_answer, by decide, by decide⟩ rfl (Nat.le_of_ble_eq_true rfl) H) [] rfl rfl ?_
          obtain rfl := Option.some.inj h
          exact HR _ _ dX11_sum_113
        have hc0 := hc
        have h := jif hc h
        by_cases hc : v1 = 1
        · have h := jit hc h
          refine j_aald (pc' := 106) K dX11_sum_105 3 4 rfl rfl hg (by rw [hc]; rfl) rfl ?_
          refine j_iload_n (pc' := 107) K dX11_sum_106 rfl 2 rfl rfl ?_
          obtain ⟨r107, hr107, h⟩ := jbd_some h
          refine j_ro (pc' := 110) K (fun H hP => jrun_V K dX11_sum_107 (M_X2_squareSum (jl E) (jg E) (a0 10) (a0 11) (a0 12) (a0 13) (a0 14) (a0 15) v2 (X_law1 s0) hr107) u_2_116 u_2_113 u_2_114 u_2_115 u_1_11 ⟨ok_X2_squareSum, by decide, by decide⟩ rfl (Nat.le_of_ble_eq_true rfl) 10 rfl rfl H hP) [10, 11, 12, 13, 14, 15] (cl_16_f ..) rfl ?_
          obtain ⟨r110, hr110, h⟩ := jbd_some h
          refine j_ro (pc' := 113) K (fun H hP => jrun_S K dX11_sum_110 (M_X11_answer (jl E) (jg E) r107 hr110) u_2_94 u_2_92 u_2_93 u_1_1 ⟨ok_X11_answer, by decide, by decide⟩ rfl (Nat.le_of_ble_eq_true rfl) H) [] rfl rfl ?_
          obtain rfl := Option.some.inj h
          exact HR _ _ dX11_sum_113
        have hc1 := hc
        have h := jif hc h
        by_cases hc : v1 = 2
        · have h := jit hc h
          refine j_aald (pc' := 106) K dX11_sum_105 3 4 rfl rfl hg (by rw [hc]; rfl) rfl ?_
          refine j_iload_n (pc' := 107) K dX11_sum_106 rfl 2 rfl rfl ?_
          obtain ⟨r107, hr107, h⟩ := jbd_some h
          refine j_ro (pc' := 110) K (fun H hP => jrun_V K dX11_sum_107 (M_X2_squareSum (jl E) (jg E) (a0 16) (a0 17) (a0 18) (a0 19) (a0 20) (a0 21) v2 (X_law2 s0) hr107) u_2_116 u_2_113 u_2_114 u_2_115 u_1_11 ⟨ok_X2_squareSum, by decide, by decide⟩ rfl (Nat.le_of_ble_eq_true rfl) 16 rfl rfl H hP) [16, 17, 18, 19, 20, 21] (cl_17_f ..) rfl ?_
          obtain ⟨r110, hr110, h⟩ := jbd_some h
          refine j_ro (pc' := 113) K (fun H hP => jrun_S K dX11_sum_110 (M_X11_answer (jl E) (jg E) r107 hr110) u_2_94 u_2_92 u_2_93 u_1_1 ⟨ok_X11_answer, by decide, by decide⟩ rfl (Nat.le_of_ble_eq_true rfl) H) [] rfl rfl ?_
          obtain rfl := Option.some.inj h
          exact HR _ _ dX11_sum_113
        have hc2 := hc
        have h := jif hc h
        have hc : v1 = 3 := jin4 hg hc0 hc1 hc2
        refine j_aald (pc' := 106) K dX11_sum_105 3 4 rfl rfl hg (by rw [hc]; rfl) rfl ?_
        refine j_iload_n (pc' := 107) K dX11_sum_106 rfl 2 rfl rfl ?_
        obtain ⟨r107, hr107, h⟩ := jbd_some h
        refine j_ro (pc' := 110) K (fun H hP => jrun_V K dX11_sum_107 (M_X2_squareSum (jl E) (jg E) (a0 22) (a0 23) (a0 24) (a0 25) (a0 26) (a0 27) v2 (X_law3 s0) hr107) u_2_116 u_2_113 u_2_114 u_2_115 u_1_11 ⟨ok_X2_squareSum, by decide, by decide⟩ rfl (Nat.le_of_ble_eq_true rfl) 22 rfl rfl H hP) [22, 23, 24, 25, 26, 27] (cl_18_f ..) rfl ?_
        obtain ⟨r110, hr110, h⟩ := jbd_some h
        refine j_ro (pc' := 113) K (fun H hP => jrun_S K dX11_sum_110 (M_X11_answer (jl E) (jg E) r107 hr110) u_2_94 u_2_92 u_2_93 u_1_1 ⟨ok_X11_answer, by decide, by decide⟩ rfl (Nat.le_of_ble_eq_true rfl) H) [] rfl rfl ?_
        obtain rfl := Option.some.inj h
        exact HR _ _ dX11_sum_113
      · have h := jit hc h
        refine j_ldc2 (pc' := 29) K dX11_sum_26 u_2_90 rfl ?_
        obtain rfl := Option.some.inj h
        exact HR _ _ dX11_sum_29
set_option maxRecDepth 100000 in
set_option maxHeartbeats 4000000 in
theorem M_X11_sum (l : Launch) (G : jG) (a0 : Nat → Nat) (v1 : Int32) (v2 : Int32) (v3 : Int32) (s0 : XS) {r : Int64} (h : f_X11_sum v1 v2 v3 s0 = some r) : MC l yX11_sum cX11_sum 4 (some .long) 5 G jNo False (wX G a0 s0) (wX G a0 s0) [.ref (a0 0), .int v1, .int v2, .int v3] (some (.long r)) := by
  refine mc_long (by decide +kernel) (Nat.le_of_ble_eq_true rfl) fun E hl hg hA hrw K HR => ?_
  subst hl
  subst hg
  exact b_X11_sum a0 s0 K HR v1 v2 v3 h
theorem ok_X11_shape : yX11_shape.cls ≠ "java/lang/invoke/MethodHandle" ∧ yX11_shape.cls ≠ "java/lang/invoke/VarHandle" ∧ (parseMethodDescriptor yX11_shape.desc).map (fun d => d.parameters.length) = some 3 := ⟨by decide, by decide, by decide +kernel⟩
def f_X11_shape_42 (v1 : Int32) (v2 : Int32) (v3 : Int32) (t0 : Int64) (s0 : XS) : Option (Int32) :=
   jgd v1 4 (
   if v1 = 0 then (
    jbd (f_X2_rowKeepsTo v2 t0 (X_law0 s0)) (fun r53 =>
     if r53 = 0 then
      some (-2 : Int32)
     else
      if v3 = 0 then (
       jgd v1 4 (
        if v1 = 0 then (
         jbd (f_X2_greatestPlace v2 (X_law0 s0)) (fun r95 =>
          some r95)) else if v1 = 1 then (
         jbd (f_X2_greatestPlace v2 (X_law1 s0)) (fun r95 =>
          some r95)) else if v1 = 2 then (
         jbd (f_X2_greatestPlace v2 (X_law2 s0)) (fun r95 =>
          some r95)) else (
         jbd (f_X2_greatestPlace v2 (X_law3 s0)) (fun r95 =>
          some r95)))) else if v3 = 1 then (
       jgd v1 4 (
        if v1 = 0 then (
         jbd (f_X2_breakPlace v2 (X_law0 s0)) (fun r106 =>
          some r106)) else if v1 = 1 then (
         jbd (f_X2_breakPlace v2 (X_law1 s0)) (fun r106 =>
          some r106)) else if v1 = 2 then (
         jbd (f_X2_breakPlace v2 (X_law2 s0)) (fun r106 =>
          some r106)) else (
         jbd (f_X2_breakPlace v2 (X_law3 s0)) (fun r106 =>
          some r106)))) else (
       jgd v1 4 (
        if v1 = 0 then (
         jbd (f_X2_bowedPlace v2 (X_law0 s0)) (fun r117 =>
          some r117)) else if v1 = 1 then (
         jbd (f_X2_bowedPlace v2 (X_law1 s0)) (fun r117 =>
          some r117)) else if v1 = 2 then (
         jbd (f_X2_bowedPlace v2 (X_law2 s0)) (fun r117 =>
          some r117)) else (
         jbd (f_X2_bowedPlace v2 (X_law3 s0)) (fun r117 =>
          some r117)))))) else if v1 = 1 then (
    jbd (f_X2_rowKeepsTo v2 t0 (X_law1 s0)) (fun r53 =>
     if r53 = 0 then
      some (-2 : Int32)
     else
      if v3 = 0 then (
       jgd v1 4 (
        if v1 = 0 then (
         jbd (f_X2_greatestPlace v2 (X_law0 s0)) (fun r95 =>
          some r95)) else if v1 = 1 then (
         jbd (f_X2_greatestPlace v2 (X_law1 s0)) (fun r95 =>
          some r95)) else if v1 = 2 then (
         jbd (f_X2_greatestPlace v2 (X_law2 s0)) (fun r95 =>
          some r95)) else (
         jbd (f_X2_greatestPlace v2 (X_law3 s0)) (fun r95 =>
          some r95)))) else if v3 = 1 then (
       jgd v1 4 (
        if v1 = 0 then (
         jbd (f_X2_breakPlace v2 (X_law0 s0)) (fun r106 =>
          some r106)) else if v1 = 1 then (
         jbd (f_X2_breakPlace v2 (X_law1 s0)) (fun r106 =>
          some r106)) else if v1 = 2 then (
         jbd (f_X2_breakPlace v2 (X_law2 s0)) (fun r106 =>
          some r106)) else (
         jbd (f_X2_breakPlace v2 (X_law3 s0)) (fun r106 =>
          some r106)))) else (
       jgd v1 4 (
        if v1 = 0 then (
         jbd (f_X2_bowedPlace v2 (X_law0 s0)) (fun r117 =>
          some r117)) else if v1 = 1 then (
         jbd (f_X2_bowedPlace v2 (X_law1 s0)) (fun r117 =>
          some r117)) else if v1 = 2 then (
         jbd (f_X2_bowedPlace v2 (X_law2 s0)) (fun r117 =>
          some r117)) else (
         jbd (f_X2_bowedPlace v2 (X_law3 s0)) (fun r117 =>
          some r117)))))) else if v1 = 2 then (
    jbd (f_X2_rowKeepsTo v2 t0 (X_law2 s0)) (fun r53 =>
     if r53 = 0 then
      some (-2 : Int32)
     else
      if v3 = 0 then (
       jgd v1 4 (
        if v1 = 0 then (
         jbd (f_X2_greatestPlace v2 (X_law0 s0)) (fun r95 =>
          some r95)) else if v1 = 1 then (
         jbd (f_X2_greatestPlace v2 (X_law1 s0)) (fun r95 =>
          some r95)) else if v1 = 2 then (
         jbd (f_X2_greatestPlace v2 (X_law2 s0)) (fun r95 =>
          some r95)) else (
         jbd (f_X2_greatestPlace v2 (X_law3 s0)) (fun r95 =>
          some r95)))) else if v3 = 1 then (
       jgd v1 4 (
        if v1 = 0 then (
         jbd (f_X2_breakPlace v2 (X_law0 s0)) (fun r106 =>
          some r106)) else if v1 = 1 then (
         jbd (f_X2_breakPlace v2 (X_law1 s0)) (fun r106 =>
          some r106)) else if v1 = 2 then (
         jbd (f_X2_breakPlace v2 (X_law2 s0)) (fun r106 =>
          some r106)) else (
         jbd (f_X2_breakPlace v2 (X_law3 s0)) (fun r106 =>
          some r106)))) else (
       jgd v1 4 (
        if v1 = 0 then (
         jbd (f_X2_bowedPlace v2 (X_law0 s0)) (fun r117 =>
          some r117)) else if v1 = 1 then (
         jbd (f_X2_bowedPlace v2 (X_law1 s0)) (fun r117 =>
          some r117)) else if v1 = 2 then (
         jbd (f_X2_bowedPlace v2 (X_law2 s0)) (fun r117 =>
          some r117)) else (
         jbd (f_X2_bowedPlace v2 (X_law3 s0)) (fun r117 =>
          some r117)))))) else (
    jbd (f_X2_rowKeepsTo v2 t0 (X_law3 s0)) (fun r53 =>
     if r53 = 0 then
      some (-2 : Int32)
     else
      if v3 = 0 then (
       jgd v1 4 (
        if v1 = 0 then (
         jbd (f_X2_greatestPlace v2 (X_law0 s0)) (fun r95 =>
          some r95)) else if v1 = 1 then (
         jbd (f_X2_greatestPlace v2 (X_law1 s0)) (fun r95 =>
          some r95)) else if v1 = 2 then (
         jbd (f_X2_greatestPlace v2 (X_law2 s0)) (fun r95 =>
          some r95)) else (
         jbd (f_X2_greatestPlace v2 (X_law3 s0)) (fun r95 =>
          some r95)))) else if v3 = 1 then (
       jgd v1 4 (
        if v1 = 0 then (
         jbd (f_X2_breakPlace v2 (X_law0 s0)) (fun r106 =>
          some r106)) else if v1 = 1 then (
         jbd (f_X2_breakPlace v2 (X_law1 s0)) (fun r106 =>
          some r106)) else if v1 = 2 then (
         jbd (f_X2_breakPlace v2 (X_law2 s0)) (fun r106 =>
          some r106)) else (
         jbd (f_X2_breakPlace v2 (X_law3 s0)) (fun r106 =>
          some r106)))) else (
       jgd v1 4 (
        if v1 = 0 then (
         jbd (f_X2_bowedPlace v2 (X_law0 s0)) (fun r117 =>
          some r117)) else if v1 = 1 then (
         jbd (f_X2_bowedPlace v2 (X_law1 s0)) (fun r117 =>
          some r117)) else if v1 = 2 then (
         jbd (f_X2_bowedPlace v2 (X_law2 s0)) (fun r117 =>
          some r117)) else (
         jbd (f_X2_bowedPlace v2 (X_law3 s0)) (fun r117 =>
          some r117)))))))
def f_X11_shape (v1 : Int32) (v2 : Int32) (v3 : Int32) (s0 : XS) : Option (Int32) :=
   jbd (f_X11_isLaw v1) (fun r1 =>
   if r1 = 0 then
    some (-1 : Int32)
   else
    jbd (f_X11_within v2 (0 : Int32) (24 : Int32)) (fun r11 =>
     if r11 = 0 then
      some (-1 : Int32)
     else
      jbd (f_X11_within v3 (0 : Int32) (2 : Int32)) (fun r20 =>
       if r20 = 0 then
        some (-1 : Int32)
       else
        if v3 = (2 : Int32) then
         f_X11_shape_42 v1 v2 v3 (100000000 : Int64) s0
        else
         f_X11_shape_42 v1 v2 v3 (100000000000000000 : Int64) s0)))
set_option maxRecDepth 100000 in
set_option maxHeartbeats 4000000 in
theorem b_X11_shape_42 {E : jE} (a0 : Nat → Nat) (s0 : XS) {res : Int32} (K : jC E cX11_shape 6 RX11 4) (HR : jRI E cX11_shape 6 (wX (jg E) a0 s0) res) : ∀ (v1 : Int32) (v2 : Int32) (v3 : Int32) (t0 : Int64), f_X11_shape_42 v1 v2 v3 t0 s0 = some res → J E 6 (wX (jg E) a0 s0) 42 [(0, .ref (a0 0)), (1, .int v1), (2, .int v2), (3, .int v3)] [.long t0] := by
  intro v1 v2 v3 t0 h
  unfold f_X11_shape_42 at h
  refine j_lstore (pc' := 44) (lv' := [(4, .long t0), (0, .ref (a0 0)), (1, .int v1), (2, .int v2), (3, .int v3)]) K dX11_shape_42 (by decide) rfl rfl ?_
  refine j_aload_n (pc' := 45) K dX11_shape_44 rfl 1 rfl rfl ?_
  refine j_get (pc' := 48) K dX11_shape_45 inX11 0 rfl rfl 1 (by decide) u_1_198 rfl rfl rfl ?_
  refine j_iload_n (pc' := 49) K dX11_shape_48 rfl 2 rfl rfl ?_
  obtain ⟨hg, h⟩ := jgd_some h
  by_cases hc : v1 = 0
  · have h := jit hc h
    refine j_aald (pc' := 50) K dX11_shape_49 3 4 rfl rfl hg (by rw [hc]; rfl) rfl ?_
    refine j_iload_n (pc' := 51) K dX11_shape_50 rfl 3 rfl rfl ?_
    refine j_lload (pc' := 53) K dX11_shape_51 0 rfl rfl ?_
    obtain ⟨r53, hr53, h⟩ := jbd_some h
    refine j_ro (pc' := 56) K (fun H hP => jrun_V K dX11_shape_53 (M_X2_rowKeepsTo (jl E) (jg E) (a0 4) (a0 5) (a0 6) (a0 7) (a0 8) (a0 9) v2 t0 (X_law0 s0) hr53) u_2_108 u_2_124 u_2_106 u_2_107 u_1_11 ⟨ok_X2_rowKeepsTo, by decide, by decide⟩ rfl (Nat.le_of_ble_eq_true rfl) 4 rfl rfl H hP) [4, 5, 6, 7, 8, 9] (cl_15_f ..) rfl ?_
    refine j_if_ne (pc' := 59) (tgt := 62) K dX11_shape_56 (by decide) rfl (fun hc => ?_) (fun hc => ?_)
    · have h := jif hc h
      refine j_iload_n (pc' := 63) K dX11_shape_62 rfl 4 rfl rfl ?_
      by_cases hc : v3 = 0
      · have h := jit hc h
        refine j_look (tgt := 88) K dX11_shape_63 (by decide) (by rw [hc]) (by decide) ?_
        refine j_aload_n (pc' := 89) K dX11_shape_88 rfl 1 rfl rfl ?_
        refine j_get (pc' := 92) K dX11_shape_89 inX11 0 rfl rfl 1 (by decide) u_1_198 rfl rfl rfl ?_
        refine j_iload_n (pc' := 93) K dX11_shape_92 rfl 2 rfl rfl ?_
        obtain ⟨hg, h⟩ := jgd_some h
        by_cases hc : v1 = 0
        · have h := jit hc h
          refine j_aald (pc' := 94) K dX11_shape_93 3 4 rfl rfl hg (by rw [hc]; rfl) rfl ?_
          refine j_iload_n (pc' := 95) K dX11_shape_94 rfl 3 rfl rfl ?_
          obtain ⟨r95, hr95, h⟩ := jbd_some h
          refine j_ro (pc' := 98) K (fun H hP => jrun_V K dX11_shape_95 (M_X2_greatestPlace (jl E) (jg E) (a0 4) (a0 5) (a0 6) (a0 7) (a0 8) (a0 9) v2 (X_law0 s0) hr95) u_2_128 u_2_125 u_2_126 u_2_127 u_1_11 ⟨ok_X2_greatestPlace, by decide, by decide⟩ rfl (Nat.le_of_ble_eq_true rfl) 4 rfl rfl H hP) [4, 5, 6, 7, 8, 9] (cl_15_f ..) rfl ?_
          obtain rfl := Option.some.inj h
          exact HR _ _ dX11_shape_98
        have hc0 := hc
        have h := jif hc h
        by_cases hc : v1 = 1
        · have h := jit hc h
          refine j_aald (pc' := 94) K dX11_shape_93 3 4 rfl rfl hg (by rw [hc]; rfl) rfl ?_
          refine j_iload_n (pc' := 95) K dX11_shape_94 rfl 3 rfl rfl ?_
          obtain ⟨r95, hr95, h⟩ := jbd_some h
          refine j_ro (pc' := 98) K (fun H hP => jrun_V K dX11_shape_95 (M_X2_greatestPlace (jl E) (jg E) (a0 10) (a0 11) (a0 12) (a0 13) (a0 14) (a0 15) v2 (X_law1 s0) hr95) u_2_128 u_2_125 u_2_126 u_2_127 u_1_11 ⟨ok_X2_greatestPlace, by decide, by decide⟩ rfl (Nat.le_of_ble_eq_true rfl) 10 rfl rfl H hP) [10, 11, 12, 13, 14, 15] (cl_16_f ..) rfl ?_
          obtain rfl := Option.some.inj h
          exact HR _ _ dX11_shape_98
        have hc1 := hc
        have h := jif hc h
        by_cases hc : v1 = 2
        · have h := jit hc h
          refine j_aald (pc' := 94) K dX11_shape_93 3 4 rfl rfl hg (by rw [hc]; rfl) rfl ?_
          refine j_iload_n (pc' := 95) K dX11_shape_94 rfl 3 rfl rfl ?_
          obtain ⟨r95, hr95, h⟩ := jbd_some h
          refine j_ro (pc' := 98) K (fun H hP => jrun_V K dX11_shape_95 (M_X2_greatestPlace (jl E) (jg E) (a0 16) (a0 17) (a0 18) (a0 19) (a0 20) (a0 21) v2 (X_law2 s0) hr95) u_2_128 u_2_125 u_2_126 u_2_127 u_1_11 ⟨ok_X2_greatestPlace, by decide, by decide⟩ rfl (Nat.le_of_ble_eq_true rfl) 16 rfl rfl H hP) [16, 17, 18, 19, 20, 21] (cl_17_f ..) rfl ?_
          obtain rfl := Option.some.inj h
          exact HR _ _ dX11_shape_98
        have hc2 := hc
        have h := jif hc h
        have hc : v1 = 3 := jin4 hg hc0 hc1 hc2
        refine j_aald (pc' := 94) K dX11_shape_93 3 4 rfl rfl hg (by rw [hc]; rfl) rfl ?_
        refine j_iload_n (pc' := 95) K dX11_shape_94 rfl 3 rfl rfl ?_
        obtain ⟨r95, hr95, h⟩ := jbd_some h
        refine j_ro (pc' := 98) K (fun H hP => jrun_V K dX11_shape_95 (M_X2_greatestPlace (jl E) (jg E) (a0 22) (a0 23) (a0 24) (a0 25) (a0 26) (a0 27) v2 (X_law3 s0) hr95) u_2_128 u_2_125 u_2_126 u_2_127 u_1_11 ⟨ok_X2_greatestPlace, by decide, by decide⟩ rfl (Nat.le_of_ble_eq_true rfl) 22 rfl rfl H hP) [22, 23, 24, 25, 26, 27] (cl_18_f ..) rfl ?_
        obtain rfl := Option.some.inj h
        exact HR _ _ dX11_shape_98
      have hc0 := hc
      have h := jif hc h
      by_cases hc : v3 = 1
      · have h := jit hc h
        refine j_look (tgt := 99) K dX11_shape_63 (by decide) (by rw [hc]) (by decide) ?_
        refine j_aload_n (pc' := 100) K dX11_shape_99 rfl 1 rfl rfl ?_
        refine j_get (pc' := 103) K dX11_shape_100 inX11 0 rfl rfl 1 (by decide) u_1_198 rfl rfl rfl ?_
        refine j_iload_n (pc' := 104) K dX11_shape_103 rfl 2 rfl rfl ?_
        obtain ⟨hg, h⟩ := jgd_some h
        by_cases hc : v1 = 0
        · have h := jit hc h
          refine j_aald (pc' := 105) K dX11_shape_104 3 4 rfl rfl hg (by rw [hc]; rfl) rfl ?_
          refine j_iload_n (pc' := 106) K dX11_shape_105 rfl 3 rfl rfl ?_
          obtain ⟨r106, hr106, h⟩ := jbd_some h
          refine j_ro (pc' := 109) K (fun H hP => jrun_V K dX11_shape_106 (M_X2_breakPlace (jl E) (jg E) (a0 4) (a0 5) (a0 6) (a0 7) (a0 8) (a0 9) v2 (X_law0 s0) hr106) u_2_132 u_2_129 u_2_130 u_2_131 u_1_11 ⟨ok_X2_breakPlace, by decide, by decide⟩ rfl (Nat.le_of_ble_eq_true rfl) 4 rfl rfl H hP) [4, 5, 6, 7, 8, 9] (cl_15_f ..) rfl ?_
          obtain rfl := Option.some.inj h
          exact HR _ _ dX11_shape_109
        have hc0 := hc
        have h := jif hc h
        by_cases hc : v1 = 1
        · have h := jit hc h
          refine j_aald (pc' := 105) K dX11_shape_104 3 4 rfl rfl hg (by rw [hc]; rfl) rfl ?_
          refine j_iload_n (pc' := 106) K dX11_shape_105 rfl 3 rfl rfl ?_
          obtain ⟨r106, hr106, h⟩ := jbd_some h
          refine j_ro (pc' := 109) K (fun H hP => jrun_V K dX11_shape_106 (M_X2_breakPlace (jl E) (jg E) (a0 10) (a0 11) (a0 12) (a0 13) (a0 14) (a0 15) v2 (X_law1 s0) hr106) u_2_132 u_2_129 u_2_130 u_2_131 u_1_11 ⟨ok_X2_breakPlace, by decide, by decide⟩ rfl (Nat.le_of_ble_eq_true rfl) 10 rfl rfl H hP) [10, 11, 12, 13, 14, 15] (cl_16_f ..) rfl ?_
          obtain rfl := Option.some.inj h
          exact HR _ _ dX11_shape_109
        have hc1 := hc
        have h := jif hc h
        by_cases hc : v1 = 2
        · have h := jit hc h
          refine j_aald (pc' := 105) K dX11_shape_104 3 4 rfl rfl hg (by rw [hc]; rfl) rfl ?_
          refine j_iload_n (pc' := 106) K dX11_shape_105 rfl 3 rfl rfl ?_
          obtain ⟨r106, hr106, h⟩ := jbd_some h
          refine j_ro (pc' := 109) K (fun H hP => jrun_V K dX11_shape_106 (M_X2_breakPlace (jl E) (jg E) (a0 16) (a0 17) (a0 18) (a0 19) (a0 20) (a0 21) v2 (X_law2 s0) hr106) u_2_132 u_2_129 u_2_130 u_2_131 u_1_11 ⟨ok_X2_breakPlace, by decide, by decide⟩ rfl (Nat.le_of_ble_eq_true rfl) 16 rfl rfl H hP) [16, 17, 18, 19, 20, 21] (cl_17_f ..) rfl ?_
          obtain rfl := Option.some.inj h
          exact HR _ _ dX11_shape_109
        have hc2 := hc
        have h := jif hc h
        have hc : v1 = 3 := jin4 hg hc0 hc1 hc2
        refine j_aald (pc' := 105) K dX11_shape_104 3 4 rfl rfl hg (by rw [hc]; rfl) rfl ?_
        refine j_iload_n (pc' := 106) K dX11_shape_105 rfl 3 rfl rfl ?_
        obtain ⟨r106, hr106, h⟩ := jbd_some h
        refine j_ro (pc' := 109) K (fun H hP => jrun_V K dX11_shape_106 (M_X2_breakPlace (jl E) (jg E) (a0 22) (a0 23) (a0 24) (a0 25) (a0 26) (a0 27) v2 (X_law3 s0) hr106) u_2_132 u_2_129 u_2_130 u_2_131 u_1_11 ⟨ok_X2_breakPlace, by decide, by decide⟩ rfl (Nat.le_of_ble_eq_true rfl) 22 rfl rfl H hP) [22, 23, 24, 25, 26, 27] (cl_18_f ..) rfl ?_
        obtain rfl := Option.some.inj h
        exact HR _ _ dX11_shape_109
      have hc1 := hc
      have h := jif hc h
      refine j_look (tgt := 110) K dX11_shape_63 (by decide) (jlook2 hc0 hc1) (by decide) ?_
      refine j_aload_n (pc' := 111) K dX11_shape_110 rfl 1 rfl rfl ?_
      refine j_get (pc' := 114) K dX11_shape_111 inX11 0 rfl rfl 1 (by decide) u_1_198 rfl rfl rfl ?_
      refine j_iload_n (pc' := 115) K dX11_shape_114 rfl 2 rfl rfl ?_
      obtain ⟨hg, h⟩ := jgd_some h
      by_cases hc : v1 = 0
      · have h := jit hc h
        refine j_aald (pc' := 116) K dX11_shape_115 3 4 rfl rfl hg (by rw [hc]; rfl) rfl ?_
        refine j_iload_n (pc' := 117) K dX11_shape_116 rfl 3 rfl rfl ?_
        obtain ⟨r117, hr117, h⟩ := jbd_some h
        refine j_ro (pc' := 120) K (fun H hP => jrun_V K dX11_shape_117 (M_X2_bowedPlace (jl E) (jg E) (a0 4) (a0 5) (a0 6) (a0 7) (a0 8) (a0 9) v2 (X_law0 s0) hr117) u_2_136 u_2_133 u_2_134 u_2_135 u_1_11 ⟨ok_X2_bowedPlace, by decide, by decide⟩ rfl (Nat.le_of_ble_eq_true rfl) 4 rfl rfl H hP) [4, 5, 6, 7, 8, 9] (cl_15_f ..) rfl ?_
        obtain rfl := Option.some.inj h
        exact HR _ _ dX11_shape_120
      have hc0 := hc
      have h := jif hc h
      by_cases hc : v1 = 1
      · have h := jit hc h
        refine j_aald (pc' := 116) K dX11_shape_115 3 4 rfl rfl hg (by rw [hc]; rfl) rfl ?_
        refine j_iload_n (pc' := 117) K dX11_shape_116 rfl 3 rfl rfl ?_
        obtain ⟨r117, hr117, h⟩ := jbd_some h
        refine j_ro (pc' := 120) K (fun H hP => jrun_V K dX11_shape_117 (M_X2_bowedPlace (jl E) (jg E) (a0 10) (a0 11) (a0 12) (a0 13) (a0 14) (a0 15) v2 (X_law1 s0) hr117) u_2_136 u_2_133 u_2_134 u_2_135 u_1_11 ⟨ok_X2_bowedPlace, by decide, by decide⟩ rfl (Nat.le_of_ble_eq_true rfl) 10 rfl rfl H hP) [10, 11, 12, 13, 14, 15] (cl_16_f ..) rfl ?_
        obtain rfl := Option.some.inj h
        exact HR _ _ dX11_shape_120
      have hc1 := hc
      have h := jif hc h
      by_cases hc : v1 = 2
      · have h := jit hc h
        refine j_aald (pc' := 116) K dX11_shape_115 3 4 rfl rfl hg (by rw [hc]; rfl) rfl ?_
        refine j_iload_n (pc' := 117) K dX11_shape_116 rfl 3 rfl rfl ?_
        obtain ⟨r117, hr117, h⟩ := jbd_some h
        refine j_ro (pc' := 120) K (fun H hP => jrun_V K dX11_shape_117 (M_X2_bowedPlace (jl E) (jg E) (a0 16) (a0 17) (a0 18) (a0 19) (a0 20) (a0 21) v2 (X_law2 s0) hr117) u_2_136 u_2_133 u_2_134 u_2_135 u_1_11 ⟨ok_X2_bowedPlace, by decide, by decide⟩ rfl (Nat.le_of_ble_eq_true rfl) 16 rfl rfl H hP) [16, 17, 18, 19, 20, 21] (cl_17_f ..) rfl ?_
        obtain rfl := Option.some.inj h
        exact HR _ _ dX11_shape_120
      have hc2 := hc
      have h := jif hc h
      have hc : v1 = 3 := jin4 hg hc0 hc1 hc2
      refine j_aald (pc' := 116) K dX11_shape_115 3 4 rfl rfl hg (by rw [hc]; rfl) rfl ?_
      refine j_iload_n (pc' := 117) K dX11_shape_116 rfl 3 rfl rfl ?_
      obtain ⟨r117, hr117, h⟩ := jbd_some h
      refine j_ro (pc' := 120) K (fun H hP => jrun_V K dX11_shape_117 (M_X2_bowedPlace (jl E) (jg E) (a0 22) (a0 23) (a0 24) (a0 25) (a0 26) (a0 27) v2 (X_law3 s0) hr117) u_2_136 u_2_133 u_2_134 u_2_135 u_1_11 ⟨ok_X2_bowedPlace, by decide, by decide⟩ rfl (Nat.le_of_ble_eq_true rfl) 22 rfl rfl H hP) [22, 23, 24, 25, 26, 27] (cl_18_f ..) rfl ?_
      obtain rfl := Option.some.inj h
      exact HR _ _ dX11_shape_120
    · have h := jit hc h
      refine j_bipush (pc' := 61) (v := (-2 : Int32)) K dX11_shape_59 (by decide) rfl ?_
      obtain rfl := Option.some.inj h
      exact HR _ _ dX11_shape_61
  have hc0 := hc
  have h := jif hc h
  by_cases hc : v1 = 1
  · have h := jit hc h
    refine j_aald (pc' := 50) K dX11_shape_49 3 4 rfl rfl hg (by rw [hc]; rfl) rfl ?_
    refine j_iload_n (pc' := 51) K dX11_shape_50 rfl 3 rfl rfl ?_
    refine j_lload (pc' := 53) K dX11_shape_51 0 rfl rfl ?_
    obtain ⟨r53, hr53, h⟩ := jbd_some h
    refine j_ro (pc' := 56) K (fun H hP => jrun_V K dX11_shape_53 (M_X2_rowKeepsTo (jl E) (jg E) (a0 10) (a0 11) (a0 12) (a0 13) (a0 14) (a0 15) v2 t0 (X_law1 s0) hr53) u_2_108 u_2_124 u_2_106 u_2_107 u_1_11 ⟨ok_X2_rowKeepsTo, by decide, by decide⟩ rfl (Nat.le_of_ble_eq_true rfl) 10 rfl rfl H hP) [10, 11, 12, 13, 14, 15] (cl_16_f ..) rfl ?_
    refine j_if_ne (pc' := 59) (tgt := 62) K dX11_shape_56 (by decide) rfl (fun hc => ?_) (fun hc => ?_)
    · have h := jif hc h
      refine j_iload_n (pc' := 63) K dX11_shape_62 rfl 4 rfl rfl ?_
      by_cases hc : v3 = 0
      · have h := jit hc h
        refine j_look (tgt := 88) K dX11_shape_63 (by decide) (by rw [hc]) (by decide) ?_
        refine j_aload_n (pc' := 89) K dX11_shape_88 rfl 1 rfl rfl ?_
        refine j_get (pc' := 92) K dX11_shape_89 inX11 0 rfl rfl 1 (by decide) u_1_198 rfl rfl rfl ?_
        refine j_iload_n (pc' := 93) K dX11_shape_92 rfl 2 rfl rfl ?_
        obtain ⟨hg, h⟩ := jgd_some h
        by_cases hc : v1 = 0
        · have h := jit hc h
          refine j_aald (pc' := 94) K dX11_shape_93 3 4 rfl rfl hg (by rw [hc]; rfl) rfl ?_
          refine j_iload_n (pc' := 95) K dX11_shape_94 rfl 3 rfl rfl ?_
          obtain ⟨r95, hr95, h⟩ := jbd_some h
          refine j_ro (pc' := 98) K (fun H hP => jrun_V K dX11_shape_95 (M_X2_greatestPlace (jl E) (jg E) (a0 4) (a0 5) (a0 6) (a0 7) (a0 8) (a0 9) v2 (X_law0 s0) hr95) u_2_128 u_2_125 u_2_126 u_2_127 u_1_11 ⟨ok_X2_greatestPlace, by decide, by decide⟩ rfl (Nat.le_of_ble_eq_true rfl) 4 rfl rfl H hP) [4, 5, 6, 7, 8, 9] (cl_15_f ..) rfl ?_
          obtain rfl := Option.some.inj h
          exact HR _ _ dX11_shape_98
        have hc0 := hc
        have h := jif hc h
        by_cases hc : v1 = 1
        · have h := jit hc h
          refine j_aald (pc' := 94) K dX11_shape_93 3 4 rfl rfl hg (by rw [hc]; rfl) rfl ?_
          refine j_iload_n (pc' := 95) K dX11_shape_94 rfl 3 rfl rfl ?_
          obtain ⟨r95, hr95, h⟩ := jbd_some h
          refine j_ro (pc' := 98) K (fun H hP => jrun_V K dX11_shape_95 (M_X2_greatestPlace (jl E) (jg E) (a0 10) (a0 11) (a0 12) (a0 13) (a0 14) (a0 15) v2 (X_law1 s0) hr95) u_2_128 u_2_125 u_2_126 u_2_127 u_1_11 ⟨ok_X2_greatestPlace, by decide, by decide⟩ rfl (Nat.le_of_ble_eq_true rfl) 10 rfl rfl H hP) [10, 11, 12, 13, 14, 15] (cl_16_f ..) rfl ?_
          obtain rfl := Option.some.inj h
          exact HR _ _ dX11_shape_98
        have hc1 := hc
        have h := jif hc h
        by_cases hc : v1 = 2
        · have h := jit hc h
          refine j_aald (pc' := 94) K dX11_shape_93 3 4 rfl rfl hg (by rw [hc]; rfl) rfl ?_
          refine j_iload_n (pc' := 95) K dX11_shape_94 rfl 3 rfl rfl ?_
          obtain ⟨r95, hr95, h⟩ := jbd_some h
          refine j_ro (pc' := 98) K (fun H hP => jrun_V K dX11_shape_95 (M_X2_greatestPlace (jl E) (jg E) (a0 16) (a0 17) (a0 18) (a0 19) (a0 20) (a0 21) v2 (X_law2 s0) hr95) u_2_128 u_2_125 u_2_126 u_2_127 u_1_11 ⟨ok_X2_greatestPlace, by decide, by decide⟩ rfl (Nat.le_of_ble_eq_true rfl) 16 rfl rfl H hP) [16, 17, 18, 19, 20, 21] (cl_17_f ..) rfl ?_
          obtain rfl := Option.some.inj h
          exact HR _ _ dX11_shape_98
        have hc2 := hc
        have h := jif hc h
        have hc : v1 = 3 := jin4 hg hc0 hc1 hc2
        refine j_aald (pc' := 94) K dX11_shape_93 3 4 rfl rfl hg (by rw [hc]; rfl) rfl ?_
        refine j_iload_n (pc' := 95) K dX11_shape_94 rfl 3 rfl rfl ?_
        obtain ⟨r95, hr95, h⟩ := jbd_some h
        refine j_ro (pc' := 98) K (fun H hP => jrun_V K dX11_shape_95 (M_X2_greatestPlace (jl E) (jg E) (a0 22) (a0 23) (a0 24) (a0 25) (a0 26) (a0 27) v2 (X_law3 s0) hr95) u_2_128 u_2_125 u_2_126 u_2_127 u_1_11 ⟨ok_X2_greatestPlace, by decide, by decide⟩ rfl (Nat.le_of_ble_eq_true rfl) 22 rfl rfl H hP) [22, 23, 24, 25, 26, 27] (cl_18_f ..) rfl ?_
        obtain rfl := Option.some.inj h
        exact HR _ _ dX11_shape_98
      have hc0 := hc
      have h := jif hc h
      by_cases hc : v3 = 1
      · have h := jit hc h
        refine j_look (tgt := 99) K dX11_shape_63 (by decide) (by rw [hc]) (by decide) ?_
        refine j_aload_n (pc' := 100) K dX11_shape_99 rfl 1 rfl rfl ?_
        refine j_get (pc' := 103) K dX11_shape_100 inX11 0 rfl rfl 1 (by decide) u_1_198 rfl rfl rfl ?_
        refine j_iload_n (pc' := 104) K dX11_shape_103 rfl 2 rfl rfl ?_
        obtain ⟨hg, h⟩ := jgd_some h
        by_cases hc : v1 = 0
        · have h := jit hc h
          refine j_aald (pc' := 105) K dX11_shape_104 3 4 rfl rfl hg (by rw [hc]; rfl) rfl ?_
          refine j_iload_n (pc' := 106) K dX11_shape_105 rfl 3 rfl rfl ?_
          obtain ⟨r106, hr106, h⟩ := jbd_some h
          refine j_ro (pc' := 109) K (fun H hP => jrun_V K dX11_shape_106 (M_X2_breakPlace (jl E) (jg E) (a0 4) (a0 5) (a0 6) (a0 7) (a0 8) (a0 9) v2 (X_law0 s0) hr106) u_2_132 u_2_129 u_2_130 u_2_131 u_1_11 ⟨ok_X2_breakPlace, by decide, by decide⟩ rfl (Nat.le_of_ble_eq_true rfl) 4 rfl rfl H hP) [4, 5, 6, 7, 8, 9] (cl_15_f ..) rfl ?_
          obtain rfl := Option.some.inj h
          exact HR _ _ dX11_shape_109
        have hc0 := hc
        have h := jif hc h
        by_cases hc : v1 = 1
        · have h := jit hc h
          refine j_aald (pc' := 105) K dX11_shape_104 3 4 rfl rfl hg (by rw [hc]; rfl) rfl ?_
          refine j_iload_n (pc' := 106) K dX11_shape_105 rfl 3 rfl rfl ?_
          obtain ⟨r106, hr106, h⟩ := jbd_some h
          refine j_ro (pc' := 109) K (fun H hP => jrun_V K dX11_shape_106 (M_X2_breakPlace (jl E) (jg E) (a0 10) (a0 11) (a0 12) (a0 13) (a0 14) (a0 15) v2 (X_law1 s0) hr106) u_2_132 u_2_129 u_2_130 u_2_131 u_1_11 ⟨ok_X2_breakPlace, by decide, by decide⟩ rfl (Nat.le_of_ble_eq_true rfl) 10 rfl rfl H hP) [10, 11, 12, 13, 14, 15] (cl_16_f ..) rfl ?_
          obtain rfl := Option.some.inj h
          exact HR _ _ dX11_shape_109
        have hc1 := hc
        have h := jif hc h
        by_cases hc : v1 = 2
        · have h := jit hc h
          refine j_aald (pc' := 105) K dX11_shape_104 3 4 rfl rfl hg (by rw [hc]; rfl) rfl ?_
          refine j_iload_n (pc' := 106) K dX11_shape_105 rfl 3 rfl rfl ?_
          obtain ⟨r106, hr106, h⟩ := jbd_some h
          refine j_ro (pc' := 109) K (fun H hP => jrun_V K dX11_shape_106 (M_X2_breakPlace (jl E) (jg E) (a0 16) (a0 17) (a0 18) (a0 19) (a0 20) (a0 21) v2 (X_law2 s0) hr106) u_2_132 u_2_129 u_2_130 u_2_131 u_1_11 ⟨ok_X2_breakPlace, by decide, by decide⟩ rfl (Nat.le_of_ble_eq_true rfl) 16 rfl rfl H hP) [16, 17, 18, 19, 20, 21] (cl_17_f ..) rfl ?_
          obtain rfl := Option.some.inj h
          exact HR _ _ dX11_shape_109
        have hc2 := hc
        have h := jif hc h
        have hc : v1 = 3 := jin4 hg hc0 hc1 hc2
        refine j_aald (pc' := 105) K dX11_shape_104 3 4 rfl rfl hg (by rw [hc]; rfl) rfl ?_
        refine j_iload_n (pc' := 106) K dX11_shape_105 rfl 3 rfl rfl ?_
        obtain ⟨r106, hr106, h⟩ := jbd_some h
        refine j_ro (pc' := 109) K (fun H hP => jrun_V K dX11_shape_106 (M_X2_breakPlace (jl E) (jg E) (a0 22) (a0 23) (a0 24) (a0 25) (a0 26) (a0 27) v2 (X_law3 s0) hr106) u_2_132 u_2_129 u_2_130 u_2_131 u_1_11 ⟨ok_X2_breakPlace, by decide, by decide⟩ rfl (Nat.le_of_ble_eq_true rfl) 22 rfl rfl H hP) [22, 23, 24, 25, 26, 27] (cl_18_f ..) rfl ?_
        obtain rfl := Option.some.inj h
        exact HR _ _ dX11_shape_109
      have hc1 := hc
      have h := jif hc h
      refine j_look (tgt := 110) K dX11_shape_63 (by decide) (jlook2 hc0 hc1) (by decide) ?_
      refine j_aload_n (pc' := 111) K dX11_shape_110 rfl 1 rfl rfl ?_
      refine j_get (pc' := 114) K dX11_shape_111 inX11 0 rfl rfl 1 (by decide) u_1_198 rfl rfl rfl ?_
      refine j_iload_n (pc' := 115) K dX11_shape_114 rfl 2 rfl rfl ?_
      obtain ⟨hg, h⟩ := jgd_some h
      by_cases hc : v1 = 0
      · have h := jit hc h
        refine j_aald (pc' := 116) K dX11_shape_115 3 4 rfl rfl hg (by rw [hc]; rfl) rfl ?_
        refine j_iload_n (pc' := 117) K dX11_shape_116 rfl 3 rfl rfl ?_
        obtain ⟨r117, hr117, h⟩ := jbd_some h
        refine j_ro (pc' := 120) K (fun H hP => jrun_V K dX11_shape_117 (M_X2_bowedPlace (jl E) (jg E) (a0 4) (a0 5) (a0 6) (a0 7) (a0 8) (a0 9) v2 (X_law0 s0) hr117) u_2_136 u_2_133 u_2_134 u_2_135 u_1_11 ⟨ok_X2_bowedPlace, by decide, by decide⟩ rfl (Nat.le_of_ble_eq_true rfl) 4 rfl rfl H hP) [4, 5, 6, 7, 8, 9] (cl_15_f ..) rfl ?_
        obtain rfl := Option.some.inj h
        exact HR _ _ dX11_shape_120
      have hc0 := hc
      have h := jif hc h
      by_cases hc : v1 = 1
      · have h := jit hc h
        refine j_aald (pc' := 116) K dX11_shape_115 3 4 rfl rfl hg (by rw [hc]; rfl) rfl ?_
        refine j_iload_n (pc' := 117) K dX11_shape_116 rfl 3 rfl rfl ?_
        obtain ⟨r117, hr117, h⟩ := jbd_some h
        refine j_ro (pc' := 120) K (fun H hP => jrun_V K dX11_shape_117 (M_X2_bowedPlace (jl E) (jg E) (a0 10) (a0 11) (a0 12) (a0 13) (a0 14) (a0 15) v2 (X_law1 s0) hr117) u_2_136 u_2_133 u_2_134 u_2_135 u_1_11 ⟨ok_X2_bowedPlace, by decide, by decide⟩ rfl (Nat.le_of_ble_eq_true rfl) 10 rfl rfl H hP) [10, 11, 12, 13, 14, 15] (cl_16_f ..) rfl ?_
        obtain rfl := Option.some.inj h
        exact HR _ _ dX11_shape_120
      have hc1 := hc
      have h := jif hc h
      by_cases hc : v1 = 2
      · have h := jit hc h
        refine j_aald (pc' := 116) K dX11_shape_115 3 4 rfl rfl hg (by rw [hc]; rfl) rfl ?_
        refine j_iload_n (pc' := 117) K dX11_shape_116 rfl 3 rfl rfl ?_
        obtain ⟨r117, hr117, h⟩ := jbd_some h
        refine j_ro (pc' := 120) K (fun H hP => jrun_V K dX11_shape_117 (M_X2_bowedPlace (jl E) (jg E) (a0 16) (a0 17) (a0 18) (a0 19) (a0 20) (a0 21) v2 (X_law2 s0) hr117) u_2_136 u_2_133 u_2_134 u_2_135 u_1_11 ⟨ok_X2_bowedPlace, by decide, by decide⟩ rfl (Nat.le_of_ble_eq_true rfl) 16 rfl rfl H hP) [16, 17, 18, 19, 20, 21] (cl_17_f ..) rfl ?_
        obtain rfl := Option.some.inj h
        exact HR _ _ dX11_shape_120
      have hc2 := hc
      have h := jif hc h
      have hc : v1 = 3 := jin4 hg hc0 hc1 hc2
      refine j_aald (pc' := 116) K dX11_shape_115 3 4 rfl rfl hg (by rw [hc]; rfl) rfl ?_
      refine j_iload_n (pc' := 117) K dX11_shape_116 rfl 3 rfl rfl ?_
      obtain ⟨r117, hr117, h⟩ := jbd_some h
      refine j_ro (pc' := 120) K (fun H hP => jrun_V K dX11_shape_117 (M_X2_bowedPlace (jl E) (jg E) (a0 22) (a0 23) (a0 24) (a0 25) (a0 26) (a0 27) v2 (X_law3 s0) hr117) u_2_136 u_2_133 u_2_134 u_2_135 u_1_11 ⟨ok_X2_bowedPlace, by decide, by decide⟩ rfl (Nat.le_of_ble_eq_true rfl) 22 rfl rfl H hP) [22, 23, 24, 25, 26, 27] (cl_18_f ..) rfl ?_
      obtain rfl := Option.some.inj h
      exact HR _ _ dX11_shape_120
    · have h := jit hc h
      refine j_bipush (pc' := 61) (v := (-2 : Int32)) K dX11_shape_59 (by decide) rfl ?_
      obtain rfl := Option.some.inj h
      exact HR _ _ dX11_shape_61
  have hc1 := hc
  have h := jif hc h
  by_cases hc : v1 = 2
  · have h := jit hc h
    refine j_aald (pc' := 50) K dX11_shape_49 3 4 rfl rfl hg (by rw [hc]; rfl) rfl ?_
    refine j_iload_n (pc' := 51) K dX11_shape_50 rfl 3 rfl rfl ?_
    refine j_lload (pc' := 53) K dX11_shape_51 0 rfl rfl ?_
    obtain ⟨r53, hr53, h⟩ := jbd_some h
    refine j_ro (pc' := 56) K (fun H hP => jrun_V K dX11_shape_53 (M_X2_rowKeepsTo (jl E) (jg E) (a0 16) (a0 17) (a0 18) (a0 19) (a0 20) (a0 21) v2 t0 (X_law2 s0) hr53) u_2_108 u_2_124 u_2_106 u_2_107 u_1_11 ⟨ok_X2_rowKeepsTo, by decide, by decide⟩ rfl (Nat.le_of_ble_eq_true rfl) 16 rfl rfl H hP) [16, 17, 18, 19, 20, 21] (cl_17_f ..) rfl ?_
    refine j_if_ne (pc' := 59) (tgt := 62) K dX11_shape_56 (by decide) rfl (fun hc => ?_) (fun hc => ?_)
    · have h := jif hc h
      refine j_iload_n (pc' := 63) K dX11_shape_62 rfl 4 rfl rfl ?_
      by_cases hc : v3 = 0
      · have h := jit hc h
        refine j_look (tgt := 88) K dX11_shape_63 (by decide) (by rw [hc]) (by decide) ?_
        refine j_aload_n (pc' := 89) K dX11_shape_88 rfl 1 rfl rfl ?_
        refine j_get (pc' := 92) K dX11_shape_89 inX11 0 rfl rfl 1 (by decide) u_1_198 rfl rfl rfl ?_
        refine j_iload_n (pc' := 93) K dX11_shape_92 rfl 2 rfl rfl ?_
        obtain ⟨hg, h⟩ := jgd_some h
        by_cases hc : v1 = 0
        · have h := jit hc h
          refine j_aald (pc' := 94) K dX11_shape_93 3 4 rfl rfl hg (by rw [hc]; rfl) rfl ?_
          refine j_iload_n (pc' := 95) K dX11_shape_94 rfl 3 rfl rfl ?_
          obtain ⟨r95, hr95, h⟩ := jbd_some h
          refine j_ro (pc' := 98) K (fun H hP => jrun_V K dX11_shape_95 (M_X2_greatestPlace (jl E) (jg E) (a0 4) (a0 5) (a0 6) (a0 7) (a0 8) (a0 9) v2 (X_law0 s0) hr95) u_2_128 u_2_125 u_2_126 u_2_127 u_1_11 ⟨ok_X2_greatestPlace, by decide, by decide⟩ rfl (Nat.le_of_ble_eq_true rfl) 4 rfl rfl H hP) [4, 5, 6, 7, 8, 9] (cl_15_f ..) rfl ?_
          obtain rfl := Option.some.inj h
          exact HR _ _ dX11_shape_98
        have hc0 := hc
        have h := jif hc h
        by_cases hc : v1 = 1
        · have h := jit hc h
          refine j_aald (pc' := 94) K dX11_shape_93 3 4 rfl rfl hg (by rw [hc]; rfl) rfl ?_
          refine j_iload_n (pc' := 95) K dX11_shape_94 rfl 3 rfl rfl ?_
          obtain ⟨r95, hr95, h⟩ := jbd_some h
          refine j_ro (pc' := 98) K (fun H hP => jrun_V K dX11_shape_95 (M_X2_greatestPlace (jl E) (jg E) (a0 10) (a0 11) (a0 12) (a0 13) (a0 14) (a0 15) v2 (X_law1 s0) hr95) u_2_128 u_2_125 u_2_126 u_2_127 u_1_11 ⟨ok_X2_greatestPlace, by decide, by decide⟩ rfl (Nat.le_of_ble_eq_true rfl) 10 rfl rfl H hP) [10, 11, 12, 13, 14, 15] (cl_16_f ..) rfl ?_
          obtain rfl := Option.some.inj h
          exact HR _ _ dX11_shape_98
        have hc1 := hc
        have h := jif hc h
        by_cases hc : v1 = 2
        · have h := jit hc h
          refine j_aald (pc' := 94) K dX11_shape_93 3 4 rfl rfl hg (by rw [hc]; rfl) rfl ?_
          refine j_iload_n (pc' := 95) K dX11_shape_94 rfl 3 rfl rfl ?_
          obtain ⟨r95, hr95, h⟩ := jbd_some h
          refine j_ro (pc' := 98) K (fun H hP => jrun_V K dX11_shape_95 (M_X2_greatestPlace (jl E) (jg E) (a0 16) (a0 17) (a0 18) (a0 19) (a0 20) (a0 21) v2 (X_law2 s0) hr95) u_2_128 u_2_125 u_2_126 u_2_127 u_1_11 ⟨ok_X2_greatestPlace, by decide, by decide⟩ rfl (Nat.le_of_ble_eq_true rfl) 16 rfl rfl H hP) [16, 17, 18, 19, 20, 21] (cl_17_f ..) rfl ?_
          obtain rfl := Option.some.inj h
          exact HR _ _ dX11_shape_98
        have hc2 := hc
        have h := jif hc h
        have hc : v1 = 3 := jin4 hg hc0 hc1 hc2
        refine j_aald (pc' := 94) K dX11_shape_93 3 4 rfl rfl hg (by rw [hc]; rfl) rfl ?_
        refine j_iload_n (pc' := 95) K dX11_shape_94 rfl 3 rfl rfl ?_
        obtain ⟨r95, hr95, h⟩ := jbd_some h
        refine j_ro (pc' := 98) K (fun H hP => jrun_V K dX11_shape_95 (M_X2_greatestPlace (jl E) (jg E) (a0 22) (a0 23) (a0 24) (a0 25) (a0 26) (a0 27) v2 (X_law3 s0) hr95) u_2_128 u_2_125 u_2_126 u_2_127 u_1_11 ⟨ok_X2_greatestPlace, by decide, by decide⟩ rfl (Nat.le_of_ble_eq_true rfl) 22 rfl rfl H hP) [22, 23, 24, 25, 26, 27] (cl_18_f ..) rfl ?_
        obtain rfl := Option.some.inj h
        exact HR _ _ dX11_shape_98
      have hc0 := hc
      have h := jif hc h
      by_cases hc : v3 = 1
      · have h := jit hc h
        refine j_look (tgt := 99) K dX11_shape_63 (by decide) (by rw [hc]) (by decide) ?_
        refine j_aload_n (pc' := 100) K dX11_shape_99 rfl 1 rfl rfl ?_
        refine j_get (pc' := 103) K dX11_shape_100 inX11 0 rfl rfl 1 (by decide) u_1_198 rfl rfl rfl ?_
        refine j_iload_n (pc' := 104) K dX11_shape_103 rfl 2 rfl rfl ?_
        obtain ⟨hg, h⟩ := jgd_some h
        by_cases hc : v1 = 0
        · have h := jit hc h
          refine j_aald (pc' := 105) K dX11_shape_104 3 4 rfl rfl hg (by rw [hc]; rfl) rfl ?_
          refine j_iload_n (pc' := 106) K dX11_shape_105 rfl 3 rfl rfl ?_
          obtain ⟨r106, hr106, h⟩ := jbd_some h
          refine j_ro (pc' := 109) K (fun H hP => jrun_V K dX11_shape_106 (M_X2_breakPlace (jl E) (jg E) (a0 4) (a0 5) (a0 6) (a0 7) (a0 8) (a0 9) v2 (X_law0 s0) hr106) u_2_132 u_2_129 u_2_130 u_2_131 u_1_11 ⟨ok_X2_breakPlace, by decide, by decide⟩ rfl (Nat.le_of_ble_eq_true rfl) 4 rfl rfl H hP) [4, 5, 6, 7, 8, 9] (cl_15_f ..) rfl ?_
          obtain rfl := Option.some.inj h
          exact HR _ _ dX11_shape_109
        have hc0 := hc
        have h := jif hc h
        by_cases hc : v1 = 1
        · have h := jit hc h
          refine j_aald (pc' := 105) K dX11_shape_104 3 4 rfl rfl hg (by rw [hc]; rfl) rfl ?_
          refine j_iload_n (pc' := 106) K dX11_shape_105 rfl 3 rfl rfl ?_
          obtain ⟨r106, hr106, h⟩ := jbd_some h
          refine j_ro (pc' := 109) K (fun H hP => jrun_V K dX11_shape_106 (M_X2_breakPlace (jl E) (jg E) (a0 10) (a0 11) (a0 12) (a0 13) (a0 14) (a0 15) v2 (X_law1 s0) hr106) u_2_132 u_2_129 u_2_130 u_2_131 u_1_11 ⟨ok_X2_breakPlace, by decide, by decide⟩ rfl (Nat.le_of_ble_eq_true rfl) 10 rfl rfl H hP) [10, 11, 12, 13, 14, 15] (cl_16_f ..) rfl ?_
          obtain rfl := Option.some.inj h
          exact HR _ _ dX11_shape_109
        have hc1 := hc
        have h := jif hc h
        by_cases hc : v1 = 2
        · have h := jit hc h
          refine j_aald (pc' := 105) K dX11_shape_104 3 4 rfl rfl hg (by rw [hc]; rfl) rfl ?_
          refine j_iload_n (pc' := 106) K dX11_shape_105 rfl 3 rfl rfl ?_
          obtain ⟨r106, hr106, h⟩ := jbd_some h
          refine j_ro (pc' := 109) K (fun H hP => jrun_V K dX11_shape_106 (M_X2_breakPlace (jl E) (jg E) (a0 16) (a0 17) (a0 18) (a0 19) (a0 20) (a0 21) v2 (X_law2 s0) hr106) u_2_132 u_2_129 u_2_130 u_2_131 u_1_11 ⟨ok_X2_breakPlace, by decide, by decide⟩ rfl (Nat.le_of_ble_eq_true rfl) 16 rfl rfl H hP) [16, 17, 18, 19, 20, 21] (cl_17_f ..) rfl ?_
          obtain rfl := Option.some.inj h
          exact HR _ _ dX11_shape_109
        have hc2 := hc
        have h := jif hc h
        have hc : v1 = 3 := jin4 hg hc0 hc1 hc2
        refine j_aald (pc' := 105) K dX11_shape_104 3 4 rfl rfl hg (by rw [hc]; rfl) rfl ?_
        refine j_iload_n (pc' := 106) K dX11_shape_105 rfl 3 rfl rfl ?_
        obtain ⟨r106, hr106, h⟩ := jbd_some h
        refine j_ro (pc' := 109) K (fun H hP => jrun_V K dX11_shape_106 (M_X2_breakPlace (jl E) (jg E) (a0 22) (a0 23) (a0 24) (a0 25) (a0 26) (a0 27) v2 (X_law3 s0) hr106) u_2_132 u_2_129 u_2_130 u_2_131 u_1_11 ⟨ok_X2_breakPlace, by decide, by decide⟩ rfl (Nat.le_of_ble_eq_true rfl) 22 rfl rfl H hP) [22, 23, 24, 25, 26, 27] (cl_18_f ..) rfl ?_
        obtain rfl := Option.some.inj h
        exact HR _ _ dX11_shape_109
      have hc1 := hc
      have h := jif hc h
      refine j_look (tgt := 110) K dX11_shape_63 (by decide) (jlook2 hc0 hc1) (by decide) ?_
      refine j_aload_n (pc' := 111) K dX11_shape_110 rfl 1 rfl rfl ?_
      refine j_get (pc' := 114) K dX11_shape_111 inX11 0 rfl rfl 1 (by decide) u_1_198 rfl rfl rfl ?_
      refine j_iload_n (pc' := 115) K dX11_shape_114 rfl 2 rfl rfl ?_
      obtain ⟨hg, h⟩ := jgd_some h
      by_cases hc : v1 = 0
      · have h := jit hc h
        refine j_aald (pc' := 116) K dX11_shape_115 3 4 rfl rfl hg (by rw [hc]; rfl) rfl ?_
        refine j_iload_n (pc' := 117) K dX11_shape_116 rfl 3 rfl rfl ?_
        obtain ⟨r117, hr117, h⟩ := jbd_some h
        refine j_ro (pc' := 120) K (fun H hP => jrun_V K dX11_shape_117 (M_X2_bowedPlace (jl E) (jg E) (a0 4) (a0 5) (a0 6) (a0 7) (a0 8) (a0 9) v2 (X_law0 s0) hr117) u_2_136 u_2_133 u_2_134 u_2_135 u_1_11 ⟨ok_X2_bowedPlace, by decide, by decide⟩ rfl (Nat.le_of_ble_eq_true rfl) 4 rfl rfl H hP) [4, 5, 6, 7, 8, 9] (cl_15_f ..) rfl ?_
        obtain rfl := Option.some.inj h
        exact HR _ _ dX11_shape_120
      have hc0 := hc
      have h := jif hc h
      by_cases hc : v1 = 1
      · have h := jit hc h
        refine j_aald (pc' := 116) K dX11_shape_115 3 4 rfl rfl hg (by rw [hc]; rfl) rfl ?_
        refine j_iload_n (pc' := 117) K dX11_shape_116 rfl 3 rfl rfl ?_
        obtain ⟨r117, hr117, h⟩ := jbd_some h
        refine j_ro (pc' := 120) K (fun H hP => jrun_V K dX11_shape_117 (M_X2_bowedPlace (jl E) (jg E) (a0 10) (a0 11) (a0 12) (a0 13) (a0 14) (a0 15) v2 (X_law1 s0) hr117) u_2_136 u_2_133 u_2_134 u_2_135 u_1_11 ⟨ok_X2_bowedPlace, by decide, by decide⟩ rfl (Nat.le_of_ble_eq_true rfl) 10 rfl rfl H hP) [10, 11, 12, 13, 14, 15] (cl_16_f ..) rfl ?_
        obtain rfl := Option.some.inj h
        exact HR _ _ dX11_shape_120
      have hc1 := hc
      have h := jif hc h
      by_cases hc : v1 = 2
      · have h := jit hc h
        refine j_aald (pc' := 116) K dX11_shape_115 3 4 rfl rfl hg (by rw [hc]; rfl) rfl ?_
        refine j_iload_n (pc' := 117) K dX11_shape_116 rfl 3 rfl rfl ?_
        obtain ⟨r117, hr117, h⟩ := jbd_some h
        refine j_ro (pc' := 120) K (fun H hP => jrun_V K dX11_shape_117 (M_X2_bowedPlace (jl E) (jg E) (a0 16) (a0 17) (a0 18) (a0 19) (a0 20) (a0 21) v2 (X_law2 s0) hr117) u_2_136 u_2_133 u_2_134 u_2_135 u_1_11 ⟨ok_X2_bowedPlace, by decide, by decide⟩ rfl (Nat.le_of_ble_eq_true rfl) 16 rfl rfl H hP) [16, 17, 18, 19, 20, 21] (cl_17_f ..) rfl ?_
        obtain rfl := Option.some.inj h
        exact HR _ _ dX11_shape_120
      have hc2 := hc
      have h := jif hc h
      have hc : v1 = 3 := jin4 hg hc0 hc1 hc2
      refine j_aald (pc' := 116) K dX11_shape_115 3 4 rfl rfl hg (by rw [hc]; rfl) rfl ?_
      refine j_iload_n (pc' := 117) K dX11_shape_116 rfl 3 rfl rfl ?_
      obtain ⟨r117, hr117, h⟩ := jbd_some h
      refine j_ro (pc' := 120) K (fun H hP => jrun_V K dX11_shape_117 (M_X2_bowedPlace (jl E) (jg E) (a0 22) (a0 23) (a0 24) (a0 25) (a0 26) (a0 27) v2 (X_law3 s0) hr117) u_2_136 u_2_133 u_2_134 u_2_135 u_1_11 ⟨ok_X2_bowedPlace, by decide, by decide⟩ rfl (Nat.le_of_ble_eq_true rfl) 22 rfl rfl H hP) [22, 23, 24, 25, 26, 27] (cl_18_f ..) rfl ?_
      obtain rfl := Option.some.inj h
      exact HR _ _ dX11_shape_120
    · have h := jit hc h
      refine j_bipush (pc' := 61) (v := (-2 : Int32)) K dX11_shape_59 (by decide) rfl ?_
      obtain rfl := Option.some.inj h
      exact HR _ _ dX11_shape_61
  have hc2 := hc
  have h := jif hc h
  have hc : v1 = 3 := jin4 hg hc0 hc1 hc2
  refine j_aald (pc' := 50) K dX11_shape_49 3 4 rfl rfl hg (by rw [hc]; rfl) rfl ?_
  refine j_iload_n (pc' := 51) K dX11_shape_50 rfl 3 rfl rfl ?_
  refine j_lload (pc' := 53) K dX11_shape_51 0 rfl rfl ?_
  obtain ⟨r53, hr53, h⟩ := jbd_some h
  refine j_ro (pc' := 56) K (fun H hP => jrun_V K dX11_shape_53 (M_X2_rowKeepsTo (jl E) (jg E) (a0 22) (a0 23) (a0 24) (a0 25) (a0 26) (a0 27) v2 t0 (X_law3 s0) hr53) u_2_108 u_2_124 u_2_106 u_2_107 u_1_11 ⟨ok_X2_rowKeepsTo, by decide, by decide⟩ rfl (Nat.le_of_ble_eq_true rfl) 22 rfl rfl H hP) [22, 23, 24, 25, 26, 27] (cl_18_f ..) rfl ?_
  refine j_if_ne (pc' := 59) (tgt := 62) K dX11_shape_56 (by decide) rfl (fun hc => ?_) (fun hc => ?_)
  · have h := jif hc h
    refine j_iload_n (pc' := 63) K dX11_shape_62 rfl 4 rfl rfl ?_
    by_cases hc : v3 = 0
    · have h := jit hc h
      refine j_look (tgt := 88) K dX11_shape_63 (by decide) (by rw [hc]) (by decide) ?_
      refine j_aload_n (pc' := 89) K dX11_shape_88 rfl 1 rfl rfl ?_
      refine j_get (pc' := 92) K dX11_shape_89 inX11 0 rfl rfl 1 (by decide) u_1_198 rfl rfl rfl ?_
      refine j_iload_n (pc' := 93) K dX11_shape_92 rfl 2 rfl rfl ?_
      obtain ⟨hg, h⟩ := jgd_some h
      by_cases hc : v1 = 0
      · have h := jit hc h
        refine j_aald (pc' := 94) K dX11_shape_93 3 4 rfl rfl hg (by rw [hc]; rfl) rfl ?_
        refine j_iload_n (pc' := 95) K dX11_shape_94 rfl 3 rfl rfl ?_
        obtain ⟨r95, hr95, h⟩ := jbd_some h
        refine j_ro (pc' := 98) K (fun H hP => jrun_V K dX11_shape_95 (M_X2_greatestPlace (jl E) (jg E) (a0 4) (a0 5) (a0 6) (a0 7) (a0 8) (a0 9) v2 (X_law0 s0) hr95) u_2_128 u_2_125 u_2_126 u_2_127 u_1_11 ⟨ok_X2_greatestPlace, by decide, by decide⟩ rfl (Nat.le_of_ble_eq_true rfl) 4 rfl rfl H hP) [4, 5, 6, 7, 8, 9] (cl_15_f ..) rfl ?_
        obtain rfl := Option.some.inj h
        exact HR _ _ dX11_shape_98
      have hc0 := hc
      have h := jif hc h
      by_cases hc : v1 = 1
      · have h := jit hc h
        refine j_aald (pc' := 94) K dX11_shape_93 3 4 rfl rfl hg (by rw [hc]; rfl) rfl ?_
        refine j_iload_n (pc' := 95) K dX11_shape_94 rfl 3 rfl rfl ?_
        obtain ⟨r95, hr95, h⟩ := jbd_some h
        refine j_ro (pc' := 98) K (fun H hP => jrun_V K dX11_shape_95 (M_X2_greatestPlace (jl E) (jg E) (a0 10) (a0 11) (a0 12) (a0 13) (a0 14) (a0 15) v2 (X_law1 s0) hr95) u_2_128 u_2_125 u_2_126 u_2_127 u_1_11 ⟨ok_X2_greatestPlace, by decide, by decide⟩ rfl (Nat.le_of_ble_eq_true rfl) 10 rfl rfl H hP) [10, 11, 12, 13, 14, 15] (cl_16_f ..) rfl ?_
        obtain rfl := Option.some.inj h
        exact HR _ _ dX11_shape_98
      have hc1 := hc
      have h := jif hc h
      by_cases hc : v1 = 2
      · have h := jit hc h
        refine j_aald (pc' := 94) K dX11_shape_93 3 4 rfl rfl hg (by rw [hc]; rfl) rfl ?_
        refine j_iload_n (pc' := 95) K dX11_shape_94 rfl 3 rfl rfl ?_
        obtain ⟨r95, hr95, h⟩ := jbd_some h
        refine j_ro (pc' := 98) K (fun H hP => jrun_V K dX11_shape_95 (M_X2_greatestPlace (jl E) (jg E) (a0 16) (a0 17) (a0 18) (a0 19) (a0 20) (a0 21) v2 (X_law2 s0) hr95) u_2_128 u_2_125 u_2_126 u_2_127 u_1_11 ⟨ok_X2_greatestPlace, by decide, by decide⟩ rfl (Nat.le_of_ble_eq_true rfl) 16 rfl rfl H hP) [16, 17, 18, 19, 20, 21] (cl_17_f ..) rfl ?_
        obtain rfl := Option.some.inj h
        exact HR _ _ dX11_shape_98
      have hc2 := hc
      have h := jif hc h
      have hc : v1 = 3 := jin4 hg hc0 hc1 hc2
      refine j_aald (pc' := 94) K dX11_shape_93 3 4 rfl rfl hg (by rw [hc]; rfl) rfl ?_
      refine j_iload_n (pc' := 95) K dX11_shape_94 rfl 3 rfl rfl ?_
      obtain ⟨r95, hr95, h⟩ := jbd_some h
      refine j_ro (pc' := 98) K (fun H hP => jrun_V K dX11_shape_95 (M_X2_greatestPlace (jl E) (jg E) (a0 22) (a0 23) (a0 24) (a0 25) (a0 26) (a0 27) v2 (X_law3 s0) hr95) u_2_128 u_2_125 u_2_126 u_2_127 u_1_11 ⟨ok_X2_greatestPlace, by decide, by decide⟩ rfl (Nat.le_of_ble_eq_true rfl) 22 rfl rfl H hP) [22, 23, 24, 25, 26, 27] (cl_18_f ..) rfl ?_
      obtain rfl := Option.some.inj h
      exact HR _ _ dX11_shape_98
    have hc0 := hc
    have h := jif hc h
    by_cases hc : v3 = 1
    · have h := jit hc h
      refine j_look (tgt := 99) K dX11_shape_63 (by decide) (by rw [hc]) (by decide) ?_
      refine j_aload_n (pc' := 100) K dX11_shape_99 rfl 1 rfl rfl ?_
      refine j_get (pc' := 103) K dX11_shape_100 inX11 0 rfl rfl 1 (by decide) u_1_198 rfl rfl rfl ?_
      refine j_iload_n (pc' := 104) K dX11_shape_103 rfl 2 rfl rfl ?_
      obtain ⟨hg, h⟩ := jgd_some h
      by_cases hc : v1 = 0
      · have h := jit hc h
        refine j_aald (pc' := 105) K dX11_shape_104 3 4 rfl rfl hg (by rw [hc]; rfl) rfl ?_
        refine j_iload_n (pc' := 106) K dX11_shape_105 rfl 3 rfl rfl ?_
        obtain ⟨r106, hr106, h⟩ := jbd_some h
        refine j_ro (pc' := 109) K (fun H hP => jrun_V K dX11_shape_106 (M_X2_breakPlace (jl E) (jg E) (a0 4) (a0 5) (a0 6) (a0 7) (a0 8) (a0 9) v2 (X_law0 s0) hr106) u_2_132 u_2_129 u_2_130 u_2_131 u_1_11 ⟨ok_X2_breakPlace, by decide, by decide⟩ rfl (Nat.le_of_ble_eq_true rfl) 4 rfl rfl H hP) [4, 5, 6, 7, 8, 9] (cl_15_f ..) rfl ?_
        obtain rfl := Option.some.inj h
        exact HR _ _ dX11_shape_109
      have hc0 := hc
      have h := jif hc h
      by_cases hc : v1 = 1
      · have h := jit hc h
        refine j_aald (pc' := 105) K dX11_shape_104 3 4 rfl rfl hg (by rw [hc]; rfl) rfl ?_
        refine j_iload_n (pc' := 106) K dX11_shape_105 rfl 3 rfl rfl ?_
        obtain ⟨r106, hr106, h⟩ := jbd_some h
        refine j_ro (pc' := 109) K (fun H hP => jrun_V K dX11_shape_106 (M_X2_breakPlace (jl E) (jg E) (a0 10) (a0 11) (a0 12) (a0 13) (a0 14) (a0 15) v2 (X_law1 s0) hr106) u_2_132 u_2_129 u_2_130 u_2_131 u_1_11 ⟨ok_X2_breakPlace, by decide, by decide⟩ rfl (Nat.le_of_ble_eq_true rfl) 10 rfl rfl H hP) [10, 11, 12, 13, 14, 15] (cl_16_f ..) rfl ?_
        obtain rfl := Option.some.inj h
        exact HR _ _ dX11_shape_109
      have hc1 := hc
      have h := jif hc h
      by_cases hc : v1 = 2
      · have h := jit hc h
        refine j_aald (pc' := 105) K dX11_shape_104 3 4 rfl rfl hg (by rw [hc]; rfl) rfl ?_
        refine j_iload_n (pc' := 106) K dX11_shape_105 rfl 3 rfl rfl ?_
        obtain ⟨r106, hr106, h⟩ := jbd_some h
        refine j_ro (pc' := 109) K (fun H hP => jrun_V K dX11_shape_106 (M_X2_breakPlace (jl E) (jg E) (a0 16) (a0 17) (a0 18) (a0 19) (a0 20) (a0 21) v2 (X_law2 s0) hr106) u_2_132 u_2_129 u_2_130 u_2_131 u_1_11 ⟨ok_X2_breakPlace, by decide, by decide⟩ rfl (Nat.le_of_ble_eq_true rfl) 16 rfl rfl H hP) [16, 17, 18, 19, 20, 21] (cl_17_f ..) rfl ?_
        obtain rfl := Option.some.inj h
        exact HR _ _ dX11_shape_109
      have hc2 := hc
      have h := jif hc h
      have hc : v1 = 3 := jin4 hg hc0 hc1 hc2
      refine j_aald (pc' := 105) K dX11_shape_104 3 4 rfl rfl hg (by rw [hc]; rfl) rfl ?_
      refine j_iload_n (pc' := 106) K dX11_shape_105 rfl 3 rfl rfl ?_
      obtain ⟨r106, hr106, h⟩ := jbd_some h
      refine j_ro (pc' := 109) K (fun H hP => jrun_V K dX11_shape_106 (M_X2_breakPlace (jl E) (jg E) (a0 22) (a0 23) (a0 24) (a0 25) (a0 26) (a0 27) v2 (X_law3 s0) hr106) u_2_132 u_2_129 u_2_130 u_2_131 u_1_11 ⟨ok_X2_breakPlace, by decide, by decide⟩ rfl (Nat.le_of_ble_eq_true rfl) 22 rfl rfl H hP) [22, 23, 24, 25, 26, 27] (cl_18_f ..) rfl ?_
      obtain rfl := Option.some.inj h
      exact HR _ _ dX11_shape_109
    have hc1 := hc
    have h := jif hc h
    refine j_look (tgt := 110) K dX11_shape_63 (by decide) (jlook2 hc0 hc1) (by decide) ?_
    refine j_aload_n (pc' := 111) K dX11_shape_110 rfl 1 rfl rfl ?_
    refine j_get (pc' := 114) K dX11_shape_111 inX11 0 rfl rfl 1 (by decide) u_1_198 rfl rfl rfl ?_
    refine j_iload_n (pc' := 115) K dX11_shape_114 rfl 2 rfl rfl ?_
    obtain ⟨hg, h⟩ := jgd_some h
    by_cases hc : v1 = 0
    · have h := jit hc h
      refine j_aald (pc' := 116) K dX11_shape_115 3 4 rfl rfl hg (by rw [hc]; rfl) rfl ?_
      refine j_iload_n (pc' := 117) K dX11_shape_116 rfl 3 rfl rfl ?_
      obtain ⟨r117, hr117, h⟩ := jbd_some h
      refine j_ro (pc' := 120) K (fun H hP => jrun_V K dX11_shape_117 (M_X2_bowedPlace (jl E) (jg E) (a0 4) (a0 5) (a0 6) (a0 7) (a0 8) (a0 9) v2 (X_law0 s0) hr117) u_2_136 u_2_133 u_2_134 u_2_135 u_1_11 ⟨ok_X2_bowedPlace, by decide, by decide⟩ rfl (Nat.le_of_ble_eq_true rfl) 4 rfl rfl H hP) [4, 5, 6, 7, 8, 9] (cl_15_f ..) rfl ?_
      obtain rfl := Option.some.inj h
      exact HR _ _ dX11_shape_120
    have hc0 := hc
    have h := jif hc h
    by_cases hc : v1 = 1
    · have h := jit hc h
      refine j_aald (pc' := 116) K dX11_shape_115 3 4 rfl rfl hg (by rw [hc]; rfl) rfl ?_
      refine j_iload_n (pc' := 117) K dX11_shape_116 rfl 3 rfl rfl ?_
      obtain ⟨r117, hr117, h⟩ := jbd_some h
      refine j_ro (pc' := 120) K (fun H hP => jrun_V K dX11_shape_117 (M_X2_bowedPlace (jl E) (jg E) (a0 10) (a0 11) (a0 12) (a0 13) (a0 14) (a0 15) v2 (X_law1 s0) hr117) u_2_136 u_2_133 u_2_134 u_2_135 u_1_11 ⟨ok_X2_bowedPlace, by decide, by decide⟩ rfl (Nat.le_of_ble_eq_true rfl) 10 rfl rfl H hP) [10, 11, 12, 13, 14, 15] (cl_16_f ..) rfl ?_
      obtain rfl := Option.some.inj h
      exact HR _ _ dX11_shape_120
    have hc1 := hc
    have h := jif hc h
    by_cases hc : v1 = 2
    · have h := jit hc h
      refine j_aald (pc' := 116) K dX11_shape_115 3 4 rfl rfl hg (by rw [hc]; rfl) rfl ?_
      refine j_iload_n (pc' := 117) K dX11_shape_116 rfl 3 rfl rfl ?_
      obtain ⟨r117, hr117, h⟩ := jbd_some h
      refine j_ro (pc' := 120) K (fun H hP => jrun_V K dX11_shape_117 (M_X2_bowedPlace (jl E) (jg E) (a0 16) (a0 17) (a0 18) (a0 19) (a0 20) (a0 21) v2 (X_law2 s0) hr117) u_2_136 u_2_133 u_2_134 u_2_135 u_1_11 ⟨ok_X2_bowedPlace, by decide, by decide⟩ rfl (Nat.le_of_ble_eq_true rfl) 16 rfl rfl H hP) [16, 17, 18, 19, 20, 21] (cl_17_f ..) rfl ?_
      obtain rfl := Option.some.inj h
      exact HR _ _ dX11_shape_120
    have hc2 := hc
    have h := jif hc h
    have hc : v1 = 3 := jin4 hg hc0 hc1 hc2
    refine j_aald (pc' := 116) K dX11_shape_115 3 4 rfl rfl hg (by rw [hc]; rfl) rfl ?_
    refine j_iload_n (pc' := 117) K dX11_shape_116 rfl 3 rfl rfl ?_
    obtain ⟨r117, hr117, h⟩ := jbd_some h
    refine j_ro (pc' := 120) K (fun H hP => jrun_V K dX11_shape_117 (M_X2_bowedPlace (jl E) (jg E) (a0 22) (a0 23) (a0 24) (a0 25) (a0 26) (a0 27) v2 (X_law3 s0) hr117) u_2_136 u_2_133 u_2_134 u_2_135 u_1_11 ⟨ok_X2_bowedPlace, by decide, by decide⟩ rfl (Nat.le_of_ble_eq_true rfl) 22 rfl rfl H hP) [22, 23, 24, 25, 26, 27] (cl_18_f ..) rfl ?_
    obtain rfl := Option.some.inj h
    exact HR _ _ dX11_shape_120
  · have h := jit hc h
    refine j_bipush (pc' := 61) (v := (-2 : Int32)) K dX11_shape_59 (by decide) rfl ?_
    obtain rfl := Option.some.inj h
    exact HR _ _ dX11_shape_61
set_option maxRecDepth 100000 in
set_option maxHeartbeats 4000000 in
theorem b_X11_shape {E : jE} (a0 : Nat → Nat) (s0 : XS) {res : Int32} (K : jC E cX11_shape 6 RX11 4) (HR : jRI E cX11_shape 6 (wX (jg E) a0 s0) res) : ∀ (v1 : Int32) (v2 : Int32) (v3 : Int32), f_X11_shape v1 v2 v3 s0 = some res → J E 6 (wX (jg E) a0 s0) 0 [(0, .ref (a0 0)), (1, .int v1), (2, .int v2), (3, .int v3)] [] := by
  intro v1 v2 v3 h
  unfold f_X11_shape at h
  refine j_iload_n (pc' := 1) K dX11_shape_0 rfl 1 rfl rfl ?_
  obtain ⟨r1, hr1, h⟩ := jbd_some h
  refine j_ro (pc' := 4) K (fun H hP => jrun_S K dX11_shape_1 (M_X11_isLaw (jl E) (jg E) v1 hr1) u_2_23 u_2_21 u_2_22 u_1_1 ⟨ok_X11_isLaw, by decide, by decide⟩ rfl (Nat.le_of_ble_eq_true rfl) H) [] rfl rfl ?_
  refine j_if_eq (pc' := 7) (tgt := 26) K dX11_shape_4 (by decide) rfl (fun hc => ?_) (fun hc => ?_)
  · have h := jit hc h
    refine j_iconst (pc' := 27) (v := (-1 : Int32)) K dX11_shape_26 (by decide) rfl ?_
    obtain rfl := Option.some.inj h
    exact HR _ _ dX11_shape_27
  · have h := jif hc h
    refine j_iload_n (pc' := 8) K dX11_shape_7 rfl 2 rfl rfl ?_
    refine j_iconst (pc' := 9) (v := (0 : Int32)) K dX11_shape_8 (by decide) rfl ?_
    refine j_bipush (pc' := 11) (v := (24 : Int32)) K dX11_shape_9 (by decide) rfl ?_
    obtain ⟨r11, hr11, h⟩ := jbd_some h
    refine j_ro (pc' := 14) K (fun H hP => jrun_S K dX11_shape_11 (M_X11_within (jl E) (jg E) v2 (0 : Int32) (24 : Int32) hr11) u_1_76 u_1_217 u_1_75 u_1_1 ⟨ok_X11_within, by decide, by decide⟩ rfl (Nat.le_of_ble_eq_true rfl) H) [] rfl rfl ?_
    refine j_if_eq (pc' := 17) (tgt := 26) K dX11_shape_14 (by decide) rfl (fun hc => ?_) (fun hc => ?_)
    · have h := jit hc h
      refine j_iconst (pc' := 27) (v := (-1 : Int32)) K dX11_shape_26 (by decide) rfl ?_
      obtain rfl := Option.some.inj h
      exact HR _ _ dX11_shape_27
    · have h := jif hc h
      refine j_iload_n (pc' := 18) K dX11_shape_17 rfl 3 rfl rfl ?_
      refine j_iconst (pc' := 19) (v := (0 : Int32)) K dX11_shape_18 (by decide) rfl ?_
      refine j_iconst (pc' := 20) (v := (2 : Int32)) K dX11_shape_19 (by decide) rfl ?_
      obtain ⟨r20, hr20, h⟩ := jbd_some h
      refine j_ro (pc' := 23) K (fun H hP => jrun_S K dX11_shape_20 (M_X11_within (jl E) (jg E) v3 (0 : Int32) (2 : Int32) hr20) u_1_76 u_1_217 u_1_75 u_1_1 ⟨ok_X11_within, by decide, by decide⟩ rfl (Nat.le_of_ble_eq_true rfl) H) [] rfl rfl ?_
      refine j_if_ne (pc' := 26) (tgt := 28) K dX11_shape_23 (by decide) rfl (fun hc => ?_) (fun hc => ?_)
      · have h := jif hc h
        refine j_iload_n (pc' := 29) K dX11_shape_28 rfl 3 rfl rfl ?_
        refine j_iconst (pc' := 30) (v := (2 : Int32)) K dX11_shape_29 (by decide) rfl ?_
        refine j_icmp_ne (pc' := 33) (tgt := 39) K dX11_shape_30 (by decide) rfl (fun hc => ?_) (fun hc => ?_)
        · have h := jif hc h
          refine j_ldc2 (pc' := 42) K dX11_shape_39 u_2_123 rfl ?_
          refine j_sub [0, 1, 2, 3] rfl ?_
          exact b_X11_shape_42 a0 s0 K HR v1 v2 v3 (100000000000000000 : Int64) h
        · have h := jit hc h
          refine j_ldc2 (pc' := 36) K dX11_shape_33 u_2_122 rfl ?_
          refine j_goto (tgt := 42) K dX11_shape_36 (by decide) ?_
          refine j_sub [0, 1, 2, 3] rfl ?_
          exact b_X11_shape_42 a0 s0 K HR v1 v2 v3 (100000000 : Int64) h
      · have h := jit hc h
        refine j_iconst (pc' := 27) (v := (-1 : Int32)) K dX11_shape_26 (by decide) rfl ?_
        obtain rfl := Option.some.inj h
        exact HR _ _ dX11_shape_27
set_option maxRecDepth 100000 in
set_option maxHeartbeats 4000000 in
theorem M_X11_shape (l : Launch) (G : jG) (a0 : Nat → Nat) (v1 : Int32) (v2 : Int32) (v3 : Int32) (s0 : XS) {r : Int32} (h : f_X11_shape v1 v2 v3 s0 = some r) : MC l yX11_shape cX11_shape 6 (some .int) 4 G jNo False (wX G a0 s0) (wX G a0 s0) [.ref (a0 0), .int v1, .int v2, .int v3] (some (.int r)) := by
  refine mc_int (by decide +kernel) (Nat.le_of_ble_eq_true rfl) fun E hl hg hA hrw K HR => ?_
  subst hl
  subst hg
  exact b_X11_shape a0 s0 K HR v1 v2 v3 h
theorem ok_X11_rest : yX11_rest.cls ≠ "java/lang/invoke/MethodHandle" ∧ yX11_rest.cls ≠ "java/lang/invoke/VarHandle" ∧ (parseMethodDescriptor yX11_rest.desc).map (fun d => d.parameters.length) = some 4 := ⟨by decide, by decide, by decide +kernel⟩
def f_X11_rest (v1 : Int32) (v2 : Int32) (v3 : Int32) (v4 : Int32) (s0 : XS) : Option (Int32 × XS) :=
   jbd (f_X11_isLaw v1) (fun r1 =>
   if r1 = 0 then
    some ((-1 : Int32), s0)
   else
    jbd (f_X11_isPlace v2 v3 (60 : Int32)) (fun r11 =>
     if r11 = 0 then
      some ((-1 : Int32), s0)
     else
      jbd (f_X11_within v4 (2 : Int32) (10000 : Int32)) (fun r23 =>
       if r23 = 0 then
        some ((-1 : Int32), s0)
       else
        jgd v1 4 (
         if v1 = 0 then (
          jbd (f_X2_restAt v2 v3 v4 (X_law0 s0)) (fun r41 =>
           some ((r41.1), (X_law0_s s0 (r41.2))))) else if v1 = 1 then (
          jbd (f_X2_restAt v2 v3 v4 (X_law1 s0)) (fun r41 =>
           some ((r41.1), (X_law1_s s0 (r41.2))))) else if v1 = 2 then (
          jbd (f_X2_restAt v2 v3 v4 (X_law2 s0)) (fun r41 =>
           some ((r41.1), (X_law2_s s0 (r41.2))))) else (
          jbd (f_X2_restAt v2 v3 v4 (X_law3 s0)) (fun r41 =>
           some ((r41.1), (X_law3_s s0 (r41.2)))))))))
set_option maxRecDepth 100000 in
set_option maxHeartbeats 4000000 in
theorem b_X11_rest {E : jE} (a0 : Nat → Nat) {res : Int32 × XS} (K : jC E cX11_rest 5 RX11 3) (hrw : jrw E) (HR : jRI E cX11_rest 5 (wX (jg E) a0 (res.2)) (res.1)) : ∀ (v1 : Int32) (v2 : Int32) (v3 : Int32) (v4 : Int32) (s0 : XS), f_X11_rest v1 v2 v3 v4 s0 = some res → J E 5 (wX (jg E) a0 s0) 0 [(0, .ref (a0 0)), (1, .int v1), (2, .int v2), (3, .int v3), (4, .int v4)] [] := by
  intro v1 v2 v3 v4 s0 h
  unfold f_X11_rest at h
  refine j_iload_n (pc' := 1) K dX11_rest_0 rfl 1 rfl rfl ?_
  obtain ⟨r1, hr1, h⟩ := jbd_some h
  refine j_ro (pc' := 4) K (fun H hP => jrun_S K dX11_rest_1 (M_X11_isLaw (jl E) (jg E) v1 hr1) u_2_23 u_2_21 u_2_22 u_1_1 ⟨ok_X11_isLaw, by decide, by decide⟩ rfl (Nat.le_of_ble_eq_true rfl) H) [] rfl rfl ?_
  refine j_if_eq (pc' := 7) (tgt := 29) K dX11_rest_4 (by decide) rfl (fun hc => ?_) (fun hc => ?_)
  · have h := jit hc h
    refine j_iconst (pc' := 30) (v := (-1 : Int32)) K dX11_rest_29 (by decide) rfl ?_
    obtain rfl := Option.some.inj h
    exact HR _ _ dX11_rest_30
  · have h := jif hc h
    refine j_iload_n (pc' := 8) K dX11_rest_7 rfl 2 rfl rfl ?_
    refine j_iload_n (pc' := 9) K dX11_rest_8 rfl 3 rfl rfl ?_
    refine j_bipush (pc' := 11) (v := (60 : Int32)) K dX11_rest_9 (by decide) rfl ?_
    obtain ⟨r11, hr11, h⟩ := jbd_some h
    refine j_ro (pc' := 14) K (fun H hP => jrun_S K dX11_rest_11 (M_X11_isPlace (jl E) (jg E) v2 v3 (60 : Int32) hr11) u_2_63 u_2_89 u_2_62 u_1_1 ⟨ok_X11_isPlace, by decide, by decide⟩ rfl (Nat.le_of_ble_eq_true rfl) H) [] rfl rfl ?_
    refine j_if_eq (pc' := 17) (tgt := 29) K dX11_rest_14 (by decide) rfl (fun hc => ?_) (fun hc => ?_)
    · have h := jit hc h
      refine j_iconst (pc' := 30) (v := (-1 : Int32)) K dX11_rest_29 (by decide) rfl ?_
      obtain rfl := Option.some.inj h
      exact HR _ _ dX11_rest_30
    · have h := jif hc h
      refine j_iload (pc' := 19) K dX11_rest_17 4 rfl rfl ?_
      refine j_iconst (pc' := 20) (v := (2 : Int32)) K dX11_rest_19 (by decide) rfl ?_
      refine j_sipush (pc' := 23) (v := (10000 : Int32)) K dX11_rest_20 (by decide) rfl ?_
      obtain ⟨r23, hr23, h⟩ := jbd_some h
      refine j_ro (pc' := 26) K (fun H hP => jrun_S K dX11_rest_23 (M_X11_within (jl E) (jg E) v4 (2 : Int32) (10000 : Int32) hr23) u_1_76 u_1_217 u_1_75 u_1_1 ⟨ok_X11_within, by decide, by decide⟩ rfl (Nat.le_of_ble_eq_true rfl) H) [] rfl rfl ?_
      refine j_if_ne (pc' := 29) (tgt := 31) K dX11_rest_26 (by decide) rfl (fun hc => ?_) (fun hc => ?_)
      · have h := jif hc h
        refine j_aload_n (pc' := 32) K dX11_rest_31 rfl 0 rfl rfl ?_
        refine j_get (pc' := 35) K dX11_rest_32 inX11 0 rfl rfl 1 (by decide) u_1_198 rfl rfl rfl ?_
        refine j_iload_n (pc' := 36) K dX11_rest_35 rfl 1 rfl rfl ?_
        obtain ⟨hg, h⟩ := jgd_some h
        by_cases hc : v1 = 0
        · have h := jit hc h
          refine j_aald (pc' := 37) K dX11_rest_36 3 4 rfl rfl hg (by rw [hc]; rfl) rfl ?_
          refine j_iload_n (pc' := 38) K dX11_rest_37 rfl 2 rfl rfl ?_
          refine j_iload_n (pc' := 39) K dX11_rest_38 rfl 3 rfl rfl ?_
          refine j_iload (pc' := 41) K dX11_rest_39 4 rfl rfl ?_
          obtain ⟨r41, hr41, h⟩ := jbd_some h
          refine j_rw (pc' := 44) (ws' := (wX (jg E) a0 (X_law0_s s0 (r41.2)))) K (fun H hP => jrun_V K dX11_rest_41 (M_X2_restAt (jl E) (jg E) (a0 4) (a0 5) (a0 6) (a0 7) (a0 8) (a0 9) v2 v3 v4 (X_law0 s0) hr41) u_2_144 u_2_141 u_2_142 u_2_143 u_1_11 ⟨ok_X2_restAt, by decide, by decide⟩ rfl (Nat.le_of_ble_eq_true rfl) 4 rfl rfl H hP) hrw [4, 5, 6, 7, 8, 9] rfl (cl_22_s ..) rfl (cl_22_m ..) (ad_X ..) rfl ?_
          obtain rfl := Option.some.inj h
          exact HR _ _ dX11_rest_44
        have hc0 := hc
        have h := jif hc h
        by_cases hc : v1 = 1
        · have h := jit hc h
          refine j_aald (pc' := 37) K dX11_rest_36 3 4 rfl rfl hg (by rw [hc]; rfl) rfl ?_
          refine j_iload_n (pc' := 38) K dX11_rest_37 rfl 2 rfl rfl ?_
          refine j_iload_n (pc' := 39) K dX11_rest_38 rfl 3 rfl rfl ?_
          refine j_iload (pc' := 41) K dX11_rest_39 4 rfl rfl ?_
          obtain ⟨r41, hr41, h⟩ := jbd_some h
          refine j_rw (pc' := 44) (ws' := (wX (jg E) a0 (X_law1_s s0 (r41.2)))) K (fun H hP => jrun_V K dX11_rest_41 (M_X2_restAt (jl E) (jg E) (a0 10) (a0 11) (a0 12) (a0 13) (a0 14) (a0 15) v2 v3 v4 (X_law1 s0) hr41) u_2_144 u_2_141 u_2_142 u_2_143 u_1_11 ⟨ok_X2_restAt, by decide, by decide⟩ rfl (Nat.le_of_ble_eq_true rfl) 10 rfl rfl H hP) hrw [10, 11, 12, 13, 14, 15] rfl (cl_23_s ..) rfl (cl_23_m ..) (ad_X ..) rfl ?_
          obtain rfl := Option.some.inj h
          exact HR _ _ dX11_rest_44
        have hc1 := hc
        have h := jif hc h
        by_cases hc : v1 = 2
        · have h := jit hc h
          refine j_aald (pc' := 37) K dX11_rest_36 3 4 rfl rfl hg (by rw [hc]; rfl) rfl ?_
          refine j_iload_n (pc' := 38) K dX11_rest_37 rfl 2 rfl rfl ?_
          refine j_iload_n (pc' := 39) K dX11_rest_38 rfl 3 rfl rfl ?_
          refine j_iload (pc' := 41) K dX11_rest_39 4 rfl rfl ?_
          obtain ⟨r41, hr41, h⟩ := jbd_some h
          refine j_rw (pc' := 44) (ws' := (wX (jg E) a0 (X_law2_s s0 (r41.2)))) K (fun H hP => jrun_V K dX11_rest_41 (M_X2_restAt (jl E) (jg E) (a0 16) (a0 17) (a0 18) (a0 19) (a0 20) (a0 21) v2 v3 v4 (X_law2 s0) hr41) u_2_144 u_2_141 u_2_142 u_2_143 u_1_11 ⟨ok_X2_restAt, by decide, by decide⟩ rfl (Nat.le_of_ble_eq_true rfl) 16 rfl rfl H hP) hrw [16, 17, 18, 19, 20, 21] rfl (cl_24_s ..) rfl (cl_24_m ..) (ad_X ..) rfl ?_
          obtain rfl := Option.some.inj h
          exact HR _ _ dX11_rest_44
        have hc2 := hc
        have h := jif hc h
        have hc : v1 = 3 := jin4 hg hc0 hc1 hc2
        refine j_aald (pc' := 37) K dX11_rest_36 3 4 rfl rfl hg (by rw [hc]; rfl) rfl ?_
        refine j_iload_n (pc' := 38) K dX11_rest_37 rfl 2 rfl rfl ?_
        refine j_iload_n (pc' := 39) K dX11_rest_38 rfl 3 rfl rfl ?_
        refine j_iload (pc' := 41) K dX11_rest_39 4 rfl rfl ?_
        obtain ⟨r41, hr41, h⟩ := jbd_some h
        refine j_rw (pc' := 44) (ws' := (wX (jg E) a0 (X_law3_s s0 (r41.2)))) K (fun H hP => jrun_V K dX11_rest_41 (M_X2_restAt (jl E) (jg E) (a0 22) (a0 23) (a0 24) (a0 25) (a0 26) (a0 27) v2 v3 v4 (X_law3 s0) hr41) u_2_144 u_2_141 u_2_142 u_2_143 u_1_11 ⟨ok_X2_restAt, by decide, by decide⟩ rfl (Nat.le_of_ble_eq_true rfl) 22 rfl rfl H hP) hrw [22, 23, 24, 25, 26, 27] rfl (cl_25_s ..) rfl (cl_25_m ..) (ad_X ..) rfl ?_
        obtain rfl := Option.some.inj h
        exact HR _ _ dX11_rest_44
      · have h := jit hc h
        refine j_iconst (pc' := 30) (v := (-1 : Int32)) K dX11_rest_29 (by decide) rfl ?_
        obtain rfl := Option.some.inj h
        exact HR _ _ dX11_rest_30
set_option maxRecDepth 100000 in
set_option maxHeartbeats 4000000 in
theorem M_X11_rest (l : Launch) (G : jG) (a0 : Nat → Nat) (v1 : Int32) (v2 : Int32) (v3 : Int32) (v4 : Int32) (s0 : XS) {r : Int32 × XS} (h : f_X11_rest v1 v2 v3 v4 s0 = some r) : MC l yX11_rest cX11_rest 5 (some .int) 3 G (jad (wX G a0 s0)) True (wX G a0 s0) (wX G a0 (r.2)) [.ref (a0 0), .int v1, .int v2, .int v3, .int v4] (some (.int (r.1))) := by
  refine mc_int (by decide +kernel) (Nat.le_of_ble_eq_true rfl) fun E hl hg hA hrw K HR => ?_
  subst hl
  subst hg
  have hrw : jrw E := by rw [hrw]; trivial
  exact b_X11_rest a0 K hrw HR v1 v2 v3 v4 s0 h
theorem ok_X11_times : yX11_times.cls ≠ "java/lang/invoke/MethodHandle" ∧ yX11_times.cls ≠ "java/lang/invoke/VarHandle" ∧ (parseMethodDescriptor yX11_times.desc).map (fun d => d.parameters.length) = some 4 := ⟨by decide, by decide, by decide +kernel⟩
def f_X11_times (v1 : Int32) (v2 : Int32) (v3 : Int32) (v4 : Int32) (s0 : XS) : Option (Int64) :=
   jbd (f_X11_isLaw v1) (fun r1 =>
   if r1 = 0 then
    some (-1000000000000000001 : Int64)
   else
    jbd (f_X11_isLaw v2) (fun r8 =>
     if r8 = 0 then
      some (-1000000000000000001 : Int64)
     else
      jbd (f_X11_isPlace v3 v4 (24 : Int32)) (fun r19 =>
       if r19 = 0 then
        some (-1000000000000000001 : Int64)
       else
        jgd v1 4 (
         if v1 = 0 then (
          jgd v2 4 (
           if v2 = 0 then (
            jbd (f_X2_productAt v3 v4 (X_law0 s0) (X_law0 s0)) (fun r44 =>
             jbd (f_X11_answer r44) (fun r47 =>
              some r47))) else if v2 = 1 then (
            jbd (f_X2_productAt v3 v4 (X_law0 s0) (X_law1 s0)) (fun r44 =>
             jbd (f_X11_answer r44) (fun r47 =>
              some r47))) else if v2 = 2 then (
            jbd (f_X2_productAt v3 v4 (X_law0 s0) (X_law2 s0)) (fun r44 =>
             jbd (f_X11_answer r44) (fun r47 =>
              some r47))) else (
            jbd (f_X2_productAt v3 v4 (X_law0 s0) (X_law3 s0)) (fun r44 =>
             jbd (f_X11_answer r44) (fun r47 =>
              some r47))))) else if v1 = 1 then (
          jgd v2 4 (
           if v2 = 0 then (
            jbd (f_X2_productAt v3 v4 (X_law1 s0) (X_law0 s0)) (fun r44 =>
             jbd (f_X11_answer r44) (fun r47 =>
              some r47))) else if v2 = 1 then (
            jbd (f_X2_productAt v3 v4 (X_law1 s0) (X_law1 s0)) (fun r44 =>
             jbd (f_X11_answer r44) (fun r47 =>
              some r47))) else if v2 = 2 then (
            jbd (f_X2_productAt v3 v4 (X_law1 s0) (X_law2 s0)) (fun r44 =>
             jbd (f_X11_answer r44) (fun r47 =>
              some r47))) else (
            jbd (f_X2_productAt v3 v4 (X_law1 s0) (X_law3 s0)) (fun r44 =>
             jbd (f_X11_answer r44) (fun r47 =>
              some r47))))) else if v1 = 2 then (
          jgd v2 4 (
           if v2 = 0 then (
            jbd (f_X2_productAt v3 v4 (X_law2 s0) (X_law0 s0)) (fun r44 =>
             jbd (f_X11_answer r44) (fun r47 =>
              some r47))) else if v2 = 1 then (
            jbd (f_X2_productAt v3 v4 (X_law2 s0) (X_law1 s0)) (fun r44 =>
             jbd (f_X11_answer r44) (fun r47 =>
              some r47))) else if v2 = 2 then (
            jbd (f_X2_productAt v3 v4 (X_law2 s0) (X_law2 s0)) (fun r44 =>
             jbd (f_X11_answer r44) (fun r47 =>
              some r47))) else (
            jbd (f_X2_productAt v3 v4 (X_law2 s0) (X_law3 s0)) (fun r44 =>
             jbd (f_X11_answer r44) (fun r47 =>
              some r47))))) else (
          jgd v2 4 (
           if v2 = 0 then (
            jbd (f_X2_productAt v3 v4 (X_law3 s0) (X_law0 s0)) (fun r44 =>
             jbd (f_X11_answer r44) (fun r47 =>
              some r47))) else if v2 = 1 then (
            jbd (f_X2_productAt v3 v4 (X_law3 s0) (X_law1 s0)) (fun r44 =>
             jbd (f_X11_answer r44) (fun r47 =>
              some r47))) else if v2 = 2 then (
            jbd (f_X2_productAt v3 v4 (X_law3 s0) (X_law2 s0)) (fun r44 =>
             jbd (f_X11_answer r44) (fun r47 =>
              some r47))) else (
            jbd (f_X2_productAt v3 v4 (X_law3 s0) (X_law3 s0)) (fun r44 =>
             jbd (f_X11_answer r44) (fun r47 =>
              some r47)))))))))
set_option maxRecDepth 100000 in
set_option maxHeartbeats 4000000 in
theorem b_X11_times {E : jE} (a0 : Nat → Nat) (s0 : XS) {res : Int64} (K : jC E cX11_times 5 RX11 4) (HR : jRL E cX11_times 5 (wX (jg E) a0 s0) res) : ∀ (v1 : Int32) (v2 : Int32) (v3 : Int32) (v4 : Int32), f_X11_times v1 v2 v3 v4 s0 = some res → J E 5 (wX (jg E) a0 s0) 0 [(0, .ref (a0 0)), (1, .int v1), (2, .int v2), (3, .int v3), (4, .int v4)] [] := by
  intro v1 v2 v3 v4 h
  unfold f_X11_times at h
  refine j_iload_n (pc' := 1) K dX11_times_0 rfl 1 rfl rfl ?_
  obtain ⟨r1, hr1, h⟩ := jbd_some h
  refine j_ro (pc' := 4) K (fun H hP => jrun_S K dX11_times_1 (M_X11_isLaw (jl E) (jg E) v1 hr1) u_2_23 u_2_21 u_2_22 u_1_1 ⟨ok_X11_isLaw, by decide, by decide⟩ rfl (Nat.le_of_ble_eq_true rfl) H) [] rfl rfl ?_
  refine j_if_eq (pc' := 7) (tgt := 25) K dX11_times_4 (by decide) rfl (fun hc => ?_) (fun hc => ?_)
  · have h := jit hc h
    refine j_ldc2 (pc' := 28) K dX11_times_25 u_2_90 rfl ?_
    obtain rfl := Option.some.inj h
    exact HR _ _ dX11_times_28
  · have h := jif hc h
    refine j_iload_n (pc' := 8) K dX11_times_7 rfl 2 rfl rfl ?_
    obtain ⟨r8, hr8, h⟩ := jbd_some h
    refine j_ro (pc' := 11) K (fun H hP => jrun_S K dX11_times_8 (M_X11_isLaw (jl E) (jg E) v2 hr8) u_2_23 u_2_21 u_2_22 u_1_1 ⟨ok_X11_isLaw, by decide, by decide⟩ rfl (Nat.le_of_ble_eq_true rfl) H) [] rfl rfl ?_
    refine j_if_eq (pc' := 14) (tgt := 25) K dX11_times_11 (by decide) rfl (fun hc => ?_) (fun hc => ?_)
    · have h := jit hc h
      refine j_ldc2 (pc' := 28) K dX11_times_25 u_2_90 rfl ?_
      obtain rfl := Option.some.inj h
      exact HR _ _ dX11_times_28
    · have h := jif hc h
      refine j_iload_n (pc' := 15) K dX11_times_14 rfl 3 rfl rfl ?_
      refine j_iload (pc' := 17) K dX11_times_15 4 rfl rfl ?_
      refine j_bipush (pc' := 19) (v := (24 : Int32)) K dX11_times_17 (by decide) rfl ?_
      obtain ⟨r19, hr19, h⟩ := jbd_some h
      refine j_ro (pc' := 22) K (fun H hP => jrun_S K dX11_times_19 (M_X11_isPlace (jl E) (jg E) v3 v4 (24 : Int32) hr19) u_2_63 u_2_89 u_2_62 u_1_1 ⟨ok_X11_isPlace, by decide, by decide⟩ rfl (Nat.le_of_ble_eq_true rfl) H) [] rfl rfl ?_
      refine j_if_ne (pc' := 25) (tgt := 29) K dX11_times_22 (by decide) rfl (fun hc => ?_) (fun hc => ?_)
      · have h := jif hc h
        refine j_aload_n (pc' := 30) K dX11_times_29 rfl 0 rfl rfl ?_
        refine j_get (pc' := 33) K dX11_times_30 inX11 0 rfl rfl 1 (by decide) u_1_198 rfl rfl rfl ?_
        refine j_iload_n (pc' := 34) K dX11_times_33 rfl 1 rfl rfl ?_
        obtain ⟨hg, h⟩ := jgd_some h
        by_cases hc : v1 = 0
        · have h := jit hc h
          refine j_aald (pc' := 35) K dX11_times_34 3 4 rfl rfl hg (by rw [hc]; rfl) rfl ?_
          refine j_aload_n (pc' := 36) K dX11_times_35 rfl 0 rfl rfl ?_
          refine j_get (pc' := 39) K dX11_times_36 inX11 0 rfl rfl 1 (by decide) u_1_198 rfl rfl rfl ?_
          refine j_iload_n (pc' := 40) K dX11_times_39 rfl 2 rfl rfl ?_
          obtain ⟨hg, h⟩ := jgd_some h
          by_cases hc : v2 = 0
          · have h := jit hc h
            refine j_aald (pc' := 41) K dX11_times_40 3 4 rfl rfl hg (by rw [hc]; rfl) rfl ?_
            refine j_iload_n (pc' := 42) K dX11_times_41 rfl 3 rfl rfl ?_
            refine j_iload (pc' := 44) K dX11_times_42 4 rfl rfl ?_
            obtain ⟨r44, hr44, h⟩ := jbd_some h
            refine j_ro (pc' := 47) K (fun H hP => jrun_V K dX11_times_44 (M_X2_productAt (jl E) (jg E) (a0 4) (a0 5) (a0 6) (a0 7) (a0 8) (a0 9) (a0 4) (a0 5) (a0 6) (a0 7) (a0 8) (a0 9) v3 v4 (X_law0 s0) (X_law0 s0) hr44) u_2_158 u_2_155 u_2_156 u_2_157 u_1_11 ⟨ok_X2_productAt, by decide, by decide⟩ rfl (Nat.le_of_ble_eq_true rfl) 4 rfl rfl H hP) [4, 5, 6, 7, 8, 9, 4, 5, 6, 7, 8, 9] (cl_26_f ..) rfl ?_
            obtain ⟨r47, hr47, h⟩ := jbd_some h
            refine j_ro (pc' := 50) K (fun H hP => jrun_S K dX11_times_47 (M_X11_answer (jl E) (jg E) r44 hr47) u_2_94 u_2_92 u_2_93 u_1_1 ⟨ok_X11_answer, by decide, by decide⟩ rfl (Nat.le_of_ble_eq_true rfl) H) [] rfl rfl ?_
            obtain rfl := Option.some.inj h
            exact HR _ _ dX11_times_50
          have hc0 := hc
          have h := jif hc h
          by_cases hc : v2 = 1
          · have h := jit hc h
            refine j_aald (pc' := 41) K dX11_times_40 3 4 rfl rfl hg (by rw [hc]; rfl) rfl ?_
            refine j_iload_n (pc' := 42) K dX11_times_41 rfl 3 rfl rfl ?_
            refine j_iload (pc' := 44) K dX11_times_42 4 rfl rfl ?_
            obtain ⟨r44, hr44, h⟩ := jbd_some h
            refine j_ro (pc' := 47) K (fun H hP => jrun_V K dX11_times_44 (M_X2_productAt (jl E) (jg E) (a0 4) (a0 5) (a0 6) (a0 7) (a0 8) (a0 9) (a0 10) (a0 11) (a0 12) (a0 13) (a0 14) (a0 15) v3 v4 (X_law0 s0) (X_law1 s0) hr44) u_2_158 u_2_155 u_2_156 u_2_157 u_1_11 ⟨ok_X2_productAt, by decide, by decide⟩ rfl (Nat.le_of_ble_eq_true rfl) 4 rfl rfl H hP) [4, 5, 6, 7, 8, 9, 10, 11, 12, 13, 14, 15] (cl_27_f ..) rfl ?_
            obtain ⟨r47, hr47, h⟩ := jbd_some h
            refine j_ro (pc' := 50) K (fun H hP => jrun_S K dX11_times_47 (M_X11_answer (jl E) (jg E) r44 hr47) u_2_94 u_2_92 u_2_93 u_1_1 ⟨ok_X11_answer, by decide, by decide⟩ rfl (Nat.le_of_ble_eq_true rfl) H) [] rfl rfl ?_
            obtain rfl := Option.some.inj h
            exact HR _ _ dX11_times_50
          have hc1 := hc
          have h := jif hc h
          by_cases hc : v2 = 2
          · have h := jit hc h
            refine j_aald (pc' := 41) K dX11_times_40 3 4 rfl rfl hg (by rw [hc]; rfl) rfl ?_
            refine j_iload_n (pc' := 42) K dX11_times_41 rfl 3 rfl rfl ?_
            refine j_iload (pc' := 44) K dX11_times_42 4 rfl rfl ?_
            obtain ⟨r44, hr44, h⟩ := jbd_some h
            refine j_ro (pc' := 47) K (fun H hP => jrun_V K dX11_times_44 (M_X2_productAt (jl E) (jg E) (a0 4) (a0 5) (a0 6) (a0 7) (a0 8) (a0 9) (a0 16) (a0 17) (a0 18) (a0 19) (a0 20) (a0 21) v3 v4 (X_law0 s0) (X_law2 s0) hr44) u_2_158 u_2_155 u_2_156 u_2_157 u_1_11 ⟨ok_X2_productAt, by decide, by decide⟩ rfl (Nat.le_of_ble_eq_true rfl) 4 rfl rfl H hP) [4, 5, 6, 7, 8, 9, 16, 17, 18, 19, 20, 21] (cl_28_f ..) rfl ?_
            obtain ⟨r47, hr47, h⟩ := jbd_some h
            refine j_ro (pc' := 50) K (fun H hP => jrun_S K dX11_times_47 (M_X11_answer (jl E) (jg E) r44 hr47) u_2_94 u_2_92 u_2_93 u_1_1 ⟨ok_X11_answer, by decide, by decide⟩ rfl (Nat.le_of_ble_eq_true rfl) H) [] rfl rfl ?_
            obtain rfl := Option.some.inj h
            exact HR _ _ dX11_times_50
          have hc2 := hc
          have h := jif hc h
          have hc : v2 = 3 := jin4 hg hc0 hc1 hc2
          refine j_aald (pc' := 41) K dX11_times_40 3 4 rfl rfl hg (by rw [hc]; rfl) rfl ?_
          refine j_iload_n (pc' := 42) K dX11_times_41 rfl 3 rfl rfl ?_
          refine j_iload (pc' := 44) K dX11_times_42 4 rfl rfl ?_
          obtain ⟨r44, hr44, h⟩ := jbd_some h
          refine j_ro (pc' := 47) K (fun H hP => jrun_V K dX11_times_44 (M_X2_productAt (jl E) (jg E) (a0 4) (a0 5) (a0 6) (a0 7) (a0 8) (a0 9) (a0 22) (a0 23) (a0 24) (a0 25) (a0 26) (a0 27) v3 v4 (X_law0 s0) (X_law3 s0) hr44) u_2_158 u_2_155 u_2_156 u_2_157 u_1_11 ⟨ok_X2_productAt, by decide, by decide⟩ rfl (Nat.le_of_ble_eq_true rfl) 4 rfl rfl H hP) [4, 5, 6, 7, 8, 9, 22, 23, 24, 25, 26, 27] (cl_29_f ..) rfl ?_
          obtain ⟨r47, hr47, h⟩ := jbd_some h
          refine j_ro (pc' := 50) K (fun H hP => jrun_S K dX11_times_47 (M_X11_answer (jl E) (jg E) r44 hr47) u_2_94 u_2_92 u_2_93 u_1_1 ⟨ok_X11_answer, by decide, by decide⟩ rfl (Nat.le_of_ble_eq_true rfl) H) [] rfl rfl ?_
          obtain rfl := Option.some.inj h
          exact HR _ _ dX11_times_50
        have hc0 := hc
        have h := jif hc h
        by_cases hc : v1 = 1
        · have h := jit hc h
          refine j_aald (pc' := 35) K dX11_times_34 3 4 rfl rfl hg (by rw [hc]; rfl) rfl ?_
          refine j_aload_n (pc' := 36) K dX11_times_35 rfl 0 rfl rfl ?_
          refine j_get (pc' := 39) K dX11_times_36 inX11 0 rfl rfl 1 (by decide) u_1_198 rfl rfl rfl ?_
          refine j_iload_n (pc' := 40) K dX11_times_39 rfl 2 rfl rfl ?_
          obtain ⟨hg, h⟩ := jgd_some h
          by_cases hc : v2 = 0
          · have h := jit hc h
            refine j_aald (pc' := 41) K dX11_times_40 3 4 rfl rfl hg (by rw [hc]; rfl) rfl ?_
            refine j_iload_n (pc' := 42) K dX11_times_41 rfl 3 rfl rfl ?_
            refine j_iload (pc' := 44) K dX11_times_42 4 rfl rfl ?_
            obtain ⟨r44, hr44, h⟩ := jbd_some h
            refine j_ro (pc' := 47) K (fun H hP => jrun_V K dX11_times_44 (M_X2_productAt (jl E) (jg E) (a0 10) (a0 11) (a0 12) (a0 13) (a0 14) (a0 15) (a0 4) (a0 5) (a0 6) (a0 7) (a0 8) (a0 9) v3 v4 (X_law1 s0) (X_law0 s0) hr44) u_2_158 u_2_155 u_2_156 u_2_157 u_1_11 ⟨ok_X2_productAt, by decide, by decide⟩ rfl (Nat.le_of_ble_eq_true rfl) 10 rfl rfl H hP) [10, 11, 12, 13, 14, 15, 4, 5, 6, 7, 8, 9] (cl_30_f ..) rfl ?_
            obtain ⟨r47, hr47, h⟩ := jbd_some h
            refine j_ro (pc' := 50) K (fun H hP => jrun_S K dX11_times_47 (M_X11_answer (jl E) (jg E) r44 hr47) u_2_94 u_2_92 u_2_93 u_1_1 ⟨ok_X11_answer, by decide, by decide⟩ rfl (Nat.le_of_ble_eq_true rfl) H) [] rfl rfl ?_
            obtain rfl := Option.some.inj h
            exact HR _ _ dX11_times_50
          have hc0 := hc
          have h := jif hc h
          by_cases hc : v2 = 1
          · have h := jit hc h
            refine j_aald (pc' := 41) K dX11_times_40 3 4 rfl rfl hg (by rw [hc]; rfl) rfl ?_
            refine j_iload_n (pc' := 42) K dX11_times_41 rfl 3 rfl rfl ?_
            refine j_iload (pc' := 44) K dX11_times_42 4 rfl rfl ?_
            obtain ⟨r44, hr44, h⟩ := jbd_some h
            refine j_ro (pc' := 47) K (fun H hP => jrun_V K dX11_times_44 (M_X2_productAt (jl E) (jg E) (a0 10) (a0 11) (a0 12) (a0 13) (a0 14) (a0 15) (a0 10) (a0 11) (a0 12) (a0 13) (a0 14) (a0 15) v3 v4 (X_law1 s0) (X_law1 s0) hr44) u_2_158 u_2_155 u_2_156 u_2_157 u_1_11 ⟨ok_X2_productAt, by decide, by decide⟩ rfl (Nat.le_of_ble_eq_true rfl) 10 rfl rfl H hP) [10, 11, 12, 13, 14, 15, 10, 11, 12, 13, 14, 15] (cl_31_f ..) rfl ?_
            obtain ⟨r47, hr47, h⟩ := jbd_some h
            refine j_ro (pc' := 50) K (fun H hP => jrun_S K dX11_times_47 (M_X11_answer (jl E) (jg E) r44 hr47) u_2_94 u_2_92 u_2_93 u_1_1 ⟨ok_X11_answer, by decide, by decide⟩ rfl (Nat.le_of_ble_eq_true rfl) H) [] rfl rfl ?_
            obtain rfl := Option.some.inj h
            exact HR _ _ dX11_times_50
          have hc1 := hc
          have h := jif hc h
          by_cases hc : v2 = 2
          · have h := jit hc h
            refine j_aald (pc' := 41) K dX11_times_40 3 4 rfl rfl hg (by rw [hc]; rfl) rfl ?_
            refine j_iload_n (pc' := 42) K dX11_times_41 rfl 3 rfl rfl ?_
            refine j_iload (pc' := 44) K dX11_times_42 4 rfl rfl ?_
            obtain ⟨r44, hr44, h⟩ := jbd_some h
            refine j_ro (pc' := 47) K (fun H hP => jrun_V K dX11_times_44 (M_X2_productAt (jl E) (jg E) (a0 10) (a0 11) (a0 12) (a0 13) (a0 14) (a0 15) (a0 16) (a0 17) (a0 18) (a0 19) (a0 20) (a0 21) v3 v4 (X_law1 s0) (X_law2 s0) hr44) u_2_158 u_2_155 u_2_156 u_2_157 u_1_11 ⟨ok_X2_productAt, by decide, by decide⟩ rfl (Nat.le_of_ble_eq_true rfl) 10 rfl rfl H hP) [10, 11, 12, 13, 14, 15, 16, 17, 18, 19, 20, 21] (cl_32_f ..) rfl ?_
            obtain ⟨r47, hr47, h⟩ := jbd_some h
            refine j_ro (pc' := 50) K (fun H hP => jrun_S K dX11_times_47 (M_X11_answer (jl E) (jg E) r44 hr47) u_2_94 u_2_92 u_2_93 u_1_1 ⟨ok_X11_answer, by decide, by decide⟩ rfl (Nat.le_of_ble_eq_true rfl) H) [] rfl rfl ?_
            obtain rfl := Option.some.inj h
            exact HR _ _ dX11_times_50
          have hc2 := hc
          have h := jif hc h
          have hc : v2 = 3 := jin4 hg hc0 hc1 hc2
          refine j_aald (pc' := 41) K dX11_times_40 3 4 rfl rfl hg (by rw [hc]; rfl) rfl ?_
          refine j_iload_n (pc' := 42) K dX11_times_41 rfl 3 rfl rfl ?_
          refine j_iload (pc' := 44) K dX11_times_42 4 rfl rfl ?_
          obtain ⟨r44, hr44, h⟩ := jbd_some h
          refine j_ro (pc' := 47) K (fun H hP => jrun_V K dX11_times_44 (M_X2_productAt (jl E) (jg E) (a0 10) (a0 11) (a0 12) (a0 13) (a0 14) (a0 15) (a0 22) (a0 23) (a0 24) (a0 25) (a0 26) (a0 27) v3 v4 (X_law1 s0) (X_law3 s0) hr44) u_2_158 u_2_155 u_2_156 u_2_157 u_1_11 ⟨ok_X2_productAt, by decide, by decide⟩ rfl (Nat.le_of_ble_eq_true rfl) 10 rfl rfl H hP) [10, 11, 12, 13, 14, 15, 22, 23, 24, 25, 26, 27] (cl_33_f ..) rfl ?_
          obtain ⟨r47, hr47, h⟩ := jbd_some h
          refine j_ro (pc' := 50) K (fun H hP => jrun_S K dX11_times_47 (M_X11_answer (jl E) (jg E) r44 hr47) u_2_94 u_2_92 u_2_93 u_1_1 ⟨ok_X11_answer, by decide, by decide⟩ rfl (Nat.le_of_ble_eq_true rfl) H) [] rfl rfl ?_
          obtain rfl := Option.some.inj h
          exact HR _ _ dX11_times_50
        have hc1 := hc
        have h := jif hc h
        by_cases hc : v1 = 2
        · have h := jit hc h
          refine j_aald (pc' := 35) K dX11_times_34 3 4 rfl rfl hg (by rw [hc]; rfl) rfl ?_
          refine j_aload_n (pc' := 36) K dX11_times_35 rfl 0 rfl rfl ?_
          refine j_get (pc' := 39) K dX11_times_36 inX11 0 rfl rfl 1 (by decide) u_1_198 rfl rfl rfl ?_
          refine j_iload_n (pc' := 40) K dX11_times_39 rfl 2 rfl rfl ?_
          obtain ⟨hg, h⟩ := jgd_some h
          by_cases hc : v2 = 0
          · have h := jit hc h
            refine j_aald (pc' := 41) K dX11_times_40 3 4 rfl rfl hg (by rw [hc]; rfl) rfl ?_
            refine j_iload_n (pc' := 42) K dX11_times_41 rfl 3 rfl rfl ?_
            refine j_iload (pc' := 44) K dX11_times_42 4 rfl rfl ?_
            obtain ⟨r44, hr44, h⟩ := jbd_some h
            refine j_ro (pc' := 47) K (fun H hP => jrun_V K dX11_times_44 (M_X2_productAt (jl E) (jg E) (a0 16) (a0 17) (a0 18) (a0 19) (a0 20) (a0 21) (a0 4) (a0 5) (a0 6) (a0 7) (a0 8) (a0 9) v3 v4 (X_law2 s0) (X_law0 s0) hr44) u_2_158 u_2_155 u_2_156 u_2_157 u_1_11 ⟨ok_X2_productAt, by decide, by decide⟩ rfl (Nat.le_of_ble_eq_true rfl) 16 rfl rfl H hP) [16, 17, 18, 19, 20, 21, 4, 5, 6, 7, 8, 9] (cl_34_f ..) rfl ?_
            obtain ⟨r47, hr47, h⟩ := jbd_some h
            refine j_ro (pc' := 50) K (fun H hP => jrun_S K dX11_times_47 (M_X11_answer (jl E) (jg E) r44 hr47) u_2_94 u_2_92 u_2_93 u_1_1 ⟨ok_X11_answer, by decide, by decide⟩ rfl (Nat.le_of_ble_eq_true rfl) H) [] rfl rfl ?_
            obtain rfl := Option.some.inj h
            exact HR _ _ dX11_times_50
          have hc0 := hc
          have h := jif hc h
          by_cases hc : v2 = 1
          · have h := jit hc h
            refine j_aald (pc' := 41) K dX11_times_40 3 4 rfl rfl hg (by rw [hc]; rfl) rfl ?_
            refine j_iload_n (pc' := 42) K dX11_times_41 rfl 3 rfl rfl ?_
            refine j_iload (pc' := 44) K dX11_times_42 4 rfl rfl ?_
            obtain ⟨r44, hr44, h⟩ := jbd_some h
            refine j_ro (pc' := 47) K (fun H hP => jrun_V K dX11_times_44 (M_X2_productAt (jl E) (jg E) (a0 16) (a0 17) (a0 18) (a0 19) (a0 20) (a0 21) (a0 10) (a0 11) (a0 12) (a0 13) (a0 14) (a0 15) v3 v4 (X_law2 s0) (X_law1 s0) hr44) u_2_158 u_2_155 u_2_156 u_2_157 u_1_11 ⟨ok_X2_productAt, by decide, by decide⟩ rfl (Nat.le_of_ble_eq_true rfl) 16 rfl rfl H hP) [16, 17, 18, 19, 20, 21, 10, 11, 12, 13, 14, 15] (cl_35_f ..) rfl ?_
            obtain ⟨r47, hr47, h⟩ := jbd_some h
            refine j_ro (pc' := 50) K (fun H hP => jrun_S K dX11_times_47 (M_X11_answer (jl E) (jg E) r44 hr47) u_2_94 u_2_92 u_2_93 u_1_1 ⟨ok_X11_answer, by decide, by decide⟩ rfl (Nat.le_of_ble_eq_true rfl) H) [] rfl rfl ?_
            obtain rfl := Option.some.inj h
            exact HR _ _ dX11_times_50
          have hc1 := hc
          have h := jif hc h
          by_cases hc : v2 = 2
          · have h := jit hc h
            refine j_aald (pc' := 41) K dX11_times_40 3 4 rfl rfl hg (by rw [hc]; rfl) rfl ?_
            refine j_iload_n (pc' := 42) K dX11_times_41 rfl 3 rfl rfl ?_
            refine j_iload (pc' := 44) K dX11_times_42 4 rfl rfl ?_
            obtain ⟨r44, hr44, h⟩ := jbd_some h
            refine j_ro (pc' := 47) K (fun H hP => jrun_V K dX11_times_44 (M_X2_productAt (jl E) (jg E) (a0 16) (a0 17) (a0 18) (a0 19) (a0 20) (a0 21) (a0 16) (a0 17) (a0 18) (a0 19) (a0 20) (a0 21) v3 v4 (X_law2 s0) (X_law2 s0) hr44) u_2_158 u_2_155 u_2_156 u_2_157 u_1_11 ⟨ok_X2_productAt, by decide, by decide⟩ rfl (Nat.le_of_ble_eq_true rfl) 16 rfl rfl H hP) [16, 17, 18, 19, 20, 21, 16, 17, 18, 19, 20, 21] (cl_36_f ..) rfl ?_
            obtain ⟨r47, hr47, h⟩ := jbd_some h
            refine j_ro (pc' := 50) K (fun H hP => jrun_S K dX11_times_47 (M_X11_answer (jl E) (jg E) r44 hr47) u_2_94 u_2_92 u_2_93 u_1_1 ⟨ok_X11_answer, by decide, by decide⟩ rfl (Nat.le_of_ble_eq_true rfl) H) [] rfl rfl ?_
            obtain rfl := Option.some.inj h
            exact HR _ _ dX11_times_50
          have hc2 := hc
          have h := jif hc h
          have hc : v2 = 3 := jin4 hg hc0 hc1 hc2
          refine j_aald (pc' := 41) K dX11_times_40 3 4 rfl rfl hg (by rw [hc]; rfl) rfl ?_
          refine j_iload_n (pc' := 42) K dX11_times_41 rfl 3 rfl rfl ?_
          refine j_iload (pc' := 44) K dX11_times_42 4 rfl rfl ?_
          obtain ⟨r44, hr44, h⟩ := jbd_some h
          refine j_ro (pc' := 47) K (fun H hP => jrun_V K dX11_times_44 (M_X2_productAt (jl E) (jg E) (a0 16) (a0 17) (a0 18) (a0 19) (a0 20) (a0 21) (a0 22) (a0 23) (a0 24) (a0 25) (a0 26) (a0 27) v3 v4 (X_law2 s0) (X_law3 s0) hr44) u_2_158 u_2_155 u_2_156 u_2_157 u_1_11 ⟨ok_X2_productAt, by decide, by decide⟩ rfl (Nat.le_of_ble_eq_true rfl) 16 rfl rfl H hP) [16, 17, 18, 19, 20, 21, 22, 23, 24, 25, 26, 27] (cl_37_f ..) rfl ?_
          obtain ⟨r47, hr47, h⟩ := jbd_some h
          refine j_ro (pc' := 50) K (fun H hP => jrun_S K dX11_times_47 (M_X11_answer (jl E) (jg E) r44 hr47) u_2_94 u_2_92 u_2_93 u_1_1 ⟨ok_X11_answer, by decide, by decide⟩ rfl (Nat.le_of_ble_eq_true rfl) H) [] rfl rfl ?_
          obtain rfl := Option.some.inj h
          exact HR _ _ dX11_times_50
        have hc2 := hc
        have h := jif hc h
        have hc : v1 = 3 := jin4 hg hc0 hc1 hc2
        refine j_aald (pc' := 35) K dX11_times_34 3 4 rfl rfl hg (by rw [hc]; rfl) rfl ?_
        refine j_aload_n (pc' := 36) K dX11_times_35 rfl 0 rfl rfl ?_
        refine j_get (pc' := 39) K dX11_times_36 inX11 0 rfl rfl 1 (by decide) u_1_198 rfl rfl rfl ?_
        refine j_iload_n (pc' := 40) K dX11_times_39 rfl 2 rfl rfl ?_
        obtain ⟨hg, h⟩ := jgd_some h
        by_cases hc : v2 = 0
        · have h := jit hc h
          refine j_aald (pc' := 41) K dX11_times_40 3 4 rfl rfl hg (by rw [hc]; rfl) rfl ?_
          refine j_iload_n (pc' := 42) K dX11_times_41 rfl 3 rfl rfl ?_
          refine j_iload (pc' := 44) K dX11_times_42 4 rfl rfl ?_
          obtain ⟨r44, hr44, h⟩ := jbd_some h
          refine j_ro (pc' := 47) K (fun H hP => jrun_V K dX11_times_44 (M_X2_productAt (jl E) (jg E) (a0 22) (a0 23) (a0 24) (a0 25) (a0 26) (a0 27) (a0 4) (a0 5) (a0 6) (a0 7) (a0 8) (a0 9) v3 v4 (X_law3 s0) (X_law0 s0) hr44) u_2_158 u_2_155 u_2_156 u_2_157 u_1_11 ⟨ok_X2_productAt, by decide, by decide⟩ rfl (Nat.le_of_ble_eq_true rfl) 22 rfl rfl H hP) [22, 23, 24, 25, 26, 27, 4, 5, 6, 7, 8, 9] (cl_38_f ..) rfl ?_
          obtain ⟨r47, hr47, h⟩ := jbd_some h
          refine j_ro (pc' := 50) K (fun H hP => jrun_S K dX11_times_47 (M_X11_answer (jl E) (jg E) r44 hr47) u_2_94 u_2_92 u_2_93 u_1_1 ⟨ok_X11_answer, by decide, by decide⟩ rfl (Nat.le_of_ble_eq_true rfl) H) [] rfl rfl ?_
          obtain rfl := Option.some.inj h
          exact HR _ _ dX11_times_50
        have hc0 := hc
        have h := jif hc h
        by_cases hc : v2 = 1
        · have h := jit hc h
          refine j_aald (pc' := 41) K dX11_times_40 3 4 rfl rfl hg (by rw [hc]; rfl) rfl ?_
          refine j_iload_n (pc' := 42) K dX11_times_41 rfl 3 rfl rfl ?_
          refine j_iload (pc' := 44) K dX11_times_42 4 rfl rfl ?_
          obtain ⟨r44, hr44, h⟩ := jbd_some h
          refine j_ro (pc' := 47) K (fun H hP => jrun_V K dX11_times_44 (M_X2_productAt (jl E) (jg E) (a0 22) (a0 23) (a0 24) (a0 25) (a0 26) (a0 27) (a0 10) (a0 11) (a0 12) (a0 13) (a0 14) (a0 15) v3 v4 (X_law3 s0) (X_law1 s0) hr44) u_2_158 u_2_155 u_2_156 u_2_157 u_1_11 ⟨ok_X2_productAt, by decide, by decide⟩ rfl (Nat.le_of_ble_eq_true rfl) 22 rfl rfl H hP) [22, 23, 24, 25, 26, 27, 10, 11, 12, 13, 14, 15] (cl_39_f ..) rfl ?_
          obtain ⟨r47, hr47, h⟩ := jbd_some h
          refine j_ro (pc' := 50) K (fun H hP => jrun_S K dX11_times_47 (M_X11_answer (jl E) (jg E) r44 hr47) u_2_94 u_2_92 u_2_93 u_1_1 ⟨ok_X11_answer, by decide, by decide⟩ rfl (Nat.le_of_ble_eq_true rfl) H) [] rfl rfl ?_
          obtain rfl := Option.some.inj h
          exact HR _ _ dX11_times_50
        have hc1 := hc
        have h := jif hc h
        by_cases hc : v2 = 2
        · have h := jit hc h
          refine j_aald (pc' := 41) K dX11_times_40 3 4 rfl rfl hg (by rw [hc]; rfl) rfl ?_
          refine j_iload_n (pc' := 42) K dX11_times_41 rfl 3 rfl rfl ?_
          refine j_iload (pc' := 44) K dX11_times_42 4 rfl rfl ?_
          obtain ⟨r44, hr44, h⟩ := jbd_some h
          refine j_ro (pc' := 47) K (fun H hP => jrun_V K dX11_times_44 (M_X2_productAt (jl E) (jg E) (a0 22) (a0 23) (a0 24) (a0 25) (a0 26) (a0 27) (a0 16) (a0 17) (a0 18) (a0 19) (a0 20) (a0 21) v3 v4 (X_law3 s0) (X_law2 s0) hr44) u_2_158 u_2_155 u_2_156 u_2_157 u_1_11 ⟨ok_X2_productAt, by decide, by decide⟩ rfl (Nat.le_of_ble_eq_true rfl) 22 rfl rfl H hP) [22, 23, 24, 25, 26, 27, 16, 17, 18, 19, 20, 21] (cl_40_f ..) rfl ?_
          obtain ⟨r47, hr47, h⟩ := jbd_some h
          refine j_ro (pc' := 50) K (fun H hP => jrun_S K dX11_times_47 (M_X11_answer (jl E) (jg E) r44 hr47) u_2_94 u_2_92 u_2_93 u_1_1 ⟨ok_X11_answer, by decide, by decide⟩ rfl (Nat.le_of_ble_eq_true rfl) H) [] rfl rfl ?_
          obtain rfl := Option.some.inj h
          exact HR _ _ dX11_times_50
        have hc2 := hc
        have h := jif hc h
        have hc : v2 = 3 := jin4 hg hc0 hc1 hc2
        refine j_aald (pc' := 41) K dX11_times_40 3 4 rfl rfl hg (by rw [hc]; rfl) rfl ?_
        refine j_iload_n (pc' := 42) K dX11_times_41 rfl 3 rfl rfl ?_
        refine j_iload (pc' := 44) K dX11_times_42 4 rfl rfl ?_
        obtain ⟨r44, hr44, h⟩ := jbd_some h
        refine j_ro (pc' := 47) K (fun H hP => jrun_V K dX11_times_44 (M_X2_productAt (jl E) (jg E) (a0 22) (a0 23) (a0 24) (a0 25) (a0 26) (a0 27) (a0 22) (a0 23) (a0 24) (a0 25) (a0 26) (a0 27) v3 v4 (X_law3 s0) (X_law3 s0) hr44) u_2_158 u_2_155 u_2_156 u_2_157 u_1_11 ⟨ok_X2_productAt, by decide, by decide⟩ rfl (Nat.le_of_ble_eq_true rfl) 22 rfl rfl H hP) [22, 23, 24, 25, 26, 27, 22, 23, 24, 25, 26, 27] (cl_41_f ..) rfl ?_
        obtain ⟨r47, hr47, h⟩ := jbd_some h
        refine j_ro (pc' := 50) K (fun H hP => jrun_S K dX11_times_47 (M_X11_answer (jl E) (jg E) r44 hr47) u_2_94 u_2_92 u_2_93 u_1_1 ⟨ok_X11_answer, by decide, by decide⟩ rfl (Nat.le_of_ble_eq_true rfl) H) [] rfl rfl ?_
        obtain rfl := Option.some.inj h
        exact HR _ _ dX11_times_50
      · have h := jit hc h
        refine j_ldc2 (pc' := 28) K dX11_times_25 u_2_90 rfl ?_
        obtain rfl := Option.some.inj h
        exact HR _ _ dX11_times_28
set_option maxRecDepth 100000 in
set_option maxHeartbeats 4000000 in
theorem M_X11_times (l : Launch) (G : jG) (a0 : Nat → Nat) (v1 : Int32) (v2 : Int32) (v3 : Int32) (v4 : Int32) (s0 : XS) {r : Int64} (h : f_X11_times v1 v2 v3 v4 s0 = some r) : MC l yX11_times cX11_times 5 (some .long) 4 G jNo False (wX G a0 s0) (wX G a0 s0) [.ref (a0 0), .int v1, .int v2, .int v3, .int v4] (some (.long r)) := by
  refine mc_long (by decide +kernel) (Nat.le_of_ble_eq_true rfl) fun E hl hg hA hrw K HR => ?_
  subst hl
  subst hg
  exact b_X11_times a0 s0 K HR v1 v2 v3 v4 h
theorem ok_X11_undoes : yX11_undoes.cls ≠ "java/lang/invoke/MethodHandle" ∧ yX11_undoes.cls ≠ "java/lang/invoke/VarHandle" ∧ (parseMethodDescriptor yX11_undoes.desc).map (fun d => d.parameters.length) = some 3 := ⟨by decide, by decide, by decide +kernel⟩
def f_X11_undoes (v1 : Int32) (v2 : Int32) (v3 : Int32) (s0 : XS) : Option (Int32) :=
   jbd (f_X11_isLaw v1) (fun r1 =>
   if r1 = 0 then
    some (-1 : Int32)
   else
    jbd (f_X11_isLaw v2) (fun r8 =>
     if r8 = 0 then
      some (-1 : Int32)
     else
      jbd (f_X11_within v3 (0 : Int32) (24 : Int32)) (fun r18 =>
       if r18 = 0 then
        some (-1 : Int32)
       else
        jgd v1 4 (
         if v1 = 0 then (
          jgd v2 4 (
           if v2 = 0 then (
            jbd (f_X2_firstRowNotUndone v3 (X_law0 s0) (X_law0 s0)) (fun r39 =>
             some r39)) else if v2 = 1 then (
            jbd (f_X2_firstRowNotUndone v3 (X_law0 s0) (X_law1 s0)) (fun r39 =>
             some r39)) else if v2 = 2 then (
            jbd (f_X2_firstRowNotUndone v3 (X_law0 s0) (X_law2 s0)) (fun r39 =>
             some r39)) else (
            jbd (f_X2_firstRowNotUndone v3 (X_law0 s0) (X_law3 s0)) (fun r39 =>
             some r39)))) else if v1 = 1 then (
          jgd v2 4 (
           if v2 = 0 then (
            jbd (f_X2_firstRowNotUndone v3 (X_law1 s0) (X_law0 s0)) (fun r39 =>
             some r39)) else if v2 = 1 then (
            jbd (f_X2_firstRowNotUndone v3 (X_law1 s0) (X_law1 s0)) (fun r39 =>
             some r39)) else if v2 = 2 then (
            jbd (f_X2_firstRowNotUndone v3 (X_law1 s0) (X_law2 s0)) (fun r39 =>
             some r39)) else (
            jbd (f_X2_firstRowNotUndone v3 (X_law1 s0) (X_law3 s0)) (fun r39 =>
             some r39)))) else if v1 = 2 then (
          jgd v2 4 (
           if v2 = 0 then (
            jbd (f_X2_firstRowNotUndone v3 (X_law2 s0) (X_law0 s0)) (fun r39 =>
             some r39)) else if v2 = 1 then (
            jbd (f_X2_firstRowNotUndone v3 (X_law2 s0) (X_law1 s0)) (fun r39 =>
             some r39)) else if v2 = 2 then (
            jbd (f_X2_firstRowNotUndone v3 (X_law2 s0) (X_law2 s0)) (fun r39 =>
             some r39)) else (
            jbd (f_X2_firstRowNotUndone v3 (X_law2 s0) (X_law3 s0)) (fun r39 =>
             some r39)))) else (
          jgd v2 4 (
           if v2 = 0 then (
            jbd (f_X2_firstRowNotUndone v3 (X_law3 s0) (X_law0 s0)) (fun r39 =>
             some r39)) else if v2 = 1 then (
            jbd (f_X2_firstRowNotUndone v3 (X_law3 s0) (X_law1 s0)) (fun r39 =>
             some r39)) else if v2 = 2 then (
            jbd (f_X2_firstRowNotUndone v3 (X_law3 s0) (X_law2 s0)) (fun r39 =>
             some r39)) else (
            jbd (f_X2_firstRowNotUndone v3 (X_law3 s0) (X_law3 s0)) (fun r39 =>
             some r39))))))))
set_option maxRecDepth 100000 in
set_option maxHeartbeats 4000000 in
theorem b_X11_undoes {E : jE} (a0 : Nat → Nat) (s0 : XS) {res : Int32} (K : jC E cX11_undoes 4 RX11 5) (HR : jRI E cX11_undoes 4 (wX (jg E) a0 s0) res) : ∀ (v1 : Int32) (v2 : Int32) (v3 : Int32), f_X11_undoes v1 v2 v3 s0 = some res → J E 4 (wX (jg E) a0 s0) 0 [(0, .ref (a0 0)), (1, .int v1), (2, .int v2), (3, .int v3)] [] := by
  intro v1 v2 v3 h
  unfold f_X11_undoes at h
  refine j_iload_n (pc' := 1) K dX11_undoes_0 rfl 1 rfl rfl ?_
  obtain ⟨r1, hr1, h⟩ := jbd_some h
  refine j_ro (pc' := 4) K (fun H hP => jrun_S K dX11_undoes_1 (M_X11_isLaw (jl E) (jg E) v1 hr1) u_2_23 u_2_21 u_2_22 u_1_1 ⟨ok_X11_isLaw, by decide, by decide⟩ rfl (Nat.le_of_ble_eq_true rfl) H) [] rfl rfl ?_
  refine j_if_eq (pc' := 7) (tgt := 24) K dX11_undoes_4 (by decide) rfl (fun hc => ?_) (fun hc => ?_)
  · have h := jit hc h
    refine j_iconst (pc' := 25) (v := (-1 : Int32)) K dX11_undoes_24 (by decide) rfl ?_
    obtain rfl := Option.some.inj h
    exact HR _ _ dX11_undoes_25
  · have h := jif hc h
    refine j_iload_n (pc' := 8) K dX11_undoes_7 rfl 2 rfl rfl ?_
    obtain ⟨r8, hr8, h⟩ := jbd_some h
    refine j_ro (pc' := 11) K (fun H hP => jrun_S K dX11_undoes_8 (M_X11_isLaw (jl E) (jg E) v2 hr8) u_2_23 u_2_21 u_2_22 u_1_1 ⟨ok_X11_isLaw, by decide, by decide⟩ rfl (Nat.le_of_ble_eq_true rfl) H) [] rfl rfl ?_
    refine j_if_eq (pc' := 14) (tgt := 24) K dX11_undoes_11 (by decide) rfl (fun hc => ?_) (fun hc => ?_)
    · have h := jit hc h
      refine j_iconst (pc' := 25) (v := (-1 : Int32)) K dX11_undoes_24 (by decide) rfl ?_
      obtain rfl := Option.some.inj h
      exact HR _ _ dX11_undoes_25
    · have h := jif hc h
      refine j_iload_n (pc' := 15) K dX11_undoes_14 rfl 3 rfl rfl ?_
      refine j_iconst (pc' := 16) (v := (0 : Int32)) K dX11_undoes_15 (by decide) rfl ?_
      refine j_bipush (pc' := 18) (v := (24 : Int32)) K dX11_undoes_16 (by decide) rfl ?_
      obtain ⟨r18, hr18, h⟩ := jbd_some h
      refine j_ro (pc' := 21) K (fun H hP => jrun_S K dX11_undoes_18 (M_X11_within (jl E) (jg E) v3 (0 : Int32) (24 : Int32) hr18) u_1_76 u_1_217 u_1_75 u_1_1 ⟨ok_X11_within, by decide, by decide⟩ rfl (Nat.le_of_ble_eq_true rfl) H) [] rfl rfl ?_
      refine j_if_ne (pc' := 24) (tgt := 26) K dX11_undoes_21 (by decide) rfl (fun hc => ?_) (fun hc => ?_)
      · have h := jif hc h
        refine j_aload_n (pc' := 27) K dX11_undoes_26 rfl 0 rfl rfl ?_
        refine j_get (pc' := 30) K dX11_undoes_27 inX11 0 rfl rfl 1 (by decide) u_1_198 rfl rfl rfl ?_
        refine j_iload_n (pc' := 31) K dX11_undoes_30 rfl 1 rfl rfl ?_
        obtain ⟨hg, h⟩ := jgd_some h
        by_cases hc : v1 = 0
        · have h := jit hc h
          refine j_aald (pc' := 32) K dX11_undoes_31 3 4 rfl rfl hg (by rw [hc]; rfl) rfl ?_
          refine j_aload_n (pc' := 33) K dX11_undoes_32 rfl 0 rfl rfl ?_
          refine j_get (pc' := 36) K dX11_undoes_33 inX11 0 rfl rfl 1 (by decide) u_1_198 rfl rfl rfl ?_
          refine j_iload_n (pc' := 37) K dX11_undoes_36 rfl 2 rfl rfl ?_
          obtain ⟨hg, h⟩ := jgd_some h
          by_cases hc : v2 = 0
          · have h := jit hc h
            refine j_aald (pc' := 38) K dX11_undoes_37 3 4 rfl rfl hg (by rw [hc]; rfl) rfl ?_
            refine j_iload_n (pc' := 39) K dX11_undoes_38 rfl 3 rfl rfl ?_
            obtain ⟨r39, hr39, h⟩ := jbd_some h
            refine j_ro (pc' := 42) K (fun H hP => jrun_V K dX11_undoes_39 (M_X2_firstRowNotUndone (jl E) (jg E) (a0 4) (a0 5) (a0 6) (a0 7) (a0 8) (a0 9) (a0 4) (a0 5) (a0 6) (a0 7) (a0 8) (a0 9) v3 (X_law0 s0) (X_law0 s0) hr39) u_2_166 u_2_163 u_2_164 u_2_165 u_1_11 ⟨ok_X2_firstRowNotUndone, by decide, by decide⟩ rfl (Nat.le_of_ble_eq_true rfl) 4 rfl rfl H hP) [4, 5, 6, 7, 8, 9, 4, 5, 6, 7, 8, 9] (cl_26_f ..) rfl ?_
            obtain rfl := Option.some.inj h
            exact HR _ _ dX11_undoes_42
          have hc0 := hc
          have h := jif hc h
          by_cases hc : v2 = 1
          · have h := jit hc h
            refine j_aald (pc' := 38) K dX11_undoes_37 3 4 rfl rfl hg (by rw [hc]; rfl) rfl ?_
            refine j_iload_n (pc' := 39) K dX11_undoes_38 rfl 3 rfl rfl ?_
            obtain ⟨r39, hr39, h⟩ := jbd_some h
            refine j_ro (pc' := 42) K (fun H hP => jrun_V K dX11_undoes_39 (M_X2_firstRowNotUndone (jl E) (jg E) (a0 4) (a0 5) (a0 6) (a0 7) (a0 8) (a0 9) (a0 10) (a0 11) (a0 12) (a0 13) (a0 14) (a0 15) v3 (X_law0 s0) (X_law1 s0) hr39) u_2_166 u_2_163 u_2_164 u_2_165 u_1_11 ⟨ok_X2_firstRowNotUndone, by decide, by decide⟩ rfl (Nat.le_of_ble_eq_true rfl) 4 rfl rfl H hP) [4, 5, 6, 7, 8, 9, 10, 11, 12, 13, 14, 15] (cl_27_f ..) rfl ?_
            obtain rfl := Option.some.inj h
            exact HR _ _ dX11_undoes_42
          have hc1 := hc
          have h := jif hc h
          by_cases hc : v2 = 2
          · have h := jit hc h
            refine j_aald (pc' := 38) K dX11_undoes_37 3 4 rfl rfl hg (by rw [hc]; rfl) rfl ?_
            refine j_iload_n (pc' := 39) K dX11_undoes_38 rfl 3 rfl rfl ?_
            obtain ⟨r39, hr39, h⟩ := jbd_some h
            refine j_ro (pc' := 42) K (fun H hP => jrun_V K dX11_undoes_39 (M_X2_firstRowNotUndone (jl E) (jg E) (a0 4) (a0 5) (a0 6) (a0 7) (a0 8) (a0 9) (a0 16) (a0 17) (a0 18) (a0 19) (a0 20) (a0 21) v3 (X_law0 s0) (X_law2 s0) hr39) u_2_166 u_2_163 u_2_164 u_2_165 u_1_11 ⟨ok_X2_firstRowNotUndone, by decide, by decide⟩ rfl (Nat.le_of_ble_eq_true rfl) 4 rfl rfl H hP) [4, 5, 6, 7, 8, 9, 16, 17, 18, 19, 20, 21] (cl_28_f ..) rfl ?_
            obtain rfl := Option.some.inj h
            exact HR _ _ dX11_undoes_42
          have hc2 := hc
          have h := jif hc h
          have hc : v2 = 3 := jin4 hg hc0 hc1 hc2
          refine j_aald (pc' := 38) K dX11_undoes_37 3 4 rfl rfl hg (by rw [hc]; rfl) rfl ?_
          refine j_iload_n (pc' := 39) K dX11_undoes_38 rfl 3 rfl rfl ?_
          obtain ⟨r39, hr39, h⟩ := jbd_some h
          refine j_ro (pc' := 42) K (fun H hP => jrun_V K dX11_undoes_39 (M_X2_firstRowNotUndone (jl E) (jg E) (a0 4) (a0 5) (a0 6) (a0 7) (a0 8) (a0 9) (a0 22) (a0 23) (a0 24) (a0 25) (a0 26) (a0 27) v3 (X_law0 s0) (X_law3 s0) hr39) u_2_166 u_2_163 u_2_164 u_2_165 u_1_11 ⟨ok_X2_firstRowNotUndone, by decide, by decide⟩ rfl (Nat.le_of_ble_eq_true rfl) 4 rfl rfl H hP) [4, 5, 6, 7, 8, 9, 22, 23, 24, 25, 26, 27] (cl_29_f ..) rfl ?_
          obtain rfl := Option.some.inj h
          exact HR _ _ dX11_undoes_42
        have hc0 := hc
        have h := jif hc h
        by_cases hc : v1 = 1
        · have h := jit hc h
          refine j_aald (pc' := 32) K dX11_undoes_31 3 4 rfl rfl hg (by rw [hc]; rfl) rfl ?_
          refine j_aload_n (pc' := 33) K dX11_undoes_32 rfl 0 rfl rfl ?_
          refine j_get (pc' := 36) K dX11_undoes_33 inX11 0 rfl rfl 1 (by decide) u_1_198 rfl rfl rfl ?_
          refine j_iload_n (pc' := 37) K dX11_undoes_36 rfl 2 rfl rfl ?_
          obtain ⟨hg, h⟩ := jgd_some h
          by_cases hc : v2 = 0
          · have h := jit hc h
            refine j_aald (pc' := 38) K dX11_undoes_37 3 4 rfl rfl hg (by rw [hc]; rfl) rfl ?_
            refine j_iload_n (pc' := 39) K dX11_undoes_38 rfl 3 rfl rfl ?_
            obtain ⟨r39, hr39, h⟩ := jbd_some h
            refine j_ro (pc' := 42) K (fun H hP => jrun_V K dX11_undoes_39 (M_X2_firstRowNotUndone (jl E) (jg E) (a0 10) (a0 11) (a0 12) (a0 13) (a0 14) (a0 15) (a0 4) (a0 5) (a0 6) (a0 7) (a0 8) (a0 9) v3 (X_law1 s0) (X_law0 s0) hr39) u_2_166 u_2_163 u_2_164 u_2_165 u_1_11 ⟨ok_X2_firstRowNotUndone, by decide, by decide⟩ rfl (Nat.le_of_ble_eq_true rfl) 10 rfl rfl H hP) [10, 11, 12, 13, 14, 15, 4, 5, 6, 7, 8, 9] (cl_30_f ..) rfl ?_
            obtain rfl := Option.some.inj h
            exact HR _ _ dX11_undoes_42
          have hc0 := hc
          have h := jif hc h
          by_cases hc : v2 = 1
          · have h := jit hc h
            refine j_aald (pc' := 38) K dX11_undoes_37 3 4 rfl rfl hg (by rw [hc]; rfl) rfl ?_
            refine j_iload_n (pc' := 39) K dX11_undoes_38 rfl 3 rfl rfl ?_
            obtain ⟨r39, hr39, h⟩ := jbd_some h
            refine j_ro (pc' := 42) K (fun H hP => jrun_V K dX11_undoes_39 (M_X2_firstRowNotUndone (jl E) (jg E) (a0 10) (a0 11) (a0 12) (a0 13) (a0 14) (a0 15) (a0 10) (a0 11) (a0 12) (a0 13) (a0 14) (a0 15) v3 (X_law1 s0) (X_law1 s0) hr39) u_2_166 u_2_163 u_2_164 u_2_165 u_1_11 ⟨ok_X2_firstRowNotUndone, by decide, by decide⟩ rfl (Nat.le_of_ble_eq_true rfl) 10 rfl rfl H hP) [10, 11, 12, 13, 14, 15, 10, 11, 12, 13, 14, 15] (cl_31_f ..) rfl ?_
            obtain rfl := Option.some.inj h
            exact HR _ _ dX11_undoes_42
          have hc1 := hc
          have h := jif hc h
          by_cases hc : v2 = 2
          · have h := jit hc h
            refine j_aald (pc' := 38) K dX11_undoes_37 3 4 rfl rfl hg (by rw [hc]; rfl) rfl ?_
            refine j_iload_n (pc' := 39) K dX11_undoes_38 rfl 3 rfl rfl ?_
            obtain ⟨r39, hr39, h⟩ := jbd_some h
            refine j_ro (pc' := 42) K (fun H hP => jrun_V K dX11_undoes_39 (M_X2_firstRowNotUndone (jl E) (jg E) (a0 10) (a0 11) (a0 12) (a0 13) (a0 14) (a0 15) (a0 16) (a0 17) (a0 18) (a0 19) (a0 20) (a0 21) v3 (X_law1 s0) (X_law2 s0) hr39) u_2_166 u_2_163 u_2_164 u_2_165 u_1_11 ⟨ok_X2_firstRowNotUndone, by decide, by decide⟩ rfl (Nat.le_of_ble_eq_true rfl) 10 rfl rfl H hP) [10, 11, 12, 13, 14, 15, 16, 17, 18, 19, 20, 21] (cl_32_f ..) rfl ?_
            obtain rfl := Option.some.inj h
            exact HR _ _ dX11_undoes_42
          have hc2 := hc
          have h := jif hc h
          have hc : v2 = 3 := jin4 hg hc0 hc1 hc2
          refine j_aald (pc' := 38) K dX11_undoes_37 3 4 rfl rfl hg (by rw [hc]; rfl) rfl ?_
          refine j_iload_n (pc' := 39) K dX11_undoes_38 rfl 3 rfl rfl ?_
          obtain ⟨r39, hr39, h⟩ := jbd_some h
          refine j_ro (pc' := 42) K (fun H hP => jrun_V K dX11_undoes_39 (M_X2_firstRowNotUndone (jl E) (jg E) (a0 10) (a0 11) (a0 12) (a0 13) (a0 14) (a0 15) (a0 22) (a0 23) (a0 24) (a0 25) (a0 26) (a0 27) v3 (X_law1 s0) (X_law3 s0) hr39) u_2_166 u_2_163 u_2_164 u_2_165 u_1_11 ⟨ok_X2_firstRowNotUndone, by decide, by decide⟩ rfl (Nat.le_of_ble_eq_true rfl) 10 rfl rfl H hP) [10, 11, 12, 13, 14, 15, 22, 23, 24, 25, 26, 27] (cl_33_f ..) rfl ?_
          obtain rfl := Option.some.inj h
          exact HR _ _ dX11_undoes_42
        have hc1 := hc
        have h := jif hc h
        by_cases hc : v1 = 2
        · have h := jit hc h
          refine j_aald (pc' := 32) K dX11_undoes_31 3 4 rfl rfl hg (by rw [hc]; rfl) rfl ?_
          refine j_aload_n (pc' := 33) K dX11_undoes_32 rfl 0 rfl rfl ?_
          refine j_get (pc' := 36) K dX11_undoes_33 inX11 0 rfl rfl 1 (by decide) u_1_198 rfl rfl rfl ?_
          refine j_iload_n (pc' := 37) K dX11_undoes_36 rfl 2 rfl rfl ?_
          obtain ⟨hg, h⟩ := jgd_some h
          by_cases hc : v2 = 0
          · have h := jit hc h
            refine j_aald (pc' := 38) K dX11_undoes_37 3 4 rfl rfl hg (by rw [hc]; rfl) rfl ?_
            refine j_iload_n (pc' := 39) K dX11_undoes_38 rfl 3 rfl rfl ?_
            obtain ⟨r39, hr39, h⟩ := jbd_some h
            refine j_ro (pc' := 42) K (fun H hP => jrun_V K dX11_undoes_39 (M_X2_firstRowNotUndone (jl E) (jg E) (a0 16) (a0 17) (a0 18) (a0 19) (a0 20) (a0 21) (a0 4) (a0 5) (a0 6) (a0 7) (a0 8) (a0 9) v3 (X_law2 s0) (X_law0 s0) hr39) u_2_166 u_2_163 u_2_164 u_2_165 u_1_11 ⟨ok_X2_firstRowNotUndone, by decide, by decide⟩ rfl (Nat.le_of_ble_eq_true rfl) 16 rfl rfl H hP) [16, 17, 18, 19, 20, 21, 4, 5, 6, 7, 8, 9] (cl_34_f ..) rfl ?_
            obtain rfl := Option.some.inj h
            exact HR _ _ dX11_undoes_42
          have hc0 := hc
          have h := jif hc h
          by_cases hc : v2 = 1
          · have h := jit hc h
            refine j_aald (pc' := 38) K dX11_undoes_37 3 4 rfl rfl hg (by rw [hc]; rfl) rfl ?_
            refine j_iload_n (pc' := 39) K dX11_undoes_38 rfl 3 rfl rfl ?_
            obtain ⟨r39, hr39, h⟩ := jbd_some h
            refine j_ro (pc' := 42) K (fun H hP => jrun_V K dX11_undoes_39 (M_X2_firstRowNotUndone (jl E) (jg E) (a0 16) (a0 17) (a0 18) (a0 19) (a0 20) (a0 21) (a0 10) (a0 11) (a0 12) (a0 13) (a0 14) (a0 15) v3 (X_law2 s0) (X_law1 s0) hr39) u_2_166 u_2_163 u_2_164 u_2_165 u_1_11 ⟨ok_X2_firstRowNotUndone, by decide, by decide⟩ rfl (Nat.le_of_ble_eq_true rfl) 16 rfl rfl H hP) [16, 17, 18, 19, 20, 21, 10, 11, 12, 13, 14, 15] (cl_35_f ..) rfl ?_
            obtain rfl := Option.some.inj h
            exact HR _ _ dX11_undoes_42
          have hc1 := hc
          have h := jif hc h
          by_cases hc : v2 = 2
          · have h := jit hc h
            refine j_aald (pc' := 38) K dX11_undoes_37 3 4 rfl rfl hg (by rw [hc]; rfl) rfl ?_
            refine j_iload_n (pc' := 39) K dX11_undoes_38 rfl 3 rfl rfl ?_
            obtain ⟨r39, hr39, h⟩ := jbd_some h
            refine j_ro (pc' := 42) K (fun H hP => jrun_V K dX11_undoes_39 (M_X2_firstRowNotUndone (jl E) (jg E) (a0 16) (a0 17) (a0 18) (a0 19) (a0 20) (a0 21) (a0 16) (a0 17) (a0 18) (a0 19) (a0 20) (a0 21) v3 (X_law2 s0) (X_law2 s0) hr39) u_2_166 u_2_163 u_2_164 u_2_165 u_1_11 ⟨ok_X2_firstRowNotUndone, by decide, by decide⟩ rfl (Nat.le_of_ble_eq_true rfl) 16 rfl rfl H hP) [16, 17, 18, 19, 20, 21, 16, 17, 18, 19, 20, 21] (cl_36_f ..) rfl ?_
            obtain rfl := Option.some.inj h
            exact HR _ _ dX11_undoes_42
          have hc2 := hc
          have h := jif hc h
          have hc : v2 = 3 := jin4 hg hc0 hc1 hc2
          refine j_aald (pc' := 38) K dX11_undoes_37 3 4 rfl rfl hg (by rw [hc]; rfl) rfl ?_
          refine j_iload_n (pc' := 39) K dX11_undoes_38 rfl 3 rfl rfl ?_
          obtain ⟨r39, hr39, h⟩ := jbd_some h
          refine j_ro (pc' := 42) K (fun H hP => jrun_V K dX11_undoes_39 (M_X2_firstRowNotUndone (jl E) (jg E) (a0 16) (a0 17) (a0 18) (a0 19) (a0 20) (a0 21) (a0 22) (a0 23) (a0 24) (a0 25) (a0 26) (a0 27) v3 (X_law2 s0) (X_law3 s0) hr39) u_2_166 u_2_163 u_2_164 u_2_165 u_1_11 ⟨ok_X2_firstRowNotUndone, by decide, by decide⟩ rfl (Nat.le_of_ble_eq_true rfl) 16 rfl rfl H hP) [16, 17, 18, 19, 20, 21, 22, 23, 24, 25, 26, 27] (cl_37_f ..) rfl ?_
          obtain rfl := Option.some.inj h
          exact HR _ _ dX11_undoes_42
        have hc2 := hc
        have h := jif hc h
        have hc : v1 = 3 := jin4 hg hc0 hc1 hc2
        refine j_aald (pc' := 32) K dX11_undoes_31 3 4 rfl rfl hg (by rw [hc]; rfl) rfl ?_
        refine j_aload_n (pc' := 33) K dX11_undoes_32 rfl 0 rfl rfl ?_
        refine j_get (pc' := 36) K dX11_undoes_33 inX11 0 rfl rfl 1 (by decide) u_1_198 rfl rfl rfl ?_
        refine j_iload_n (pc' := 37) K dX11_undoes_36 rfl 2 rfl rfl ?_
        obtain ⟨hg, h⟩ := jgd_some h
        by_cases hc : v2 = 0
        · have h := jit hc h
          refine j_aald (pc' := 38) K dX11_undoes_37 3 4 rfl rfl hg (by rw [hc]; rfl) rfl ?_
          refine j_iload_n (pc' := 39) K dX11_undoes_38 rfl 3 rfl rfl ?_
          obtain ⟨r39, hr39, h⟩ := jbd_some h
          refine j_ro (pc' := 42) K (fun H hP => jrun_V K dX11_undoes_39 (M_X2_firstRowNotUndone (jl E) (jg E) (a0 22) (a0 23) (a0 24) (a0 25) (a0 26) (a0 27) (a0 4) (a0 5) (a0 6) (a0 7) (a0 8) (a0 9) v3 (X_law3 s0) (X_law0 s0) hr39) u_2_166 u_2_163 u_2_164 u_2_165 u_1_11 ⟨ok_X2_firstRowNotUndone, by decide, by decide⟩ rfl (Nat.le_of_ble_eq_true rfl) 22 rfl rfl H hP) [22, 23, 24, 25, 26, 27, 4, 5, 6, 7, 8, 9] (cl_38_f ..) rfl ?_
          obtain rfl := Option.some.inj h
          exact HR _ _ dX11_undoes_42
        have hc0 := hc
        have h := jif hc h
        by_cases hc : v2 = 1
        · have h := jit hc h
          refine j_aald (pc' := 38) K dX11_undoes_37 3 4 rfl rfl hg (by rw [hc]; rfl) rfl ?_
          refine j_iload_n (pc' := 39) K dX11_undoes_38 rfl 3 rfl rfl ?_
          obtain ⟨r39, hr39, h⟩ := jbd_some h
          refine j_ro (pc' := 42) K (fun H hP => jrun_V K dX11_undoes_39 (M_X2_firstRowNotUndone (jl E) (jg E) (a0 22) (a0 23) (a0 24) (a0 25) (a0 26) (a0 27) (a0 10) (a0 11) (a0 12) (a0 13) (a0 14) (a0 15) v3 (X_law3 s0) (X_law1 s0) hr39) u_2_166 u_2_163 u_2_164 u_2_165 u_1_11 ⟨ok_X2_firstRowNotUndone, by decide, by decide⟩ rfl (Nat.le_of_ble_eq_true rfl) 22 rfl rfl H hP) [22, 23, 24, 25, 26, 27, 10, 11, 12, 13, 14, 15] (cl_39_f ..) rfl ?_
          obtain rfl := Option.some.inj h
          exact HR _ _ dX11_undoes_42
        have hc1 := hc
        have h := jif hc h
        by_cases hc : v2 = 2
        · have h := jit hc h
          refine j_aald (pc' := 38) K dX11_undoes_37 3 4 rfl rfl hg (by rw [hc]; rfl) rfl ?_
          refine j_iload_n (pc' := 39) K dX11_undoes_38 rfl 3 rfl rfl ?_
          obtain ⟨r39, hr39, h⟩ := jbd_some h
          refine j_ro (pc' := 42) K (fun H hP => jrun_V K dX11_undoes_39 (M_X2_firstRowNotUndone (jl E) (jg E) (a0 22) (a0 23) (a0 24) (a0 25) (a0 26) (a0 27) (a0 16) (a0 17) (a0 18) (a0 19) (a0 20) (a0 21) v3 (X_law3 s0) (X_law2 s0) hr39) u_2_166 u_2_163 u_2_164 u_2_165 u_1_11 ⟨ok_X2_firstRowNotUndone, by decide, by decide⟩ rfl (Nat.le_of_ble_eq_true rfl) 22 rfl rfl H hP) [22, 23, 24, 25, 26, 27, 16, 17, 18, 19, 20, 21] (cl_40_f ..) rfl ?_
          obtain rfl := Option.some.inj h
          exact HR _ _ dX11_undoes_42
        have hc2 := hc
        have h := jif hc h
        have hc : v2 = 3 := jin4 hg hc0 hc1 hc2
        refine j_aald (pc' := 38) K dX11_undoes_37 3 4 rfl rfl hg (by rw [hc]; rfl) rfl ?_
        refine j_iload_n (pc' := 39) K dX11_undoes_38 rfl 3 rfl rfl ?_
        obtain ⟨r39, hr39, h⟩ := jbd_some h
        refine j_ro (pc' := 42) K (fun H hP => jrun_V K dX11_undoes_39 (M_X2_firstRowNotUndone (jl E) (jg E) (a0 22) (a0 23) (a0 24) (a0 25) (a0 26) (a0 27) (a0 22) (a0 23) (a0 24) (a0 25) (a0 26) (a0 27) v3 (X_law3 s0) (X_law3 s0) hr39) u_2_166 u_2_163 u_2_164 u_2_165 u_1_11 ⟨ok_X2_firstRowNotUndone, by decide, by decide⟩ rfl (Nat.le_of_ble_eq_true rfl) 22 rfl rfl H hP) [22, 23, 24, 25, 26, 27, 22, 23, 24, 25, 26, 27] (cl_41_f ..) rfl ?_
        obtain rfl := Option.some.inj h
        exact HR _ _ dX11_undoes_42
      · have h := jit hc h
        refine j_iconst (pc' := 25) (v := (-1 : Int32)) K dX11_undoes_24 (by decide) rfl ?_
        obtain rfl := Option.some.inj h
        exact HR _ _ dX11_undoes_25
set_option maxRecDepth 100000 in
set_option maxHeartbeats 4000000 in
theorem M_X11_undoes (l : Launch) (G : jG) (a0 : Nat → Nat) (v1 : Int32) (v2 : Int32) (v3 : Int32) (s0 : XS) {r : Int32} (h : f_X11_undoes v1 v2 v3 s0 = some r) : MC l yX11_undoes cX11_undoes 4 (some .int) 5 G jNo False (wX G a0 s0) (wX G a0 s0) [.ref (a0 0), .int v1, .int v2, .int v3] (some (.int r)) := by
  refine mc_int (by decide +kernel) (Nat.le_of_ble_eq_true rfl) fun E hl hg hA hrw K HR => ?_
  subst hl
  subst hg
  exact b_X11_undoes a0 s0 K HR v1 v2 v3 h
theorem ok_X11_back : yX11_back.cls ≠ "java/lang/invoke/MethodHandle" ∧ yX11_back.cls ≠ "java/lang/invoke/VarHandle" ∧ (parseMethodDescriptor yX11_back.desc).map (fun d => d.parameters.length) = some 3 := ⟨by decide, by decide, by decide +kernel⟩
def f_X11_back (v1 : Int32) (v2 : Int32) (v3 : Int32) (s0 : XS) : Option (Int64 × XS) :=
   jbd (f_X11_isLaw v1) (fun r1 =>
   if r1 = 0 then
    some ((-1000000000000000001 : Int64), s0)
   else
    jbd (f_X11_isPlace v2 v3 (24 : Int32)) (fun r11 =>
     if r11 = 0 then
      some ((-1000000000000000001 : Int64), s0)
     else
      jgd v1 4 (
       if v1 = 0 then (
        jbd (f_X2_inverseAt v2 v3 (X_law0 s0)) (fun r29 =>
         jbd (f_X11_answer (r29.1)) (fun r32 =>
          some (r32, (X_law0_s s0 (r29.2)))))) else if v1 = 1 then (
        jbd (f_X2_inverseAt v2 v3 (X_law1 s0)) (fun r29 =>
         jbd (f_X11_answer (r29.1)) (fun r32 =>
          some (r32, (X_law1_s s0 (r29.2)))))) else if v1 = 2 then (
        jbd (f_X2_inverseAt v2 v3 (X_law2 s0)) (fun r29 =>
         jbd (f_X11_answer (r29.1)) (fun r32 =>
          some (r32, (X_law2_s s0 (r29.2)))))) else (
        jbd (f_X2_inverseAt v2 v3 (X_law3 s0)) (fun r29 =>
         jbd (f_X11_answer (r29.1)) (fun r32 =>
          some (r32, (X_law3_s s0 (r29.2)))))))))
set_option maxRecDepth 100000 in
set_option maxHeartbeats 4000000 in
theorem b_X11_back {E : jE} (a0 : Nat → Nat) {res : Int64 × XS} (K : jC E cX11_back 4 RX11 5) (hrw : jrw E) (HR : jRL E cX11_back 4 (wX (jg E) a0 (res.2)) (res.1)) : ∀ (v1 : Int32) (v2 : Int32) (v3 : Int32) (s0 : XS), f_X11_back v1 v2 v3 s0 = some res → J E 4 (wX (jg E) a0 s0) 0 [(0, .ref (a0 0)), (1, .int v1), (2, .int v2), (3, .int v3)] [] := by
  intro v1 v2 v3 s0 h
  unfold f_X11_back at h
  refine j_iload_n (pc' := 1) K dX11_back_0 rfl 1 rfl rfl ?_
  obtain ⟨r1, hr1, h⟩ := jbd_some h
  refine j_ro (pc' := 4) K (fun H hP => jrun_S K dX11_back_1 (M_X11_isLaw (jl E) (jg E) v1 hr1) u_2_23 u_2_21 u_2_22 u_1_1 ⟨ok_X11_isLaw, by decide, by decide⟩ rfl (Nat.le_of_ble_eq_true rfl) H) [] rfl rfl ?_
  refine j_if_eq (pc' := 7) (tgt := 17) K dX11_back_4 (by decide) rfl (fun hc => ?_) (fun hc => ?_)
  · have h := jit hc h
    refine j_ldc2 (pc' := 20) K dX11_back_17 u_2_90 rfl ?_
    obtain rfl := Option.some.inj h
    exact HR _ _ dX11_back_20
  · have h := jif hc h
    refine j_iload_n (pc' := 8) K dX11_back_7 rfl 2 rfl rfl ?_
    refine j_iload_n (pc' := 9) K dX11_back_8 rfl 3 rfl rfl ?_
    refine j_bipush (pc' := 11) (v := (24 : Int32)) K dX11_back_9 (by decide) rfl ?_
    obtain ⟨r11, hr11, h⟩ := jbd_some h
    refine j_ro (pc' := 14) K (fun H hP => jrun_S K dX11_back_11 (M_X11_isPlace (jl E) (jg E) v2 v3 (24 : Int32) hr11) u_2_63 u_2_89 u_2_62 u_1_1 ⟨ok_X11_isPlace, by decide, by decide⟩ rfl (Nat.le_of_ble_eq_true rfl) H) [] rfl rfl ?_
    refine j_if_ne (pc' := 17) (tgt := 21) K dX11_back_14 (by decide) rfl (fun hc => ?_) (fun hc => ?_)
    · have h := jif hc h
      refine j_aload_n (pc' := 22) K dX11_back_21 rfl 0 rfl rfl ?_
      refine j_get (pc' := 25) K dX11_back_22 inX11 0 rfl rfl 1 (by decide) u_1_198 rfl rfl rfl ?_
      refine j_iload_n (pc' := 26) K dX11_back_25 rfl 1 rfl rfl ?_
      obtain ⟨hg, h⟩ := jgd_some h
      by_cases hc : v1 = 0
      · have h := jit hc h
        refine j_aald (pc' := 27) K dX11_back_26 3 4 rfl rfl hg (by rw [hc]; rfl) rfl ?_
        refine j_iload_n (pc' := 28) K dX11_back_27 rfl 2 rfl rfl ?_
        refine j_iload_n (pc' := 29) K dX11_back_28 rfl 3 rfl rfl ?_
        obtain ⟨r29, hr29, h⟩ := jbd_some h
        refine j_rw (pc' := 32) (ws' := (wX (jg E) a0 (X_law0_s s0 (r29.2)))) K (fun H hP => jrun_V K dX11_back_29 (M_X2_inverseAt (jl E) (jg E) (a0 4) (a0 5) (a0 6) (a0 7) (a0 8) (a0 9) v2 v3 (X_law0 s0) hr29) u_2_175 u_2_172 u_2_173 u_2_174 u_1_11 ⟨ok_X2_inverseAt, by decide, by decide⟩ rfl (Nat.le_of_ble_eq_true rfl) 4 rfl rfl H hP) hrw [4, 5, 6, 7, 8, 9] rfl (cl_22_s ..) rfl (cl_22_m ..) (ad_X ..) rfl ?_
        obtain ⟨r32, hr32, h⟩ := jbd_some h
        refine j_ro (pc' := 35) K (fun H hP => jrun_S K dX11_back_32 (M_X11_answer (jl E) (jg E) (r29.1) hr32) u_2_94 u_2_92 u_2_93 u_1_1 ⟨ok_X11_answer, by decide, by decide⟩ rfl (Nat.le_of_ble_eq_true rfl) H) [] rfl rfl ?_
        obtain rfl := Option.some.inj h
        exact HR _ _ dX11_back_35
      have hc0 := hc
      have h := jif hc h
      by_cases hc : v1 = 1
      · have h := jit hc h
        refine j_aald (pc' := 27) K dX11_back_26 3 4 rfl rfl hg (by rw [hc]; rfl) rfl ?_
        refine j_iload_n (pc' := 28) K dX11_back_27 rfl 2 rfl rfl ?_
        refine j_iload_n (pc' := 29) K dX11_back_28 rfl 3 rfl rfl ?_
        obtain ⟨r29, hr29, h⟩ := jbd_some h
        refine j_rw (pc' := 32) (ws' := (wX (jg E) a0 (X_law1_s s0 (r29.2)))) K (fun H hP => jrun_V K dX11_back_29 (M_X2_inverseAt (jl E) (jg E) (a0 10) (a0 11) (a0 12) (a0 13) (a0 14) (a0 15) v2 v3 (X_law1 s0) hr29) u_2_175 u_2_172 u_2_173 u_2_174 u_1_11 ⟨ok_X2_inverseAt, by decide, by decide⟩ rfl (Nat.le_of_ble_eq_true rfl) 10 rfl rfl H hP) hrw [10, 11, 12, 13, 14, 15] rfl (cl_23_s ..) rfl (cl_23_m ..) (ad_X ..) rfl ?_
        obtain ⟨r32, hr32, h⟩ := jbd_some h
        refine j_ro (pc' := 35) K (fun H hP => jrun_S K dX11_back_32 (M_X11_answer (jl E) (jg E) (r29.1) hr32) u_2_94 u_2_92 u_2_93 u_1_1 ⟨ok_X11_answer, by decide, by decide⟩ rfl (Nat.le_of_ble_eq_true rfl) H) [] rfl rfl ?_
        obtain rfl := Option.some.inj h
        exact HR _ _ dX11_back_35
      have hc1 := hc
      have h := jif hc h
      by_cases hc : v1 = 2
      · have h := jit hc h
        refine j_aald (pc' := 27) K dX11_back_26 3 4 rfl rfl hg (by rw [hc]; rfl) rfl ?_
        refine j_iload_n (pc' := 28) K dX11_back_27 rfl 2 rfl rfl ?_
        refine j_iload_n (pc' := 29) K dX11_back_28 rfl 3 rfl rfl ?_
        obtain ⟨r29, hr29, h⟩ := jbd_some h
        refine j_rw (pc' := 32) (ws' := (wX (jg E) a0 (X_law2_s s0 (r29.2)))) K (fun H hP => jrun_V K dX11_back_29 (M_X2_inverseAt (jl E) (jg E) (a0 16) (a0 17) (a0 18) (a0 19) (a0 20) (a0 21) v2 v3 (X_law2 s0) hr29) u_2_175 u_2_172 u_2_173 u_2_174 u_1_11 ⟨ok_X2_inverseAt, by decide, by decide⟩ rfl (Nat.le_of_ble_eq_true rfl) 16 rfl rfl H hP) hrw [16, 17, 18, 19, 20, 21] rfl (cl_24_s ..) rfl (cl_24_m ..) (ad_X ..) rfl ?_
        obtain ⟨r32, hr32, h⟩ := jbd_some h
        refine j_ro (pc' := 35) K (fun H hP => jrun_S K dX11_back_32 (M_X11_answer (jl E) (jg E) (r29.1) hr32) u_2_94 u_2_92 u_2_93 u_1_1 ⟨ok_X11_answer, by decide, by decide⟩ rfl (Nat.le_of_ble_eq_true rfl) H) [] rfl rfl ?_
        obtain rfl := Option.some.inj h
        exact HR _ _ dX11_back_35
      have hc2 := hc
      have h := jif hc h
      have hc : v1 = 3 := jin4 hg hc0 hc1 hc2
      refine j_aald (pc' := 27) K dX11_back_26 3 4 rfl rfl hg (by rw [hc]; rfl) rfl ?_
      refine j_iload_n (pc' := 28) K dX11_back_27 rfl 2 rfl rfl ?_
      refine j_iload_n (pc' := 29) K dX11_back_28 rfl 3 rfl rfl ?_
      obtain ⟨r29, hr29, h⟩ := jbd_some h
      refine j_rw (pc' := 32) (ws' := (wX (jg E) a0 (X_law3_s s0 (r29.2)))) K (fun H hP => jrun_V K dX11_back_29 (M_X2_inverseAt (jl E) (jg E) (a0 22) (a0 23) (a0 24) (a0 25) (a0 26) (a0 27) v2 v3 (X_law3 s0) hr29) u_2_175 u_2_172 u_2_173 u_2_174 u_1_11 ⟨ok_X2_inverseAt, by decide, by decide⟩ rfl (Nat.le_of_ble_eq_true rfl) 22 rfl rfl H hP) hrw [22, 23, 24, 25, 26, 27] rfl (cl_25_s ..) rfl (cl_25_m ..) (ad_X ..) rfl ?_
      obtain ⟨r32, hr32, h⟩ := jbd_some h
      refine j_ro (pc' := 35) K (fun H hP => jrun_S K dX11_back_32 (M_X11_answer (jl E) (jg E) (r29.1) hr32) u_2_94 u_2_92 u_2_93 u_1_1 ⟨ok_X11_answer, by decide, by decide⟩ rfl (Nat.le_of_ble_eq_true rfl) H) [] rfl rfl ?_
      obtain rfl := Option.some.inj h
      exact HR _ _ dX11_back_35
    · have h := jit hc h
      refine j_ldc2 (pc' := 20) K dX11_back_17 u_2_90 rfl ?_
      obtain rfl := Option.some.inj h
      exact HR _ _ dX11_back_20
set_option maxRecDepth 100000 in
set_option maxHeartbeats 4000000 in
theorem M_X11_back (l : Launch) (G : jG) (a0 : Nat → Nat) (v1 : Int32) (v2 : Int32) (v3 : Int32) (s0 : XS) {r : Int64 × XS} (h : f_X11_back v1 v2 v3 s0 = some r) : MC l yX11_back cX11_back 4 (some .long) 5 G (jad (wX G a0 s0)) True (wX G a0 s0) (wX G a0 (r.2)) [.ref (a0 0), .int v1, .int v2, .int v3] (some (.long (r.1))) := by
  refine mc_long (by decide +kernel) (Nat.le_of_ble_eq_true rfl) fun E hl hg hA hrw K HR => ?_
  subst hl
  subst hg
  have hrw : jrw E := by rw [hrw]; trivial
  exact b_X11_back a0 K hrw HR v1 v2 v3 s0 h
