/-! ===== the kinds of objects: states and cells ===== -/
abbrev TextS : Type := (Nat → Int32) × Int32
def Text_bytes (s : TextS) : Nat → Int32 := s.1
def Text_bytes_s (s : TextS) (v : Nat → Int32) : TextS := (v, s.2)
def Text_length (s : TextS) : Int32 := s.2
def Text_length_s (s : TextS) (v : Int32) : TextS := (s.1, v)
def wText (G : jG) (p0 p1 : Nat) (s : TextS) : va_W := [(p0, .inr (9, [.ref p1, .int (Text_length s)])), (p1, .inl (G.2.1 2, 120, .inl (Text_bytes s)))]
theorem st_Text_0_1 (G : jG) (p0 p1 : Nat) (s : TextS) (v : Int32) : (wText G p0 p1 s).set 0 (p0, .inr (9, [.ref p1, .int (Text_length s)].set 1 (.int v))) = wText G p0 p1 (Text_length_s s v) := rfl
theorem st_Text_1 (G : jG) (p0 p1 : Nat) (s : TextS) (v : Nat → Int32) : (wText G p0 p1 s).set 1 (p1, .inl (G.2.1 2, 120, .inl v)) = wText G p0 p1 (Text_bytes_s s v) := rfl
theorem ad_Text (G : jG) (p0 p1 : Nat) (s t : TextS) : (wText G p0 p1 t).map Prod.fst = (wText G p0 p1 s).map Prod.fst := rfl
abbrev LawS : Type := (Nat → Int32) × (Nat → Int32) × (Nat → Int64) × (Nat → Int64) × (Nat → Int32) × Int32 × Int32
def Law_left (s : LawS) : Nat → Int32 := s.1
def Law_left_s (s : LawS) (v : Nat → Int32) : LawS := (v, s.2.1, s.2.2.1, s.2.2.2.1, s.2.2.2.2.1, s.2.2.2.2.2.1, s.2.2.2.2.2.2)
def Law_above (s : LawS) : Nat → Int32 := s.2.1
def Law_above_s (s : LawS) (v : Nat → Int32) : LawS := (s.1, v, s.2.2.1, s.2.2.2.1, s.2.2.2.2.1, s.2.2.2.2.2.1, s.2.2.2.2.2.2)
def Law_numbers (s : LawS) : Nat → Int64 := s.2.2.1
def Law_numbers_s (s : LawS) (v : Nat → Int64) : LawS := (s.1, s.2.1, v, s.2.2.2.1, s.2.2.2.2.1, s.2.2.2.2.2.1, s.2.2.2.2.2.2)
def Law_column (s : LawS) : Nat → Int64 := s.2.2.2.1
def Law_column_s (s : LawS) (v : Nat → Int64) : LawS := (s.1, s.2.1, s.2.2.1, v, s.2.2.2.2.1, s.2.2.2.2.2.1, s.2.2.2.2.2.2)
def Law_rests (s : LawS) : Nat → Int32 := s.2.2.2.2.1
def Law_rests_s (s : LawS) (v : Nat → Int32) : LawS := (s.1, s.2.1, s.2.2.1, s.2.2.2.1, v, s.2.2.2.2.2.1, s.2.2.2.2.2.2)
def Law_top (s : LawS) : Int32 := s.2.2.2.2.2.1
def Law_top_s (s : LawS) (v : Int32) : LawS := (s.1, s.2.1, s.2.2.1, s.2.2.2.1, s.2.2.2.2.1, v, s.2.2.2.2.2.2)
def Law_items (s : LawS) : Int32 := s.2.2.2.2.2.2
def Law_items_s (s : LawS) (v : Int32) : LawS := (s.1, s.2.1, s.2.2.1, s.2.2.2.1, s.2.2.2.2.1, s.2.2.2.2.2.1, v)
def wLaw (G : jG) (p0 p1 p2 p3 p4 p5 : Nat) (s : LawS) : va_W := [(p0, .inr (2, [.ref p1, .ref p2, .ref p3, .ref p4, .ref p5, .int (Law_top s), .int (Law_items s)])), (p1, .inl (G.2.1 0, 3, .inl (Law_left s))), (p2, .inl (G.2.1 0, 3, .inl (Law_above s))), (p3, .inl (G.2.1 1, 325, .inr (.inl (Law_numbers s)))), (p4, .inl (G.2.1 1, 25, .inr (.inl (Law_column s)))), (p5, .inl (G.2.1 0, 61, .inl (Law_rests s)))]
theorem st_Law_0_5 (G : jG) (p0 p1 p2 p3 p4 p5 : Nat) (s : LawS) (v : Int32) : (wLaw G p0 p1 p2 p3 p4 p5 s).set 0 (p0, .inr (2, [.ref p1, .ref p2, .ref p3, .ref p4, .ref p5, .int (Law_top s), .int (Law_items s)].set 5 (.int v))) = wLaw G p0 p1 p2 p3 p4 p5 (Law_top_s s v) := rfl
theorem st_Law_0_6 (G : jG) (p0 p1 p2 p3 p4 p5 : Nat) (s : LawS) (v : Int32) : (wLaw G p0 p1 p2 p3 p4 p5 s).set 0 (p0, .inr (2, [.ref p1, .ref p2, .ref p3, .ref p4, .ref p5, .int (Law_top s), .int (Law_items s)].set 6 (.int v))) = wLaw G p0 p1 p2 p3 p4 p5 (Law_items_s s v) := rfl
theorem st_Law_1 (G : jG) (p0 p1 p2 p3 p4 p5 : Nat) (s : LawS) (v : Nat → Int32) : (wLaw G p0 p1 p2 p3 p4 p5 s).set 1 (p1, .inl (G.2.1 0, 3, .inl v)) = wLaw G p0 p1 p2 p3 p4 p5 (Law_left_s s v) := rfl
theorem st_Law_2 (G : jG) (p0 p1 p2 p3 p4 p5 : Nat) (s : LawS) (v : Nat → Int32) : (wLaw G p0 p1 p2 p3 p4 p5 s).set 2 (p2, .inl (G.2.1 0, 3, .inl v)) = wLaw G p0 p1 p2 p3 p4 p5 (Law_above_s s v) := rfl
theorem st_Law_3 (G : jG) (p0 p1 p2 p3 p4 p5 : Nat) (s : LawS) (v : Nat → Int64) : (wLaw G p0 p1 p2 p3 p4 p5 s).set 3 (p3, .inl (G.2.1 1, 325, .inr (.inl v))) = wLaw G p0 p1 p2 p3 p4 p5 (Law_numbers_s s v) := rfl
theorem st_Law_4 (G : jG) (p0 p1 p2 p3 p4 p5 : Nat) (s : LawS) (v : Nat → Int64) : (wLaw G p0 p1 p2 p3 p4 p5 s).set 4 (p4, .inl (G.2.1 1, 25, .inr (.inl v))) = wLaw G p0 p1 p2 p3 p4 p5 (Law_column_s s v) := rfl
theorem st_Law_5 (G : jG) (p0 p1 p2 p3 p4 p5 : Nat) (s : LawS) (v : Nat → Int32) : (wLaw G p0 p1 p2 p3 p4 p5 s).set 5 (p5, .inl (G.2.1 0, 61, .inl v)) = wLaw G p0 p1 p2 p3 p4 p5 (Law_rests_s s v) := rfl
theorem ad_Law (G : jG) (p0 p1 p2 p3 p4 p5 : Nat) (s t : LawS) : (wLaw G p0 p1 p2 p3 p4 p5 t).map Prod.fst = (wLaw G p0 p1 p2 p3 p4 p5 s).map Prod.fst := rfl
abbrev PartingsS : Type := (Nat → Int32)
def wPartings (G : jG) (p0 p1 : Nat) (s : PartingsS) : va_W := [(p0, .inr (6, [.ref p1])), (p1, .inl (G.2.1 0, 81, .inl s))]
theorem st_Partings_1 (G : jG) (p0 p1 : Nat) (s : PartingsS) (v : Nat → Int32) : (wPartings G p0 p1 s).set 1 (p1, .inl (G.2.1 0, 81, .inl v)) = wPartings G p0 p1 v := rfl
theorem ad_Partings (G : jG) (p0 p1 : Nat) (s t : PartingsS) : (wPartings G p0 p1 t).map Prod.fst = (wPartings G p0 p1 s).map Prod.fst := rfl
abbrev RingsS : Type := (Nat → Int32)
def wRings (G : jG) (p0 p1 : Nat) (s : RingsS) : va_W := [(p0, .inr (8, [.ref p1])), (p1, .inl (G.2.1 0, 81, .inl s))]
theorem st_Rings_1 (G : jG) (p0 p1 : Nat) (s : RingsS) (v : Nat → Int32) : (wRings G p0 p1 s).set 1 (p1, .inl (G.2.1 0, 81, .inl v)) = wRings G p0 p1 v := rfl
abbrev FallsS : Type := (Nat → Int32)
def wFalls (G : jG) (p0 p1 : Nat) (s : FallsS) : va_W := [(p0, .inr (0, [.ref p1])), (p1, .inl (G.2.1 0, 729, .inl s))]
theorem st_Falls_1 (G : jG) (p0 p1 : Nat) (s : FallsS) (v : Nat → Int32) : (wFalls G p0 p1 s).set 1 (p1, .inl (G.2.1 0, 729, .inl v)) = wFalls G p0 p1 v := rfl
abbrev LesserPairsS : Type := (Nat → Int32)
def wLesserPairs (G : jG) (p0 p1 : Nat) (s : LesserPairsS) : va_W := [(p0, .inr (3, [.ref p1])), (p1, .inl (G.2.1 0, 261, .inl s))]
theorem st_LesserPairs_1 (G : jG) (p0 p1 : Nat) (s : LesserPairsS) (v : Nat → Int32) : (wLesserPairs G p0 p1 s).set 1 (p1, .inl (G.2.1 0, 261, .inl v)) = wLesserPairs G p0 p1 v := rfl
abbrev LongestRiseS : Type := (Nat → Int32) × Int32
def LongestRise_table (s : LongestRiseS) : Nat → Int32 := s.1
def LongestRise_table_s (s : LongestRiseS) (v : Nat → Int32) : LongestRiseS := (v, s.2)
def LongestRise_wanted (s : LongestRiseS) : Int32 := s.2
def LongestRise_wanted_s (s : LongestRiseS) (v : Int32) : LongestRiseS := (s.1, v)
def wLongestRise (G : jG) (p0 p1 : Nat) (s : LongestRiseS) : va_W := [(p0, .inr (4, [.ref p1, .int (LongestRise_wanted s)])), (p1, .inl (G.2.1 0, 512, .inl (LongestRise_table s)))]
theorem st_LongestRise_0_1 (G : jG) (p0 p1 : Nat) (s : LongestRiseS) (v : Int32) : (wLongestRise G p0 p1 s).set 0 (p0, .inr (4, [.ref p1, .int (LongestRise_wanted s)].set 1 (.int v))) = wLongestRise G p0 p1 (LongestRise_wanted_s s v) := rfl
theorem st_LongestRise_1 (G : jG) (p0 p1 : Nat) (s : LongestRiseS) (v : Nat → Int32) : (wLongestRise G p0 p1 s).set 1 (p1, .inl (G.2.1 0, 512, .inl v)) = wLongestRise G p0 p1 (LongestRise_table_s s v) := rfl
theorem ad_LongestRise (G : jG) (p0 p1 : Nat) (s t : LongestRiseS) : (wLongestRise G p0 p1 t).map Prod.fst = (wLongestRise G p0 p1 s).map Prod.fst := rfl
abbrev HeightsS : Type := (Nat → Int32)
def wHeights (G : jG) (p0 p1 p2 : Nat) (s : HeightsS) : va_W := [(p0, .inr (1, [.ref p1])), (p1, .inr (8, [.ref p2])), (p2, .inl (G.2.1 0, 81, .inl s))]
theorem st_Heights_2 (G : jG) (p0 p1 p2 : Nat) (s : HeightsS) (v : Nat → Int32) : (wHeights G p0 p1 p2 s).set 2 (p2, .inl (G.2.1 0, 81, .inl v)) = wHeights G p0 p1 p2 v := rfl
abbrev PolynomialS : Type := (Nat → Int64) × (Nat → Int64) × Int32
def Polynomial_coefficients (s : PolynomialS) : Nat → Int64 := s.1
def Polynomial_coefficients_s (s : PolynomialS) (v : Nat → Int64) : PolynomialS := (v, s.2.1, s.2.2)
def Polynomial_room (s : PolynomialS) : Nat → Int64 := s.2.1
def Polynomial_room_s (s : PolynomialS) (v : Nat → Int64) : PolynomialS := (s.1, v, s.2.2)
def Polynomial_base (s : PolynomialS) : Int32 := s.2.2
def Polynomial_base_s (s : PolynomialS) (v : Int32) : PolynomialS := (s.1, s.2.1, v)
def wPolynomial (G : jG) (p0 p1 p2 : Nat) (s : PolynomialS) : va_W := [(p0, .inr (7, [.ref p1, .ref p2, .int (Polynomial_base s)])), (p1, .inl (G.2.1 1, 9, .inr (.inl (Polynomial_coefficients s)))), (p2, .inl (G.2.1 1, 9, .inr (.inl (Polynomial_room s))))]
theorem st_Polynomial_0_2 (G : jG) (p0 p1 p2 : Nat) (s : PolynomialS) (v : Int32) : (wPolynomial G p0 p1 p2 s).set 0 (p0, .inr (7, [.ref p1, .ref p2, .int (Polynomial_base s)].set 2 (.int v))) = wPolynomial G p0 p1 p2 (Polynomial_base_s s v) := rfl
theorem st_Polynomial_1 (G : jG) (p0 p1 p2 : Nat) (s : PolynomialS) (v : Nat → Int64) : (wPolynomial G p0 p1 p2 s).set 1 (p1, .inl (G.2.1 1, 9, .inr (.inl v))) = wPolynomial G p0 p1 p2 (Polynomial_coefficients_s s v) := rfl
theorem st_Polynomial_2 (G : jG) (p0 p1 p2 : Nat) (s : PolynomialS) (v : Nat → Int64) : (wPolynomial G p0 p1 p2 s).set 2 (p2, .inl (G.2.1 1, 9, .inr (.inl v))) = wPolynomial G p0 p1 p2 (Polynomial_room_s s v) := rfl
theorem ad_Polynomial (G : jG) (p0 p1 p2 : Nat) (s t : PolynomialS) : (wPolynomial G p0 p1 p2 t).map Prod.fst = (wPolynomial G p0 p1 p2 s).map Prod.fst := rfl
abbrev OrdersS : Type := (Nat → Int32) × (Nat → Int32) × RingsS × FallsS × LesserPairsS × LongestRiseS
def Orders_row (s : OrdersS) : Nat → Int32 := s.1
def Orders_row_s (s : OrdersS) (v : Nat → Int32) : OrdersS := (v, s.2.1, s.2.2.1, s.2.2.2.1, s.2.2.2.2.1, s.2.2.2.2.2)
def Orders_source (s : OrdersS) : Nat → Int32 := s.2.1
def Orders_source_s (s : OrdersS) (v : Nat → Int32) : OrdersS := (s.1, v, s.2.2.1, s.2.2.2.1, s.2.2.2.2.1, s.2.2.2.2.2)
def Orders_rings (s : OrdersS) : RingsS := s.2.2.1
def Orders_rings_s (s : OrdersS) (v : RingsS) : OrdersS := (s.1, s.2.1, v, s.2.2.2.1, s.2.2.2.2.1, s.2.2.2.2.2)
def Orders_falls (s : OrdersS) : FallsS := s.2.2.2.1
def Orders_falls_s (s : OrdersS) (v : FallsS) : OrdersS := (s.1, s.2.1, s.2.2.1, v, s.2.2.2.2.1, s.2.2.2.2.2)
def Orders_pairs (s : OrdersS) : LesserPairsS := s.2.2.2.2.1
def Orders_pairs_s (s : OrdersS) (v : LesserPairsS) : OrdersS := (s.1, s.2.1, s.2.2.1, s.2.2.2.1, v, s.2.2.2.2.2)
def Orders_rise (s : OrdersS) : LongestRiseS := s.2.2.2.2.2
def Orders_rise_s (s : OrdersS) (v : LongestRiseS) : OrdersS := (s.1, s.2.1, s.2.2.1, s.2.2.2.1, s.2.2.2.2.1, v)
def wOrders (G : jG) (p0 p1 p2 p3 p4 p5 p6 p7 p8 p9 p10 p11 p12 : Nat) (s : OrdersS) : va_W := [(p0, .inr (5, [.ref p1, .ref p2, .ref p3])), (p1, .inl (G.2.1 0, 8, .inl (Orders_row s))), (p2, .inl (G.2.1 0, 8, .inl (Orders_source s))), (p3, .inl (G.2.1 5, 5, .inr (.inr (.inr (.inr (fun j => ([p4, p6, p8, p10, p11] : List Nat)[j]?))))))] ++ (wRings G p4 p5 (Orders_rings s) ++ (wFalls G p6 p7 (Orders_falls s) ++ (wLesserPairs G p8 p9 (Orders_pairs s) ++ ([(p10, .inr (1, [.ref p4]))] ++ (wLongestRise G p11 p12 (Orders_rise s))))))
theorem st_Orders_1 (G : jG) (p0 p1 p2 p3 p4 p5 p6 p7 p8 p9 p10 p11 p12 : Nat) (s : OrdersS) (v : Nat → Int32) : (wOrders G p0 p1 p2 p3 p4 p5 p6 p7 p8 p9 p10 p11 p12 s).set 1 (p1, .inl (G.2.1 0, 8, .inl v)) = wOrders G p0 p1 p2 p3 p4 p5 p6 p7 p8 p9 p10 p11 p12 (Orders_row_s s v) := rfl
theorem st_Orders_2 (G : jG) (p0 p1 p2 p3 p4 p5 p6 p7 p8 p9 p10 p11 p12 : Nat) (s : OrdersS) (v : Nat → Int32) : (wOrders G p0 p1 p2 p3 p4 p5 p6 p7 p8 p9 p10 p11 p12 s).set 2 (p2, .inl (G.2.1 0, 8, .inl v)) = wOrders G p0 p1 p2 p3 p4 p5 p6 p7 p8 p9 p10 p11 p12 (Orders_source_s s v) := rfl
theorem ad_Orders (G : jG) (p0 p1 p2 p3 p4 p5 p6 p7 p8 p9 p10 p11 p12 : Nat) (s t : OrdersS) : (wOrders G p0 p1 p2 p3 p4 p5 p6 p7 p8 p9 p10 p11 p12 t).map Prod.fst = (wOrders G p0 p1 p2 p3 p4 p5 p6 p7 p8 p9 p10 p11 p12 s).map Prod.fst := rfl
abbrev XS : Type := TextS × LawS × LawS × LawS × LawS × PartingsS × OrdersS × PolynomialS × PolynomialS × PolynomialS × PolynomialS
def X_text (s : XS) : TextS := s.1
def X_text_s (s : XS) (v : TextS) : XS := (v, s.2.1, s.2.2.1, s.2.2.2.1, s.2.2.2.2.1, s.2.2.2.2.2.1, s.2.2.2.2.2.2.1, s.2.2.2.2.2.2.2.1, s.2.2.2.2.2.2.2.2.1, s.2.2.2.2.2.2.2.2.2.1, s.2.2.2.2.2.2.2.2.2.2)
def X_law0 (s : XS) : LawS := s.2.1
def X_law0_s (s : XS) (v : LawS) : XS := (s.1, v, s.2.2.1, s.2.2.2.1, s.2.2.2.2.1, s.2.2.2.2.2.1, s.2.2.2.2.2.2.1, s.2.2.2.2.2.2.2.1, s.2.2.2.2.2.2.2.2.1, s.2.2.2.2.2.2.2.2.2.1, s.2.2.2.2.2.2.2.2.2.2)
def X_law1 (s : XS) : LawS := s.2.2.1
def X_law1_s (s : XS) (v : LawS) : XS := (s.1, s.2.1, v, s.2.2.2.1, s.2.2.2.2.1, s.2.2.2.2.2.1, s.2.2.2.2.2.2.1, s.2.2.2.2.2.2.2.1, s.2.2.2.2.2.2.2.2.1, s.2.2.2.2.2.2.2.2.2.1, s.2.2.2.2.2.2.2.2.2.2)
def X_law2 (s : XS) : LawS := s.2.2.2.1
def X_law2_s (s : XS) (v : LawS) : XS := (s.1, s.2.1, s.2.2.1, v, s.2.2.2.2.1, s.2.2.2.2.2.1, s.2.2.2.2.2.2.1, s.2.2.2.2.2.2.2.1, s.2.2.2.2.2.2.2.2.1, s.2.2.2.2.2.2.2.2.2.1, s.2.2.2.2.2.2.2.2.2.2)
def X_law3 (s : XS) : LawS := s.2.2.2.2.1
def X_law3_s (s : XS) (v : LawS) : XS := (s.1, s.2.1, s.2.2.1, s.2.2.2.1, v, s.2.2.2.2.2.1, s.2.2.2.2.2.2.1, s.2.2.2.2.2.2.2.1, s.2.2.2.2.2.2.2.2.1, s.2.2.2.2.2.2.2.2.2.1, s.2.2.2.2.2.2.2.2.2.2)
def X_partings (s : XS) : PartingsS := s.2.2.2.2.2.1
def X_partings_s (s : XS) (v : PartingsS) : XS := (s.1, s.2.1, s.2.2.1, s.2.2.2.1, s.2.2.2.2.1, v, s.2.2.2.2.2.2.1, s.2.2.2.2.2.2.2.1, s.2.2.2.2.2.2.2.2.1, s.2.2.2.2.2.2.2.2.2.1, s.2.2.2.2.2.2.2.2.2.2)
def X_orders (s : XS) : OrdersS := s.2.2.2.2.2.2.1
def X_orders_s (s : XS) (v : OrdersS) : XS := (s.1, s.2.1, s.2.2.1, s.2.2.2.1, s.2.2.2.2.1, s.2.2.2.2.2.1, v, s.2.2.2.2.2.2.2.1, s.2.2.2.2.2.2.2.2.1, s.2.2.2.2.2.2.2.2.2.1, s.2.2.2.2.2.2.2.2.2.2)
def X_poly0 (s : XS) : PolynomialS := s.2.2.2.2.2.2.2.1
def X_poly0_s (s : XS) (v : PolynomialS) : XS := (s.1, s.2.1, s.2.2.1, s.2.2.2.1, s.2.2.2.2.1, s.2.2.2.2.2.1, s.2.2.2.2.2.2.1, v, s.2.2.2.2.2.2.2.2.1, s.2.2.2.2.2.2.2.2.2.1, s.2.2.2.2.2.2.2.2.2.2)
def X_poly1 (s : XS) : PolynomialS := s.2.2.2.2.2.2.2.2.1
def X_poly1_s (s : XS) (v : PolynomialS) : XS := (s.1, s.2.1, s.2.2.1, s.2.2.2.1, s.2.2.2.2.1, s.2.2.2.2.2.1, s.2.2.2.2.2.2.1, s.2.2.2.2.2.2.2.1, v, s.2.2.2.2.2.2.2.2.2.1, s.2.2.2.2.2.2.2.2.2.2)
def X_poly2 (s : XS) : PolynomialS := s.2.2.2.2.2.2.2.2.2.1
def X_poly2_s (s : XS) (v : PolynomialS) : XS := (s.1, s.2.1, s.2.2.1, s.2.2.2.1, s.2.2.2.2.1, s.2.2.2.2.2.1, s.2.2.2.2.2.2.1, s.2.2.2.2.2.2.2.1, s.2.2.2.2.2.2.2.2.1, v, s.2.2.2.2.2.2.2.2.2.2)
def X_poly3 (s : XS) : PolynomialS := s.2.2.2.2.2.2.2.2.2.2
def X_poly3_s (s : XS) (v : PolynomialS) : XS := (s.1, s.2.1, s.2.2.1, s.2.2.2.1, s.2.2.2.2.1, s.2.2.2.2.2.1, s.2.2.2.2.2.2.1, s.2.2.2.2.2.2.2.1, s.2.2.2.2.2.2.2.2.1, s.2.2.2.2.2.2.2.2.2.1, v)
def wX (G : jG) (a : Nat → Nat) (s : XS) : va_W := [((a 0), .inr (10, [.ref (a 1), .ref (a 3), .ref (a 28), .ref (a 30), .ref (a 43)]))] ++ (wText G (a 1) (a 2) (X_text s) ++ ([((a 3), .inl (G.2.1 4, 4, .inr (.inr (.inr (.inr (fun j => ([(a 4), (a 10), (a 16), (a 22)] : List Nat)[j]?))))))] ++ (wLaw G (a 4) (a 5) (a 6) (a 7) (a 8) (a 9) (X_law0 s) ++ (wLaw G (a 10) (a 11) (a 12) (a 13) (a 14) (a 15) (X_law1 s) ++ (wLaw G (a 16) (a 17) (a 18) (a 19) (a 20) (a 21) (X_law2 s) ++ (wLaw G (a 22) (a 23) (a 24) (a 25) (a 26) (a 27) (X_law3 s) ++ (wPartings G (a 28) (a 29) (X_partings s) ++ (wOrders G (a 30) (a 31) (a 32) (a 33) (a 34) (a 35) (a 36) (a 37) (a 38) (a 39) (a 40) (a 41) (a 42) (X_orders s) ++ ([((a 43), .inl (G.2.1 6, 4, .inr (.inr (.inr (.inr (fun j => ([(a 44), (a 47), (a 50), (a 53)] : List Nat)[j]?))))))] ++ (wPolynomial G (a 44) (a 45) (a 46) (X_poly0 s) ++ (wPolynomial G (a 47) (a 48) (a 49) (X_poly1 s) ++ (wPolynomial G (a 50) (a 51) (a 52) (X_poly2 s) ++ (wPolynomial G (a 53) (a 54) (a 55) (X_poly3 s))))))))))))))
theorem ad_X (G : jG) (a : Nat → Nat) (s t : XS) : (wX G a t).map Prod.fst = (wX G a s).map Prod.fst := rfl
abbrev MS : Type := Int32 × (Nat → Int32) × Int32 × Int32 × Int32 × (Nat → Int32) × (Nat → Int32) × (Nat → Int32) × (Nat → Int64) × (Nat → Int32) × (Nat → Int32) × (Nat → Int64) × Int32 × (Nat → Int32) × (Nat → Int32) × (Nat → Int32) × (Nat → Int32) × (Nat → Int64) × (Nat → Int64) × (Nat → Int64) × (Nat → Int64)
def M_bytes (s : MS) : Int32 := s.1
def M_bytes_s (s : MS) (v : Int32) : MS := (v, s.2.1, s.2.2.1, s.2.2.2.1, s.2.2.2.2.1, s.2.2.2.2.2.1, s.2.2.2.2.2.2.1, s.2.2.2.2.2.2.2.1, s.2.2.2.2.2.2.2.2.1, s.2.2.2.2.2.2.2.2.2.1, s.2.2.2.2.2.2.2.2.2.2.1, s.2.2.2.2.2.2.2.2.2.2.2.1, s.2.2.2.2.2.2.2.2.2.2.2.2.1, s.2.2.2.2.2.2.2.2.2.2.2.2.2.1, s.2.2.2.2.2.2.2.2.2.2.2.2.2.2.1, s.2.2.2.2.2.2.2.2.2.2.2.2.2.2.2.1, s.2.2.2.2.2.2.2.2.2.2.2.2.2.2.2.2.1, s.2.2.2.2.2.2.2.2.2.2.2.2.2.2.2.2.2.1, s.2.2.2.2.2.2.2.2.2.2.2.2.2.2.2.2.2.2.1, s.2.2.2.2.2.2.2.2.2.2.2.2.2.2.2.2.2.2.2.1, s.2.2.2.2.2.2.2.2.2.2.2.2.2.2.2.2.2.2.2.2)
def M_text (s : MS) : Nat → Int32 := s.2.1
def M_text_s (s : MS) (v : Nat → Int32) : MS := (s.1, v, s.2.2.1, s.2.2.2.1, s.2.2.2.2.1, s.2.2.2.2.2.1, s.2.2.2.2.2.2.1, s.2.2.2.2.2.2.2.1, s.2.2.2.2.2.2.2.2.1, s.2.2.2.2.2.2.2.2.2.1, s.2.2.2.2.2.2.2.2.2.2.1, s.2.2.2.2.2.2.2.2.2.2.2.1, s.2.2.2.2.2.2.2.2.2.2.2.2.1, s.2.2.2.2.2.2.2.2.2.2.2.2.2.1, s.2.2.2.2.2.2.2.2.2.2.2.2.2.2.1, s.2.2.2.2.2.2.2.2.2.2.2.2.2.2.2.1, s.2.2.2.2.2.2.2.2.2.2.2.2.2.2.2.2.1, s.2.2.2.2.2.2.2.2.2.2.2.2.2.2.2.2.2.1, s.2.2.2.2.2.2.2.2.2.2.2.2.2.2.2.2.2.2.1, s.2.2.2.2.2.2.2.2.2.2.2.2.2.2.2.2.2.2.2.1, s.2.2.2.2.2.2.2.2.2.2.2.2.2.2.2.2.2.2.2.2)
def M_position (s : MS) : Int32 := s.2.2.1
def M_position_s (s : MS) (v : Int32) : MS := (s.1, s.2.1, v, s.2.2.2.1, s.2.2.2.2.1, s.2.2.2.2.2.1, s.2.2.2.2.2.2.1, s.2.2.2.2.2.2.2.1, s.2.2.2.2.2.2.2.2.1, s.2.2.2.2.2.2.2.2.2.1, s.2.2.2.2.2.2.2.2.2.2.1, s.2.2.2.2.2.2.2.2.2.2.2.1, s.2.2.2.2.2.2.2.2.2.2.2.2.1, s.2.2.2.2.2.2.2.2.2.2.2.2.2.1, s.2.2.2.2.2.2.2.2.2.2.2.2.2.2.1, s.2.2.2.2.2.2.2.2.2.2.2.2.2.2.2.1, s.2.2.2.2.2.2.2.2.2.2.2.2.2.2.2.2.1, s.2.2.2.2.2.2.2.2.2.2.2.2.2.2.2.2.2.1, s.2.2.2.2.2.2.2.2.2.2.2.2.2.2.2.2.2.2.1, s.2.2.2.2.2.2.2.2.2.2.2.2.2.2.2.2.2.2.2.1, s.2.2.2.2.2.2.2.2.2.2.2.2.2.2.2.2.2.2.2.2)
def M_begin (s : MS) : Int32 := s.2.2.2.1
def M_begin_s (s : MS) (v : Int32) : MS := (s.1, s.2.1, s.2.2.1, v, s.2.2.2.2.1, s.2.2.2.2.2.1, s.2.2.2.2.2.2.1, s.2.2.2.2.2.2.2.1, s.2.2.2.2.2.2.2.2.1, s.2.2.2.2.2.2.2.2.2.1, s.2.2.2.2.2.2.2.2.2.2.1, s.2.2.2.2.2.2.2.2.2.2.2.1, s.2.2.2.2.2.2.2.2.2.2.2.2.1, s.2.2.2.2.2.2.2.2.2.2.2.2.2.1, s.2.2.2.2.2.2.2.2.2.2.2.2.2.2.1, s.2.2.2.2.2.2.2.2.2.2.2.2.2.2.2.1, s.2.2.2.2.2.2.2.2.2.2.2.2.2.2.2.2.1, s.2.2.2.2.2.2.2.2.2.2.2.2.2.2.2.2.2.1, s.2.2.2.2.2.2.2.2.2.2.2.2.2.2.2.2.2.2.1, s.2.2.2.2.2.2.2.2.2.2.2.2.2.2.2.2.2.2.2.1, s.2.2.2.2.2.2.2.2.2.2.2.2.2.2.2.2.2.2.2.2)
def M_readMany (s : MS) : Int32 := s.2.2.2.2.1
def M_readMany_s (s : MS) (v : Int32) : MS := (s.1, s.2.1, s.2.2.1, s.2.2.2.1, v, s.2.2.2.2.2.1, s.2.2.2.2.2.2.1, s.2.2.2.2.2.2.2.1, s.2.2.2.2.2.2.2.2.1, s.2.2.2.2.2.2.2.2.2.1, s.2.2.2.2.2.2.2.2.2.2.1, s.2.2.2.2.2.2.2.2.2.2.2.1, s.2.2.2.2.2.2.2.2.2.2.2.2.1, s.2.2.2.2.2.2.2.2.2.2.2.2.2.1, s.2.2.2.2.2.2.2.2.2.2.2.2.2.2.1, s.2.2.2.2.2.2.2.2.2.2.2.2.2.2.2.1, s.2.2.2.2.2.2.2.2.2.2.2.2.2.2.2.2.1, s.2.2.2.2.2.2.2.2.2.2.2.2.2.2.2.2.2.1, s.2.2.2.2.2.2.2.2.2.2.2.2.2.2.2.2.2.2.1, s.2.2.2.2.2.2.2.2.2.2.2.2.2.2.2.2.2.2.2.1, s.2.2.2.2.2.2.2.2.2.2.2.2.2.2.2.2.2.2.2.2)
def M_read (s : MS) : Nat → Int32 := s.2.2.2.2.2.1
def M_read_s (s : MS) (v : Nat → Int32) : MS := (s.1, s.2.1, s.2.2.1, s.2.2.2.1, s.2.2.2.2.1, v, s.2.2.2.2.2.2.1, s.2.2.2.2.2.2.2.1, s.2.2.2.2.2.2.2.2.1, s.2.2.2.2.2.2.2.2.2.1, s.2.2.2.2.2.2.2.2.2.2.1, s.2.2.2.2.2.2.2.2.2.2.2.1, s.2.2.2.2.2.2.2.2.2.2.2.2.1, s.2.2.2.2.2.2.2.2.2.2.2.2.2.1, s.2.2.2.2.2.2.2.2.2.2.2.2.2.2.1, s.2.2.2.2.2.2.2.2.2.2.2.2.2.2.2.1, s.2.2.2.2.2.2.2.2.2.2.2.2.2.2.2.2.1, s.2.2.2.2.2.2.2.2.2.2.2.2.2.2.2.2.2.1, s.2.2.2.2.2.2.2.2.2.2.2.2.2.2.2.2.2.2.1, s.2.2.2.2.2.2.2.2.2.2.2.2.2.2.2.2.2.2.2.1, s.2.2.2.2.2.2.2.2.2.2.2.2.2.2.2.2.2.2.2.2)
def M_law (s : MS) : Nat → Int32 := s.2.2.2.2.2.2.1
def M_law_s (s : MS) (v : Nat → Int32) : MS := (s.1, s.2.1, s.2.2.1, s.2.2.2.1, s.2.2.2.2.1, s.2.2.2.2.2.1, v, s.2.2.2.2.2.2.2.1, s.2.2.2.2.2.2.2.2.1, s.2.2.2.2.2.2.2.2.2.1, s.2.2.2.2.2.2.2.2.2.2.1, s.2.2.2.2.2.2.2.2.2.2.2.1, s.2.2.2.2.2.2.2.2.2.2.2.2.1, s.2.2.2.2.2.2.2.2.2.2.2.2.2.1, s.2.2.2.2.2.2.2.2.2.2.2.2.2.2.1, s.2.2.2.2.2.2.2.2.2.2.2.2.2.2.2.1, s.2.2.2.2.2.2.2.2.2.2.2.2.2.2.2.2.1, s.2.2.2.2.2.2.2.2.2.2.2.2.2.2.2.2.2.1, s.2.2.2.2.2.2.2.2.2.2.2.2.2.2.2.2.2.2.1, s.2.2.2.2.2.2.2.2.2.2.2.2.2.2.2.2.2.2.2.1, s.2.2.2.2.2.2.2.2.2.2.2.2.2.2.2.2.2.2.2.2)
def M_items (s : MS) : Nat → Int32 := s.2.2.2.2.2.2.2.1
def M_items_s (s : MS) (v : Nat → Int32) : MS := (s.1, s.2.1, s.2.2.1, s.2.2.2.1, s.2.2.2.2.1, s.2.2.2.2.2.1, s.2.2.2.2.2.2.1, v, s.2.2.2.2.2.2.2.2.1, s.2.2.2.2.2.2.2.2.2.1, s.2.2.2.2.2.2.2.2.2.2.1, s.2.2.2.2.2.2.2.2.2.2.2.1, s.2.2.2.2.2.2.2.2.2.2.2.2.1, s.2.2.2.2.2.2.2.2.2.2.2.2.2.1, s.2.2.2.2.2.2.2.2.2.2.2.2.2.2.1, s.2.2.2.2.2.2.2.2.2.2.2.2.2.2.2.1, s.2.2.2.2.2.2.2.2.2.2.2.2.2.2.2.2.1, s.2.2.2.2.2.2.2.2.2.2.2.2.2.2.2.2.2.1, s.2.2.2.2.2.2.2.2.2.2.2.2.2.2.2.2.2.2.1, s.2.2.2.2.2.2.2.2.2.2.2.2.2.2.2.2.2.2.2.1, s.2.2.2.2.2.2.2.2.2.2.2.2.2.2.2.2.2.2.2.2)
def M_cell (s : MS) : Nat → Int64 := s.2.2.2.2.2.2.2.2.1
def M_cell_s (s : MS) (v : Nat → Int64) : MS := (s.1, s.2.1, s.2.2.1, s.2.2.2.1, s.2.2.2.2.1, s.2.2.2.2.2.1, s.2.2.2.2.2.2.1, s.2.2.2.2.2.2.2.1, v, s.2.2.2.2.2.2.2.2.2.1, s.2.2.2.2.2.2.2.2.2.2.1, s.2.2.2.2.2.2.2.2.2.2.2.1, s.2.2.2.2.2.2.2.2.2.2.2.2.1, s.2.2.2.2.2.2.2.2.2.2.2.2.2.1, s.2.2.2.2.2.2.2.2.2.2.2.2.2.2.1, s.2.2.2.2.2.2.2.2.2.2.2.2.2.2.2.1, s.2.2.2.2.2.2.2.2.2.2.2.2.2.2.2.2.1, s.2.2.2.2.2.2.2.2.2.2.2.2.2.2.2.2.2.1, s.2.2.2.2.2.2.2.2.2.2.2.2.2.2.2.2.2.2.1, s.2.2.2.2.2.2.2.2.2.2.2.2.2.2.2.2.2.2.2.1, s.2.2.2.2.2.2.2.2.2.2.2.2.2.2.2.2.2.2.2.2)
def M_isGreat (s : MS) : Nat → Int32 := s.2.2.2.2.2.2.2.2.2.1
def M_isGreat_s (s : MS) (v : Nat → Int32) : MS := (s.1, s.2.1, s.2.2.1, s.2.2.2.1, s.2.2.2.2.1, s.2.2.2.2.2.1, s.2.2.2.2.2.2.1, s.2.2.2.2.2.2.2.1, s.2.2.2.2.2.2.2.2.1, v, s.2.2.2.2.2.2.2.2.2.2.1, s.2.2.2.2.2.2.2.2.2.2.2.1, s.2.2.2.2.2.2.2.2.2.2.2.2.1, s.2.2.2.2.2.2.2.2.2.2.2.2.2.1, s.2.2.2.2.2.2.2.2.2.2.2.2.2.2.1, s.2.2.2.2.2.2.2.2.2.2.2.2.2.2.2.1, s.2.2.2.2.2.2.2.2.2.2.2.2.2.2.2.2.1, s.2.2.2.2.2.2.2.2.2.2.2.2.2.2.2.2.2.1, s.2.2.2.2.2.2.2.2.2.2.2.2.2.2.2.2.2.2.1, s.2.2.2.2.2.2.2.2.2.2.2.2.2.2.2.2.2.2.2.1, s.2.2.2.2.2.2.2.2.2.2.2.2.2.2.2.2.2.2.2.2)
def M_rests (s : MS) : Nat → Int32 := s.2.2.2.2.2.2.2.2.2.2.1
def M_rests_s (s : MS) (v : Nat → Int32) : MS := (s.1, s.2.1, s.2.2.1, s.2.2.2.1, s.2.2.2.2.1, s.2.2.2.2.2.1, s.2.2.2.2.2.2.1, s.2.2.2.2.2.2.2.1, s.2.2.2.2.2.2.2.2.1, s.2.2.2.2.2.2.2.2.2.1, v, s.2.2.2.2.2.2.2.2.2.2.2.1, s.2.2.2.2.2.2.2.2.2.2.2.2.1, s.2.2.2.2.2.2.2.2.2.2.2.2.2.1, s.2.2.2.2.2.2.2.2.2.2.2.2.2.2.1, s.2.2.2.2.2.2.2.2.2.2.2.2.2.2.2.1, s.2.2.2.2.2.2.2.2.2.2.2.2.2.2.2.2.1, s.2.2.2.2.2.2.2.2.2.2.2.2.2.2.2.2.2.1, s.2.2.2.2.2.2.2.2.2.2.2.2.2.2.2.2.2.2.1, s.2.2.2.2.2.2.2.2.2.2.2.2.2.2.2.2.2.2.2.1, s.2.2.2.2.2.2.2.2.2.2.2.2.2.2.2.2.2.2.2.2)
def M_column (s : MS) : Nat → Int64 := s.2.2.2.2.2.2.2.2.2.2.2.1
def M_column_s (s : MS) (v : Nat → Int64) : MS := (s.1, s.2.1, s.2.2.1, s.2.2.2.1, s.2.2.2.2.1, s.2.2.2.2.2.1, s.2.2.2.2.2.2.1, s.2.2.2.2.2.2.2.1, s.2.2.2.2.2.2.2.2.1, s.2.2.2.2.2.2.2.2.2.1, s.2.2.2.2.2.2.2.2.2.2.1, v, s.2.2.2.2.2.2.2.2.2.2.2.2.1, s.2.2.2.2.2.2.2.2.2.2.2.2.2.1, s.2.2.2.2.2.2.2.2.2.2.2.2.2.2.1, s.2.2.2.2.2.2.2.2.2.2.2.2.2.2.2.1, s.2.2.2.2.2.2.2.2.2.2.2.2.2.2.2.2.1, s.2.2.2.2.2.2.2.2.2.2.2.2.2.2.2.2.2.1, s.2.2.2.2.2.2.2.2.2.2.2.2.2.2.2.2.2.2.1, s.2.2.2.2.2.2.2.2.2.2.2.2.2.2.2.2.2.2.2.1, s.2.2.2.2.2.2.2.2.2.2.2.2.2.2.2.2.2.2.2.2)
def M_isNo (s : MS) : Int32 := s.2.2.2.2.2.2.2.2.2.2.2.2.1
def M_isNo_s (s : MS) (v : Int32) : MS := (s.1, s.2.1, s.2.2.1, s.2.2.2.1, s.2.2.2.2.1, s.2.2.2.2.2.1, s.2.2.2.2.2.2.1, s.2.2.2.2.2.2.2.1, s.2.2.2.2.2.2.2.2.1, s.2.2.2.2.2.2.2.2.2.1, s.2.2.2.2.2.2.2.2.2.2.1, s.2.2.2.2.2.2.2.2.2.2.2.1, v, s.2.2.2.2.2.2.2.2.2.2.2.2.2.1, s.2.2.2.2.2.2.2.2.2.2.2.2.2.2.1, s.2.2.2.2.2.2.2.2.2.2.2.2.2.2.2.1, s.2.2.2.2.2.2.2.2.2.2.2.2.2.2.2.2.1, s.2.2.2.2.2.2.2.2.2.2.2.2.2.2.2.2.2.1, s.2.2.2.2.2.2.2.2.2.2.2.2.2.2.2.2.2.2.1, s.2.2.2.2.2.2.2.2.2.2.2.2.2.2.2.2.2.2.2.1, s.2.2.2.2.2.2.2.2.2.2.2.2.2.2.2.2.2.2.2.2)
def M_digit (s : MS) : Nat → Int32 := s.2.2.2.2.2.2.2.2.2.2.2.2.2.1
def M_digit_s (s : MS) (v : Nat → Int32) : MS := (s.1, s.2.1, s.2.2.1, s.2.2.2.1, s.2.2.2.2.1, s.2.2.2.2.2.1, s.2.2.2.2.2.2.1, s.2.2.2.2.2.2.2.1, s.2.2.2.2.2.2.2.2.1, s.2.2.2.2.2.2.2.2.2.1, s.2.2.2.2.2.2.2.2.2.2.1, s.2.2.2.2.2.2.2.2.2.2.2.1, s.2.2.2.2.2.2.2.2.2.2.2.2.1, v, s.2.2.2.2.2.2.2.2.2.2.2.2.2.2.1, s.2.2.2.2.2.2.2.2.2.2.2.2.2.2.2.1, s.2.2.2.2.2.2.2.2.2.2.2.2.2.2.2.2.1, s.2.2.2.2.2.2.2.2.2.2.2.2.2.2.2.2.2.1, s.2.2.2.2.2.2.2.2.2.2.2.2.2.2.2.2.2.2.1, s.2.2.2.2.2.2.2.2.2.2.2.2.2.2.2.2.2.2.2.1, s.2.2.2.2.2.2.2.2.2.2.2.2.2.2.2.2.2.2.2.2)
def M_other (s : MS) : Nat → Int32 := s.2.2.2.2.2.2.2.2.2.2.2.2.2.2.1
def M_other_s (s : MS) (v : Nat → Int32) : MS := (s.1, s.2.1, s.2.2.1, s.2.2.2.1, s.2.2.2.2.1, s.2.2.2.2.2.1, s.2.2.2.2.2.2.1, s.2.2.2.2.2.2.2.1, s.2.2.2.2.2.2.2.2.1, s.2.2.2.2.2.2.2.2.2.1, s.2.2.2.2.2.2.2.2.2.2.1, s.2.2.2.2.2.2.2.2.2.2.2.1, s.2.2.2.2.2.2.2.2.2.2.2.2.1, s.2.2.2.2.2.2.2.2.2.2.2.2.2.1, v, s.2.2.2.2.2.2.2.2.2.2.2.2.2.2.2.1, s.2.2.2.2.2.2.2.2.2.2.2.2.2.2.2.2.1, s.2.2.2.2.2.2.2.2.2.2.2.2.2.2.2.2.2.1, s.2.2.2.2.2.2.2.2.2.2.2.2.2.2.2.2.2.2.1, s.2.2.2.2.2.2.2.2.2.2.2.2.2.2.2.2.2.2.2.1, s.2.2.2.2.2.2.2.2.2.2.2.2.2.2.2.2.2.2.2.2)
def M_turned (s : MS) : Nat → Int32 := s.2.2.2.2.2.2.2.2.2.2.2.2.2.2.2.1
def M_turned_s (s : MS) (v : Nat → Int32) : MS := (s.1, s.2.1, s.2.2.1, s.2.2.2.1, s.2.2.2.2.1, s.2.2.2.2.2.1, s.2.2.2.2.2.2.1, s.2.2.2.2.2.2.2.1, s.2.2.2.2.2.2.2.2.1, s.2.2.2.2.2.2.2.2.2.1, s.2.2.2.2.2.2.2.2.2.2.1, s.2.2.2.2.2.2.2.2.2.2.2.1, s.2.2.2.2.2.2.2.2.2.2.2.2.1, s.2.2.2.2.2.2.2.2.2.2.2.2.2.1, s.2.2.2.2.2.2.2.2.2.2.2.2.2.2.1, v, s.2.2.2.2.2.2.2.2.2.2.2.2.2.2.2.2.1, s.2.2.2.2.2.2.2.2.2.2.2.2.2.2.2.2.2.1, s.2.2.2.2.2.2.2.2.2.2.2.2.2.2.2.2.2.2.1, s.2.2.2.2.2.2.2.2.2.2.2.2.2.2.2.2.2.2.2.1, s.2.2.2.2.2.2.2.2.2.2.2.2.2.2.2.2.2.2.2.2)
def M_base (s : MS) : Nat → Int32 := s.2.2.2.2.2.2.2.2.2.2.2.2.2.2.2.2.1
def M_base_s (s : MS) (v : Nat → Int32) : MS := (s.1, s.2.1, s.2.2.1, s.2.2.2.1, s.2.2.2.2.1, s.2.2.2.2.2.1, s.2.2.2.2.2.2.1, s.2.2.2.2.2.2.2.1, s.2.2.2.2.2.2.2.2.1, s.2.2.2.2.2.2.2.2.2.1, s.2.2.2.2.2.2.2.2.2.2.1, s.2.2.2.2.2.2.2.2.2.2.2.1, s.2.2.2.2.2.2.2.2.2.2.2.2.1, s.2.2.2.2.2.2.2.2.2.2.2.2.2.1, s.2.2.2.2.2.2.2.2.2.2.2.2.2.2.1, s.2.2.2.2.2.2.2.2.2.2.2.2.2.2.2.1, v, s.2.2.2.2.2.2.2.2.2.2.2.2.2.2.2.2.2.1, s.2.2.2.2.2.2.2.2.2.2.2.2.2.2.2.2.2.2.1, s.2.2.2.2.2.2.2.2.2.2.2.2.2.2.2.2.2.2.2.1, s.2.2.2.2.2.2.2.2.2.2.2.2.2.2.2.2.2.2.2.2)
def M_factor (s : MS) : Nat → Int64 := s.2.2.2.2.2.2.2.2.2.2.2.2.2.2.2.2.2.1
def M_factor_s (s : MS) (v : Nat → Int64) : MS := (s.1, s.2.1, s.2.2.1, s.2.2.2.1, s.2.2.2.2.1, s.2.2.2.2.2.1, s.2.2.2.2.2.2.1, s.2.2.2.2.2.2.2.1, s.2.2.2.2.2.2.2.2.1, s.2.2.2.2.2.2.2.2.2.1, s.2.2.2.2.2.2.2.2.2.2.1, s.2.2.2.2.2.2.2.2.2.2.2.1, s.2.2.2.2.2.2.2.2.2.2.2.2.1, s.2.2.2.2.2.2.2.2.2.2.2.2.2.1, s.2.2.2.2.2.2.2.2.2.2.2.2.2.2.1, s.2.2.2.2.2.2.2.2.2.2.2.2.2.2.2.1, s.2.2.2.2.2.2.2.2.2.2.2.2.2.2.2.2.1, v, s.2.2.2.2.2.2.2.2.2.2.2.2.2.2.2.2.2.2.1, s.2.2.2.2.2.2.2.2.2.2.2.2.2.2.2.2.2.2.2.1, s.2.2.2.2.2.2.2.2.2.2.2.2.2.2.2.2.2.2.2.2)
def M_falling (s : MS) : Nat → Int64 := s.2.2.2.2.2.2.2.2.2.2.2.2.2.2.2.2.2.2.1
def M_falling_s (s : MS) (v : Nat → Int64) : MS := (s.1, s.2.1, s.2.2.1, s.2.2.2.1, s.2.2.2.2.1, s.2.2.2.2.2.1, s.2.2.2.2.2.2.1, s.2.2.2.2.2.2.2.1, s.2.2.2.2.2.2.2.2.1, s.2.2.2.2.2.2.2.2.2.1, s.2.2.2.2.2.2.2.2.2.2.1, s.2.2.2.2.2.2.2.2.2.2.2.1, s.2.2.2.2.2.2.2.2.2.2.2.2.1, s.2.2.2.2.2.2.2.2.2.2.2.2.2.1, s.2.2.2.2.2.2.2.2.2.2.2.2.2.2.1, s.2.2.2.2.2.2.2.2.2.2.2.2.2.2.2.1, s.2.2.2.2.2.2.2.2.2.2.2.2.2.2.2.2.1, s.2.2.2.2.2.2.2.2.2.2.2.2.2.2.2.2.2.1, v, s.2.2.2.2.2.2.2.2.2.2.2.2.2.2.2.2.2.2.2.1, s.2.2.2.2.2.2.2.2.2.2.2.2.2.2.2.2.2.2.2.2)
def M_made (s : MS) : Nat → Int64 := s.2.2.2.2.2.2.2.2.2.2.2.2.2.2.2.2.2.2.2.1
def M_made_s (s : MS) (v : Nat → Int64) : MS := (s.1, s.2.1, s.2.2.1, s.2.2.2.1, s.2.2.2.2.1, s.2.2.2.2.2.1, s.2.2.2.2.2.2.1, s.2.2.2.2.2.2.2.1, s.2.2.2.2.2.2.2.2.1, s.2.2.2.2.2.2.2.2.2.1, s.2.2.2.2.2.2.2.2.2.2.1, s.2.2.2.2.2.2.2.2.2.2.2.1, s.2.2.2.2.2.2.2.2.2.2.2.2.1, s.2.2.2.2.2.2.2.2.2.2.2.2.2.1, s.2.2.2.2.2.2.2.2.2.2.2.2.2.2.1, s.2.2.2.2.2.2.2.2.2.2.2.2.2.2.2.1, s.2.2.2.2.2.2.2.2.2.2.2.2.2.2.2.2.1, s.2.2.2.2.2.2.2.2.2.2.2.2.2.2.2.2.2.1, s.2.2.2.2.2.2.2.2.2.2.2.2.2.2.2.2.2.2.1, v, s.2.2.2.2.2.2.2.2.2.2.2.2.2.2.2.2.2.2.2.2)
def M_table (s : MS) : Nat → Int64 := s.2.2.2.2.2.2.2.2.2.2.2.2.2.2.2.2.2.2.2.2
def M_table_s (s : MS) (v : Nat → Int64) : MS := (s.1, s.2.1, s.2.2.1, s.2.2.2.1, s.2.2.2.2.1, s.2.2.2.2.2.1, s.2.2.2.2.2.2.1, s.2.2.2.2.2.2.2.1, s.2.2.2.2.2.2.2.2.1, s.2.2.2.2.2.2.2.2.2.1, s.2.2.2.2.2.2.2.2.2.2.1, s.2.2.2.2.2.2.2.2.2.2.2.1, s.2.2.2.2.2.2.2.2.2.2.2.2.1, s.2.2.2.2.2.2.2.2.2.2.2.2.2.1, s.2.2.2.2.2.2.2.2.2.2.2.2.2.2.1, s.2.2.2.2.2.2.2.2.2.2.2.2.2.2.2.1, s.2.2.2.2.2.2.2.2.2.2.2.2.2.2.2.2.1, s.2.2.2.2.2.2.2.2.2.2.2.2.2.2.2.2.2.1, s.2.2.2.2.2.2.2.2.2.2.2.2.2.2.2.2.2.2.1, s.2.2.2.2.2.2.2.2.2.2.2.2.2.2.2.2.2.2.2.1, v)
def wM (G : jG) (a : Nat → Nat) (s : MS) : va_W := [((a 0), .inr (11, [.int (M_bytes s), .ref (a 1), .int (M_position s), .int (M_begin s), .int (M_readMany s), .ref (a 2), .ref (a 3), .ref (a 4), .ref (a 5), .ref (a 6), .ref (a 7), .ref (a 8), .int (M_isNo s), .ref (a 9), .ref (a 10), .ref (a 11), .ref (a 12), .ref (a 13), .ref (a 14), .ref (a 15), .ref (a 16)])), ((a 1), .inl (G.2.1 0, 120, .inl (M_text s))), ((a 2), .inl (G.2.1 0, 7, .inl (M_read s))), ((a 3), .inl (G.2.1 0, 28, .inl (M_law s))), ((a 4), .inl (G.2.1 0, 4, .inl (M_items s))), ((a 5), .inl (G.2.1 1, 650, .inr (.inl (M_cell s)))), ((a 6), .inl (G.2.1 3, 650, .inl (M_isGreat s))), ((a 7), .inl (G.2.1 0, 122, .inl (M_rests s))), ((a 8), .inl (G.2.1 1, 25, .inr (.inl (M_column s)))), ((a 9), .inl (G.2.1 0, 8, .inl (M_digit s))), ((a 10), .inl (G.2.1 0, 8, .inl (M_other s))), ((a 11), .inl (G.2.1 0, 8, .inl (M_turned s))), ((a 12), .inl (G.2.1 0, 4, .inl (M_base s))), ((a 13), .inl (G.2.1 1, 36, .inr (.inl (M_factor s)))), ((a 14), .inl (G.2.1 1, 9, .inr (.inl (M_falling s)))), ((a 15), .inl (G.2.1 1, 9, .inr (.inl (M_made s)))), ((a 16), .inl (G.2.1 1, 9, .inr (.inl (M_table s))))]
theorem st_M_0_0 (G : jG) (a : Nat → Nat) (s : MS) (v : Int32) : (wM G a s).set 0 ((a 0), .inr (11, [.int (M_bytes s), .ref (a 1), .int (M_position s), .int (M_begin s), .int (M_readMany s), .ref (a 2), .ref (a 3), .ref (a 4), .ref (a 5), .ref (a 6), .ref (a 7), .ref (a 8), .int (M_isNo s), .ref (a 9), .ref (a 10), .ref (a 11), .ref (a 12), .ref (a 13), .ref (a 14), .ref (a 15), .ref (a 16)].set 0 (.int v))) = wM G a (M_bytes_s s v) := rfl
theorem st_M_0_2 (G : jG) (a : Nat → Nat) (s : MS) (v : Int32) : (wM G a s).set 0 ((a 0), .inr (11, [.int (M_bytes s), .ref (a 1), .int (M_position s), .int (M_begin s), .int (M_readMany s), .ref (a 2), .ref (a 3), .ref (a 4), .ref (a 5), .ref (a 6), .ref (a 7), .ref (a 8), .int (M_isNo s), .ref (a 9), .ref (a 10), .ref (a 11), .ref (a 12), .ref (a 13), .ref (a 14), .ref (a 15), .ref (a 16)].set 2 (.int v))) = wM G a (M_position_s s v) := rfl
theorem st_M_0_3 (G : jG) (a : Nat → Nat) (s : MS) (v : Int32) : (wM G a s).set 0 ((a 0), .inr (11, [.int (M_bytes s), .ref (a 1), .int (M_position s), .int (M_begin s), .int (M_readMany s), .ref (a 2), .ref (a 3), .ref (a 4), .ref (a 5), .ref (a 6), .ref (a 7), .ref (a 8), .int (M_isNo s), .ref (a 9), .ref (a 10), .ref (a 11), .ref (a 12), .ref (a 13), .ref (a 14), .ref (a 15), .ref (a 16)].set 3 (.int v))) = wM G a (M_begin_s s v) := rfl
theorem st_M_0_4 (G : jG) (a : Nat → Nat) (s : MS) (v : Int32) : (wM G a s).set 0 ((a 0), .inr (11, [.int (M_bytes s), .ref (a 1), .int (M_position s), .int (M_begin s), .int (M_readMany s), .ref (a 2), .ref (a 3), .ref (a 4), .ref (a 5), .ref (a 6), .ref (a 7), .ref (a 8), .int (M_isNo s), .ref (a 9), .ref (a 10), .ref (a 11), .ref (a 12), .ref (a 13), .ref (a 14), .ref (a 15), .ref (a 16)].set 4 (.int v))) = wM G a (M_readMany_s s v) := rfl
theorem st_M_0_12 (G : jG) (a : Nat → Nat) (s : MS) (v : Int32) : (wM G a s).set 0 ((a 0), .inr (11, [.int (M_bytes s), .ref (a 1), .int (M_position s), .int (M_begin s), .int (M_readMany s), .ref (a 2), .ref (a 3), .ref (a 4), .ref (a 5), .ref (a 6), .ref (a 7), .ref (a 8), .int (M_isNo s), .ref (a 9), .ref (a 10), .ref (a 11), .ref (a 12), .ref (a 13), .ref (a 14), .ref (a 15), .ref (a 16)].set 12 (.int v))) = wM G a (M_isNo_s s v) := rfl
theorem st_M_1 (G : jG) (a : Nat → Nat) (s : MS) (v : Nat → Int32) : (wM G a s).set 1 ((a 1), .inl (G.2.1 0, 120, .inl v)) = wM G a (M_text_s s v) := rfl
theorem st_M_2 (G : jG) (a : Nat → Nat) (s : MS) (v : Nat → Int32) : (wM G a s).set 2 ((a 2), .inl (G.2.1 0, 7, .inl v)) = wM G a (M_read_s s v) := rfl
theorem st_M_3 (G : jG) (a : Nat → Nat) (s : MS) (v : Nat → Int32) : (wM G a s).set 3 ((a 3), .inl (G.2.1 0, 28, .inl v)) = wM G a (M_law_s s v) := rfl
theorem st_M_4 (G : jG) (a : Nat → Nat) (s : MS) (v : Nat → Int32) : (wM G a s).set 4 ((a 4), .inl (G.2.1 0, 4, .inl v)) = wM G a (M_items_s s v) := rfl
theorem st_M_5 (G : jG) (a : Nat → Nat) (s : MS) (v : Nat → Int64) : (wM G a s).set 5 ((a 5), .inl (G.2.1 1, 650, .inr (.inl v))) = wM G a (M_cell_s s v) := rfl
theorem st_M_6 (G : jG) (a : Nat → Nat) (s : MS) (v : Nat → Int32) : (wM G a s).set 6 ((a 6), .inl (G.2.1 3, 650, .inl v)) = wM G a (M_isGreat_s s v) := rfl
theorem st_M_7 (G : jG) (a : Nat → Nat) (s : MS) (v : Nat → Int32) : (wM G a s).set 7 ((a 7), .inl (G.2.1 0, 122, .inl v)) = wM G a (M_rests_s s v) := rfl
theorem st_M_8 (G : jG) (a : Nat → Nat) (s : MS) (v : Nat → Int64) : (wM G a s).set 8 ((a 8), .inl (G.2.1 1, 25, .inr (.inl v))) = wM G a (M_column_s s v) := rfl
theorem st_M_9 (G : jG) (a : Nat → Nat) (s : MS) (v : Nat → Int32) : (wM G a s).set 9 ((a 9), .inl (G.2.1 0, 8, .inl v)) = wM G a (M_digit_s s v) := rfl
theorem st_M_10 (G : jG) (a : Nat → Nat) (s : MS) (v : Nat → Int32) : (wM G a s).set 10 ((a 10), .inl (G.2.1 0, 8, .inl v)) = wM G a (M_other_s s v) := rfl
theorem st_M_11 (G : jG) (a : Nat → Nat) (s : MS) (v : Nat → Int32) : (wM G a s).set 11 ((a 11), .inl (G.2.1 0, 8, .inl v)) = wM G a (M_turned_s s v) := rfl
theorem st_M_12 (G : jG) (a : Nat → Nat) (s : MS) (v : Nat → Int32) : (wM G a s).set 12 ((a 12), .inl (G.2.1 0, 4, .inl v)) = wM G a (M_base_s s v) := rfl
theorem st_M_13 (G : jG) (a : Nat → Nat) (s : MS) (v : Nat → Int64) : (wM G a s).set 13 ((a 13), .inl (G.2.1 1, 36, .inr (.inl v))) = wM G a (M_factor_s s v) := rfl
theorem st_M_14 (G : jG) (a : Nat → Nat) (s : MS) (v : Nat → Int64) : (wM G a s).set 14 ((a 14), .inl (G.2.1 1, 9, .inr (.inl v))) = wM G a (M_falling_s s v) := rfl
theorem st_M_15 (G : jG) (a : Nat → Nat) (s : MS) (v : Nat → Int64) : (wM G a s).set 15 ((a 15), .inl (G.2.1 1, 9, .inr (.inl v))) = wM G a (M_made_s s v) := rfl
theorem st_M_16 (G : jG) (a : Nat → Nat) (s : MS) (v : Nat → Int64) : (wM G a s).set 16 ((a 16), .inl (G.2.1 1, 9, .inr (.inl v))) = wM G a (M_table_s s v) := rfl
theorem ad_M (G : jG) (a : Nat → Nat) (s t : MS) : (wM G a t).map Prod.fst = (wM G a s).map Prod.fst := rfl
abbrev ArrI3S : Type := (Nat → Int32)
def wArrI3 (G : jG) (p0 : Nat) (s : ArrI3S) : va_W := [(p0, .inl (G.2.1 0, 3, .inl s))]
theorem st_ArrI3_0 (G : jG) (p0 : Nat) (s : ArrI3S) (v : Nat → Int32) : (wArrI3 G p0 s).set 0 (p0, .inl (G.2.1 0, 3, .inl v)) = wArrI3 G p0 v := rfl
abbrev ArrI8S : Type := (Nat → Int32)
def wArrI8 (G : jG) (p0 : Nat) (s : ArrI8S) : va_W := [(p0, .inl (G.2.1 0, 8, .inl s))]
theorem st_ArrI8_0 (G : jG) (p0 : Nat) (s : ArrI8S) (v : Nat → Int32) : (wArrI8 G p0 s).set 0 (p0, .inl (G.2.1 0, 8, .inl v)) = wArrI8 G p0 v := rfl
abbrev ArrI61S : Type := (Nat → Int32)
def wArrI61 (G : jG) (p0 : Nat) (s : ArrI61S) : va_W := [(p0, .inl (G.2.1 0, 61, .inl s))]
theorem st_ArrI61_0 (G : jG) (p0 : Nat) (s : ArrI61S) (v : Nat → Int32) : (wArrI61 G p0 s).set 0 (p0, .inl (G.2.1 0, 61, .inl v)) = wArrI61 G p0 v := rfl
abbrev ArrL9S : Type := (Nat → Int64)
def wArrL9 (G : jG) (p0 : Nat) (s : ArrL9S) : va_W := [(p0, .inl (G.2.1 1, 9, .inr (.inl s)))]
theorem st_ArrL9_0 (G : jG) (p0 : Nat) (s : ArrL9S) (v : Nat → Int64) : (wArrL9 G p0 s).set 0 (p0, .inl (G.2.1 1, 9, .inr (.inl v))) = wArrL9 G p0 v := rfl
theorem inX0 : ∀ w ∈ u_ws RX0 TX0 1, w ∈ UW := List.forall_mem_cons.mpr ⟨u_1_97, (fun _ h => absurd h List.not_mem_nil)⟩
theorem inX1 : ∀ w ∈ u_ws RX1 TX1 1, w ∈ UW := List.forall_mem_cons.mpr ⟨u_1_126, (fun _ h => absurd h List.not_mem_nil)⟩
theorem inX2 : ∀ w ∈ u_ws RX2 TX2 7, w ∈ UW := List.forall_mem_cons.mpr ⟨u_1_166, (List.forall_mem_cons.mpr ⟨u_1_168, (List.forall_mem_cons.mpr ⟨u_1_170, (List.forall_mem_cons.mpr ⟨u_1_172, (List.forall_mem_cons.mpr ⟨u_1_174, (List.forall_mem_cons.mpr ⟨u_1_176, (List.forall_mem_cons.mpr ⟨u_1_178, (fun _ h => absurd h List.not_mem_nil)⟩)⟩)⟩)⟩)⟩)⟩)⟩
theorem inX3 : ∀ w ∈ u_ws RX3 TX3 1, w ∈ UW := List.forall_mem_cons.mpr ⟨u_1_116, (fun _ h => absurd h List.not_mem_nil)⟩
theorem inX4 : ∀ w ∈ u_ws RX4 TX4 2, w ∈ UW := List.forall_mem_cons.mpr ⟨u_1_137, (List.forall_mem_cons.mpr ⟨u_1_139, (fun _ h => absurd h List.not_mem_nil)⟩)⟩
theorem inX6 : ∀ w ∈ u_ws RX6 TX6 3, w ∈ UW := List.forall_mem_cons.mpr ⟨u_1_145, (List.forall_mem_cons.mpr ⟨u_1_147, (List.forall_mem_cons.mpr ⟨u_1_149, (fun _ h => absurd h List.not_mem_nil)⟩)⟩)⟩
theorem inX7 : ∀ w ∈ u_ws RX7 TX7 1, w ∈ UW := List.forall_mem_cons.mpr ⟨u_1_49, (fun _ h => absurd h List.not_mem_nil)⟩
theorem inX8 : ∀ w ∈ u_ws RX8 TX8 3, w ∈ UW := List.forall_mem_cons.mpr ⟨u_1_190, (List.forall_mem_cons.mpr ⟨u_1_192, (List.forall_mem_cons.mpr ⟨u_1_194, (fun _ h => absurd h List.not_mem_nil)⟩)⟩)⟩
theorem inX9 : ∀ w ∈ u_ws RX9 TX9 1, w ∈ UW := List.forall_mem_cons.mpr ⟨u_1_78, (fun _ h => absurd h List.not_mem_nil)⟩
theorem inX10 : ∀ w ∈ u_ws RX10 TX10 2, w ∈ UW := List.forall_mem_cons.mpr ⟨u_1_34, (List.forall_mem_cons.mpr ⟨u_1_36, (fun _ h => absurd h List.not_mem_nil)⟩)⟩
theorem inX11 : ∀ w ∈ u_ws RX11 TX11 5, w ∈ UW := List.forall_mem_cons.mpr ⟨u_1_202, (List.forall_mem_cons.mpr ⟨u_1_204, (List.forall_mem_cons.mpr ⟨u_1_206, (List.forall_mem_cons.mpr ⟨u_1_208, (List.forall_mem_cons.mpr ⟨u_1_210, (fun _ h => absurd h List.not_mem_nil)⟩)⟩)⟩)⟩)⟩
theorem inX12 : ∀ w ∈ u_ws RX12 TX12 21, w ∈ UW := List.forall_mem_cons.mpr ⟨u_4_56, (List.forall_mem_cons.mpr ⟨u_4_58, (List.forall_mem_cons.mpr ⟨u_4_60, (List.forall_mem_cons.mpr ⟨u_4_62, (List.forall_mem_cons.mpr ⟨u_4_64, (List.forall_mem_cons.mpr ⟨u_4_66, (List.forall_mem_cons.mpr ⟨u_4_68, (List.forall_mem_cons.mpr ⟨u_4_70, (List.forall_mem_cons.mpr ⟨u_4_72, (List.forall_mem_cons.mpr ⟨u_4_74, (List.forall_mem_cons.mpr ⟨u_4_76, (List.forall_mem_cons.mpr ⟨u_4_78, (List.forall_mem_cons.mpr ⟨u_4_80, (List.forall_mem_cons.mpr ⟨u_4_82, (List.forall_mem_cons.mpr ⟨u_4_84, (List.forall_mem_cons.mpr ⟨u_4_86, (List.forall_mem_cons.mpr ⟨u_4_88, (List.forall_mem_cons.mpr ⟨u_4_90, (List.forall_mem_cons.mpr ⟨u_4_92, (List.forall_mem_cons.mpr ⟨u_4_94, (List.forall_mem_cons.mpr ⟨u_4_96, (fun _ h => absurd h List.not_mem_nil)⟩)⟩)⟩)⟩)⟩)⟩)⟩)⟩)⟩)⟩)⟩)⟩)⟩)⟩)⟩)⟩)⟩)⟩)⟩)⟩)⟩
def jFU : Nat := 1000000
theorem jin4 {i : Int32} (hg : vp_in i 4) (h0 : ¬ i = 0) (h1 : ¬ i = 1) (h2 : ¬ i = 2) : i = 3 := by
  obtain ⟨j, hj, rfl⟩ := vp_in_of hg (by decide)
  rcases (show j = 0 ∨ j = 1 ∨ j = 2 ∨ j = 3 by omega) with rfl | rfl | rfl | rfl
  · exact absurd (by decide) h0
  · exact absurd (by decide) h1
  · exact absurd (by decide) h2
  · decide
theorem jin5 {i : Int32} (hg : vp_in i 5) (h0 : ¬ i = 0) (h1 : ¬ i = 1) (h2 : ¬ i = 2) (h3 : ¬ i = 3) : i = 4 := by
  obtain ⟨j, hj, rfl⟩ := vp_in_of hg (by decide)
  rcases (show j = 0 ∨ j = 1 ∨ j = 2 ∨ j = 3 ∨ j = 4 by omega) with rfl | rfl | rfl | rfl | rfl
  · exact absurd (by decide) h0
  · exact absurd (by decide) h1
  · exact absurd (by decide) h2
  · exact absurd (by decide) h3
  · decide
theorem jtab3 {x : Int32} (h0 : ¬ x = 0) (h1 : ¬ x = 1) (h2 : ¬ x = 2) : x.toInt < 0 ∨ 2 < x.toInt := by
  have a := lv_neT (a := 0) h0 (by decide)
  have b := lv_neT (a := 1) h1 (by decide)
  have c := lv_neT (a := 2) h2 (by decide)
  omega
theorem jlook2 {x : Int32} {o1 o2 d : Int} (h0 : ¬ x = 0) (h1 : ¬ x = 1) : Op.lookupswitch.offset [((0 : Int), o1), ((1 : Int), o2)] d x.toInt = d := by
  rw [lv_osw h0 (by decide), lv_osw h1 (by decide)]
  rfl
theorem j_look {E : jE} {cc : ByteArray} {nL : Nat} {own : String} {h : Nat} {ws : va_W} {pc : Nat} {lv : List (Nat × Value)} {st : List Value} {dflt : Int} {ps : Array (Int × Int)} {len : Nat} {x : Int32} {off : Int} {tgt : Nat} (K : jC E cc nL own h) (hd : decode cc pc = .ok (.lookupswitch dflt ps, len)) (hp : (ps.toList.zip (ps.toList.drop 1)).all (fun (a, next) => a.1 < next.1) = true) (ho : Op.lookupswitch.offset ps.toList dflt x.toInt = off) (ht : (pc : Int) + off = (tgt : Int)) (k : J E nL ws tgt lv st) : J E nL ws pc lv (.int x :: st) := by
  obtain ⟨p, l, e, R, s, m, args, below, meth, c, G, A, rw, Q, kc, ks⟩ := E
  intro H locs ls hP hD hS hl
  exact lv_lookup K.1.1 K.1.2.1 hd hp ho ht (k H locs ls hP hD hS hl)
theorem j_copyl {E : jE} {cc : ByteArray} {nL : Nat} {own : String} {h : Nat} {ws ws' : va_W} {pc pc' : Nat} {lv : List (Nat × Value)} {st : List Value} {index a a0 n0 n1 : Nat} {f g : Nat → Int64} {sp dp n : Int32} (K : jC E cc nL own h) (hd : decode cc pc = .ok (.invokestatic index, 3)) (hlk : Cond.methodLink own index arraycopyName ∈ UW) (hrw : jrw E) (q0 q1 : Nat) (ha0 : ws[q0]? = some (a0, .inl ((jg E).2.1 1, n0, .inr (.inl f)))) (ha1 : ws[q1]? = some (a, .inl ((jg E).2.1 1, n1, .inr (.inl g)))) (h1 : ¬ sp < 0) (h2 : ¬ dp < 0) (h3 : ¬ n < 0) (h4 : sp.toNatClampNeg + n.toNatClampNeg ≤ n0) (h5 : dp.toNatClampNeg + n.toNatClampNeg ≤ n1) (hw : ws.set q1 (a, .inl ((jg E).2.1 1, n1, .inr (.inl (va_cpy f g sp.toNatClampNeg dp.toNatClampNeg n.toNatClampNeg)))) = ws') (hh : 1 ≤ h) (hloc : (st.map fun v => v.category).sum + (nativeFrameWords "java/lang/System" "arraycopy" 5 + 11) ≤ 36 * h) (hp : pc + 3 = pc') (k : J E nL ws' pc' lv st) : J E nL ws pc lv (.int n :: .int dp :: .ref a :: .int sp :: .ref a0 :: st) := by
  obtain ⟨p, l, e, R, s, m, args, below, meth, c, G, A, rw, Q, kc, ks⟩ := E
  subst hp
  subst hw
  intro H locs ls hP hD hS hl
  exact va_copyl K.1.1 K.1.2.1 (by rw [K.1.2.2.1, hl.1]) K.1.2.2.2.1 (K.hts _ hlk) (K.hts _ u_3_208) (K.hts _ u_3_207) (K.hts _ u_1_17) K.2.1.1 hP (hD hrw) hS q0 q1 1 1 ha0 ha1 rfl rfl rfl h1 h2 h3 h4 h5 (fun _ _ => rfl) (Nat.le_trans hh K.2.2.2.1) (Nat.le_trans hloc K.2.2.2.2.1) hd (fun H1 locs1 hP1 hD1 hS1 => k H1 locs1 ls hP1 (fun _ => hD1) hS1 hl)
theorem okx_start : (⟨"CountTriangles$Mark", "start", "(I)I"⟩ : MethodName).cls ≠ "java/lang/invoke/MethodHandle" ∧ (⟨"CountTriangles$Mark", "start", "(I)I"⟩ : MethodName).cls ≠ "java/lang/invoke/VarHandle" ∧ (parseMethodDescriptor (⟨"CountTriangles$Mark", "start", "(I)I"⟩ : MethodName).desc).map (fun d => d.parameters.length) = some 1 := ⟨by decide, by decide, by decide +kernel⟩
theorem okx_growth : (⟨"CountTriangles$Mark", "growth", "(III[II)I"⟩ : MethodName).cls ≠ "java/lang/invoke/MethodHandle" ∧ (⟨"CountTriangles$Mark", "growth", "(III[II)I"⟩ : MethodName).cls ≠ "java/lang/invoke/VarHandle" ∧ (parseMethodDescriptor (⟨"CountTriangles$Mark", "growth", "(III[II)I"⟩ : MethodName).desc).map (fun d => d.parameters.length) = some 5 := ⟨by decide, by decide, by decide +kernel⟩
theorem okx_next : (⟨"CountTriangles$Mark", "next", "(III)I"⟩ : MethodName).cls ≠ "java/lang/invoke/MethodHandle" ∧ (⟨"CountTriangles$Mark", "next", "(III)I"⟩ : MethodName).cls ≠ "java/lang/invoke/VarHandle" ∧ (parseMethodDescriptor (⟨"CountTriangles$Mark", "next", "(III)I"⟩ : MethodName).desc).map (fun d => d.parameters.length) = some 3 := ⟨by decide, by decide, by decide +kernel⟩
theorem okx_ways : (⟨"CountTriangles$Mark", "ways", "(III)I"⟩ : MethodName).cls ≠ "java/lang/invoke/MethodHandle" ∧ (⟨"CountTriangles$Mark", "ways", "(III)I"⟩ : MethodName).cls ≠ "java/lang/invoke/VarHandle" ∧ (parseMethodDescriptor (⟨"CountTriangles$Mark", "ways", "(III)I"⟩ : MethodName).desc).map (fun d => d.parameters.length) = some 3 := ⟨by decide, by decide, by decide +kernel⟩
