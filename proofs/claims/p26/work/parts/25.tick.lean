/-! one tick: what each of its steps does to the table, on both sides -/
theorem up_1_2 {t : TT} {a b : Nat} {v : Int32} : up2 t 1 a v 2 b = t 2 b := rfl
theorem up_1_3 {t : TT} {a b : Nat} {v : Int32} : up2 t 1 a v 3 b = t 3 b := rfl
theorem up_1_4 {t : TT} {a b : Nat} {v : Int32} : up2 t 1 a v 4 b = t 4 b := rfl
theorem up_1_5 {t : TT} {a b : Nat} {v : Int32} : up2 t 1 a v 5 b = t 5 b := rfl
theorem up_1_6 {t : TT} {a b : Nat} {v : Int32} : up2 t 1 a v 6 b = t 6 b := rfl
theorem up_1_7 {t : TT} {a b : Nat} {v : Int32} : up2 t 1 a v 7 b = t 7 b := rfl
theorem up_1_8 {t : TT} {a b : Nat} {v : Int32} : up2 t 1 a v 8 b = t 8 b := rfl
theorem up_1_10 {t : TT} {a b : Nat} {v : Int32} : up2 t 1 a v 10 b = t 10 b := rfl
theorem up_1_11 {t : TT} {a b : Nat} {v : Int32} : up2 t 1 a v 11 b = t 11 b := rfl
theorem up_1_12 {t : TT} {a b : Nat} {v : Int32} : up2 t 1 a v 12 b = t 12 b := rfl
theorem up_1_13 {t : TT} {a b : Nat} {v : Int32} : up2 t 1 a v 13 b = t 13 b := rfl
theorem up_1_14 {t : TT} {a b : Nat} {v : Int32} : up2 t 1 a v 14 b = t 14 b := rfl
theorem up_1_15 {t : TT} {a b : Nat} {v : Int32} : up2 t 1 a v 15 b = t 15 b := rfl
theorem up_1_16 {t : TT} {a b : Nat} {v : Int32} : up2 t 1 a v 16 b = t 16 b := rfl
theorem up_1_17 {t : TT} {a b : Nat} {v : Int32} : up2 t 1 a v 17 b = t 17 b := rfl
theorem up_1_18 {t : TT} {a b : Nat} {v : Int32} : up2 t 1 a v 18 b = t 18 b := rfl
theorem up_1_19 {t : TT} {a b : Nat} {v : Int32} : up2 t 1 a v 19 b = t 19 b := rfl
theorem up_1_20 {t : TT} {a b : Nat} {v : Int32} : up2 t 1 a v 20 b = t 20 b := rfl
theorem up_1_21 {t : TT} {a b : Nat} {v : Int32} : up2 t 1 a v 21 b = t 21 b := rfl
theorem up_1_22 {t : TT} {a b : Nat} {v : Int32} : up2 t 1 a v 22 b = t 22 b := rfl
theorem up_1_23 {t : TT} {a b : Nat} {v : Int32} : up2 t 1 a v 23 b = t 23 b := rfl
theorem up_1_24 {t : TT} {a b : Nat} {v : Int32} : up2 t 1 a v 24 b = t 24 b := rfl
theorem up_1_25 {t : TT} {a b : Nat} {v : Int32} : up2 t 1 a v 25 b = t 25 b := rfl
theorem up_1_26 {t : TT} {a b : Nat} {v : Int32} : up2 t 1 a v 26 b = t 26 b := rfl
theorem up_1_27 {t : TT} {a b : Nat} {v : Int32} : up2 t 1 a v 27 b = t 27 b := rfl
theorem up_1_28 {t : TT} {a b : Nat} {v : Int32} : up2 t 1 a v 28 b = t 28 b := rfl
theorem up_1_29 {t : TT} {a b : Nat} {v : Int32} : up2 t 1 a v 29 b = t 29 b := rfl
theorem up_1_30 {t : TT} {a b : Nat} {v : Int32} : up2 t 1 a v 30 b = t 30 b := rfl
theorem up_1_31 {t : TT} {a b : Nat} {v : Int32} : up2 t 1 a v 31 b = t 31 b := rfl
theorem up_1_32 {t : TT} {a b : Nat} {v : Int32} : up2 t 1 a v 32 b = t 32 b := rfl
theorem up_1_33 {t : TT} {a b : Nat} {v : Int32} : up2 t 1 a v 33 b = t 33 b := rfl
theorem up_1_34 {t : TT} {a b : Nat} {v : Int32} : up2 t 1 a v 34 b = t 34 b := rfl
theorem up_1_35 {t : TT} {a b : Nat} {v : Int32} : up2 t 1 a v 35 b = t 35 b := rfl
theorem up_1_36 {t : TT} {a b : Nat} {v : Int32} : up2 t 1 a v 36 b = t 36 b := rfl
theorem up_2_1 {t : TT} {a b : Nat} {v : Int32} : up2 t 2 a v 1 b = t 1 b := rfl
theorem up_2_3 {t : TT} {a b : Nat} {v : Int32} : up2 t 2 a v 3 b = t 3 b := rfl
theorem up_2_4 {t : TT} {a b : Nat} {v : Int32} : up2 t 2 a v 4 b = t 4 b := rfl
theorem up_2_5 {t : TT} {a b : Nat} {v : Int32} : up2 t 2 a v 5 b = t 5 b := rfl
theorem up_2_6 {t : TT} {a b : Nat} {v : Int32} : up2 t 2 a v 6 b = t 6 b := rfl
theorem up_2_7 {t : TT} {a b : Nat} {v : Int32} : up2 t 2 a v 7 b = t 7 b := rfl
theorem up_2_8 {t : TT} {a b : Nat} {v : Int32} : up2 t 2 a v 8 b = t 8 b := rfl
theorem up_2_10 {t : TT} {a b : Nat} {v : Int32} : up2 t 2 a v 10 b = t 10 b := rfl
theorem up_2_11 {t : TT} {a b : Nat} {v : Int32} : up2 t 2 a v 11 b = t 11 b := rfl
theorem up_2_12 {t : TT} {a b : Nat} {v : Int32} : up2 t 2 a v 12 b = t 12 b := rfl
theorem up_2_13 {t : TT} {a b : Nat} {v : Int32} : up2 t 2 a v 13 b = t 13 b := rfl
theorem up_2_14 {t : TT} {a b : Nat} {v : Int32} : up2 t 2 a v 14 b = t 14 b := rfl
theorem up_2_15 {t : TT} {a b : Nat} {v : Int32} : up2 t 2 a v 15 b = t 15 b := rfl
theorem up_2_16 {t : TT} {a b : Nat} {v : Int32} : up2 t 2 a v 16 b = t 16 b := rfl
theorem up_2_17 {t : TT} {a b : Nat} {v : Int32} : up2 t 2 a v 17 b = t 17 b := rfl
theorem up_2_18 {t : TT} {a b : Nat} {v : Int32} : up2 t 2 a v 18 b = t 18 b := rfl
theorem up_2_19 {t : TT} {a b : Nat} {v : Int32} : up2 t 2 a v 19 b = t 19 b := rfl
theorem up_2_20 {t : TT} {a b : Nat} {v : Int32} : up2 t 2 a v 20 b = t 20 b := rfl
theorem up_2_21 {t : TT} {a b : Nat} {v : Int32} : up2 t 2 a v 21 b = t 21 b := rfl
theorem up_2_22 {t : TT} {a b : Nat} {v : Int32} : up2 t 2 a v 22 b = t 22 b := rfl
theorem up_2_23 {t : TT} {a b : Nat} {v : Int32} : up2 t 2 a v 23 b = t 23 b := rfl
theorem up_2_24 {t : TT} {a b : Nat} {v : Int32} : up2 t 2 a v 24 b = t 24 b := rfl
theorem up_2_25 {t : TT} {a b : Nat} {v : Int32} : up2 t 2 a v 25 b = t 25 b := rfl
theorem up_2_26 {t : TT} {a b : Nat} {v : Int32} : up2 t 2 a v 26 b = t 26 b := rfl
theorem up_2_27 {t : TT} {a b : Nat} {v : Int32} : up2 t 2 a v 27 b = t 27 b := rfl
theorem up_2_28 {t : TT} {a b : Nat} {v : Int32} : up2 t 2 a v 28 b = t 28 b := rfl
theorem up_2_29 {t : TT} {a b : Nat} {v : Int32} : up2 t 2 a v 29 b = t 29 b := rfl
theorem up_2_30 {t : TT} {a b : Nat} {v : Int32} : up2 t 2 a v 30 b = t 30 b := rfl
theorem up_2_31 {t : TT} {a b : Nat} {v : Int32} : up2 t 2 a v 31 b = t 31 b := rfl
theorem up_2_32 {t : TT} {a b : Nat} {v : Int32} : up2 t 2 a v 32 b = t 32 b := rfl
theorem up_2_33 {t : TT} {a b : Nat} {v : Int32} : up2 t 2 a v 33 b = t 33 b := rfl
theorem up_2_34 {t : TT} {a b : Nat} {v : Int32} : up2 t 2 a v 34 b = t 34 b := rfl
theorem up_2_35 {t : TT} {a b : Nat} {v : Int32} : up2 t 2 a v 35 b = t 35 b := rfl
theorem up_2_36 {t : TT} {a b : Nat} {v : Int32} : up2 t 2 a v 36 b = t 36 b := rfl
theorem up_3_1 {t : TT} {a b : Nat} {v : Int32} : up2 t 3 a v 1 b = t 1 b := rfl
theorem up_3_2 {t : TT} {a b : Nat} {v : Int32} : up2 t 3 a v 2 b = t 2 b := rfl
theorem up_3_4 {t : TT} {a b : Nat} {v : Int32} : up2 t 3 a v 4 b = t 4 b := rfl
theorem up_3_5 {t : TT} {a b : Nat} {v : Int32} : up2 t 3 a v 5 b = t 5 b := rfl
theorem up_3_6 {t : TT} {a b : Nat} {v : Int32} : up2 t 3 a v 6 b = t 6 b := rfl
theorem up_3_7 {t : TT} {a b : Nat} {v : Int32} : up2 t 3 a v 7 b = t 7 b := rfl
theorem up_3_8 {t : TT} {a b : Nat} {v : Int32} : up2 t 3 a v 8 b = t 8 b := rfl
theorem up_3_10 {t : TT} {a b : Nat} {v : Int32} : up2 t 3 a v 10 b = t 10 b := rfl
theorem up_3_11 {t : TT} {a b : Nat} {v : Int32} : up2 t 3 a v 11 b = t 11 b := rfl
theorem up_3_12 {t : TT} {a b : Nat} {v : Int32} : up2 t 3 a v 12 b = t 12 b := rfl
theorem up_3_13 {t : TT} {a b : Nat} {v : Int32} : up2 t 3 a v 13 b = t 13 b := rfl
theorem up_3_14 {t : TT} {a b : Nat} {v : Int32} : up2 t 3 a v 14 b = t 14 b := rfl
theorem up_3_15 {t : TT} {a b : Nat} {v : Int32} : up2 t 3 a v 15 b = t 15 b := rfl
theorem up_3_16 {t : TT} {a b : Nat} {v : Int32} : up2 t 3 a v 16 b = t 16 b := rfl
theorem up_3_17 {t : TT} {a b : Nat} {v : Int32} : up2 t 3 a v 17 b = t 17 b := rfl
theorem up_3_18 {t : TT} {a b : Nat} {v : Int32} : up2 t 3 a v 18 b = t 18 b := rfl
theorem up_3_19 {t : TT} {a b : Nat} {v : Int32} : up2 t 3 a v 19 b = t 19 b := rfl
theorem up_3_20 {t : TT} {a b : Nat} {v : Int32} : up2 t 3 a v 20 b = t 20 b := rfl
theorem up_3_21 {t : TT} {a b : Nat} {v : Int32} : up2 t 3 a v 21 b = t 21 b := rfl
theorem up_3_22 {t : TT} {a b : Nat} {v : Int32} : up2 t 3 a v 22 b = t 22 b := rfl
theorem up_3_23 {t : TT} {a b : Nat} {v : Int32} : up2 t 3 a v 23 b = t 23 b := rfl
theorem up_3_24 {t : TT} {a b : Nat} {v : Int32} : up2 t 3 a v 24 b = t 24 b := rfl
theorem up_3_25 {t : TT} {a b : Nat} {v : Int32} : up2 t 3 a v 25 b = t 25 b := rfl
theorem up_3_26 {t : TT} {a b : Nat} {v : Int32} : up2 t 3 a v 26 b = t 26 b := rfl
theorem up_3_27 {t : TT} {a b : Nat} {v : Int32} : up2 t 3 a v 27 b = t 27 b := rfl
theorem up_3_28 {t : TT} {a b : Nat} {v : Int32} : up2 t 3 a v 28 b = t 28 b := rfl
theorem up_3_29 {t : TT} {a b : Nat} {v : Int32} : up2 t 3 a v 29 b = t 29 b := rfl
theorem up_3_30 {t : TT} {a b : Nat} {v : Int32} : up2 t 3 a v 30 b = t 30 b := rfl
theorem up_3_31 {t : TT} {a b : Nat} {v : Int32} : up2 t 3 a v 31 b = t 31 b := rfl
theorem up_3_32 {t : TT} {a b : Nat} {v : Int32} : up2 t 3 a v 32 b = t 32 b := rfl
theorem up_3_33 {t : TT} {a b : Nat} {v : Int32} : up2 t 3 a v 33 b = t 33 b := rfl
theorem up_3_34 {t : TT} {a b : Nat} {v : Int32} : up2 t 3 a v 34 b = t 34 b := rfl
theorem up_3_35 {t : TT} {a b : Nat} {v : Int32} : up2 t 3 a v 35 b = t 35 b := rfl
theorem up_3_36 {t : TT} {a b : Nat} {v : Int32} : up2 t 3 a v 36 b = t 36 b := rfl
theorem up_4_1 {t : TT} {a b : Nat} {v : Int32} : up2 t 4 a v 1 b = t 1 b := rfl
theorem up_4_2 {t : TT} {a b : Nat} {v : Int32} : up2 t 4 a v 2 b = t 2 b := rfl
theorem up_4_3 {t : TT} {a b : Nat} {v : Int32} : up2 t 4 a v 3 b = t 3 b := rfl
theorem up_4_5 {t : TT} {a b : Nat} {v : Int32} : up2 t 4 a v 5 b = t 5 b := rfl
theorem up_4_6 {t : TT} {a b : Nat} {v : Int32} : up2 t 4 a v 6 b = t 6 b := rfl
theorem up_4_7 {t : TT} {a b : Nat} {v : Int32} : up2 t 4 a v 7 b = t 7 b := rfl
theorem up_4_8 {t : TT} {a b : Nat} {v : Int32} : up2 t 4 a v 8 b = t 8 b := rfl
theorem up_4_10 {t : TT} {a b : Nat} {v : Int32} : up2 t 4 a v 10 b = t 10 b := rfl
theorem up_4_11 {t : TT} {a b : Nat} {v : Int32} : up2 t 4 a v 11 b = t 11 b := rfl
theorem up_4_12 {t : TT} {a b : Nat} {v : Int32} : up2 t 4 a v 12 b = t 12 b := rfl
theorem up_4_13 {t : TT} {a b : Nat} {v : Int32} : up2 t 4 a v 13 b = t 13 b := rfl
theorem up_4_14 {t : TT} {a b : Nat} {v : Int32} : up2 t 4 a v 14 b = t 14 b := rfl
theorem up_4_15 {t : TT} {a b : Nat} {v : Int32} : up2 t 4 a v 15 b = t 15 b := rfl
theorem up_4_16 {t : TT} {a b : Nat} {v : Int32} : up2 t 4 a v 16 b = t 16 b := rfl
theorem up_4_17 {t : TT} {a b : Nat} {v : Int32} : up2 t 4 a v 17 b = t 17 b := rfl
theorem up_4_18 {t : TT} {a b : Nat} {v : Int32} : up2 t 4 a v 18 b = t 18 b := rfl
theorem up_4_19 {t : TT} {a b : Nat} {v : Int32} : up2 t 4 a v 19 b = t 19 b := rfl
theorem up_4_20 {t : TT} {a b : Nat} {v : Int32} : up2 t 4 a v 20 b = t 20 b := rfl
theorem up_4_21 {t : TT} {a b : Nat} {v : Int32} : up2 t 4 a v 21 b = t 21 b := rfl
theorem up_4_22 {t : TT} {a b : Nat} {v : Int32} : up2 t 4 a v 22 b = t 22 b := rfl
theorem up_4_23 {t : TT} {a b : Nat} {v : Int32} : up2 t 4 a v 23 b = t 23 b := rfl
theorem up_4_24 {t : TT} {a b : Nat} {v : Int32} : up2 t 4 a v 24 b = t 24 b := rfl
theorem up_4_25 {t : TT} {a b : Nat} {v : Int32} : up2 t 4 a v 25 b = t 25 b := rfl
theorem up_4_26 {t : TT} {a b : Nat} {v : Int32} : up2 t 4 a v 26 b = t 26 b := rfl
theorem up_4_27 {t : TT} {a b : Nat} {v : Int32} : up2 t 4 a v 27 b = t 27 b := rfl
theorem up_4_28 {t : TT} {a b : Nat} {v : Int32} : up2 t 4 a v 28 b = t 28 b := rfl
theorem up_4_29 {t : TT} {a b : Nat} {v : Int32} : up2 t 4 a v 29 b = t 29 b := rfl
theorem up_4_30 {t : TT} {a b : Nat} {v : Int32} : up2 t 4 a v 30 b = t 30 b := rfl
theorem up_4_31 {t : TT} {a b : Nat} {v : Int32} : up2 t 4 a v 31 b = t 31 b := rfl
theorem up_4_32 {t : TT} {a b : Nat} {v : Int32} : up2 t 4 a v 32 b = t 32 b := rfl
theorem up_4_33 {t : TT} {a b : Nat} {v : Int32} : up2 t 4 a v 33 b = t 33 b := rfl
theorem up_4_34 {t : TT} {a b : Nat} {v : Int32} : up2 t 4 a v 34 b = t 34 b := rfl
theorem up_4_35 {t : TT} {a b : Nat} {v : Int32} : up2 t 4 a v 35 b = t 35 b := rfl
theorem up_4_36 {t : TT} {a b : Nat} {v : Int32} : up2 t 4 a v 36 b = t 36 b := rfl
theorem up_5_1 {t : TT} {a b : Nat} {v : Int32} : up2 t 5 a v 1 b = t 1 b := rfl
theorem up_5_2 {t : TT} {a b : Nat} {v : Int32} : up2 t 5 a v 2 b = t 2 b := rfl
theorem up_5_3 {t : TT} {a b : Nat} {v : Int32} : up2 t 5 a v 3 b = t 3 b := rfl
theorem up_5_4 {t : TT} {a b : Nat} {v : Int32} : up2 t 5 a v 4 b = t 4 b := rfl
theorem up_5_6 {t : TT} {a b : Nat} {v : Int32} : up2 t 5 a v 6 b = t 6 b := rfl
theorem up_5_7 {t : TT} {a b : Nat} {v : Int32} : up2 t 5 a v 7 b = t 7 b := rfl
theorem up_5_8 {t : TT} {a b : Nat} {v : Int32} : up2 t 5 a v 8 b = t 8 b := rfl
theorem up_5_10 {t : TT} {a b : Nat} {v : Int32} : up2 t 5 a v 10 b = t 10 b := rfl
theorem up_5_11 {t : TT} {a b : Nat} {v : Int32} : up2 t 5 a v 11 b = t 11 b := rfl
theorem up_5_12 {t : TT} {a b : Nat} {v : Int32} : up2 t 5 a v 12 b = t 12 b := rfl
theorem up_5_13 {t : TT} {a b : Nat} {v : Int32} : up2 t 5 a v 13 b = t 13 b := rfl
theorem up_5_14 {t : TT} {a b : Nat} {v : Int32} : up2 t 5 a v 14 b = t 14 b := rfl
theorem up_5_15 {t : TT} {a b : Nat} {v : Int32} : up2 t 5 a v 15 b = t 15 b := rfl
theorem up_5_16 {t : TT} {a b : Nat} {v : Int32} : up2 t 5 a v 16 b = t 16 b := rfl
theorem up_5_17 {t : TT} {a b : Nat} {v : Int32} : up2 t 5 a v 17 b = t 17 b := rfl
theorem up_5_18 {t : TT} {a b : Nat} {v : Int32} : up2 t 5 a v 18 b = t 18 b := rfl
theorem up_5_19 {t : TT} {a b : Nat} {v : Int32} : up2 t 5 a v 19 b = t 19 b := rfl
theorem up_5_20 {t : TT} {a b : Nat} {v : Int32} : up2 t 5 a v 20 b = t 20 b := rfl
theorem up_5_21 {t : TT} {a b : Nat} {v : Int32} : up2 t 5 a v 21 b = t 21 b := rfl
theorem up_5_22 {t : TT} {a b : Nat} {v : Int32} : up2 t 5 a v 22 b = t 22 b := rfl
theorem up_5_23 {t : TT} {a b : Nat} {v : Int32} : up2 t 5 a v 23 b = t 23 b := rfl
theorem up_5_24 {t : TT} {a b : Nat} {v : Int32} : up2 t 5 a v 24 b = t 24 b := rfl
theorem up_5_25 {t : TT} {a b : Nat} {v : Int32} : up2 t 5 a v 25 b = t 25 b := rfl
theorem up_5_26 {t : TT} {a b : Nat} {v : Int32} : up2 t 5 a v 26 b = t 26 b := rfl
theorem up_5_27 {t : TT} {a b : Nat} {v : Int32} : up2 t 5 a v 27 b = t 27 b := rfl
theorem up_5_28 {t : TT} {a b : Nat} {v : Int32} : up2 t 5 a v 28 b = t 28 b := rfl
theorem up_5_29 {t : TT} {a b : Nat} {v : Int32} : up2 t 5 a v 29 b = t 29 b := rfl
theorem up_5_30 {t : TT} {a b : Nat} {v : Int32} : up2 t 5 a v 30 b = t 30 b := rfl
theorem up_5_31 {t : TT} {a b : Nat} {v : Int32} : up2 t 5 a v 31 b = t 31 b := rfl
theorem up_5_32 {t : TT} {a b : Nat} {v : Int32} : up2 t 5 a v 32 b = t 32 b := rfl
theorem up_5_33 {t : TT} {a b : Nat} {v : Int32} : up2 t 5 a v 33 b = t 33 b := rfl
theorem up_5_34 {t : TT} {a b : Nat} {v : Int32} : up2 t 5 a v 34 b = t 34 b := rfl
theorem up_5_35 {t : TT} {a b : Nat} {v : Int32} : up2 t 5 a v 35 b = t 35 b := rfl
theorem up_5_36 {t : TT} {a b : Nat} {v : Int32} : up2 t 5 a v 36 b = t 36 b := rfl
theorem up_6_1 {t : TT} {a b : Nat} {v : Int32} : up2 t 6 a v 1 b = t 1 b := rfl
theorem up_6_2 {t : TT} {a b : Nat} {v : Int32} : up2 t 6 a v 2 b = t 2 b := rfl
theorem up_6_3 {t : TT} {a b : Nat} {v : Int32} : up2 t 6 a v 3 b = t 3 b := rfl
theorem up_6_4 {t : TT} {a b : Nat} {v : Int32} : up2 t 6 a v 4 b = t 4 b := rfl
theorem up_6_5 {t : TT} {a b : Nat} {v : Int32} : up2 t 6 a v 5 b = t 5 b := rfl
theorem up_6_7 {t : TT} {a b : Nat} {v : Int32} : up2 t 6 a v 7 b = t 7 b := rfl
theorem up_6_8 {t : TT} {a b : Nat} {v : Int32} : up2 t 6 a v 8 b = t 8 b := rfl
theorem up_6_10 {t : TT} {a b : Nat} {v : Int32} : up2 t 6 a v 10 b = t 10 b := rfl
theorem up_6_11 {t : TT} {a b : Nat} {v : Int32} : up2 t 6 a v 11 b = t 11 b := rfl
theorem up_6_12 {t : TT} {a b : Nat} {v : Int32} : up2 t 6 a v 12 b = t 12 b := rfl
theorem up_6_13 {t : TT} {a b : Nat} {v : Int32} : up2 t 6 a v 13 b = t 13 b := rfl
theorem up_6_14 {t : TT} {a b : Nat} {v : Int32} : up2 t 6 a v 14 b = t 14 b := rfl
theorem up_6_15 {t : TT} {a b : Nat} {v : Int32} : up2 t 6 a v 15 b = t 15 b := rfl
theorem up_6_16 {t : TT} {a b : Nat} {v : Int32} : up2 t 6 a v 16 b = t 16 b := rfl
theorem up_6_17 {t : TT} {a b : Nat} {v : Int32} : up2 t 6 a v 17 b = t 17 b := rfl
theorem up_6_18 {t : TT} {a b : Nat} {v : Int32} : up2 t 6 a v 18 b = t 18 b := rfl
theorem up_6_19 {t : TT} {a b : Nat} {v : Int32} : up2 t 6 a v 19 b = t 19 b := rfl
theorem up_6_20 {t : TT} {a b : Nat} {v : Int32} : up2 t 6 a v 20 b = t 20 b := rfl
theorem up_6_21 {t : TT} {a b : Nat} {v : Int32} : up2 t 6 a v 21 b = t 21 b := rfl
theorem up_6_22 {t : TT} {a b : Nat} {v : Int32} : up2 t 6 a v 22 b = t 22 b := rfl
theorem up_6_23 {t : TT} {a b : Nat} {v : Int32} : up2 t 6 a v 23 b = t 23 b := rfl
theorem up_6_24 {t : TT} {a b : Nat} {v : Int32} : up2 t 6 a v 24 b = t 24 b := rfl
theorem up_6_25 {t : TT} {a b : Nat} {v : Int32} : up2 t 6 a v 25 b = t 25 b := rfl
theorem up_6_26 {t : TT} {a b : Nat} {v : Int32} : up2 t 6 a v 26 b = t 26 b := rfl
theorem up_6_27 {t : TT} {a b : Nat} {v : Int32} : up2 t 6 a v 27 b = t 27 b := rfl
theorem up_6_28 {t : TT} {a b : Nat} {v : Int32} : up2 t 6 a v 28 b = t 28 b := rfl
theorem up_6_29 {t : TT} {a b : Nat} {v : Int32} : up2 t 6 a v 29 b = t 29 b := rfl
theorem up_6_30 {t : TT} {a b : Nat} {v : Int32} : up2 t 6 a v 30 b = t 30 b := rfl
theorem up_6_31 {t : TT} {a b : Nat} {v : Int32} : up2 t 6 a v 31 b = t 31 b := rfl
theorem up_6_32 {t : TT} {a b : Nat} {v : Int32} : up2 t 6 a v 32 b = t 32 b := rfl
theorem up_6_33 {t : TT} {a b : Nat} {v : Int32} : up2 t 6 a v 33 b = t 33 b := rfl
theorem up_6_34 {t : TT} {a b : Nat} {v : Int32} : up2 t 6 a v 34 b = t 34 b := rfl
theorem up_6_35 {t : TT} {a b : Nat} {v : Int32} : up2 t 6 a v 35 b = t 35 b := rfl
theorem up_6_36 {t : TT} {a b : Nat} {v : Int32} : up2 t 6 a v 36 b = t 36 b := rfl
theorem up_7_1 {t : TT} {a b : Nat} {v : Int32} : up2 t 7 a v 1 b = t 1 b := rfl
theorem up_7_2 {t : TT} {a b : Nat} {v : Int32} : up2 t 7 a v 2 b = t 2 b := rfl
theorem up_7_3 {t : TT} {a b : Nat} {v : Int32} : up2 t 7 a v 3 b = t 3 b := rfl
theorem up_7_4 {t : TT} {a b : Nat} {v : Int32} : up2 t 7 a v 4 b = t 4 b := rfl
theorem up_7_5 {t : TT} {a b : Nat} {v : Int32} : up2 t 7 a v 5 b = t 5 b := rfl
theorem up_7_6 {t : TT} {a b : Nat} {v : Int32} : up2 t 7 a v 6 b = t 6 b := rfl
theorem up_7_8 {t : TT} {a b : Nat} {v : Int32} : up2 t 7 a v 8 b = t 8 b := rfl
theorem up_7_10 {t : TT} {a b : Nat} {v : Int32} : up2 t 7 a v 10 b = t 10 b := rfl
theorem up_7_11 {t : TT} {a b : Nat} {v : Int32} : up2 t 7 a v 11 b = t 11 b := rfl
theorem up_7_12 {t : TT} {a b : Nat} {v : Int32} : up2 t 7 a v 12 b = t 12 b := rfl
theorem up_7_13 {t : TT} {a b : Nat} {v : Int32} : up2 t 7 a v 13 b = t 13 b := rfl
theorem up_7_14 {t : TT} {a b : Nat} {v : Int32} : up2 t 7 a v 14 b = t 14 b := rfl
theorem up_7_15 {t : TT} {a b : Nat} {v : Int32} : up2 t 7 a v 15 b = t 15 b := rfl
theorem up_7_16 {t : TT} {a b : Nat} {v : Int32} : up2 t 7 a v 16 b = t 16 b := rfl
theorem up_7_17 {t : TT} {a b : Nat} {v : Int32} : up2 t 7 a v 17 b = t 17 b := rfl
theorem up_7_18 {t : TT} {a b : Nat} {v : Int32} : up2 t 7 a v 18 b = t 18 b := rfl
theorem up_7_19 {t : TT} {a b : Nat} {v : Int32} : up2 t 7 a v 19 b = t 19 b := rfl
theorem up_7_20 {t : TT} {a b : Nat} {v : Int32} : up2 t 7 a v 20 b = t 20 b := rfl
theorem up_7_21 {t : TT} {a b : Nat} {v : Int32} : up2 t 7 a v 21 b = t 21 b := rfl
theorem up_7_22 {t : TT} {a b : Nat} {v : Int32} : up2 t 7 a v 22 b = t 22 b := rfl
theorem up_7_23 {t : TT} {a b : Nat} {v : Int32} : up2 t 7 a v 23 b = t 23 b := rfl
theorem up_7_24 {t : TT} {a b : Nat} {v : Int32} : up2 t 7 a v 24 b = t 24 b := rfl
theorem up_7_25 {t : TT} {a b : Nat} {v : Int32} : up2 t 7 a v 25 b = t 25 b := rfl
theorem up_7_26 {t : TT} {a b : Nat} {v : Int32} : up2 t 7 a v 26 b = t 26 b := rfl
theorem up_7_27 {t : TT} {a b : Nat} {v : Int32} : up2 t 7 a v 27 b = t 27 b := rfl
theorem up_7_28 {t : TT} {a b : Nat} {v : Int32} : up2 t 7 a v 28 b = t 28 b := rfl
theorem up_7_29 {t : TT} {a b : Nat} {v : Int32} : up2 t 7 a v 29 b = t 29 b := rfl
theorem up_7_30 {t : TT} {a b : Nat} {v : Int32} : up2 t 7 a v 30 b = t 30 b := rfl
theorem up_7_31 {t : TT} {a b : Nat} {v : Int32} : up2 t 7 a v 31 b = t 31 b := rfl
theorem up_7_32 {t : TT} {a b : Nat} {v : Int32} : up2 t 7 a v 32 b = t 32 b := rfl
theorem up_7_33 {t : TT} {a b : Nat} {v : Int32} : up2 t 7 a v 33 b = t 33 b := rfl
theorem up_7_34 {t : TT} {a b : Nat} {v : Int32} : up2 t 7 a v 34 b = t 34 b := rfl
theorem up_7_35 {t : TT} {a b : Nat} {v : Int32} : up2 t 7 a v 35 b = t 35 b := rfl
theorem up_7_36 {t : TT} {a b : Nat} {v : Int32} : up2 t 7 a v 36 b = t 36 b := rfl
theorem up_8_1 {t : TT} {a b : Nat} {v : Int32} : up2 t 8 a v 1 b = t 1 b := rfl
theorem up_8_2 {t : TT} {a b : Nat} {v : Int32} : up2 t 8 a v 2 b = t 2 b := rfl
theorem up_8_3 {t : TT} {a b : Nat} {v : Int32} : up2 t 8 a v 3 b = t 3 b := rfl
theorem up_8_4 {t : TT} {a b : Nat} {v : Int32} : up2 t 8 a v 4 b = t 4 b := rfl
theorem up_8_5 {t : TT} {a b : Nat} {v : Int32} : up2 t 8 a v 5 b = t 5 b := rfl
theorem up_8_6 {t : TT} {a b : Nat} {v : Int32} : up2 t 8 a v 6 b = t 6 b := rfl
theorem up_8_7 {t : TT} {a b : Nat} {v : Int32} : up2 t 8 a v 7 b = t 7 b := rfl
theorem up_8_10 {t : TT} {a b : Nat} {v : Int32} : up2 t 8 a v 10 b = t 10 b := rfl
theorem up_8_11 {t : TT} {a b : Nat} {v : Int32} : up2 t 8 a v 11 b = t 11 b := rfl
theorem up_8_12 {t : TT} {a b : Nat} {v : Int32} : up2 t 8 a v 12 b = t 12 b := rfl
theorem up_8_13 {t : TT} {a b : Nat} {v : Int32} : up2 t 8 a v 13 b = t 13 b := rfl
theorem up_8_14 {t : TT} {a b : Nat} {v : Int32} : up2 t 8 a v 14 b = t 14 b := rfl
theorem up_8_15 {t : TT} {a b : Nat} {v : Int32} : up2 t 8 a v 15 b = t 15 b := rfl
theorem up_8_16 {t : TT} {a b : Nat} {v : Int32} : up2 t 8 a v 16 b = t 16 b := rfl
theorem up_8_17 {t : TT} {a b : Nat} {v : Int32} : up2 t 8 a v 17 b = t 17 b := rfl
theorem up_8_18 {t : TT} {a b : Nat} {v : Int32} : up2 t 8 a v 18 b = t 18 b := rfl
theorem up_8_19 {t : TT} {a b : Nat} {v : Int32} : up2 t 8 a v 19 b = t 19 b := rfl
theorem up_8_20 {t : TT} {a b : Nat} {v : Int32} : up2 t 8 a v 20 b = t 20 b := rfl
theorem up_8_21 {t : TT} {a b : Nat} {v : Int32} : up2 t 8 a v 21 b = t 21 b := rfl
theorem up_8_22 {t : TT} {a b : Nat} {v : Int32} : up2 t 8 a v 22 b = t 22 b := rfl
theorem up_8_23 {t : TT} {a b : Nat} {v : Int32} : up2 t 8 a v 23 b = t 23 b := rfl
theorem up_8_24 {t : TT} {a b : Nat} {v : Int32} : up2 t 8 a v 24 b = t 24 b := rfl
theorem up_8_25 {t : TT} {a b : Nat} {v : Int32} : up2 t 8 a v 25 b = t 25 b := rfl
theorem up_8_26 {t : TT} {a b : Nat} {v : Int32} : up2 t 8 a v 26 b = t 26 b := rfl
theorem up_8_27 {t : TT} {a b : Nat} {v : Int32} : up2 t 8 a v 27 b = t 27 b := rfl
theorem up_8_28 {t : TT} {a b : Nat} {v : Int32} : up2 t 8 a v 28 b = t 28 b := rfl
theorem up_8_29 {t : TT} {a b : Nat} {v : Int32} : up2 t 8 a v 29 b = t 29 b := rfl
theorem up_8_30 {t : TT} {a b : Nat} {v : Int32} : up2 t 8 a v 30 b = t 30 b := rfl
theorem up_8_31 {t : TT} {a b : Nat} {v : Int32} : up2 t 8 a v 31 b = t 31 b := rfl
theorem up_8_32 {t : TT} {a b : Nat} {v : Int32} : up2 t 8 a v 32 b = t 32 b := rfl
theorem up_8_33 {t : TT} {a b : Nat} {v : Int32} : up2 t 8 a v 33 b = t 33 b := rfl
theorem up_8_34 {t : TT} {a b : Nat} {v : Int32} : up2 t 8 a v 34 b = t 34 b := rfl
theorem up_8_35 {t : TT} {a b : Nat} {v : Int32} : up2 t 8 a v 35 b = t 35 b := rfl
theorem up_8_36 {t : TT} {a b : Nat} {v : Int32} : up2 t 8 a v 36 b = t 36 b := rfl
theorem up_10_1 {t : TT} {a b : Nat} {v : Int32} : up2 t 10 a v 1 b = t 1 b := rfl
theorem up_10_2 {t : TT} {a b : Nat} {v : Int32} : up2 t 10 a v 2 b = t 2 b := rfl
theorem up_10_3 {t : TT} {a b : Nat} {v : Int32} : up2 t 10 a v 3 b = t 3 b := rfl
theorem up_10_4 {t : TT} {a b : Nat} {v : Int32} : up2 t 10 a v 4 b = t 4 b := rfl
theorem up_10_5 {t : TT} {a b : Nat} {v : Int32} : up2 t 10 a v 5 b = t 5 b := rfl
theorem up_10_6 {t : TT} {a b : Nat} {v : Int32} : up2 t 10 a v 6 b = t 6 b := rfl
theorem up_10_7 {t : TT} {a b : Nat} {v : Int32} : up2 t 10 a v 7 b = t 7 b := rfl
theorem up_10_8 {t : TT} {a b : Nat} {v : Int32} : up2 t 10 a v 8 b = t 8 b := rfl
theorem up_10_11 {t : TT} {a b : Nat} {v : Int32} : up2 t 10 a v 11 b = t 11 b := rfl
theorem up_10_12 {t : TT} {a b : Nat} {v : Int32} : up2 t 10 a v 12 b = t 12 b := rfl
theorem up_10_13 {t : TT} {a b : Nat} {v : Int32} : up2 t 10 a v 13 b = t 13 b := rfl
theorem up_10_14 {t : TT} {a b : Nat} {v : Int32} : up2 t 10 a v 14 b = t 14 b := rfl
theorem up_10_15 {t : TT} {a b : Nat} {v : Int32} : up2 t 10 a v 15 b = t 15 b := rfl
theorem up_10_16 {t : TT} {a b : Nat} {v : Int32} : up2 t 10 a v 16 b = t 16 b := rfl
theorem up_10_17 {t : TT} {a b : Nat} {v : Int32} : up2 t 10 a v 17 b = t 17 b := rfl
theorem up_10_18 {t : TT} {a b : Nat} {v : Int32} : up2 t 10 a v 18 b = t 18 b := rfl
theorem up_10_19 {t : TT} {a b : Nat} {v : Int32} : up2 t 10 a v 19 b = t 19 b := rfl
theorem up_10_20 {t : TT} {a b : Nat} {v : Int32} : up2 t 10 a v 20 b = t 20 b := rfl
theorem up_10_21 {t : TT} {a b : Nat} {v : Int32} : up2 t 10 a v 21 b = t 21 b := rfl
theorem up_10_22 {t : TT} {a b : Nat} {v : Int32} : up2 t 10 a v 22 b = t 22 b := rfl
theorem up_10_23 {t : TT} {a b : Nat} {v : Int32} : up2 t 10 a v 23 b = t 23 b := rfl
theorem up_10_24 {t : TT} {a b : Nat} {v : Int32} : up2 t 10 a v 24 b = t 24 b := rfl
theorem up_10_25 {t : TT} {a b : Nat} {v : Int32} : up2 t 10 a v 25 b = t 25 b := rfl
theorem up_10_26 {t : TT} {a b : Nat} {v : Int32} : up2 t 10 a v 26 b = t 26 b := rfl
theorem up_10_27 {t : TT} {a b : Nat} {v : Int32} : up2 t 10 a v 27 b = t 27 b := rfl
theorem up_10_28 {t : TT} {a b : Nat} {v : Int32} : up2 t 10 a v 28 b = t 28 b := rfl
theorem up_10_29 {t : TT} {a b : Nat} {v : Int32} : up2 t 10 a v 29 b = t 29 b := rfl
theorem up_10_30 {t : TT} {a b : Nat} {v : Int32} : up2 t 10 a v 30 b = t 30 b := rfl
theorem up_10_31 {t : TT} {a b : Nat} {v : Int32} : up2 t 10 a v 31 b = t 31 b := rfl
theorem up_10_32 {t : TT} {a b : Nat} {v : Int32} : up2 t 10 a v 32 b = t 32 b := rfl
theorem up_10_33 {t : TT} {a b : Nat} {v : Int32} : up2 t 10 a v 33 b = t 33 b := rfl
theorem up_10_34 {t : TT} {a b : Nat} {v : Int32} : up2 t 10 a v 34 b = t 34 b := rfl
theorem up_10_35 {t : TT} {a b : Nat} {v : Int32} : up2 t 10 a v 35 b = t 35 b := rfl
theorem up_10_36 {t : TT} {a b : Nat} {v : Int32} : up2 t 10 a v 36 b = t 36 b := rfl
theorem up_11_1 {t : TT} {a b : Nat} {v : Int32} : up2 t 11 a v 1 b = t 1 b := rfl
theorem up_11_2 {t : TT} {a b : Nat} {v : Int32} : up2 t 11 a v 2 b = t 2 b := rfl
theorem up_11_3 {t : TT} {a b : Nat} {v : Int32} : up2 t 11 a v 3 b = t 3 b := rfl
theorem up_11_4 {t : TT} {a b : Nat} {v : Int32} : up2 t 11 a v 4 b = t 4 b := rfl
theorem up_11_5 {t : TT} {a b : Nat} {v : Int32} : up2 t 11 a v 5 b = t 5 b := rfl
theorem up_11_6 {t : TT} {a b : Nat} {v : Int32} : up2 t 11 a v 6 b = t 6 b := rfl
theorem up_11_7 {t : TT} {a b : Nat} {v : Int32} : up2 t 11 a v 7 b = t 7 b := rfl
theorem up_11_8 {t : TT} {a b : Nat} {v : Int32} : up2 t 11 a v 8 b = t 8 b := rfl
theorem up_11_10 {t : TT} {a b : Nat} {v : Int32} : up2 t 11 a v 10 b = t 10 b := rfl
theorem up_11_12 {t : TT} {a b : Nat} {v : Int32} : up2 t 11 a v 12 b = t 12 b := rfl
theorem up_11_13 {t : TT} {a b : Nat} {v : Int32} : up2 t 11 a v 13 b = t 13 b := rfl
theorem up_11_14 {t : TT} {a b : Nat} {v : Int32} : up2 t 11 a v 14 b = t 14 b := rfl
theorem up_11_15 {t : TT} {a b : Nat} {v : Int32} : up2 t 11 a v 15 b = t 15 b := rfl
theorem up_11_16 {t : TT} {a b : Nat} {v : Int32} : up2 t 11 a v 16 b = t 16 b := rfl
theorem up_11_17 {t : TT} {a b : Nat} {v : Int32} : up2 t 11 a v 17 b = t 17 b := rfl
theorem up_11_18 {t : TT} {a b : Nat} {v : Int32} : up2 t 11 a v 18 b = t 18 b := rfl
theorem up_11_19 {t : TT} {a b : Nat} {v : Int32} : up2 t 11 a v 19 b = t 19 b := rfl
theorem up_11_20 {t : TT} {a b : Nat} {v : Int32} : up2 t 11 a v 20 b = t 20 b := rfl
theorem up_11_21 {t : TT} {a b : Nat} {v : Int32} : up2 t 11 a v 21 b = t 21 b := rfl
theorem up_11_22 {t : TT} {a b : Nat} {v : Int32} : up2 t 11 a v 22 b = t 22 b := rfl
theorem up_11_23 {t : TT} {a b : Nat} {v : Int32} : up2 t 11 a v 23 b = t 23 b := rfl
theorem up_11_24 {t : TT} {a b : Nat} {v : Int32} : up2 t 11 a v 24 b = t 24 b := rfl
theorem up_11_25 {t : TT} {a b : Nat} {v : Int32} : up2 t 11 a v 25 b = t 25 b := rfl
theorem up_11_26 {t : TT} {a b : Nat} {v : Int32} : up2 t 11 a v 26 b = t 26 b := rfl
theorem up_11_27 {t : TT} {a b : Nat} {v : Int32} : up2 t 11 a v 27 b = t 27 b := rfl
theorem up_11_28 {t : TT} {a b : Nat} {v : Int32} : up2 t 11 a v 28 b = t 28 b := rfl
theorem up_11_29 {t : TT} {a b : Nat} {v : Int32} : up2 t 11 a v 29 b = t 29 b := rfl
theorem up_11_30 {t : TT} {a b : Nat} {v : Int32} : up2 t 11 a v 30 b = t 30 b := rfl
theorem up_11_31 {t : TT} {a b : Nat} {v : Int32} : up2 t 11 a v 31 b = t 31 b := rfl
theorem up_11_32 {t : TT} {a b : Nat} {v : Int32} : up2 t 11 a v 32 b = t 32 b := rfl
theorem up_11_33 {t : TT} {a b : Nat} {v : Int32} : up2 t 11 a v 33 b = t 33 b := rfl
theorem up_11_34 {t : TT} {a b : Nat} {v : Int32} : up2 t 11 a v 34 b = t 34 b := rfl
theorem up_11_35 {t : TT} {a b : Nat} {v : Int32} : up2 t 11 a v 35 b = t 35 b := rfl
theorem up_11_36 {t : TT} {a b : Nat} {v : Int32} : up2 t 11 a v 36 b = t 36 b := rfl
theorem up_12_1 {t : TT} {a b : Nat} {v : Int32} : up2 t 12 a v 1 b = t 1 b := rfl
theorem up_12_2 {t : TT} {a b : Nat} {v : Int32} : up2 t 12 a v 2 b = t 2 b := rfl
theorem up_12_3 {t : TT} {a b : Nat} {v : Int32} : up2 t 12 a v 3 b = t 3 b := rfl
theorem up_12_4 {t : TT} {a b : Nat} {v : Int32} : up2 t 12 a v 4 b = t 4 b := rfl
theorem up_12_5 {t : TT} {a b : Nat} {v : Int32} : up2 t 12 a v 5 b = t 5 b := rfl
theorem up_12_6 {t : TT} {a b : Nat} {v : Int32} : up2 t 12 a v 6 b = t 6 b := rfl
theorem up_12_7 {t : TT} {a b : Nat} {v : Int32} : up2 t 12 a v 7 b = t 7 b := rfl
theorem up_12_8 {t : TT} {a b : Nat} {v : Int32} : up2 t 12 a v 8 b = t 8 b := rfl
theorem up_12_10 {t : TT} {a b : Nat} {v : Int32} : up2 t 12 a v 10 b = t 10 b := rfl
theorem up_12_11 {t : TT} {a b : Nat} {v : Int32} : up2 t 12 a v 11 b = t 11 b := rfl
theorem up_12_13 {t : TT} {a b : Nat} {v : Int32} : up2 t 12 a v 13 b = t 13 b := rfl
theorem up_12_14 {t : TT} {a b : Nat} {v : Int32} : up2 t 12 a v 14 b = t 14 b := rfl
theorem up_12_15 {t : TT} {a b : Nat} {v : Int32} : up2 t 12 a v 15 b = t 15 b := rfl
theorem up_12_16 {t : TT} {a b : Nat} {v : Int32} : up2 t 12 a v 16 b = t 16 b := rfl
theorem up_12_17 {t : TT} {a b : Nat} {v : Int32} : up2 t 12 a v 17 b = t 17 b := rfl
theorem up_12_18 {t : TT} {a b : Nat} {v : Int32} : up2 t 12 a v 18 b = t 18 b := rfl
theorem up_12_19 {t : TT} {a b : Nat} {v : Int32} : up2 t 12 a v 19 b = t 19 b := rfl
theorem up_12_20 {t : TT} {a b : Nat} {v : Int32} : up2 t 12 a v 20 b = t 20 b := rfl
theorem up_12_21 {t : TT} {a b : Nat} {v : Int32} : up2 t 12 a v 21 b = t 21 b := rfl
theorem up_12_22 {t : TT} {a b : Nat} {v : Int32} : up2 t 12 a v 22 b = t 22 b := rfl
theorem up_12_23 {t : TT} {a b : Nat} {v : Int32} : up2 t 12 a v 23 b = t 23 b := rfl
theorem up_12_24 {t : TT} {a b : Nat} {v : Int32} : up2 t 12 a v 24 b = t 24 b := rfl
theorem up_12_25 {t : TT} {a b : Nat} {v : Int32} : up2 t 12 a v 25 b = t 25 b := rfl
theorem up_12_26 {t : TT} {a b : Nat} {v : Int32} : up2 t 12 a v 26 b = t 26 b := rfl
theorem up_12_27 {t : TT} {a b : Nat} {v : Int32} : up2 t 12 a v 27 b = t 27 b := rfl
theorem up_12_28 {t : TT} {a b : Nat} {v : Int32} : up2 t 12 a v 28 b = t 28 b := rfl
theorem up_12_29 {t : TT} {a b : Nat} {v : Int32} : up2 t 12 a v 29 b = t 29 b := rfl
theorem up_12_30 {t : TT} {a b : Nat} {v : Int32} : up2 t 12 a v 30 b = t 30 b := rfl
theorem up_12_31 {t : TT} {a b : Nat} {v : Int32} : up2 t 12 a v 31 b = t 31 b := rfl
theorem up_12_32 {t : TT} {a b : Nat} {v : Int32} : up2 t 12 a v 32 b = t 32 b := rfl
theorem up_12_33 {t : TT} {a b : Nat} {v : Int32} : up2 t 12 a v 33 b = t 33 b := rfl
theorem up_12_34 {t : TT} {a b : Nat} {v : Int32} : up2 t 12 a v 34 b = t 34 b := rfl
theorem up_12_35 {t : TT} {a b : Nat} {v : Int32} : up2 t 12 a v 35 b = t 35 b := rfl
theorem up_12_36 {t : TT} {a b : Nat} {v : Int32} : up2 t 12 a v 36 b = t 36 b := rfl
theorem up_13_1 {t : TT} {a b : Nat} {v : Int32} : up2 t 13 a v 1 b = t 1 b := rfl
theorem up_13_2 {t : TT} {a b : Nat} {v : Int32} : up2 t 13 a v 2 b = t 2 b := rfl
theorem up_13_3 {t : TT} {a b : Nat} {v : Int32} : up2 t 13 a v 3 b = t 3 b := rfl
theorem up_13_4 {t : TT} {a b : Nat} {v : Int32} : up2 t 13 a v 4 b = t 4 b := rfl
theorem up_13_5 {t : TT} {a b : Nat} {v : Int32} : up2 t 13 a v 5 b = t 5 b := rfl
theorem up_13_6 {t : TT} {a b : Nat} {v : Int32} : up2 t 13 a v 6 b = t 6 b := rfl
theorem up_13_7 {t : TT} {a b : Nat} {v : Int32} : up2 t 13 a v 7 b = t 7 b := rfl
theorem up_13_8 {t : TT} {a b : Nat} {v : Int32} : up2 t 13 a v 8 b = t 8 b := rfl
theorem up_13_10 {t : TT} {a b : Nat} {v : Int32} : up2 t 13 a v 10 b = t 10 b := rfl
theorem up_13_11 {t : TT} {a b : Nat} {v : Int32} : up2 t 13 a v 11 b = t 11 b := rfl
theorem up_13_12 {t : TT} {a b : Nat} {v : Int32} : up2 t 13 a v 12 b = t 12 b := rfl
theorem up_13_14 {t : TT} {a b : Nat} {v : Int32} : up2 t 13 a v 14 b = t 14 b := rfl
theorem up_13_15 {t : TT} {a b : Nat} {v : Int32} : up2 t 13 a v 15 b = t 15 b := rfl
theorem up_13_16 {t : TT} {a b : Nat} {v : Int32} : up2 t 13 a v 16 b = t 16 b := rfl
theorem up_13_17 {t : TT} {a b : Nat} {v : Int32} : up2 t 13 a v 17 b = t 17 b := rfl
theorem up_13_18 {t : TT} {a b : Nat} {v : Int32} : up2 t 13 a v 18 b = t 18 b := rfl
theorem up_13_19 {t : TT} {a b : Nat} {v : Int32} : up2 t 13 a v 19 b = t 19 b := rfl
theorem up_13_20 {t : TT} {a b : Nat} {v : Int32} : up2 t 13 a v 20 b = t 20 b := rfl
theorem up_13_21 {t : TT} {a b : Nat} {v : Int32} : up2 t 13 a v 21 b = t 21 b := rfl
theorem up_13_22 {t : TT} {a b : Nat} {v : Int32} : up2 t 13 a v 22 b = t 22 b := rfl
theorem up_13_23 {t : TT} {a b : Nat} {v : Int32} : up2 t 13 a v 23 b = t 23 b := rfl
theorem up_13_24 {t : TT} {a b : Nat} {v : Int32} : up2 t 13 a v 24 b = t 24 b := rfl
theorem up_13_25 {t : TT} {a b : Nat} {v : Int32} : up2 t 13 a v 25 b = t 25 b := rfl
theorem up_13_26 {t : TT} {a b : Nat} {v : Int32} : up2 t 13 a v 26 b = t 26 b := rfl
theorem up_13_27 {t : TT} {a b : Nat} {v : Int32} : up2 t 13 a v 27 b = t 27 b := rfl
theorem up_13_28 {t : TT} {a b : Nat} {v : Int32} : up2 t 13 a v 28 b = t 28 b := rfl
theorem up_13_29 {t : TT} {a b : Nat} {v : Int32} : up2 t 13 a v 29 b = t 29 b := rfl
theorem up_13_30 {t : TT} {a b : Nat} {v : Int32} : up2 t 13 a v 30 b = t 30 b := rfl
theorem up_13_31 {t : TT} {a b : Nat} {v : Int32} : up2 t 13 a v 31 b = t 31 b := rfl
theorem up_13_32 {t : TT} {a b : Nat} {v : Int32} : up2 t 13 a v 32 b = t 32 b := rfl
theorem up_13_33 {t : TT} {a b : Nat} {v : Int32} : up2 t 13 a v 33 b = t 33 b := rfl
theorem up_13_34 {t : TT} {a b : Nat} {v : Int32} : up2 t 13 a v 34 b = t 34 b := rfl
theorem up_13_35 {t : TT} {a b : Nat} {v : Int32} : up2 t 13 a v 35 b = t 35 b := rfl
theorem up_13_36 {t : TT} {a b : Nat} {v : Int32} : up2 t 13 a v 36 b = t 36 b := rfl
theorem up_14_1 {t : TT} {a b : Nat} {v : Int32} : up2 t 14 a v 1 b = t 1 b := rfl
theorem up_14_2 {t : TT} {a b : Nat} {v : Int32} : up2 t 14 a v 2 b = t 2 b := rfl
theorem up_14_3 {t : TT} {a b : Nat} {v : Int32} : up2 t 14 a v 3 b = t 3 b := rfl
theorem up_14_4 {t : TT} {a b : Nat} {v : Int32} : up2 t 14 a v 4 b = t 4 b := rfl
theorem up_14_5 {t : TT} {a b : Nat} {v : Int32} : up2 t 14 a v 5 b = t 5 b := rfl
theorem up_14_6 {t : TT} {a b : Nat} {v : Int32} : up2 t 14 a v 6 b = t 6 b := rfl
theorem up_14_7 {t : TT} {a b : Nat} {v : Int32} : up2 t 14 a v 7 b = t 7 b := rfl
theorem up_14_8 {t : TT} {a b : Nat} {v : Int32} : up2 t 14 a v 8 b = t 8 b := rfl
theorem up_14_10 {t : TT} {a b : Nat} {v : Int32} : up2 t 14 a v 10 b = t 10 b := rfl
theorem up_14_11 {t : TT} {a b : Nat} {v : Int32} : up2 t 14 a v 11 b = t 11 b := rfl
theorem up_14_12 {t : TT} {a b : Nat} {v : Int32} : up2 t 14 a v 12 b = t 12 b := rfl
theorem up_14_13 {t : TT} {a b : Nat} {v : Int32} : up2 t 14 a v 13 b = t 13 b := rfl
theorem up_14_15 {t : TT} {a b : Nat} {v : Int32} : up2 t 14 a v 15 b = t 15 b := rfl
theorem up_14_16 {t : TT} {a b : Nat} {v : Int32} : up2 t 14 a v 16 b = t 16 b := rfl
theorem up_14_17 {t : TT} {a b : Nat} {v : Int32} : up2 t 14 a v 17 b = t 17 b := rfl
theorem up_14_18 {t : TT} {a b : Nat} {v : Int32} : up2 t 14 a v 18 b = t 18 b := rfl
theorem up_14_19 {t : TT} {a b : Nat} {v : Int32} : up2 t 14 a v 19 b = t 19 b := rfl
theorem up_14_20 {t : TT} {a b : Nat} {v : Int32} : up2 t 14 a v 20 b = t 20 b := rfl
theorem up_14_21 {t : TT} {a b : Nat} {v : Int32} : up2 t 14 a v 21 b = t 21 b := rfl
theorem up_14_22 {t : TT} {a b : Nat} {v : Int32} : up2 t 14 a v 22 b = t 22 b := rfl
theorem up_14_23 {t : TT} {a b : Nat} {v : Int32} : up2 t 14 a v 23 b = t 23 b := rfl
theorem up_14_24 {t : TT} {a b : Nat} {v : Int32} : up2 t 14 a v 24 b = t 24 b := rfl
theorem up_14_25 {t : TT} {a b : Nat} {v : Int32} : up2 t 14 a v 25 b = t 25 b := rfl
theorem up_14_26 {t : TT} {a b : Nat} {v : Int32} : up2 t 14 a v 26 b = t 26 b := rfl
theorem up_14_27 {t : TT} {a b : Nat} {v : Int32} : up2 t 14 a v 27 b = t 27 b := rfl
theorem up_14_28 {t : TT} {a b : Nat} {v : Int32} : up2 t 14 a v 28 b = t 28 b := rfl
theorem up_14_29 {t : TT} {a b : Nat} {v : Int32} : up2 t 14 a v 29 b = t 29 b := rfl
theorem up_14_30 {t : TT} {a b : Nat} {v : Int32} : up2 t 14 a v 30 b = t 30 b := rfl
theorem up_14_31 {t : TT} {a b : Nat} {v : Int32} : up2 t 14 a v 31 b = t 31 b := rfl
theorem up_14_32 {t : TT} {a b : Nat} {v : Int32} : up2 t 14 a v 32 b = t 32 b := rfl
theorem up_14_33 {t : TT} {a b : Nat} {v : Int32} : up2 t 14 a v 33 b = t 33 b := rfl
theorem up_14_34 {t : TT} {a b : Nat} {v : Int32} : up2 t 14 a v 34 b = t 34 b := rfl
theorem up_14_35 {t : TT} {a b : Nat} {v : Int32} : up2 t 14 a v 35 b = t 35 b := rfl
theorem up_14_36 {t : TT} {a b : Nat} {v : Int32} : up2 t 14 a v 36 b = t 36 b := rfl
theorem up_15_1 {t : TT} {a b : Nat} {v : Int32} : up2 t 15 a v 1 b = t 1 b := rfl
theorem up_15_2 {t : TT} {a b : Nat} {v : Int32} : up2 t 15 a v 2 b = t 2 b := rfl
theorem up_15_3 {t : TT} {a b : Nat} {v : Int32} : up2 t 15 a v 3 b = t 3 b := rfl
theorem up_15_4 {t : TT} {a b : Nat} {v : Int32} : up2 t 15 a v 4 b = t 4 b := rfl
theorem up_15_5 {t : TT} {a b : Nat} {v : Int32} : up2 t 15 a v 5 b = t 5 b := rfl
theorem up_15_6 {t : TT} {a b : Nat} {v : Int32} : up2 t 15 a v 6 b = t 6 b := rfl
theorem up_15_7 {t : TT} {a b : Nat} {v : Int32} : up2 t 15 a v 7 b = t 7 b := rfl
theorem up_15_8 {t : TT} {a b : Nat} {v : Int32} : up2 t 15 a v 8 b = t 8 b := rfl
theorem up_15_10 {t : TT} {a b : Nat} {v : Int32} : up2 t 15 a v 10 b = t 10 b := rfl
theorem up_15_11 {t : TT} {a b : Nat} {v : Int32} : up2 t 15 a v 11 b = t 11 b := rfl
theorem up_15_12 {t : TT} {a b : Nat} {v : Int32} : up2 t 15 a v 12 b = t 12 b := rfl
theorem up_15_13 {t : TT} {a b : Nat} {v : Int32} : up2 t 15 a v 13 b = t 13 b := rfl
theorem up_15_14 {t : TT} {a b : Nat} {v : Int32} : up2 t 15 a v 14 b = t 14 b := rfl
theorem up_15_16 {t : TT} {a b : Nat} {v : Int32} : up2 t 15 a v 16 b = t 16 b := rfl
theorem up_15_17 {t : TT} {a b : Nat} {v : Int32} : up2 t 15 a v 17 b = t 17 b := rfl
theorem up_15_18 {t : TT} {a b : Nat} {v : Int32} : up2 t 15 a v 18 b = t 18 b := rfl
theorem up_15_19 {t : TT} {a b : Nat} {v : Int32} : up2 t 15 a v 19 b = t 19 b := rfl
theorem up_15_20 {t : TT} {a b : Nat} {v : Int32} : up2 t 15 a v 20 b = t 20 b := rfl
theorem up_15_21 {t : TT} {a b : Nat} {v : Int32} : up2 t 15 a v 21 b = t 21 b := rfl
theorem up_15_22 {t : TT} {a b : Nat} {v : Int32} : up2 t 15 a v 22 b = t 22 b := rfl
theorem up_15_23 {t : TT} {a b : Nat} {v : Int32} : up2 t 15 a v 23 b = t 23 b := rfl
theorem up_15_24 {t : TT} {a b : Nat} {v : Int32} : up2 t 15 a v 24 b = t 24 b := rfl
theorem up_15_25 {t : TT} {a b : Nat} {v : Int32} : up2 t 15 a v 25 b = t 25 b := rfl
theorem up_15_26 {t : TT} {a b : Nat} {v : Int32} : up2 t 15 a v 26 b = t 26 b := rfl
theorem up_15_27 {t : TT} {a b : Nat} {v : Int32} : up2 t 15 a v 27 b = t 27 b := rfl
theorem up_15_28 {t : TT} {a b : Nat} {v : Int32} : up2 t 15 a v 28 b = t 28 b := rfl
theorem up_15_29 {t : TT} {a b : Nat} {v : Int32} : up2 t 15 a v 29 b = t 29 b := rfl
theorem up_15_30 {t : TT} {a b : Nat} {v : Int32} : up2 t 15 a v 30 b = t 30 b := rfl
theorem up_15_31 {t : TT} {a b : Nat} {v : Int32} : up2 t 15 a v 31 b = t 31 b := rfl
theorem up_15_32 {t : TT} {a b : Nat} {v : Int32} : up2 t 15 a v 32 b = t 32 b := rfl
theorem up_15_33 {t : TT} {a b : Nat} {v : Int32} : up2 t 15 a v 33 b = t 33 b := rfl
theorem up_15_34 {t : TT} {a b : Nat} {v : Int32} : up2 t 15 a v 34 b = t 34 b := rfl
theorem up_15_35 {t : TT} {a b : Nat} {v : Int32} : up2 t 15 a v 35 b = t 35 b := rfl
theorem up_15_36 {t : TT} {a b : Nat} {v : Int32} : up2 t 15 a v 36 b = t 36 b := rfl
theorem up_16_1 {t : TT} {a b : Nat} {v : Int32} : up2 t 16 a v 1 b = t 1 b := rfl
theorem up_16_2 {t : TT} {a b : Nat} {v : Int32} : up2 t 16 a v 2 b = t 2 b := rfl
theorem up_16_3 {t : TT} {a b : Nat} {v : Int32} : up2 t 16 a v 3 b = t 3 b := rfl
theorem up_16_4 {t : TT} {a b : Nat} {v : Int32} : up2 t 16 a v 4 b = t 4 b := rfl
theorem up_16_5 {t : TT} {a b : Nat} {v : Int32} : up2 t 16 a v 5 b = t 5 b := rfl
theorem up_16_6 {t : TT} {a b : Nat} {v : Int32} : up2 t 16 a v 6 b = t 6 b := rfl
theorem up_16_7 {t : TT} {a b : Nat} {v : Int32} : up2 t 16 a v 7 b = t 7 b := rfl
theorem up_16_8 {t : TT} {a b : Nat} {v : Int32} : up2 t 16 a v 8 b = t 8 b := rfl
theorem up_16_10 {t : TT} {a b : Nat} {v : Int32} : up2 t 16 a v 10 b = t 10 b := rfl
theorem up_16_11 {t : TT} {a b : Nat} {v : Int32} : up2 t 16 a v 11 b = t 11 b := rfl
theorem up_16_12 {t : TT} {a b : Nat} {v : Int32} : up2 t 16 a v 12 b = t 12 b := rfl
theorem up_16_13 {t : TT} {a b : Nat} {v : Int32} : up2 t 16 a v 13 b = t 13 b := rfl
theorem up_16_14 {t : TT} {a b : Nat} {v : Int32} : up2 t 16 a v 14 b = t 14 b := rfl
theorem up_16_15 {t : TT} {a b : Nat} {v : Int32} : up2 t 16 a v 15 b = t 15 b := rfl
theorem up_16_17 {t : TT} {a b : Nat} {v : Int32} : up2 t 16 a v 17 b = t 17 b := rfl
theorem up_16_18 {t : TT} {a b : Nat} {v : Int32} : up2 t 16 a v 18 b = t 18 b := rfl
theorem up_16_19 {t : TT} {a b : Nat} {v : Int32} : up2 t 16 a v 19 b = t 19 b := rfl
theorem up_16_20 {t : TT} {a b : Nat} {v : Int32} : up2 t 16 a v 20 b = t 20 b := rfl
theorem up_16_21 {t : TT} {a b : Nat} {v : Int32} : up2 t 16 a v 21 b = t 21 b := rfl
theorem up_16_22 {t : TT} {a b : Nat} {v : Int32} : up2 t 16 a v 22 b = t 22 b := rfl
theorem up_16_23 {t : TT} {a b : Nat} {v : Int32} : up2 t 16 a v 23 b = t 23 b := rfl
theorem up_16_24 {t : TT} {a b : Nat} {v : Int32} : up2 t 16 a v 24 b = t 24 b := rfl
theorem up_16_25 {t : TT} {a b : Nat} {v : Int32} : up2 t 16 a v 25 b = t 25 b := rfl
theorem up_16_26 {t : TT} {a b : Nat} {v : Int32} : up2 t 16 a v 26 b = t 26 b := rfl
theorem up_16_27 {t : TT} {a b : Nat} {v : Int32} : up2 t 16 a v 27 b = t 27 b := rfl
theorem up_16_28 {t : TT} {a b : Nat} {v : Int32} : up2 t 16 a v 28 b = t 28 b := rfl
theorem up_16_29 {t : TT} {a b : Nat} {v : Int32} : up2 t 16 a v 29 b = t 29 b := rfl
theorem up_16_30 {t : TT} {a b : Nat} {v : Int32} : up2 t 16 a v 30 b = t 30 b := rfl
theorem up_16_31 {t : TT} {a b : Nat} {v : Int32} : up2 t 16 a v 31 b = t 31 b := rfl
theorem up_16_32 {t : TT} {a b : Nat} {v : Int32} : up2 t 16 a v 32 b = t 32 b := rfl
theorem up_16_33 {t : TT} {a b : Nat} {v : Int32} : up2 t 16 a v 33 b = t 33 b := rfl
theorem up_16_34 {t : TT} {a b : Nat} {v : Int32} : up2 t 16 a v 34 b = t 34 b := rfl
theorem up_16_35 {t : TT} {a b : Nat} {v : Int32} : up2 t 16 a v 35 b = t 35 b := rfl
theorem up_16_36 {t : TT} {a b : Nat} {v : Int32} : up2 t 16 a v 36 b = t 36 b := rfl
theorem up_17_1 {t : TT} {a b : Nat} {v : Int32} : up2 t 17 a v 1 b = t 1 b := rfl
theorem up_17_2 {t : TT} {a b : Nat} {v : Int32} : up2 t 17 a v 2 b = t 2 b := rfl
theorem up_17_3 {t : TT} {a b : Nat} {v : Int32} : up2 t 17 a v 3 b = t 3 b := rfl
theorem up_17_4 {t : TT} {a b : Nat} {v : Int32} : up2 t 17 a v 4 b = t 4 b := rfl
theorem up_17_5 {t : TT} {a b : Nat} {v : Int32} : up2 t 17 a v 5 b = t 5 b := rfl
theorem up_17_6 {t : TT} {a b : Nat} {v : Int32} : up2 t 17 a v 6 b = t 6 b := rfl
theorem up_17_7 {t : TT} {a b : Nat} {v : Int32} : up2 t 17 a v 7 b = t 7 b := rfl
theorem up_17_8 {t : TT} {a b : Nat} {v : Int32} : up2 t 17 a v 8 b = t 8 b := rfl
theorem up_17_10 {t : TT} {a b : Nat} {v : Int32} : up2 t 17 a v 10 b = t 10 b := rfl
theorem up_17_11 {t : TT} {a b : Nat} {v : Int32} : up2 t 17 a v 11 b = t 11 b := rfl
theorem up_17_12 {t : TT} {a b : Nat} {v : Int32} : up2 t 17 a v 12 b = t 12 b := rfl
theorem up_17_13 {t : TT} {a b : Nat} {v : Int32} : up2 t 17 a v 13 b = t 13 b := rfl
theorem up_17_14 {t : TT} {a b : Nat} {v : Int32} : up2 t 17 a v 14 b = t 14 b := rfl
theorem up_17_15 {t : TT} {a b : Nat} {v : Int32} : up2 t 17 a v 15 b = t 15 b := rfl
theorem up_17_16 {t : TT} {a b : Nat} {v : Int32} : up2 t 17 a v 16 b = t 16 b := rfl
theorem up_17_18 {t : TT} {a b : Nat} {v : Int32} : up2 t 17 a v 18 b = t 18 b := rfl
theorem up_17_19 {t : TT} {a b : Nat} {v : Int32} : up2 t 17 a v 19 b = t 19 b := rfl
theorem up_17_20 {t : TT} {a b : Nat} {v : Int32} : up2 t 17 a v 20 b = t 20 b := rfl
theorem up_17_21 {t : TT} {a b : Nat} {v : Int32} : up2 t 17 a v 21 b = t 21 b := rfl
theorem up_17_22 {t : TT} {a b : Nat} {v : Int32} : up2 t 17 a v 22 b = t 22 b := rfl
theorem up_17_23 {t : TT} {a b : Nat} {v : Int32} : up2 t 17 a v 23 b = t 23 b := rfl
theorem up_17_24 {t : TT} {a b : Nat} {v : Int32} : up2 t 17 a v 24 b = t 24 b := rfl
theorem up_17_25 {t : TT} {a b : Nat} {v : Int32} : up2 t 17 a v 25 b = t 25 b := rfl
theorem up_17_26 {t : TT} {a b : Nat} {v : Int32} : up2 t 17 a v 26 b = t 26 b := rfl
theorem up_17_27 {t : TT} {a b : Nat} {v : Int32} : up2 t 17 a v 27 b = t 27 b := rfl
theorem up_17_28 {t : TT} {a b : Nat} {v : Int32} : up2 t 17 a v 28 b = t 28 b := rfl
theorem up_17_29 {t : TT} {a b : Nat} {v : Int32} : up2 t 17 a v 29 b = t 29 b := rfl
theorem up_17_30 {t : TT} {a b : Nat} {v : Int32} : up2 t 17 a v 30 b = t 30 b := rfl
theorem up_17_31 {t : TT} {a b : Nat} {v : Int32} : up2 t 17 a v 31 b = t 31 b := rfl
theorem up_17_32 {t : TT} {a b : Nat} {v : Int32} : up2 t 17 a v 32 b = t 32 b := rfl
theorem up_17_33 {t : TT} {a b : Nat} {v : Int32} : up2 t 17 a v 33 b = t 33 b := rfl
theorem up_17_34 {t : TT} {a b : Nat} {v : Int32} : up2 t 17 a v 34 b = t 34 b := rfl
theorem up_17_35 {t : TT} {a b : Nat} {v : Int32} : up2 t 17 a v 35 b = t 35 b := rfl
theorem up_17_36 {t : TT} {a b : Nat} {v : Int32} : up2 t 17 a v 36 b = t 36 b := rfl
theorem up_18_1 {t : TT} {a b : Nat} {v : Int32} : up2 t 18 a v 1 b = t 1 b := rfl
theorem up_18_2 {t : TT} {a b : Nat} {v : Int32} : up2 t 18 a v 2 b = t 2 b := rfl
theorem up_18_3 {t : TT} {a b : Nat} {v : Int32} : up2 t 18 a v 3 b = t 3 b := rfl
theorem up_18_4 {t : TT} {a b : Nat} {v : Int32} : up2 t 18 a v 4 b = t 4 b := rfl
theorem up_18_5 {t : TT} {a b : Nat} {v : Int32} : up2 t 18 a v 5 b = t 5 b := rfl
theorem up_18_6 {t : TT} {a b : Nat} {v : Int32} : up2 t 18 a v 6 b = t 6 b := rfl
theorem up_18_7 {t : TT} {a b : Nat} {v : Int32} : up2 t 18 a v 7 b = t 7 b := rfl
theorem up_18_8 {t : TT} {a b : Nat} {v : Int32} : up2 t 18 a v 8 b = t 8 b := rfl
theorem up_18_10 {t : TT} {a b : Nat} {v : Int32} : up2 t 18 a v 10 b = t 10 b := rfl
theorem up_18_11 {t : TT} {a b : Nat} {v : Int32} : up2 t 18 a v 11 b = t 11 b := rfl
theorem up_18_12 {t : TT} {a b : Nat} {v : Int32} : up2 t 18 a v 12 b = t 12 b := rfl
theorem up_18_13 {t : TT} {a b : Nat} {v : Int32} : up2 t 18 a v 13 b = t 13 b := rfl
theorem up_18_14 {t : TT} {a b : Nat} {v : Int32} : up2 t 18 a v 14 b = t 14 b := rfl
theorem up_18_15 {t : TT} {a b : Nat} {v : Int32} : up2 t 18 a v 15 b = t 15 b := rfl
theorem up_18_16 {t : TT} {a b : Nat} {v : Int32} : up2 t 18 a v 16 b = t 16 b := rfl
theorem up_18_17 {t : TT} {a b : Nat} {v : Int32} : up2 t 18 a v 17 b = t 17 b := rfl
theorem up_18_19 {t : TT} {a b : Nat} {v : Int32} : up2 t 18 a v 19 b = t 19 b := rfl
theorem up_18_20 {t : TT} {a b : Nat} {v : Int32} : up2 t 18 a v 20 b = t 20 b := rfl
theorem up_18_21 {t : TT} {a b : Nat} {v : Int32} : up2 t 18 a v 21 b = t 21 b := rfl
theorem up_18_22 {t : TT} {a b : Nat} {v : Int32} : up2 t 18 a v 22 b = t 22 b := rfl
theorem up_18_23 {t : TT} {a b : Nat} {v : Int32} : up2 t 18 a v 23 b = t 23 b := rfl
theorem up_18_24 {t : TT} {a b : Nat} {v : Int32} : up2 t 18 a v 24 b = t 24 b := rfl
theorem up_18_25 {t : TT} {a b : Nat} {v : Int32} : up2 t 18 a v 25 b = t 25 b := rfl
theorem up_18_26 {t : TT} {a b : Nat} {v : Int32} : up2 t 18 a v 26 b = t 26 b := rfl
theorem up_18_27 {t : TT} {a b : Nat} {v : Int32} : up2 t 18 a v 27 b = t 27 b := rfl
theorem up_18_28 {t : TT} {a b : Nat} {v : Int32} : up2 t 18 a v 28 b = t 28 b := rfl
theorem up_18_29 {t : TT} {a b : Nat} {v : Int32} : up2 t 18 a v 29 b = t 29 b := rfl
theorem up_18_30 {t : TT} {a b : Nat} {v : Int32} : up2 t 18 a v 30 b = t 30 b := rfl
theorem up_18_31 {t : TT} {a b : Nat} {v : Int32} : up2 t 18 a v 31 b = t 31 b := rfl
theorem up_18_32 {t : TT} {a b : Nat} {v : Int32} : up2 t 18 a v 32 b = t 32 b := rfl
theorem up_18_33 {t : TT} {a b : Nat} {v : Int32} : up2 t 18 a v 33 b = t 33 b := rfl
theorem up_18_34 {t : TT} {a b : Nat} {v : Int32} : up2 t 18 a v 34 b = t 34 b := rfl
theorem up_18_35 {t : TT} {a b : Nat} {v : Int32} : up2 t 18 a v 35 b = t 35 b := rfl
theorem up_18_36 {t : TT} {a b : Nat} {v : Int32} : up2 t 18 a v 36 b = t 36 b := rfl
theorem up_19_1 {t : TT} {a b : Nat} {v : Int32} : up2 t 19 a v 1 b = t 1 b := rfl
theorem up_19_2 {t : TT} {a b : Nat} {v : Int32} : up2 t 19 a v 2 b = t 2 b := rfl
theorem up_19_3 {t : TT} {a b : Nat} {v : Int32} : up2 t 19 a v 3 b = t 3 b := rfl
theorem up_19_4 {t : TT} {a b : Nat} {v : Int32} : up2 t 19 a v 4 b = t 4 b := rfl
theorem up_19_5 {t : TT} {a b : Nat} {v : Int32} : up2 t 19 a v 5 b = t 5 b := rfl
theorem up_19_6 {t : TT} {a b : Nat} {v : Int32} : up2 t 19 a v 6 b = t 6 b := rfl
theorem up_19_7 {t : TT} {a b : Nat} {v : Int32} : up2 t 19 a v 7 b = t 7 b := rfl
theorem up_19_8 {t : TT} {a b : Nat} {v : Int32} : up2 t 19 a v 8 b = t 8 b := rfl
theorem up_19_10 {t : TT} {a b : Nat} {v : Int32} : up2 t 19 a v 10 b = t 10 b := rfl
theorem up_19_11 {t : TT} {a b : Nat} {v : Int32} : up2 t 19 a v 11 b = t 11 b := rfl
theorem up_19_12 {t : TT} {a b : Nat} {v : Int32} : up2 t 19 a v 12 b = t 12 b := rfl
theorem up_19_13 {t : TT} {a b : Nat} {v : Int32} : up2 t 19 a v 13 b = t 13 b := rfl
theorem up_19_14 {t : TT} {a b : Nat} {v : Int32} : up2 t 19 a v 14 b = t 14 b := rfl
theorem up_19_15 {t : TT} {a b : Nat} {v : Int32} : up2 t 19 a v 15 b = t 15 b := rfl
theorem up_19_16 {t : TT} {a b : Nat} {v : Int32} : up2 t 19 a v 16 b = t 16 b := rfl
theorem up_19_17 {t : TT} {a b : Nat} {v : Int32} : up2 t 19 a v 17 b = t 17 b := rfl
theorem up_19_18 {t : TT} {a b : Nat} {v : Int32} : up2 t 19 a v 18 b = t 18 b := rfl
theorem up_19_20 {t : TT} {a b : Nat} {v : Int32} : up2 t 19 a v 20 b = t 20 b := rfl
theorem up_19_21 {t : TT} {a b : Nat} {v : Int32} : up2 t 19 a v 21 b = t 21 b := rfl
theorem up_19_22 {t : TT} {a b : Nat} {v : Int32} : up2 t 19 a v 22 b = t 22 b := rfl
theorem up_19_23 {t : TT} {a b : Nat} {v : Int32} : up2 t 19 a v 23 b = t 23 b := rfl
theorem up_19_24 {t : TT} {a b : Nat} {v : Int32} : up2 t 19 a v 24 b = t 24 b := rfl
theorem up_19_25 {t : TT} {a b : Nat} {v : Int32} : up2 t 19 a v 25 b = t 25 b := rfl
theorem up_19_26 {t : TT} {a b : Nat} {v : Int32} : up2 t 19 a v 26 b = t 26 b := rfl
theorem up_19_27 {t : TT} {a b : Nat} {v : Int32} : up2 t 19 a v 27 b = t 27 b := rfl
theorem up_19_28 {t : TT} {a b : Nat} {v : Int32} : up2 t 19 a v 28 b = t 28 b := rfl
theorem up_19_29 {t : TT} {a b : Nat} {v : Int32} : up2 t 19 a v 29 b = t 29 b := rfl
theorem up_19_30 {t : TT} {a b : Nat} {v : Int32} : up2 t 19 a v 30 b = t 30 b := rfl
theorem up_19_31 {t : TT} {a b : Nat} {v : Int32} : up2 t 19 a v 31 b = t 31 b := rfl
theorem up_19_32 {t : TT} {a b : Nat} {v : Int32} : up2 t 19 a v 32 b = t 32 b := rfl
theorem up_19_33 {t : TT} {a b : Nat} {v : Int32} : up2 t 19 a v 33 b = t 33 b := rfl
theorem up_19_34 {t : TT} {a b : Nat} {v : Int32} : up2 t 19 a v 34 b = t 34 b := rfl
theorem up_19_35 {t : TT} {a b : Nat} {v : Int32} : up2 t 19 a v 35 b = t 35 b := rfl
theorem up_19_36 {t : TT} {a b : Nat} {v : Int32} : up2 t 19 a v 36 b = t 36 b := rfl
theorem up_20_1 {t : TT} {a b : Nat} {v : Int32} : up2 t 20 a v 1 b = t 1 b := rfl
theorem up_20_2 {t : TT} {a b : Nat} {v : Int32} : up2 t 20 a v 2 b = t 2 b := rfl
theorem up_20_3 {t : TT} {a b : Nat} {v : Int32} : up2 t 20 a v 3 b = t 3 b := rfl
theorem up_20_4 {t : TT} {a b : Nat} {v : Int32} : up2 t 20 a v 4 b = t 4 b := rfl
theorem up_20_5 {t : TT} {a b : Nat} {v : Int32} : up2 t 20 a v 5 b = t 5 b := rfl
theorem up_20_6 {t : TT} {a b : Nat} {v : Int32} : up2 t 20 a v 6 b = t 6 b := rfl
theorem up_20_7 {t : TT} {a b : Nat} {v : Int32} : up2 t 20 a v 7 b = t 7 b := rfl
theorem up_20_8 {t : TT} {a b : Nat} {v : Int32} : up2 t 20 a v 8 b = t 8 b := rfl
theorem up_20_10 {t : TT} {a b : Nat} {v : Int32} : up2 t 20 a v 10 b = t 10 b := rfl
theorem up_20_11 {t : TT} {a b : Nat} {v : Int32} : up2 t 20 a v 11 b = t 11 b := rfl
theorem up_20_12 {t : TT} {a b : Nat} {v : Int32} : up2 t 20 a v 12 b = t 12 b := rfl
theorem up_20_13 {t : TT} {a b : Nat} {v : Int32} : up2 t 20 a v 13 b = t 13 b := rfl
theorem up_20_14 {t : TT} {a b : Nat} {v : Int32} : up2 t 20 a v 14 b = t 14 b := rfl
theorem up_20_15 {t : TT} {a b : Nat} {v : Int32} : up2 t 20 a v 15 b = t 15 b := rfl
theorem up_20_16 {t : TT} {a b : Nat} {v : Int32} : up2 t 20 a v 16 b = t 16 b := rfl
theorem up_20_17 {t : TT} {a b : Nat} {v : Int32} : up2 t 20 a v 17 b = t 17 b := rfl
theorem up_20_18 {t : TT} {a b : Nat} {v : Int32} : up2 t 20 a v 18 b = t 18 b := rfl
theorem up_20_19 {t : TT} {a b : Nat} {v : Int32} : up2 t 20 a v 19 b = t 19 b := rfl
theorem up_20_21 {t : TT} {a b : Nat} {v : Int32} : up2 t 20 a v 21 b = t 21 b := rfl
theorem up_20_22 {t : TT} {a b : Nat} {v : Int32} : up2 t 20 a v 22 b = t 22 b := rfl
theorem up_20_23 {t : TT} {a b : Nat} {v : Int32} : up2 t 20 a v 23 b = t 23 b := rfl
theorem up_20_24 {t : TT} {a b : Nat} {v : Int32} : up2 t 20 a v 24 b = t 24 b := rfl
theorem up_20_25 {t : TT} {a b : Nat} {v : Int32} : up2 t 20 a v 25 b = t 25 b := rfl
theorem up_20_26 {t : TT} {a b : Nat} {v : Int32} : up2 t 20 a v 26 b = t 26 b := rfl
theorem up_20_27 {t : TT} {a b : Nat} {v : Int32} : up2 t 20 a v 27 b = t 27 b := rfl
theorem up_20_28 {t : TT} {a b : Nat} {v : Int32} : up2 t 20 a v 28 b = t 28 b := rfl
theorem up_20_29 {t : TT} {a b : Nat} {v : Int32} : up2 t 20 a v 29 b = t 29 b := rfl
theorem up_20_30 {t : TT} {a b : Nat} {v : Int32} : up2 t 20 a v 30 b = t 30 b := rfl
theorem up_20_31 {t : TT} {a b : Nat} {v : Int32} : up2 t 20 a v 31 b = t 31 b := rfl
theorem up_20_32 {t : TT} {a b : Nat} {v : Int32} : up2 t 20 a v 32 b = t 32 b := rfl
theorem up_20_33 {t : TT} {a b : Nat} {v : Int32} : up2 t 20 a v 33 b = t 33 b := rfl
theorem up_20_34 {t : TT} {a b : Nat} {v : Int32} : up2 t 20 a v 34 b = t 34 b := rfl
theorem up_20_35 {t : TT} {a b : Nat} {v : Int32} : up2 t 20 a v 35 b = t 35 b := rfl
theorem up_20_36 {t : TT} {a b : Nat} {v : Int32} : up2 t 20 a v 36 b = t 36 b := rfl
theorem up_21_1 {t : TT} {a b : Nat} {v : Int32} : up2 t 21 a v 1 b = t 1 b := rfl
theorem up_21_2 {t : TT} {a b : Nat} {v : Int32} : up2 t 21 a v 2 b = t 2 b := rfl
theorem up_21_3 {t : TT} {a b : Nat} {v : Int32} : up2 t 21 a v 3 b = t 3 b := rfl
theorem up_21_4 {t : TT} {a b : Nat} {v : Int32} : up2 t 21 a v 4 b = t 4 b := rfl
theorem up_21_5 {t : TT} {a b : Nat} {v : Int32} : up2 t 21 a v 5 b = t 5 b := rfl
theorem up_21_6 {t : TT} {a b : Nat} {v : Int32} : up2 t 21 a v 6 b = t 6 b := rfl
theorem up_21_7 {t : TT} {a b : Nat} {v : Int32} : up2 t 21 a v 7 b = t 7 b := rfl
theorem up_21_8 {t : TT} {a b : Nat} {v : Int32} : up2 t 21 a v 8 b = t 8 b := rfl
theorem up_21_10 {t : TT} {a b : Nat} {v : Int32} : up2 t 21 a v 10 b = t 10 b := rfl
theorem up_21_11 {t : TT} {a b : Nat} {v : Int32} : up2 t 21 a v 11 b = t 11 b := rfl
theorem up_21_12 {t : TT} {a b : Nat} {v : Int32} : up2 t 21 a v 12 b = t 12 b := rfl
theorem up_21_13 {t : TT} {a b : Nat} {v : Int32} : up2 t 21 a v 13 b = t 13 b := rfl
theorem up_21_14 {t : TT} {a b : Nat} {v : Int32} : up2 t 21 a v 14 b = t 14 b := rfl
theorem up_21_15 {t : TT} {a b : Nat} {v : Int32} : up2 t 21 a v 15 b = t 15 b := rfl
theorem up_21_16 {t : TT} {a b : Nat} {v : Int32} : up2 t 21 a v 16 b = t 16 b := rfl
theorem up_21_17 {t : TT} {a b : Nat} {v : Int32} : up2 t 21 a v 17 b = t 17 b := rfl
theorem up_21_18 {t : TT} {a b : Nat} {v : Int32} : up2 t 21 a v 18 b = t 18 b := rfl
theorem up_21_19 {t : TT} {a b : Nat} {v : Int32} : up2 t 21 a v 19 b = t 19 b := rfl
theorem up_21_20 {t : TT} {a b : Nat} {v : Int32} : up2 t 21 a v 20 b = t 20 b := rfl
theorem up_21_22 {t : TT} {a b : Nat} {v : Int32} : up2 t 21 a v 22 b = t 22 b := rfl
theorem up_21_23 {t : TT} {a b : Nat} {v : Int32} : up2 t 21 a v 23 b = t 23 b := rfl
theorem up_21_24 {t : TT} {a b : Nat} {v : Int32} : up2 t 21 a v 24 b = t 24 b := rfl
theorem up_21_25 {t : TT} {a b : Nat} {v : Int32} : up2 t 21 a v 25 b = t 25 b := rfl
theorem up_21_26 {t : TT} {a b : Nat} {v : Int32} : up2 t 21 a v 26 b = t 26 b := rfl
theorem up_21_27 {t : TT} {a b : Nat} {v : Int32} : up2 t 21 a v 27 b = t 27 b := rfl
theorem up_21_28 {t : TT} {a b : Nat} {v : Int32} : up2 t 21 a v 28 b = t 28 b := rfl
theorem up_21_29 {t : TT} {a b : Nat} {v : Int32} : up2 t 21 a v 29 b = t 29 b := rfl
theorem up_21_30 {t : TT} {a b : Nat} {v : Int32} : up2 t 21 a v 30 b = t 30 b := rfl
theorem up_21_31 {t : TT} {a b : Nat} {v : Int32} : up2 t 21 a v 31 b = t 31 b := rfl
theorem up_21_32 {t : TT} {a b : Nat} {v : Int32} : up2 t 21 a v 32 b = t 32 b := rfl
theorem up_21_33 {t : TT} {a b : Nat} {v : Int32} : up2 t 21 a v 33 b = t 33 b := rfl
theorem up_21_34 {t : TT} {a b : Nat} {v : Int32} : up2 t 21 a v 34 b = t 34 b := rfl
theorem up_21_35 {t : TT} {a b : Nat} {v : Int32} : up2 t 21 a v 35 b = t 35 b := rfl
theorem up_21_36 {t : TT} {a b : Nat} {v : Int32} : up2 t 21 a v 36 b = t 36 b := rfl
theorem up_22_1 {t : TT} {a b : Nat} {v : Int32} : up2 t 22 a v 1 b = t 1 b := rfl
theorem up_22_2 {t : TT} {a b : Nat} {v : Int32} : up2 t 22 a v 2 b = t 2 b := rfl
theorem up_22_3 {t : TT} {a b : Nat} {v : Int32} : up2 t 22 a v 3 b = t 3 b := rfl
theorem up_22_4 {t : TT} {a b : Nat} {v : Int32} : up2 t 22 a v 4 b = t 4 b := rfl
theorem up_22_5 {t : TT} {a b : Nat} {v : Int32} : up2 t 22 a v 5 b = t 5 b := rfl
theorem up_22_6 {t : TT} {a b : Nat} {v : Int32} : up2 t 22 a v 6 b = t 6 b := rfl
theorem up_22_7 {t : TT} {a b : Nat} {v : Int32} : up2 t 22 a v 7 b = t 7 b := rfl
theorem up_22_8 {t : TT} {a b : Nat} {v : Int32} : up2 t 22 a v 8 b = t 8 b := rfl
theorem up_22_10 {t : TT} {a b : Nat} {v : Int32} : up2 t 22 a v 10 b = t 10 b := rfl
theorem up_22_11 {t : TT} {a b : Nat} {v : Int32} : up2 t 22 a v 11 b = t 11 b := rfl
theorem up_22_12 {t : TT} {a b : Nat} {v : Int32} : up2 t 22 a v 12 b = t 12 b := rfl
theorem up_22_13 {t : TT} {a b : Nat} {v : Int32} : up2 t 22 a v 13 b = t 13 b := rfl
theorem up_22_14 {t : TT} {a b : Nat} {v : Int32} : up2 t 22 a v 14 b = t 14 b := rfl
theorem up_22_15 {t : TT} {a b : Nat} {v : Int32} : up2 t 22 a v 15 b = t 15 b := rfl
theorem up_22_16 {t : TT} {a b : Nat} {v : Int32} : up2 t 22 a v 16 b = t 16 b := rfl
theorem up_22_17 {t : TT} {a b : Nat} {v : Int32} : up2 t 22 a v 17 b = t 17 b := rfl
theorem up_22_18 {t : TT} {a b : Nat} {v : Int32} : up2 t 22 a v 18 b = t 18 b := rfl
theorem up_22_19 {t : TT} {a b : Nat} {v : Int32} : up2 t 22 a v 19 b = t 19 b := rfl
theorem up_22_20 {t : TT} {a b : Nat} {v : Int32} : up2 t 22 a v 20 b = t 20 b := rfl
theorem up_22_21 {t : TT} {a b : Nat} {v : Int32} : up2 t 22 a v 21 b = t 21 b := rfl
theorem up_22_23 {t : TT} {a b : Nat} {v : Int32} : up2 t 22 a v 23 b = t 23 b := rfl
theorem up_22_24 {t : TT} {a b : Nat} {v : Int32} : up2 t 22 a v 24 b = t 24 b := rfl
theorem up_22_25 {t : TT} {a b : Nat} {v : Int32} : up2 t 22 a v 25 b = t 25 b := rfl
theorem up_22_26 {t : TT} {a b : Nat} {v : Int32} : up2 t 22 a v 26 b = t 26 b := rfl
theorem up_22_27 {t : TT} {a b : Nat} {v : Int32} : up2 t 22 a v 27 b = t 27 b := rfl
theorem up_22_28 {t : TT} {a b : Nat} {v : Int32} : up2 t 22 a v 28 b = t 28 b := rfl
theorem up_22_29 {t : TT} {a b : Nat} {v : Int32} : up2 t 22 a v 29 b = t 29 b := rfl
theorem up_22_30 {t : TT} {a b : Nat} {v : Int32} : up2 t 22 a v 30 b = t 30 b := rfl
theorem up_22_31 {t : TT} {a b : Nat} {v : Int32} : up2 t 22 a v 31 b = t 31 b := rfl
theorem up_22_32 {t : TT} {a b : Nat} {v : Int32} : up2 t 22 a v 32 b = t 32 b := rfl
theorem up_22_33 {t : TT} {a b : Nat} {v : Int32} : up2 t 22 a v 33 b = t 33 b := rfl
theorem up_22_34 {t : TT} {a b : Nat} {v : Int32} : up2 t 22 a v 34 b = t 34 b := rfl
theorem up_22_35 {t : TT} {a b : Nat} {v : Int32} : up2 t 22 a v 35 b = t 35 b := rfl
theorem up_22_36 {t : TT} {a b : Nat} {v : Int32} : up2 t 22 a v 36 b = t 36 b := rfl
theorem up_23_1 {t : TT} {a b : Nat} {v : Int32} : up2 t 23 a v 1 b = t 1 b := rfl
theorem up_23_2 {t : TT} {a b : Nat} {v : Int32} : up2 t 23 a v 2 b = t 2 b := rfl
theorem up_23_3 {t : TT} {a b : Nat} {v : Int32} : up2 t 23 a v 3 b = t 3 b := rfl
theorem up_23_4 {t : TT} {a b : Nat} {v : Int32} : up2 t 23 a v 4 b = t 4 b := rfl
theorem up_23_5 {t : TT} {a b : Nat} {v : Int32} : up2 t 23 a v 5 b = t 5 b := rfl
theorem up_23_6 {t : TT} {a b : Nat} {v : Int32} : up2 t 23 a v 6 b = t 6 b := rfl
theorem up_23_7 {t : TT} {a b : Nat} {v : Int32} : up2 t 23 a v 7 b = t 7 b := rfl
theorem up_23_8 {t : TT} {a b : Nat} {v : Int32} : up2 t 23 a v 8 b = t 8 b := rfl
theorem up_23_10 {t : TT} {a b : Nat} {v : Int32} : up2 t 23 a v 10 b = t 10 b := rfl
theorem up_23_11 {t : TT} {a b : Nat} {v : Int32} : up2 t 23 a v 11 b = t 11 b := rfl
theorem up_23_12 {t : TT} {a b : Nat} {v : Int32} : up2 t 23 a v 12 b = t 12 b := rfl
theorem up_23_13 {t : TT} {a b : Nat} {v : Int32} : up2 t 23 a v 13 b = t 13 b := rfl
theorem up_23_14 {t : TT} {a b : Nat} {v : Int32} : up2 t 23 a v 14 b = t 14 b := rfl
theorem up_23_15 {t : TT} {a b : Nat} {v : Int32} : up2 t 23 a v 15 b = t 15 b := rfl
theorem up_23_16 {t : TT} {a b : Nat} {v : Int32} : up2 t 23 a v 16 b = t 16 b := rfl
theorem up_23_17 {t : TT} {a b : Nat} {v : Int32} : up2 t 23 a v 17 b = t 17 b := rfl
theorem up_23_18 {t : TT} {a b : Nat} {v : Int32} : up2 t 23 a v 18 b = t 18 b := rfl
theorem up_23_19 {t : TT} {a b : Nat} {v : Int32} : up2 t 23 a v 19 b = t 19 b := rfl
theorem up_23_20 {t : TT} {a b : Nat} {v : Int32} : up2 t 23 a v 20 b = t 20 b := rfl
theorem up_23_21 {t : TT} {a b : Nat} {v : Int32} : up2 t 23 a v 21 b = t 21 b := rfl
theorem up_23_22 {t : TT} {a b : Nat} {v : Int32} : up2 t 23 a v 22 b = t 22 b := rfl
theorem up_23_24 {t : TT} {a b : Nat} {v : Int32} : up2 t 23 a v 24 b = t 24 b := rfl
theorem up_23_25 {t : TT} {a b : Nat} {v : Int32} : up2 t 23 a v 25 b = t 25 b := rfl
theorem up_23_26 {t : TT} {a b : Nat} {v : Int32} : up2 t 23 a v 26 b = t 26 b := rfl
theorem up_23_27 {t : TT} {a b : Nat} {v : Int32} : up2 t 23 a v 27 b = t 27 b := rfl
theorem up_23_28 {t : TT} {a b : Nat} {v : Int32} : up2 t 23 a v 28 b = t 28 b := rfl
theorem up_23_29 {t : TT} {a b : Nat} {v : Int32} : up2 t 23 a v 29 b = t 29 b := rfl
theorem up_23_30 {t : TT} {a b : Nat} {v : Int32} : up2 t 23 a v 30 b = t 30 b := rfl
theorem up_23_31 {t : TT} {a b : Nat} {v : Int32} : up2 t 23 a v 31 b = t 31 b := rfl
theorem up_23_32 {t : TT} {a b : Nat} {v : Int32} : up2 t 23 a v 32 b = t 32 b := rfl
theorem up_23_33 {t : TT} {a b : Nat} {v : Int32} : up2 t 23 a v 33 b = t 33 b := rfl
theorem up_23_34 {t : TT} {a b : Nat} {v : Int32} : up2 t 23 a v 34 b = t 34 b := rfl
theorem up_23_35 {t : TT} {a b : Nat} {v : Int32} : up2 t 23 a v 35 b = t 35 b := rfl
theorem up_23_36 {t : TT} {a b : Nat} {v : Int32} : up2 t 23 a v 36 b = t 36 b := rfl
theorem up_24_1 {t : TT} {a b : Nat} {v : Int32} : up2 t 24 a v 1 b = t 1 b := rfl
theorem up_24_2 {t : TT} {a b : Nat} {v : Int32} : up2 t 24 a v 2 b = t 2 b := rfl
theorem up_24_3 {t : TT} {a b : Nat} {v : Int32} : up2 t 24 a v 3 b = t 3 b := rfl
theorem up_24_4 {t : TT} {a b : Nat} {v : Int32} : up2 t 24 a v 4 b = t 4 b := rfl
theorem up_24_5 {t : TT} {a b : Nat} {v : Int32} : up2 t 24 a v 5 b = t 5 b := rfl
theorem up_24_6 {t : TT} {a b : Nat} {v : Int32} : up2 t 24 a v 6 b = t 6 b := rfl
theorem up_24_7 {t : TT} {a b : Nat} {v : Int32} : up2 t 24 a v 7 b = t 7 b := rfl
theorem up_24_8 {t : TT} {a b : Nat} {v : Int32} : up2 t 24 a v 8 b = t 8 b := rfl
theorem up_24_10 {t : TT} {a b : Nat} {v : Int32} : up2 t 24 a v 10 b = t 10 b := rfl
theorem up_24_11 {t : TT} {a b : Nat} {v : Int32} : up2 t 24 a v 11 b = t 11 b := rfl
theorem up_24_12 {t : TT} {a b : Nat} {v : Int32} : up2 t 24 a v 12 b = t 12 b := rfl
theorem up_24_13 {t : TT} {a b : Nat} {v : Int32} : up2 t 24 a v 13 b = t 13 b := rfl
theorem up_24_14 {t : TT} {a b : Nat} {v : Int32} : up2 t 24 a v 14 b = t 14 b := rfl
theorem up_24_15 {t : TT} {a b : Nat} {v : Int32} : up2 t 24 a v 15 b = t 15 b := rfl
theorem up_24_16 {t : TT} {a b : Nat} {v : Int32} : up2 t 24 a v 16 b = t 16 b := rfl
theorem up_24_17 {t : TT} {a b : Nat} {v : Int32} : up2 t 24 a v 17 b = t 17 b := rfl
theorem up_24_18 {t : TT} {a b : Nat} {v : Int32} : up2 t 24 a v 18 b = t 18 b := rfl
theorem up_24_19 {t : TT} {a b : Nat} {v : Int32} : up2 t 24 a v 19 b = t 19 b := rfl
theorem up_24_20 {t : TT} {a b : Nat} {v : Int32} : up2 t 24 a v 20 b = t 20 b := rfl
theorem up_24_21 {t : TT} {a b : Nat} {v : Int32} : up2 t 24 a v 21 b = t 21 b := rfl
theorem up_24_22 {t : TT} {a b : Nat} {v : Int32} : up2 t 24 a v 22 b = t 22 b := rfl
theorem up_24_23 {t : TT} {a b : Nat} {v : Int32} : up2 t 24 a v 23 b = t 23 b := rfl
theorem up_24_25 {t : TT} {a b : Nat} {v : Int32} : up2 t 24 a v 25 b = t 25 b := rfl
theorem up_24_26 {t : TT} {a b : Nat} {v : Int32} : up2 t 24 a v 26 b = t 26 b := rfl
theorem up_24_27 {t : TT} {a b : Nat} {v : Int32} : up2 t 24 a v 27 b = t 27 b := rfl
theorem up_24_28 {t : TT} {a b : Nat} {v : Int32} : up2 t 24 a v 28 b = t 28 b := rfl
theorem up_24_29 {t : TT} {a b : Nat} {v : Int32} : up2 t 24 a v 29 b = t 29 b := rfl
theorem up_24_30 {t : TT} {a b : Nat} {v : Int32} : up2 t 24 a v 30 b = t 30 b := rfl
theorem up_24_31 {t : TT} {a b : Nat} {v : Int32} : up2 t 24 a v 31 b = t 31 b := rfl
theorem up_24_32 {t : TT} {a b : Nat} {v : Int32} : up2 t 24 a v 32 b = t 32 b := rfl
theorem up_24_33 {t : TT} {a b : Nat} {v : Int32} : up2 t 24 a v 33 b = t 33 b := rfl
theorem up_24_34 {t : TT} {a b : Nat} {v : Int32} : up2 t 24 a v 34 b = t 34 b := rfl
theorem up_24_35 {t : TT} {a b : Nat} {v : Int32} : up2 t 24 a v 35 b = t 35 b := rfl
theorem up_24_36 {t : TT} {a b : Nat} {v : Int32} : up2 t 24 a v 36 b = t 36 b := rfl
theorem up_25_1 {t : TT} {a b : Nat} {v : Int32} : up2 t 25 a v 1 b = t 1 b := rfl
theorem up_25_2 {t : TT} {a b : Nat} {v : Int32} : up2 t 25 a v 2 b = t 2 b := rfl
theorem up_25_3 {t : TT} {a b : Nat} {v : Int32} : up2 t 25 a v 3 b = t 3 b := rfl
theorem up_25_4 {t : TT} {a b : Nat} {v : Int32} : up2 t 25 a v 4 b = t 4 b := rfl
theorem up_25_5 {t : TT} {a b : Nat} {v : Int32} : up2 t 25 a v 5 b = t 5 b := rfl
theorem up_25_6 {t : TT} {a b : Nat} {v : Int32} : up2 t 25 a v 6 b = t 6 b := rfl
theorem up_25_7 {t : TT} {a b : Nat} {v : Int32} : up2 t 25 a v 7 b = t 7 b := rfl
theorem up_25_8 {t : TT} {a b : Nat} {v : Int32} : up2 t 25 a v 8 b = t 8 b := rfl
theorem up_25_10 {t : TT} {a b : Nat} {v : Int32} : up2 t 25 a v 10 b = t 10 b := rfl
theorem up_25_11 {t : TT} {a b : Nat} {v : Int32} : up2 t 25 a v 11 b = t 11 b := rfl
theorem up_25_12 {t : TT} {a b : Nat} {v : Int32} : up2 t 25 a v 12 b = t 12 b := rfl
theorem up_25_13 {t : TT} {a b : Nat} {v : Int32} : up2 t 25 a v 13 b = t 13 b := rfl
theorem up_25_14 {t : TT} {a b : Nat} {v : Int32} : up2 t 25 a v 14 b = t 14 b := rfl
theorem up_25_15 {t : TT} {a b : Nat} {v : Int32} : up2 t 25 a v 15 b = t 15 b := rfl
theorem up_25_16 {t : TT} {a b : Nat} {v : Int32} : up2 t 25 a v 16 b = t 16 b := rfl
theorem up_25_17 {t : TT} {a b : Nat} {v : Int32} : up2 t 25 a v 17 b = t 17 b := rfl
theorem up_25_18 {t : TT} {a b : Nat} {v : Int32} : up2 t 25 a v 18 b = t 18 b := rfl
theorem up_25_19 {t : TT} {a b : Nat} {v : Int32} : up2 t 25 a v 19 b = t 19 b := rfl
theorem up_25_20 {t : TT} {a b : Nat} {v : Int32} : up2 t 25 a v 20 b = t 20 b := rfl
theorem up_25_21 {t : TT} {a b : Nat} {v : Int32} : up2 t 25 a v 21 b = t 21 b := rfl
theorem up_25_22 {t : TT} {a b : Nat} {v : Int32} : up2 t 25 a v 22 b = t 22 b := rfl
theorem up_25_23 {t : TT} {a b : Nat} {v : Int32} : up2 t 25 a v 23 b = t 23 b := rfl
theorem up_25_24 {t : TT} {a b : Nat} {v : Int32} : up2 t 25 a v 24 b = t 24 b := rfl
theorem up_25_26 {t : TT} {a b : Nat} {v : Int32} : up2 t 25 a v 26 b = t 26 b := rfl
theorem up_25_27 {t : TT} {a b : Nat} {v : Int32} : up2 t 25 a v 27 b = t 27 b := rfl
theorem up_25_28 {t : TT} {a b : Nat} {v : Int32} : up2 t 25 a v 28 b = t 28 b := rfl
theorem up_25_29 {t : TT} {a b : Nat} {v : Int32} : up2 t 25 a v 29 b = t 29 b := rfl
theorem up_25_30 {t : TT} {a b : Nat} {v : Int32} : up2 t 25 a v 30 b = t 30 b := rfl
theorem up_25_31 {t : TT} {a b : Nat} {v : Int32} : up2 t 25 a v 31 b = t 31 b := rfl
theorem up_25_32 {t : TT} {a b : Nat} {v : Int32} : up2 t 25 a v 32 b = t 32 b := rfl
theorem up_25_33 {t : TT} {a b : Nat} {v : Int32} : up2 t 25 a v 33 b = t 33 b := rfl
theorem up_25_34 {t : TT} {a b : Nat} {v : Int32} : up2 t 25 a v 34 b = t 34 b := rfl
theorem up_25_35 {t : TT} {a b : Nat} {v : Int32} : up2 t 25 a v 35 b = t 35 b := rfl
theorem up_25_36 {t : TT} {a b : Nat} {v : Int32} : up2 t 25 a v 36 b = t 36 b := rfl
theorem up_26_1 {t : TT} {a b : Nat} {v : Int32} : up2 t 26 a v 1 b = t 1 b := rfl
theorem up_26_2 {t : TT} {a b : Nat} {v : Int32} : up2 t 26 a v 2 b = t 2 b := rfl
theorem up_26_3 {t : TT} {a b : Nat} {v : Int32} : up2 t 26 a v 3 b = t 3 b := rfl
theorem up_26_4 {t : TT} {a b : Nat} {v : Int32} : up2 t 26 a v 4 b = t 4 b := rfl
theorem up_26_5 {t : TT} {a b : Nat} {v : Int32} : up2 t 26 a v 5 b = t 5 b := rfl
theorem up_26_6 {t : TT} {a b : Nat} {v : Int32} : up2 t 26 a v 6 b = t 6 b := rfl
theorem up_26_7 {t : TT} {a b : Nat} {v : Int32} : up2 t 26 a v 7 b = t 7 b := rfl
theorem up_26_8 {t : TT} {a b : Nat} {v : Int32} : up2 t 26 a v 8 b = t 8 b := rfl
theorem up_26_10 {t : TT} {a b : Nat} {v : Int32} : up2 t 26 a v 10 b = t 10 b := rfl
theorem up_26_11 {t : TT} {a b : Nat} {v : Int32} : up2 t 26 a v 11 b = t 11 b := rfl
theorem up_26_12 {t : TT} {a b : Nat} {v : Int32} : up2 t 26 a v 12 b = t 12 b := rfl
theorem up_26_13 {t : TT} {a b : Nat} {v : Int32} : up2 t 26 a v 13 b = t 13 b := rfl
theorem up_26_14 {t : TT} {a b : Nat} {v : Int32} : up2 t 26 a v 14 b = t 14 b := rfl
theorem up_26_15 {t : TT} {a b : Nat} {v : Int32} : up2 t 26 a v 15 b = t 15 b := rfl
theorem up_26_16 {t : TT} {a b : Nat} {v : Int32} : up2 t 26 a v 16 b = t 16 b := rfl
theorem up_26_17 {t : TT} {a b : Nat} {v : Int32} : up2 t 26 a v 17 b = t 17 b := rfl
theorem up_26_18 {t : TT} {a b : Nat} {v : Int32} : up2 t 26 a v 18 b = t 18 b := rfl
theorem up_26_19 {t : TT} {a b : Nat} {v : Int32} : up2 t 26 a v 19 b = t 19 b := rfl
theorem up_26_20 {t : TT} {a b : Nat} {v : Int32} : up2 t 26 a v 20 b = t 20 b := rfl
theorem up_26_21 {t : TT} {a b : Nat} {v : Int32} : up2 t 26 a v 21 b = t 21 b := rfl
theorem up_26_22 {t : TT} {a b : Nat} {v : Int32} : up2 t 26 a v 22 b = t 22 b := rfl
theorem up_26_23 {t : TT} {a b : Nat} {v : Int32} : up2 t 26 a v 23 b = t 23 b := rfl
theorem up_26_24 {t : TT} {a b : Nat} {v : Int32} : up2 t 26 a v 24 b = t 24 b := rfl
theorem up_26_25 {t : TT} {a b : Nat} {v : Int32} : up2 t 26 a v 25 b = t 25 b := rfl
theorem up_26_27 {t : TT} {a b : Nat} {v : Int32} : up2 t 26 a v 27 b = t 27 b := rfl
theorem up_26_28 {t : TT} {a b : Nat} {v : Int32} : up2 t 26 a v 28 b = t 28 b := rfl
theorem up_26_29 {t : TT} {a b : Nat} {v : Int32} : up2 t 26 a v 29 b = t 29 b := rfl
theorem up_26_30 {t : TT} {a b : Nat} {v : Int32} : up2 t 26 a v 30 b = t 30 b := rfl
theorem up_26_31 {t : TT} {a b : Nat} {v : Int32} : up2 t 26 a v 31 b = t 31 b := rfl
theorem up_26_32 {t : TT} {a b : Nat} {v : Int32} : up2 t 26 a v 32 b = t 32 b := rfl
theorem up_26_33 {t : TT} {a b : Nat} {v : Int32} : up2 t 26 a v 33 b = t 33 b := rfl
theorem up_26_34 {t : TT} {a b : Nat} {v : Int32} : up2 t 26 a v 34 b = t 34 b := rfl
theorem up_26_35 {t : TT} {a b : Nat} {v : Int32} : up2 t 26 a v 35 b = t 35 b := rfl
theorem up_26_36 {t : TT} {a b : Nat} {v : Int32} : up2 t 26 a v 36 b = t 36 b := rfl
theorem up_27_1 {t : TT} {a b : Nat} {v : Int32} : up2 t 27 a v 1 b = t 1 b := rfl
theorem up_27_2 {t : TT} {a b : Nat} {v : Int32} : up2 t 27 a v 2 b = t 2 b := rfl
theorem up_27_3 {t : TT} {a b : Nat} {v : Int32} : up2 t 27 a v 3 b = t 3 b := rfl
theorem up_27_4 {t : TT} {a b : Nat} {v : Int32} : up2 t 27 a v 4 b = t 4 b := rfl
theorem up_27_5 {t : TT} {a b : Nat} {v : Int32} : up2 t 27 a v 5 b = t 5 b := rfl
theorem up_27_6 {t : TT} {a b : Nat} {v : Int32} : up2 t 27 a v 6 b = t 6 b := rfl
theorem up_27_7 {t : TT} {a b : Nat} {v : Int32} : up2 t 27 a v 7 b = t 7 b := rfl
theorem up_27_8 {t : TT} {a b : Nat} {v : Int32} : up2 t 27 a v 8 b = t 8 b := rfl
theorem up_27_10 {t : TT} {a b : Nat} {v : Int32} : up2 t 27 a v 10 b = t 10 b := rfl
theorem up_27_11 {t : TT} {a b : Nat} {v : Int32} : up2 t 27 a v 11 b = t 11 b := rfl
theorem up_27_12 {t : TT} {a b : Nat} {v : Int32} : up2 t 27 a v 12 b = t 12 b := rfl
theorem up_27_13 {t : TT} {a b : Nat} {v : Int32} : up2 t 27 a v 13 b = t 13 b := rfl
theorem up_27_14 {t : TT} {a b : Nat} {v : Int32} : up2 t 27 a v 14 b = t 14 b := rfl
theorem up_27_15 {t : TT} {a b : Nat} {v : Int32} : up2 t 27 a v 15 b = t 15 b := rfl
theorem up_27_16 {t : TT} {a b : Nat} {v : Int32} : up2 t 27 a v 16 b = t 16 b := rfl
theorem up_27_17 {t : TT} {a b : Nat} {v : Int32} : up2 t 27 a v 17 b = t 17 b := rfl
theorem up_27_18 {t : TT} {a b : Nat} {v : Int32} : up2 t 27 a v 18 b = t 18 b := rfl
theorem up_27_19 {t : TT} {a b : Nat} {v : Int32} : up2 t 27 a v 19 b = t 19 b := rfl
theorem up_27_20 {t : TT} {a b : Nat} {v : Int32} : up2 t 27 a v 20 b = t 20 b := rfl
theorem up_27_21 {t : TT} {a b : Nat} {v : Int32} : up2 t 27 a v 21 b = t 21 b := rfl
theorem up_27_22 {t : TT} {a b : Nat} {v : Int32} : up2 t 27 a v 22 b = t 22 b := rfl
theorem up_27_23 {t : TT} {a b : Nat} {v : Int32} : up2 t 27 a v 23 b = t 23 b := rfl
theorem up_27_24 {t : TT} {a b : Nat} {v : Int32} : up2 t 27 a v 24 b = t 24 b := rfl
theorem up_27_25 {t : TT} {a b : Nat} {v : Int32} : up2 t 27 a v 25 b = t 25 b := rfl
theorem up_27_26 {t : TT} {a b : Nat} {v : Int32} : up2 t 27 a v 26 b = t 26 b := rfl
theorem up_27_28 {t : TT} {a b : Nat} {v : Int32} : up2 t 27 a v 28 b = t 28 b := rfl
theorem up_27_29 {t : TT} {a b : Nat} {v : Int32} : up2 t 27 a v 29 b = t 29 b := rfl
theorem up_27_30 {t : TT} {a b : Nat} {v : Int32} : up2 t 27 a v 30 b = t 30 b := rfl
theorem up_27_31 {t : TT} {a b : Nat} {v : Int32} : up2 t 27 a v 31 b = t 31 b := rfl
theorem up_27_32 {t : TT} {a b : Nat} {v : Int32} : up2 t 27 a v 32 b = t 32 b := rfl
theorem up_27_33 {t : TT} {a b : Nat} {v : Int32} : up2 t 27 a v 33 b = t 33 b := rfl
theorem up_27_34 {t : TT} {a b : Nat} {v : Int32} : up2 t 27 a v 34 b = t 34 b := rfl
theorem up_27_35 {t : TT} {a b : Nat} {v : Int32} : up2 t 27 a v 35 b = t 35 b := rfl
theorem up_27_36 {t : TT} {a b : Nat} {v : Int32} : up2 t 27 a v 36 b = t 36 b := rfl
theorem up_28_1 {t : TT} {a b : Nat} {v : Int32} : up2 t 28 a v 1 b = t 1 b := rfl
theorem up_28_2 {t : TT} {a b : Nat} {v : Int32} : up2 t 28 a v 2 b = t 2 b := rfl
theorem up_28_3 {t : TT} {a b : Nat} {v : Int32} : up2 t 28 a v 3 b = t 3 b := rfl
theorem up_28_4 {t : TT} {a b : Nat} {v : Int32} : up2 t 28 a v 4 b = t 4 b := rfl
theorem up_28_5 {t : TT} {a b : Nat} {v : Int32} : up2 t 28 a v 5 b = t 5 b := rfl
theorem up_28_6 {t : TT} {a b : Nat} {v : Int32} : up2 t 28 a v 6 b = t 6 b := rfl
theorem up_28_7 {t : TT} {a b : Nat} {v : Int32} : up2 t 28 a v 7 b = t 7 b := rfl
theorem up_28_8 {t : TT} {a b : Nat} {v : Int32} : up2 t 28 a v 8 b = t 8 b := rfl
theorem up_28_10 {t : TT} {a b : Nat} {v : Int32} : up2 t 28 a v 10 b = t 10 b := rfl
theorem up_28_11 {t : TT} {a b : Nat} {v : Int32} : up2 t 28 a v 11 b = t 11 b := rfl
theorem up_28_12 {t : TT} {a b : Nat} {v : Int32} : up2 t 28 a v 12 b = t 12 b := rfl
theorem up_28_13 {t : TT} {a b : Nat} {v : Int32} : up2 t 28 a v 13 b = t 13 b := rfl
theorem up_28_14 {t : TT} {a b : Nat} {v : Int32} : up2 t 28 a v 14 b = t 14 b := rfl
theorem up_28_15 {t : TT} {a b : Nat} {v : Int32} : up2 t 28 a v 15 b = t 15 b := rfl
theorem up_28_16 {t : TT} {a b : Nat} {v : Int32} : up2 t 28 a v 16 b = t 16 b := rfl
theorem up_28_17 {t : TT} {a b : Nat} {v : Int32} : up2 t 28 a v 17 b = t 17 b := rfl
theorem up_28_18 {t : TT} {a b : Nat} {v : Int32} : up2 t 28 a v 18 b = t 18 b := rfl
theorem up_28_19 {t : TT} {a b : Nat} {v : Int32} : up2 t 28 a v 19 b = t 19 b := rfl
theorem up_28_20 {t : TT} {a b : Nat} {v : Int32} : up2 t 28 a v 20 b = t 20 b := rfl
theorem up_28_21 {t : TT} {a b : Nat} {v : Int32} : up2 t 28 a v 21 b = t 21 b := rfl
theorem up_28_22 {t : TT} {a b : Nat} {v : Int32} : up2 t 28 a v 22 b = t 22 b := rfl
theorem up_28_23 {t : TT} {a b : Nat} {v : Int32} : up2 t 28 a v 23 b = t 23 b := rfl
theorem up_28_24 {t : TT} {a b : Nat} {v : Int32} : up2 t 28 a v 24 b = t 24 b := rfl
theorem up_28_25 {t : TT} {a b : Nat} {v : Int32} : up2 t 28 a v 25 b = t 25 b := rfl
theorem up_28_26 {t : TT} {a b : Nat} {v : Int32} : up2 t 28 a v 26 b = t 26 b := rfl
theorem up_28_27 {t : TT} {a b : Nat} {v : Int32} : up2 t 28 a v 27 b = t 27 b := rfl
theorem up_28_29 {t : TT} {a b : Nat} {v : Int32} : up2 t 28 a v 29 b = t 29 b := rfl
theorem up_28_30 {t : TT} {a b : Nat} {v : Int32} : up2 t 28 a v 30 b = t 30 b := rfl
theorem up_28_31 {t : TT} {a b : Nat} {v : Int32} : up2 t 28 a v 31 b = t 31 b := rfl
theorem up_28_32 {t : TT} {a b : Nat} {v : Int32} : up2 t 28 a v 32 b = t 32 b := rfl
theorem up_28_33 {t : TT} {a b : Nat} {v : Int32} : up2 t 28 a v 33 b = t 33 b := rfl
theorem up_28_34 {t : TT} {a b : Nat} {v : Int32} : up2 t 28 a v 34 b = t 34 b := rfl
theorem up_28_35 {t : TT} {a b : Nat} {v : Int32} : up2 t 28 a v 35 b = t 35 b := rfl
theorem up_28_36 {t : TT} {a b : Nat} {v : Int32} : up2 t 28 a v 36 b = t 36 b := rfl
theorem up_29_1 {t : TT} {a b : Nat} {v : Int32} : up2 t 29 a v 1 b = t 1 b := rfl
theorem up_29_2 {t : TT} {a b : Nat} {v : Int32} : up2 t 29 a v 2 b = t 2 b := rfl
theorem up_29_3 {t : TT} {a b : Nat} {v : Int32} : up2 t 29 a v 3 b = t 3 b := rfl
theorem up_29_4 {t : TT} {a b : Nat} {v : Int32} : up2 t 29 a v 4 b = t 4 b := rfl
theorem up_29_5 {t : TT} {a b : Nat} {v : Int32} : up2 t 29 a v 5 b = t 5 b := rfl
theorem up_29_6 {t : TT} {a b : Nat} {v : Int32} : up2 t 29 a v 6 b = t 6 b := rfl
theorem up_29_7 {t : TT} {a b : Nat} {v : Int32} : up2 t 29 a v 7 b = t 7 b := rfl
theorem up_29_8 {t : TT} {a b : Nat} {v : Int32} : up2 t 29 a v 8 b = t 8 b := rfl
theorem up_29_10 {t : TT} {a b : Nat} {v : Int32} : up2 t 29 a v 10 b = t 10 b := rfl
theorem up_29_11 {t : TT} {a b : Nat} {v : Int32} : up2 t 29 a v 11 b = t 11 b := rfl
theorem up_29_12 {t : TT} {a b : Nat} {v : Int32} : up2 t 29 a v 12 b = t 12 b := rfl
theorem up_29_13 {t : TT} {a b : Nat} {v : Int32} : up2 t 29 a v 13 b = t 13 b := rfl
theorem up_29_14 {t : TT} {a b : Nat} {v : Int32} : up2 t 29 a v 14 b = t 14 b := rfl
theorem up_29_15 {t : TT} {a b : Nat} {v : Int32} : up2 t 29 a v 15 b = t 15 b := rfl
theorem up_29_16 {t : TT} {a b : Nat} {v : Int32} : up2 t 29 a v 16 b = t 16 b := rfl
theorem up_29_17 {t : TT} {a b : Nat} {v : Int32} : up2 t 29 a v 17 b = t 17 b := rfl
theorem up_29_18 {t : TT} {a b : Nat} {v : Int32} : up2 t 29 a v 18 b = t 18 b := rfl
theorem up_29_19 {t : TT} {a b : Nat} {v : Int32} : up2 t 29 a v 19 b = t 19 b := rfl
theorem up_29_20 {t : TT} {a b : Nat} {v : Int32} : up2 t 29 a v 20 b = t 20 b := rfl
theorem up_29_21 {t : TT} {a b : Nat} {v : Int32} : up2 t 29 a v 21 b = t 21 b := rfl
theorem up_29_22 {t : TT} {a b : Nat} {v : Int32} : up2 t 29 a v 22 b = t 22 b := rfl
theorem up_29_23 {t : TT} {a b : Nat} {v : Int32} : up2 t 29 a v 23 b = t 23 b := rfl
theorem up_29_24 {t : TT} {a b : Nat} {v : Int32} : up2 t 29 a v 24 b = t 24 b := rfl
theorem up_29_25 {t : TT} {a b : Nat} {v : Int32} : up2 t 29 a v 25 b = t 25 b := rfl
theorem up_29_26 {t : TT} {a b : Nat} {v : Int32} : up2 t 29 a v 26 b = t 26 b := rfl
theorem up_29_27 {t : TT} {a b : Nat} {v : Int32} : up2 t 29 a v 27 b = t 27 b := rfl
theorem up_29_28 {t : TT} {a b : Nat} {v : Int32} : up2 t 29 a v 28 b = t 28 b := rfl
theorem up_29_30 {t : TT} {a b : Nat} {v : Int32} : up2 t 29 a v 30 b = t 30 b := rfl
theorem up_29_31 {t : TT} {a b : Nat} {v : Int32} : up2 t 29 a v 31 b = t 31 b := rfl
theorem up_29_32 {t : TT} {a b : Nat} {v : Int32} : up2 t 29 a v 32 b = t 32 b := rfl
theorem up_29_33 {t : TT} {a b : Nat} {v : Int32} : up2 t 29 a v 33 b = t 33 b := rfl
theorem up_29_34 {t : TT} {a b : Nat} {v : Int32} : up2 t 29 a v 34 b = t 34 b := rfl
theorem up_29_35 {t : TT} {a b : Nat} {v : Int32} : up2 t 29 a v 35 b = t 35 b := rfl
theorem up_29_36 {t : TT} {a b : Nat} {v : Int32} : up2 t 29 a v 36 b = t 36 b := rfl
theorem up_30_1 {t : TT} {a b : Nat} {v : Int32} : up2 t 30 a v 1 b = t 1 b := rfl
theorem up_30_2 {t : TT} {a b : Nat} {v : Int32} : up2 t 30 a v 2 b = t 2 b := rfl
theorem up_30_3 {t : TT} {a b : Nat} {v : Int32} : up2 t 30 a v 3 b = t 3 b := rfl
theorem up_30_4 {t : TT} {a b : Nat} {v : Int32} : up2 t 30 a v 4 b = t 4 b := rfl
theorem up_30_5 {t : TT} {a b : Nat} {v : Int32} : up2 t 30 a v 5 b = t 5 b := rfl
theorem up_30_6 {t : TT} {a b : Nat} {v : Int32} : up2 t 30 a v 6 b = t 6 b := rfl
theorem up_30_7 {t : TT} {a b : Nat} {v : Int32} : up2 t 30 a v 7 b = t 7 b := rfl
theorem up_30_8 {t : TT} {a b : Nat} {v : Int32} : up2 t 30 a v 8 b = t 8 b := rfl
theorem up_30_10 {t : TT} {a b : Nat} {v : Int32} : up2 t 30 a v 10 b = t 10 b := rfl
theorem up_30_11 {t : TT} {a b : Nat} {v : Int32} : up2 t 30 a v 11 b = t 11 b := rfl
theorem up_30_12 {t : TT} {a b : Nat} {v : Int32} : up2 t 30 a v 12 b = t 12 b := rfl
theorem up_30_13 {t : TT} {a b : Nat} {v : Int32} : up2 t 30 a v 13 b = t 13 b := rfl
theorem up_30_14 {t : TT} {a b : Nat} {v : Int32} : up2 t 30 a v 14 b = t 14 b := rfl
theorem up_30_15 {t : TT} {a b : Nat} {v : Int32} : up2 t 30 a v 15 b = t 15 b := rfl
theorem up_30_16 {t : TT} {a b : Nat} {v : Int32} : up2 t 30 a v 16 b = t 16 b := rfl
theorem up_30_17 {t : TT} {a b : Nat} {v : Int32} : up2 t 30 a v 17 b = t 17 b := rfl
theorem up_30_18 {t : TT} {a b : Nat} {v : Int32} : up2 t 30 a v 18 b = t 18 b := rfl
theorem up_30_19 {t : TT} {a b : Nat} {v : Int32} : up2 t 30 a v 19 b = t 19 b := rfl
theorem up_30_20 {t : TT} {a b : Nat} {v : Int32} : up2 t 30 a v 20 b = t 20 b := rfl
theorem up_30_21 {t : TT} {a b : Nat} {v : Int32} : up2 t 30 a v 21 b = t 21 b := rfl
theorem up_30_22 {t : TT} {a b : Nat} {v : Int32} : up2 t 30 a v 22 b = t 22 b := rfl
theorem up_30_23 {t : TT} {a b : Nat} {v : Int32} : up2 t 30 a v 23 b = t 23 b := rfl
theorem up_30_24 {t : TT} {a b : Nat} {v : Int32} : up2 t 30 a v 24 b = t 24 b := rfl
theorem up_30_25 {t : TT} {a b : Nat} {v : Int32} : up2 t 30 a v 25 b = t 25 b := rfl
theorem up_30_26 {t : TT} {a b : Nat} {v : Int32} : up2 t 30 a v 26 b = t 26 b := rfl
theorem up_30_27 {t : TT} {a b : Nat} {v : Int32} : up2 t 30 a v 27 b = t 27 b := rfl
theorem up_30_28 {t : TT} {a b : Nat} {v : Int32} : up2 t 30 a v 28 b = t 28 b := rfl
theorem up_30_29 {t : TT} {a b : Nat} {v : Int32} : up2 t 30 a v 29 b = t 29 b := rfl
theorem up_30_31 {t : TT} {a b : Nat} {v : Int32} : up2 t 30 a v 31 b = t 31 b := rfl
theorem up_30_32 {t : TT} {a b : Nat} {v : Int32} : up2 t 30 a v 32 b = t 32 b := rfl
theorem up_30_33 {t : TT} {a b : Nat} {v : Int32} : up2 t 30 a v 33 b = t 33 b := rfl
theorem up_30_34 {t : TT} {a b : Nat} {v : Int32} : up2 t 30 a v 34 b = t 34 b := rfl
theorem up_30_35 {t : TT} {a b : Nat} {v : Int32} : up2 t 30 a v 35 b = t 35 b := rfl
theorem up_30_36 {t : TT} {a b : Nat} {v : Int32} : up2 t 30 a v 36 b = t 36 b := rfl
theorem up_31_1 {t : TT} {a b : Nat} {v : Int32} : up2 t 31 a v 1 b = t 1 b := rfl
theorem up_31_2 {t : TT} {a b : Nat} {v : Int32} : up2 t 31 a v 2 b = t 2 b := rfl
theorem up_31_3 {t : TT} {a b : Nat} {v : Int32} : up2 t 31 a v 3 b = t 3 b := rfl
theorem up_31_4 {t : TT} {a b : Nat} {v : Int32} : up2 t 31 a v 4 b = t 4 b := rfl
theorem up_31_5 {t : TT} {a b : Nat} {v : Int32} : up2 t 31 a v 5 b = t 5 b := rfl
theorem up_31_6 {t : TT} {a b : Nat} {v : Int32} : up2 t 31 a v 6 b = t 6 b := rfl
theorem up_31_7 {t : TT} {a b : Nat} {v : Int32} : up2 t 31 a v 7 b = t 7 b := rfl
theorem up_31_8 {t : TT} {a b : Nat} {v : Int32} : up2 t 31 a v 8 b = t 8 b := rfl
theorem up_31_10 {t : TT} {a b : Nat} {v : Int32} : up2 t 31 a v 10 b = t 10 b := rfl
theorem up_31_11 {t : TT} {a b : Nat} {v : Int32} : up2 t 31 a v 11 b = t 11 b := rfl
theorem up_31_12 {t : TT} {a b : Nat} {v : Int32} : up2 t 31 a v 12 b = t 12 b := rfl
theorem up_31_13 {t : TT} {a b : Nat} {v : Int32} : up2 t 31 a v 13 b = t 13 b := rfl
theorem up_31_14 {t : TT} {a b : Nat} {v : Int32} : up2 t 31 a v 14 b = t 14 b := rfl
theorem up_31_15 {t : TT} {a b : Nat} {v : Int32} : up2 t 31 a v 15 b = t 15 b := rfl
theorem up_31_16 {t : TT} {a b : Nat} {v : Int32} : up2 t 31 a v 16 b = t 16 b := rfl
theorem up_31_17 {t : TT} {a b : Nat} {v : Int32} : up2 t 31 a v 17 b = t 17 b := rfl
theorem up_31_18 {t : TT} {a b : Nat} {v : Int32} : up2 t 31 a v 18 b = t 18 b := rfl
theorem up_31_19 {t : TT} {a b : Nat} {v : Int32} : up2 t 31 a v 19 b = t 19 b := rfl
theorem up_31_20 {t : TT} {a b : Nat} {v : Int32} : up2 t 31 a v 20 b = t 20 b := rfl
theorem up_31_21 {t : TT} {a b : Nat} {v : Int32} : up2 t 31 a v 21 b = t 21 b := rfl
theorem up_31_22 {t : TT} {a b : Nat} {v : Int32} : up2 t 31 a v 22 b = t 22 b := rfl
theorem up_31_23 {t : TT} {a b : Nat} {v : Int32} : up2 t 31 a v 23 b = t 23 b := rfl
theorem up_31_24 {t : TT} {a b : Nat} {v : Int32} : up2 t 31 a v 24 b = t 24 b := rfl
theorem up_31_25 {t : TT} {a b : Nat} {v : Int32} : up2 t 31 a v 25 b = t 25 b := rfl
theorem up_31_26 {t : TT} {a b : Nat} {v : Int32} : up2 t 31 a v 26 b = t 26 b := rfl
theorem up_31_27 {t : TT} {a b : Nat} {v : Int32} : up2 t 31 a v 27 b = t 27 b := rfl
theorem up_31_28 {t : TT} {a b : Nat} {v : Int32} : up2 t 31 a v 28 b = t 28 b := rfl
theorem up_31_29 {t : TT} {a b : Nat} {v : Int32} : up2 t 31 a v 29 b = t 29 b := rfl
theorem up_31_30 {t : TT} {a b : Nat} {v : Int32} : up2 t 31 a v 30 b = t 30 b := rfl
theorem up_31_32 {t : TT} {a b : Nat} {v : Int32} : up2 t 31 a v 32 b = t 32 b := rfl
theorem up_31_33 {t : TT} {a b : Nat} {v : Int32} : up2 t 31 a v 33 b = t 33 b := rfl
theorem up_31_34 {t : TT} {a b : Nat} {v : Int32} : up2 t 31 a v 34 b = t 34 b := rfl
theorem up_31_35 {t : TT} {a b : Nat} {v : Int32} : up2 t 31 a v 35 b = t 35 b := rfl
theorem up_31_36 {t : TT} {a b : Nat} {v : Int32} : up2 t 31 a v 36 b = t 36 b := rfl
theorem up_32_1 {t : TT} {a b : Nat} {v : Int32} : up2 t 32 a v 1 b = t 1 b := rfl
theorem up_32_2 {t : TT} {a b : Nat} {v : Int32} : up2 t 32 a v 2 b = t 2 b := rfl
theorem up_32_3 {t : TT} {a b : Nat} {v : Int32} : up2 t 32 a v 3 b = t 3 b := rfl
theorem up_32_4 {t : TT} {a b : Nat} {v : Int32} : up2 t 32 a v 4 b = t 4 b := rfl
theorem up_32_5 {t : TT} {a b : Nat} {v : Int32} : up2 t 32 a v 5 b = t 5 b := rfl
theorem up_32_6 {t : TT} {a b : Nat} {v : Int32} : up2 t 32 a v 6 b = t 6 b := rfl
theorem up_32_7 {t : TT} {a b : Nat} {v : Int32} : up2 t 32 a v 7 b = t 7 b := rfl
theorem up_32_8 {t : TT} {a b : Nat} {v : Int32} : up2 t 32 a v 8 b = t 8 b := rfl
theorem up_32_10 {t : TT} {a b : Nat} {v : Int32} : up2 t 32 a v 10 b = t 10 b := rfl
theorem up_32_11 {t : TT} {a b : Nat} {v : Int32} : up2 t 32 a v 11 b = t 11 b := rfl
theorem up_32_12 {t : TT} {a b : Nat} {v : Int32} : up2 t 32 a v 12 b = t 12 b := rfl
theorem up_32_13 {t : TT} {a b : Nat} {v : Int32} : up2 t 32 a v 13 b = t 13 b := rfl
theorem up_32_14 {t : TT} {a b : Nat} {v : Int32} : up2 t 32 a v 14 b = t 14 b := rfl
theorem up_32_15 {t : TT} {a b : Nat} {v : Int32} : up2 t 32 a v 15 b = t 15 b := rfl
theorem up_32_16 {t : TT} {a b : Nat} {v : Int32} : up2 t 32 a v 16 b = t 16 b := rfl
theorem up_32_17 {t : TT} {a b : Nat} {v : Int32} : up2 t 32 a v 17 b = t 17 b := rfl
theorem up_32_18 {t : TT} {a b : Nat} {v : Int32} : up2 t 32 a v 18 b = t 18 b := rfl
theorem up_32_19 {t : TT} {a b : Nat} {v : Int32} : up2 t 32 a v 19 b = t 19 b := rfl
theorem up_32_20 {t : TT} {a b : Nat} {v : Int32} : up2 t 32 a v 20 b = t 20 b := rfl
theorem up_32_21 {t : TT} {a b : Nat} {v : Int32} : up2 t 32 a v 21 b = t 21 b := rfl
theorem up_32_22 {t : TT} {a b : Nat} {v : Int32} : up2 t 32 a v 22 b = t 22 b := rfl
theorem up_32_23 {t : TT} {a b : Nat} {v : Int32} : up2 t 32 a v 23 b = t 23 b := rfl
theorem up_32_24 {t : TT} {a b : Nat} {v : Int32} : up2 t 32 a v 24 b = t 24 b := rfl
theorem up_32_25 {t : TT} {a b : Nat} {v : Int32} : up2 t 32 a v 25 b = t 25 b := rfl
theorem up_32_26 {t : TT} {a b : Nat} {v : Int32} : up2 t 32 a v 26 b = t 26 b := rfl
theorem up_32_27 {t : TT} {a b : Nat} {v : Int32} : up2 t 32 a v 27 b = t 27 b := rfl
theorem up_32_28 {t : TT} {a b : Nat} {v : Int32} : up2 t 32 a v 28 b = t 28 b := rfl
theorem up_32_29 {t : TT} {a b : Nat} {v : Int32} : up2 t 32 a v 29 b = t 29 b := rfl
theorem up_32_30 {t : TT} {a b : Nat} {v : Int32} : up2 t 32 a v 30 b = t 30 b := rfl
theorem up_32_31 {t : TT} {a b : Nat} {v : Int32} : up2 t 32 a v 31 b = t 31 b := rfl
theorem up_32_33 {t : TT} {a b : Nat} {v : Int32} : up2 t 32 a v 33 b = t 33 b := rfl
theorem up_32_34 {t : TT} {a b : Nat} {v : Int32} : up2 t 32 a v 34 b = t 34 b := rfl
theorem up_32_35 {t : TT} {a b : Nat} {v : Int32} : up2 t 32 a v 35 b = t 35 b := rfl
theorem up_32_36 {t : TT} {a b : Nat} {v : Int32} : up2 t 32 a v 36 b = t 36 b := rfl
theorem up_33_1 {t : TT} {a b : Nat} {v : Int32} : up2 t 33 a v 1 b = t 1 b := rfl
theorem up_33_2 {t : TT} {a b : Nat} {v : Int32} : up2 t 33 a v 2 b = t 2 b := rfl
theorem up_33_3 {t : TT} {a b : Nat} {v : Int32} : up2 t 33 a v 3 b = t 3 b := rfl
theorem up_33_4 {t : TT} {a b : Nat} {v : Int32} : up2 t 33 a v 4 b = t 4 b := rfl
theorem up_33_5 {t : TT} {a b : Nat} {v : Int32} : up2 t 33 a v 5 b = t 5 b := rfl
theorem up_33_6 {t : TT} {a b : Nat} {v : Int32} : up2 t 33 a v 6 b = t 6 b := rfl
theorem up_33_7 {t : TT} {a b : Nat} {v : Int32} : up2 t 33 a v 7 b = t 7 b := rfl
theorem up_33_8 {t : TT} {a b : Nat} {v : Int32} : up2 t 33 a v 8 b = t 8 b := rfl
theorem up_33_10 {t : TT} {a b : Nat} {v : Int32} : up2 t 33 a v 10 b = t 10 b := rfl
theorem up_33_11 {t : TT} {a b : Nat} {v : Int32} : up2 t 33 a v 11 b = t 11 b := rfl
theorem up_33_12 {t : TT} {a b : Nat} {v : Int32} : up2 t 33 a v 12 b = t 12 b := rfl
theorem up_33_13 {t : TT} {a b : Nat} {v : Int32} : up2 t 33 a v 13 b = t 13 b := rfl
theorem up_33_14 {t : TT} {a b : Nat} {v : Int32} : up2 t 33 a v 14 b = t 14 b := rfl
theorem up_33_15 {t : TT} {a b : Nat} {v : Int32} : up2 t 33 a v 15 b = t 15 b := rfl
theorem up_33_16 {t : TT} {a b : Nat} {v : Int32} : up2 t 33 a v 16 b = t 16 b := rfl
theorem up_33_17 {t : TT} {a b : Nat} {v : Int32} : up2 t 33 a v 17 b = t 17 b := rfl
theorem up_33_18 {t : TT} {a b : Nat} {v : Int32} : up2 t 33 a v 18 b = t 18 b := rfl
theorem up_33_19 {t : TT} {a b : Nat} {v : Int32} : up2 t 33 a v 19 b = t 19 b := rfl
theorem up_33_20 {t : TT} {a b : Nat} {v : Int32} : up2 t 33 a v 20 b = t 20 b := rfl
theorem up_33_21 {t : TT} {a b : Nat} {v : Int32} : up2 t 33 a v 21 b = t 21 b := rfl
theorem up_33_22 {t : TT} {a b : Nat} {v : Int32} : up2 t 33 a v 22 b = t 22 b := rfl
theorem up_33_23 {t : TT} {a b : Nat} {v : Int32} : up2 t 33 a v 23 b = t 23 b := rfl
theorem up_33_24 {t : TT} {a b : Nat} {v : Int32} : up2 t 33 a v 24 b = t 24 b := rfl
theorem up_33_25 {t : TT} {a b : Nat} {v : Int32} : up2 t 33 a v 25 b = t 25 b := rfl
theorem up_33_26 {t : TT} {a b : Nat} {v : Int32} : up2 t 33 a v 26 b = t 26 b := rfl
theorem up_33_27 {t : TT} {a b : Nat} {v : Int32} : up2 t 33 a v 27 b = t 27 b := rfl
theorem up_33_28 {t : TT} {a b : Nat} {v : Int32} : up2 t 33 a v 28 b = t 28 b := rfl
theorem up_33_29 {t : TT} {a b : Nat} {v : Int32} : up2 t 33 a v 29 b = t 29 b := rfl
theorem up_33_30 {t : TT} {a b : Nat} {v : Int32} : up2 t 33 a v 30 b = t 30 b := rfl
theorem up_33_31 {t : TT} {a b : Nat} {v : Int32} : up2 t 33 a v 31 b = t 31 b := rfl
theorem up_33_32 {t : TT} {a b : Nat} {v : Int32} : up2 t 33 a v 32 b = t 32 b := rfl
theorem up_33_34 {t : TT} {a b : Nat} {v : Int32} : up2 t 33 a v 34 b = t 34 b := rfl
theorem up_33_35 {t : TT} {a b : Nat} {v : Int32} : up2 t 33 a v 35 b = t 35 b := rfl
theorem up_33_36 {t : TT} {a b : Nat} {v : Int32} : up2 t 33 a v 36 b = t 36 b := rfl
theorem up_34_1 {t : TT} {a b : Nat} {v : Int32} : up2 t 34 a v 1 b = t 1 b := rfl
theorem up_34_2 {t : TT} {a b : Nat} {v : Int32} : up2 t 34 a v 2 b = t 2 b := rfl
theorem up_34_3 {t : TT} {a b : Nat} {v : Int32} : up2 t 34 a v 3 b = t 3 b := rfl
theorem up_34_4 {t : TT} {a b : Nat} {v : Int32} : up2 t 34 a v 4 b = t 4 b := rfl
theorem up_34_5 {t : TT} {a b : Nat} {v : Int32} : up2 t 34 a v 5 b = t 5 b := rfl
theorem up_34_6 {t : TT} {a b : Nat} {v : Int32} : up2 t 34 a v 6 b = t 6 b := rfl
theorem up_34_7 {t : TT} {a b : Nat} {v : Int32} : up2 t 34 a v 7 b = t 7 b := rfl
theorem up_34_8 {t : TT} {a b : Nat} {v : Int32} : up2 t 34 a v 8 b = t 8 b := rfl
theorem up_34_10 {t : TT} {a b : Nat} {v : Int32} : up2 t 34 a v 10 b = t 10 b := rfl
theorem up_34_11 {t : TT} {a b : Nat} {v : Int32} : up2 t 34 a v 11 b = t 11 b := rfl
theorem up_34_12 {t : TT} {a b : Nat} {v : Int32} : up2 t 34 a v 12 b = t 12 b := rfl
theorem up_34_13 {t : TT} {a b : Nat} {v : Int32} : up2 t 34 a v 13 b = t 13 b := rfl
theorem up_34_14 {t : TT} {a b : Nat} {v : Int32} : up2 t 34 a v 14 b = t 14 b := rfl
theorem up_34_15 {t : TT} {a b : Nat} {v : Int32} : up2 t 34 a v 15 b = t 15 b := rfl
theorem up_34_16 {t : TT} {a b : Nat} {v : Int32} : up2 t 34 a v 16 b = t 16 b := rfl
theorem up_34_17 {t : TT} {a b : Nat} {v : Int32} : up2 t 34 a v 17 b = t 17 b := rfl
theorem up_34_18 {t : TT} {a b : Nat} {v : Int32} : up2 t 34 a v 18 b = t 18 b := rfl
theorem up_34_19 {t : TT} {a b : Nat} {v : Int32} : up2 t 34 a v 19 b = t 19 b := rfl
theorem up_34_20 {t : TT} {a b : Nat} {v : Int32} : up2 t 34 a v 20 b = t 20 b := rfl
theorem up_34_21 {t : TT} {a b : Nat} {v : Int32} : up2 t 34 a v 21 b = t 21 b := rfl
theorem up_34_22 {t : TT} {a b : Nat} {v : Int32} : up2 t 34 a v 22 b = t 22 b := rfl
theorem up_34_23 {t : TT} {a b : Nat} {v : Int32} : up2 t 34 a v 23 b = t 23 b := rfl
theorem up_34_24 {t : TT} {a b : Nat} {v : Int32} : up2 t 34 a v 24 b = t 24 b := rfl
theorem up_34_25 {t : TT} {a b : Nat} {v : Int32} : up2 t 34 a v 25 b = t 25 b := rfl
theorem up_34_26 {t : TT} {a b : Nat} {v : Int32} : up2 t 34 a v 26 b = t 26 b := rfl
theorem up_34_27 {t : TT} {a b : Nat} {v : Int32} : up2 t 34 a v 27 b = t 27 b := rfl
theorem up_34_28 {t : TT} {a b : Nat} {v : Int32} : up2 t 34 a v 28 b = t 28 b := rfl
theorem up_34_29 {t : TT} {a b : Nat} {v : Int32} : up2 t 34 a v 29 b = t 29 b := rfl
theorem up_34_30 {t : TT} {a b : Nat} {v : Int32} : up2 t 34 a v 30 b = t 30 b := rfl
theorem up_34_31 {t : TT} {a b : Nat} {v : Int32} : up2 t 34 a v 31 b = t 31 b := rfl
theorem up_34_32 {t : TT} {a b : Nat} {v : Int32} : up2 t 34 a v 32 b = t 32 b := rfl
theorem up_34_33 {t : TT} {a b : Nat} {v : Int32} : up2 t 34 a v 33 b = t 33 b := rfl
theorem up_34_35 {t : TT} {a b : Nat} {v : Int32} : up2 t 34 a v 35 b = t 35 b := rfl
theorem up_34_36 {t : TT} {a b : Nat} {v : Int32} : up2 t 34 a v 36 b = t 36 b := rfl
theorem up_35_1 {t : TT} {a b : Nat} {v : Int32} : up2 t 35 a v 1 b = t 1 b := rfl
theorem up_35_2 {t : TT} {a b : Nat} {v : Int32} : up2 t 35 a v 2 b = t 2 b := rfl
theorem up_35_3 {t : TT} {a b : Nat} {v : Int32} : up2 t 35 a v 3 b = t 3 b := rfl
theorem up_35_4 {t : TT} {a b : Nat} {v : Int32} : up2 t 35 a v 4 b = t 4 b := rfl
theorem up_35_5 {t : TT} {a b : Nat} {v : Int32} : up2 t 35 a v 5 b = t 5 b := rfl
theorem up_35_6 {t : TT} {a b : Nat} {v : Int32} : up2 t 35 a v 6 b = t 6 b := rfl
theorem up_35_7 {t : TT} {a b : Nat} {v : Int32} : up2 t 35 a v 7 b = t 7 b := rfl
theorem up_35_8 {t : TT} {a b : Nat} {v : Int32} : up2 t 35 a v 8 b = t 8 b := rfl
theorem up_35_10 {t : TT} {a b : Nat} {v : Int32} : up2 t 35 a v 10 b = t 10 b := rfl
theorem up_35_11 {t : TT} {a b : Nat} {v : Int32} : up2 t 35 a v 11 b = t 11 b := rfl
theorem up_35_12 {t : TT} {a b : Nat} {v : Int32} : up2 t 35 a v 12 b = t 12 b := rfl
theorem up_35_13 {t : TT} {a b : Nat} {v : Int32} : up2 t 35 a v 13 b = t 13 b := rfl
theorem up_35_14 {t : TT} {a b : Nat} {v : Int32} : up2 t 35 a v 14 b = t 14 b := rfl
theorem up_35_15 {t : TT} {a b : Nat} {v : Int32} : up2 t 35 a v 15 b = t 15 b := rfl
theorem up_35_16 {t : TT} {a b : Nat} {v : Int32} : up2 t 35 a v 16 b = t 16 b := rfl
theorem up_35_17 {t : TT} {a b : Nat} {v : Int32} : up2 t 35 a v 17 b = t 17 b := rfl
theorem up_35_18 {t : TT} {a b : Nat} {v : Int32} : up2 t 35 a v 18 b = t 18 b := rfl
theorem up_35_19 {t : TT} {a b : Nat} {v : Int32} : up2 t 35 a v 19 b = t 19 b := rfl
theorem up_35_20 {t : TT} {a b : Nat} {v : Int32} : up2 t 35 a v 20 b = t 20 b := rfl
theorem up_35_21 {t : TT} {a b : Nat} {v : Int32} : up2 t 35 a v 21 b = t 21 b := rfl
theorem up_35_22 {t : TT} {a b : Nat} {v : Int32} : up2 t 35 a v 22 b = t 22 b := rfl
theorem up_35_23 {t : TT} {a b : Nat} {v : Int32} : up2 t 35 a v 23 b = t 23 b := rfl
theorem up_35_24 {t : TT} {a b : Nat} {v : Int32} : up2 t 35 a v 24 b = t 24 b := rfl
theorem up_35_25 {t : TT} {a b : Nat} {v : Int32} : up2 t 35 a v 25 b = t 25 b := rfl
theorem up_35_26 {t : TT} {a b : Nat} {v : Int32} : up2 t 35 a v 26 b = t 26 b := rfl
theorem up_35_27 {t : TT} {a b : Nat} {v : Int32} : up2 t 35 a v 27 b = t 27 b := rfl
theorem up_35_28 {t : TT} {a b : Nat} {v : Int32} : up2 t 35 a v 28 b = t 28 b := rfl
theorem up_35_29 {t : TT} {a b : Nat} {v : Int32} : up2 t 35 a v 29 b = t 29 b := rfl
theorem up_35_30 {t : TT} {a b : Nat} {v : Int32} : up2 t 35 a v 30 b = t 30 b := rfl
theorem up_35_31 {t : TT} {a b : Nat} {v : Int32} : up2 t 35 a v 31 b = t 31 b := rfl
theorem up_35_32 {t : TT} {a b : Nat} {v : Int32} : up2 t 35 a v 32 b = t 32 b := rfl
theorem up_35_33 {t : TT} {a b : Nat} {v : Int32} : up2 t 35 a v 33 b = t 33 b := rfl
theorem up_35_34 {t : TT} {a b : Nat} {v : Int32} : up2 t 35 a v 34 b = t 34 b := rfl
theorem up_35_36 {t : TT} {a b : Nat} {v : Int32} : up2 t 35 a v 36 b = t 36 b := rfl
theorem up_36_1 {t : TT} {a b : Nat} {v : Int32} : up2 t 36 a v 1 b = t 1 b := rfl
theorem up_36_2 {t : TT} {a b : Nat} {v : Int32} : up2 t 36 a v 2 b = t 2 b := rfl
theorem up_36_3 {t : TT} {a b : Nat} {v : Int32} : up2 t 36 a v 3 b = t 3 b := rfl
theorem up_36_4 {t : TT} {a b : Nat} {v : Int32} : up2 t 36 a v 4 b = t 4 b := rfl
theorem up_36_5 {t : TT} {a b : Nat} {v : Int32} : up2 t 36 a v 5 b = t 5 b := rfl
theorem up_36_6 {t : TT} {a b : Nat} {v : Int32} : up2 t 36 a v 6 b = t 6 b := rfl
theorem up_36_7 {t : TT} {a b : Nat} {v : Int32} : up2 t 36 a v 7 b = t 7 b := rfl
theorem up_36_8 {t : TT} {a b : Nat} {v : Int32} : up2 t 36 a v 8 b = t 8 b := rfl
theorem up_36_10 {t : TT} {a b : Nat} {v : Int32} : up2 t 36 a v 10 b = t 10 b := rfl
theorem up_36_11 {t : TT} {a b : Nat} {v : Int32} : up2 t 36 a v 11 b = t 11 b := rfl
theorem up_36_12 {t : TT} {a b : Nat} {v : Int32} : up2 t 36 a v 12 b = t 12 b := rfl
theorem up_36_13 {t : TT} {a b : Nat} {v : Int32} : up2 t 36 a v 13 b = t 13 b := rfl
theorem up_36_14 {t : TT} {a b : Nat} {v : Int32} : up2 t 36 a v 14 b = t 14 b := rfl
theorem up_36_15 {t : TT} {a b : Nat} {v : Int32} : up2 t 36 a v 15 b = t 15 b := rfl
theorem up_36_16 {t : TT} {a b : Nat} {v : Int32} : up2 t 36 a v 16 b = t 16 b := rfl
theorem up_36_17 {t : TT} {a b : Nat} {v : Int32} : up2 t 36 a v 17 b = t 17 b := rfl
theorem up_36_18 {t : TT} {a b : Nat} {v : Int32} : up2 t 36 a v 18 b = t 18 b := rfl
theorem up_36_19 {t : TT} {a b : Nat} {v : Int32} : up2 t 36 a v 19 b = t 19 b := rfl
theorem up_36_20 {t : TT} {a b : Nat} {v : Int32} : up2 t 36 a v 20 b = t 20 b := rfl
theorem up_36_21 {t : TT} {a b : Nat} {v : Int32} : up2 t 36 a v 21 b = t 21 b := rfl
theorem up_36_22 {t : TT} {a b : Nat} {v : Int32} : up2 t 36 a v 22 b = t 22 b := rfl
theorem up_36_23 {t : TT} {a b : Nat} {v : Int32} : up2 t 36 a v 23 b = t 23 b := rfl
theorem up_36_24 {t : TT} {a b : Nat} {v : Int32} : up2 t 36 a v 24 b = t 24 b := rfl
theorem up_36_25 {t : TT} {a b : Nat} {v : Int32} : up2 t 36 a v 25 b = t 25 b := rfl
theorem up_36_26 {t : TT} {a b : Nat} {v : Int32} : up2 t 36 a v 26 b = t 26 b := rfl
theorem up_36_27 {t : TT} {a b : Nat} {v : Int32} : up2 t 36 a v 27 b = t 27 b := rfl
theorem up_36_28 {t : TT} {a b : Nat} {v : Int32} : up2 t 36 a v 28 b = t 28 b := rfl
theorem up_36_29 {t : TT} {a b : Nat} {v : Int32} : up2 t 36 a v 29 b = t 29 b := rfl
theorem up_36_30 {t : TT} {a b : Nat} {v : Int32} : up2 t 36 a v 30 b = t 30 b := rfl
theorem up_36_31 {t : TT} {a b : Nat} {v : Int32} : up2 t 36 a v 31 b = t 31 b := rfl
theorem up_36_32 {t : TT} {a b : Nat} {v : Int32} : up2 t 36 a v 32 b = t 32 b := rfl
theorem up_36_33 {t : TT} {a b : Nat} {v : Int32} : up2 t 36 a v 33 b = t 33 b := rfl
theorem up_36_34 {t : TT} {a b : Nat} {v : Int32} : up2 t 36 a v 34 b = t 34 b := rfl
theorem up_36_35 {t : TT} {a b : Nat} {v : Int32} : up2 t 36 a v 35 b = t 35 b := rfl
theorem ov1 : (1 != 9 && 1 != 40 && 1 != 0 && 1 != 7) = true := rfl
def fR (f : TT → Nat → TT) (t : TT) : Nat → TT
  | 0 => t
  | k + 1 => f (fR f t k) k
theorem fR_I {f : TT → Nat → TT} {I : TT → Prop} {t : TT} {N : Nat} (hI : I t) (hf : ∀ u k, k < N → I u → I (f u k)) : ∀ k, k ≤ N → I (fR f t k)
  | 0, _ => hI
  | k + 1, hk => hf _ k (by omega) (fR_I hI hf k (by omega))
theorem loopG {L : Nat → Int32 → TT → Prop} {f : TT → Nat → TT} {E I : TT → Prop} {t : TT} {N : Nat} (hI : I t) (hf : ∀ u k, k < N → I u → I (f u k)) (hexit : ∀ u, I u → E u → ∃ n, L n (nI N) u) (hstep : ∀ u k n, k < N → I u → L n (nI (k + 1)) (f u k) → L (n + 1) (nI k) u) (h : E (fR f t N)) : ∃ n, L n 0 t := by
  have K : ∀ m k, k + m = N → ∃ n, L n (nI k) (fR f t k) := by
    intro m
    induction m with
    | zero =>
      intro k hk
      have : k = N := by omega
      subst this
      exact hexit _ (fR_I hI hf k (Nat.le_refl _)) h
    | succ m ih =>
      intro k hk
      obtain ⟨n, hn⟩ := ih (k + 1) (by omega)
      exact ⟨n + 1, hstep _ k n (by omega) (fR_I hI hf k (by omega)) hn⟩
  exact K N 0 (by omega)
theorem up2_comm {t : TT} {k i k' i' : Nat} {v v' : Int32} (h : ¬ (k = k' ∧ i = i')) : up2 (up2 t k i v) k' i' v' = up2 (up2 t k' i' v') k i v := by
  funext a b
  unfold up2
  by_cases h1 : a = k' ∧ b = i'
  · have h2 : ¬ (a = k ∧ b = i) := fun z => h ⟨z.1.symm.trans h1.1, z.2.symm.trans h1.2⟩
    simp only [if_pos h1, if_neg h2]
  · by_cases h2 : a = k ∧ b = i
    · simp only [if_neg h1, if_pos h2]
    · simp only [if_neg h1, if_neg h2]
/-- the REPORTS -/
def repU (u : TT) (k : Nat) : TT := if u 34 k = 0 then up2 u 24 k (u 20 k) else u
/-- how long held -/
def heldU (u : TT) (k : Nat) : TT := up2 u 29 k (if u 29 k ≤ 0 then u 29 k - 0 else u 29 k - 1)
/-- people come -/
def waitU (u : TT) (p : Nat) : TT := up2 u 6 p (mmin (u 6 p + u 5 p) 999)
/-- people board -/
def ones9 (a : Int32) : Int32 := (((a &&& 1) + ((a >>> ((1 : Int32) &&& 31)) &&& 1)) + ((a >>> ((2 : Int32) &&& 31)) &&& 1)) + ((a >>> ((3 : Int32) &&& 31)) &&& 1)
def manyS (u : TT) (k : Nat) : Int32 := mmin (mmin (2 * ones9 (u 27 k)) (u 6 (u 26 k).toNatClampNeg)) (120 - u 28 k)
def boardU (u : TT) (k : Nat) : TT := if u 27 k = -1 then u else up2 (up2 u 6 (u 26 k).toNatClampNeg (u 6 (u 26 k).toNatClampNeg - manyS u k)) 28 k (u 28 k + manyS u k)
/-- a train goes -/
def anyB (f : Nat → Bool) : Nat → Bool
  | 0 => false
  | k + 1 => anyB f k || f k
theorem anyB_t {f : Nat → Bool} {k : Nat} (h : f k = true) : ∀ n, k < n → anyB f n = true
  | 0, hn => by omega
  | n + 1, hn => by
    unfold anyB
    by_cases e : k = n
    · subst e
      rw [h, Bool.or_true]
    · rw [anyB_t h n (by omega), Bool.true_or]
def farS (u : TT) (k : Nat) : Int32 := if u 22 k = 0 then 0 else u 22 k + u 25 k
def goV (u : TT) (tk k : Nat) : TT := up2 (up2 (up2 (up2 (up2 u 35 (1000 * k + tk) (u 22 k)) 36 (1000 * k + tk) (farS u k)) 19 k (u 19 k + farS u k)) 20 k (u 20 k + (if u 22 k = 0 then 0 else u 22 k - 1))) 21 k (u 21 k + (if u 22 k = 0 then 0 else u 22 k + 1))
def metB (u : TT) (bef pl : Int32) (b : Nat) : Bool := !decide (u 13 b = 0) && !decide (u 12 b ≤ bef) && !decide (pl < u 12 b)
def setU (u : TT) (k : Nat) : TT := up2 (up2 u 20 k (u 19 k)) 21 k (u 19 k)
def goU (tk nb : Nat) (u : TT) (k : Nat) : TT := if anyB (metB u (u 19 k) (u 19 k + farS u k)) nb = true then setU (goV u tk k) k else goV u tk k
theorem setU_set {u : TT} {k : Nat} : setU (setU u k) k = setU u k := by
  have e1 : setU u k 19 k = u 19 k := rfl
  have e2 : setU u k 20 k = u 19 k := by unfold setU; rw [up_21_20, up2_same]
  have e3 : setU u k 21 k = u 19 k := by unfold setU; rw [up2_same]
  have h1 : setU (setU u k) k = up2 (up2 (setU u k) 20 k (u 19 k)) 21 k (u 19 k) := rfl
  rw [h1, up2_self e2.symm, up2_self e3.symm]
section IV
variable {n np nb nz nt tk : Nat} {t : TT}
theorem repU_inv {k : Nat} (hk : k < nt) (h : Inv n np nb nz nt tk t) : Inv n np nb nz nt tk (repU t k) := by
  unfold repU
  split
  · exact h.free (by omega) hk
  · exact h
theorem held_dec : ∀ k, k < 100 → ∃ j, j < 100 ∧ (if nI k ≤ 0 then nI k - 0 else nI k - 1) = nI j := by decide +kernel
theorem held_dec2 : ∀ k, k < 100 → mmax (nI k - 1) 0 = (if nI k ≤ 0 then nI k - 0 else nI k - 1) := by decide +kernel
theorem heldU_inv {k : Nat} (hk : k < nt) (h : Inv n np nb nz nt tk t) : Inv n np nb nz nt tk (heldU t k) := by
  refine h.train (by omega) hk ?_
  obtain ⟨h1, h2, h3, h4, h5, h6, ⟨w, w1, w2⟩, h8⟩ := h.2.2.2.1 k hk
  obtain ⟨j, j1, j2⟩ := held_dec w (by omega)
  unfold TrI
  simp only [up_29_1, up_29_2, up_29_3, up_29_4, up_29_5, up_29_6, up_29_7, up_29_8, up_29_10, up_29_11, up_29_12, up_29_13, up_29_14, up_29_15, up_29_16, up_29_17, up_29_18, up_29_19, up_29_20, up_29_21, up_29_22, up_29_23, up_29_24, up_29_25, up_29_26, up_29_27, up_29_28, up_29_30, up_29_31, up_29_32, up_29_33, up_29_34, up_29_35, up_29_36, up2_same]
  exact ⟨h1, h2, h3, h4, h5, h6, ⟨j, by omega, by rw [w2]; exact j2⟩, h8⟩
/-- a number of a PLATFORM that is there is told anew -/
theorem Inv.plat {k p : Nat} {v : Int32} (h : Inv n np nb nz nt tk t) (hk : 4 ≤ k ∧ k ≤ 10) (hp : p < np) (ht : PlI (up2 t k p v) n p) : Inv n np nb nz nt tk (up2 t k p v) := by
  obtain ⟨hc, htk, hq, hT, hP, hb, hz, z1, z2, z3, z4, z5⟩ := h
  have e : ∀ k' i', k' < 4 ∨ 10 < k' → up2 t k p v k' i' = t k' i' := fun k' i' q => up2_ne fun z => by omega
  refine ⟨?_, ?_, ?_, fun j hj => ?_, fun p' hp' => ?_, fun b hb9 => ?_, fun z hz9 => ?_, fun k' j hj h1 h2 => ?_, fun j hj => ?_, fun k' j hj h1 h2 => ?_, fun j hj => ?_, fun j hj => ?_⟩
  · unfold Cnt
    rw [e _ _ (by omega), e _ _ (by omega), e _ _ (by omega), e _ _ (by omega)]
    exact hc
  · rw [e _ _ (by omega)]; exact htk
  · rw [e _ _ (by omega)]; exact hq
  · have H := hT j hj
    unfold TrI at H ⊢
    rw [e _ _ (by omega), e _ _ (by omega), e _ _ (by omega), e _ _ (by omega), e _ _ (by omega), e _ _ (by omega), e _ _ (by omega), e _ _ (by omega), e _ _ (by omega)]
    exact H
  · by_cases q : p' = p
    · subst q; exact ht
    · have H := hP p' hp'
      unfold PlI at H ⊢
      rw [up2_ne (fun z => q z.2), up2_ne (fun z => q z.2), up2_ne (fun z => q z.2)]
      exact H
  · rw [e _ _ (by omega)]; exact hb b hb9
  · rw [e _ _ (by omega)]; exact hz z hz9
  · rw [e _ _ (by omega)]; exact z1 k' j hj h1 h2
  · rw [e _ _ (by omega), e _ _ (by omega)]; exact z2 j hj
  · rw [up2_ne fun z => by omega]; exact z3 k' j hj h1 h2
  · rw [e _ _ (by omega), e _ _ (by omega)]; exact z4 j hj
  · rw [e _ _ (by omega), e _ _ (by omega), e _ _ (by omega)]; exact z5 j hj
theorem nI_min {a b : Nat} (ha : a < 2 ^ 31) (hb : b < 2 ^ 31) : mmin (nI a) (nI b) = nI (min a b) := by
  rw [mmin_le]
  by_cases h : a ≤ b
  · rw [if_pos (nI_le h hb), Nat.min_eq_left h]
  · rw [if_neg (nI_ge (by omega) ha), Nat.min_eq_right (by omega)]
theorem waitU_inv {p : Nat} (hp : p < np) (h : Inv n np nb nz nt tk t) : Inv n np nb nz nt tk (waitU t p) := by
  refine h.plat (by omega) hp ?_
  obtain ⟨h1, ⟨w, w1, w2⟩, ⟨r, r1, r2⟩⟩ := h.2.2.2.2.1 p hp
  unfold PlI
  simp only [up_6_1, up_6_2, up_6_3, up_6_4, up_6_5, up_6_7, up_6_8, up_6_10, up_6_11, up_6_12, up_6_13, up_6_14, up_6_15, up_6_16, up_6_17, up_6_18, up_6_19, up_6_20, up_6_21, up_6_22, up_6_23, up_6_24, up_6_25, up_6_26, up_6_27, up_6_28, up_6_29, up_6_30, up_6_31, up_6_32, up_6_33, up_6_34, up_6_35, up_6_36, up2_same]
  refine ⟨h1, ⟨min (w + r) 999, by omega, ?_⟩, r, r1, r2⟩
  rw [w2, r2, nI_add]
  exact nI_min (a := w + r) (b := 999) (by omega) (by omega)
theorem ones_dec : ∀ d, d < 16 → ∃ a, a < 9 ∧ 2 * ones9 (nI d) = nI a := by decide +kernel
theorem ones_bitc : ∀ d, d < 16 → bitc (nI d) = ones9 (nI d) := by decide +kernel
theorem many_rng {k p : Nat} (hk : k < nt) (h : Inv n np nb nz nt tk t) (hd : t 27 k ≠ -1) (hp : t 26 k = nI p) (hp2 : p < np) : ∃ a w q, w ≤ 999 ∧ q ≤ 120 ∧ t 6 p = nI w ∧ t 28 k = nI q ∧ 2 * ones9 (t 27 k) = nI a ∧ a < 9 ∧ manyS t k = nI (min (min a w) (120 - q)) := by
  obtain ⟨-, -, -, h4, -, ⟨q, q1, q2⟩, -⟩ := h.2.2.2.1 k hk
  obtain ⟨-, ⟨w, w1, w2⟩, -⟩ := h.2.2.2.2.1 p hp2
  obtain ⟨d, d1, d2⟩ := h4.resolve_left hd
  obtain ⟨a, a1, a2⟩ := ones_dec d (by omega)
  have hp6 := h.1.2.1
  refine ⟨a, w, q, w1, q1, w2, q2, by rw [d2]; exact a2, a1, ?_⟩
  unfold manyS
  rw [hp, cl0 (by omega), d2, a2, w2, q2, nI_min (by omega) (by omega), show (120 : Int32) = nI 120 from rfl, pk_sub q1, nI_min (by omega) (by omega)]
theorem boardU_inv {k : Nat} (hk : k < nt) (h : Inv n np nb nz nt tk t) : Inv n np nb nz nt tk (boardU t k) := by
  unfold boardU
  split
  · exact h
  · next hd =>
    obtain ⟨-, -, hs, -, h5, -⟩ := h.2.2.2.1 k hk
    obtain ⟨p, p1, p2⟩ := hs.resolve_left (h5 hd)
    obtain ⟨a, w, q, w1, q1, w2, q2, a2, a1, hm⟩ := many_rng hk h hd p2 p1
    have hp6 := h.1.2.1
    rw [hm, p2, cl0 (by omega), w2, q2, pk_sub (by omega), nI_add]
    have I1 : Inv n np nb nz nt tk (up2 t 6 p (nI (w - min (min a w) (120 - q)))) := by
      refine h.plat (by omega) p1 ?_
      obtain ⟨g1, -, g3⟩ := h.2.2.2.2.1 p p1
      unfold PlI
      simp only [up_6_1, up_6_2, up_6_3, up_6_4, up_6_5, up_6_7, up_6_8, up_6_10, up_6_11, up_6_12, up_6_13, up_6_14, up_6_15, up_6_16, up_6_17, up_6_18, up_6_19, up_6_20, up_6_21, up_6_22, up_6_23, up_6_24, up_6_25, up_6_26, up_6_27, up_6_28, up_6_29, up_6_30, up_6_31, up_6_32, up_6_33, up_6_34, up_6_35, up_6_36, up2_same]
      exact ⟨g1, ⟨_, by omega, rfl⟩, g3⟩
    refine I1.train (by omega) hk ?_
    obtain ⟨h1, h2, h3, h4, h5, h6, h7⟩ := I1.2.2.2.1 k hk
    unfold TrI
    simp only [up_28_1, up_28_2, up_28_3, up_28_4, up_28_5, up_28_6, up_28_7, up_28_8, up_28_10, up_28_11, up_28_12, up_28_13, up_28_14, up_28_15, up_28_16, up_28_17, up_28_18, up_28_19, up_28_20, up_28_21, up_28_22, up_28_23, up_28_24, up_28_25, up_28_26, up_28_27, up_28_29, up_28_30, up_28_31, up_28_32, up_28_33, up_28_34, up_28_35, up_28_36, up2_same]
    exact ⟨h1, h2, h3, h4, h5, ⟨_, by omega, rfl⟩, h7⟩
/-- the records -/
theorem Inv.rec {k j : Nat} {v : Int32} (h : Inv n np nb nz nt tk t) (hk : k = 35 ∨ k = 36) (hj : j < 1000 * nt) : Inv n np nb nz nt tk (up2 t k j v) := by
  obtain ⟨hc, htk, hq, hT, hP, hb, hz, z1, z2, z3, z4, z5⟩ := h
  have e : ∀ k' i', k' < 35 → up2 t k j v k' i' = t k' i' := fun k' i' q => up2_ne fun z => by omega
  refine ⟨?_, ?_, ?_, fun j hj => ?_, fun p hp => ?_, fun b hb9 => ?_, fun z hz9 => ?_, fun k' j hj h1 h2 => ?_, fun j' hj' => ?_, fun k' j hj h1 h2 => ?_, fun j hj => ?_, fun j hj => ?_⟩
  · unfold Cnt
    rw [e _ _ (by omega), e _ _ (by omega), e _ _ (by omega), e _ _ (by omega)]
    exact hc
  · rw [e _ _ (by omega)]; exact htk
  · rw [e _ _ (by omega)]; exact hq
  · have H := hT j hj
    unfold TrI at H ⊢
    rw [e _ _ (by omega), e _ _ (by omega), e _ _ (by omega), e _ _ (by omega), e _ _ (by omega), e _ _ (by omega), e _ _ (by omega), e _ _ (by omega), e _ _ (by omega)]
    exact H
  · unfold PlI
    rw [e _ _ (by omega), e _ _ (by omega), e _ _ (by omega)]
    exact hP p hp
  · rw [e _ _ (by omega)]; exact hb b hb9
  · rw [e _ _ (by omega)]; exact hz z hz9
  · rw [e _ _ (by omega)]; exact z1 k' j hj h1 h2
  · rw [up2_ne (fun z => by omega), up2_ne (fun z => by omega)]; exact z2 j' hj'
  · rw [e _ _ (by omega)]; exact z3 k' j hj h1 h2
  · rw [e _ _ (by omega), e _ _ (by omega)]; exact z4 j hj
  · rw [e _ _ (by omega), e _ _ (by omega), e _ _ (by omega)]; exact z5 j hj
theorem goV_inv {k : Nat} (hk : k < nt) (h : Inv n np nb nz nt tk t) : Inv n np nb nz nt tk (goV t tk k) := by
  have htk := h.2.1.2
  unfold goV
  exact ((((h.rec (Or.inl rfl) (by omega)).rec (Or.inr rfl) (by omega)).free (by omega) hk).free (by omega) hk).free (by omega) hk
theorem goU_inv {k : Nat} (hk : k < nt) (h : Inv n np nb nz nt tk t) : Inv n np nb nz nt tk (goU tk nb t k) := by
  unfold goU setU
  split
  · exact ((goV_inv hk h).free (by omega) hk).free (by omega) hk
  · exact goV_inv hk h
end IV
