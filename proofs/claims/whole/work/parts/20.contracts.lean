theorem bm_rf_cat (x : Option Nat) : (va_rf x).category = 1 := by cases x <;> rfl
def f_X0_copyFrom (I : bm_TI) (J : bm_TJ) (x0 : Nat) (x1 : Nat) : Option (bm_TI × bm_TJ) := some ((bm_uI (bm_uI (bm_uI (bm_uI (bm_uI (bm_uI (bm_uI (bm_yI (bm_yI (bm_yI (bm_yI (bm_yI (bm_yI (bm_yI (bm_yI I (x1 + 2) (x0 + 2) 0 0 8) (x1 + 3) (x0 + 3) 0 0 8) (x1 + 4) (x0 + 4) 0 0 8) (x1 + 5) (x0 + 5) 0 0 8) (x1 + 7) (x0 + 7) 0 0 7) (x1 + 8) (x0 + 8) 0 0 7) (x1 + 9) (x0 + 9) 0 0 4) (x1 + 10) (x0 + 10) 0 0 4) x0 10 ((bm_yI (bm_yI (bm_yI (bm_yI (bm_yI (bm_yI (bm_yI (bm_yI I (x1 + 2) (x0 + 2) 0 0 8) (x1 + 3) (x0 + 3) 0 0 8) (x1 + 4) (x0 + 4) 0 0 8) (x1 + 5) (x0 + 5) 0 0 8) (x1 + 7) (x0 + 7) 0 0 7) (x1 + 8) (x0 + 8) 0 0 7) (x1 + 9) (x0 + 9) 0 0 4) (x1 + 10) (x0 + 10) 0 0 4) x1 10)) x0 11 ((bm_uI (bm_yI (bm_yI (bm_yI (bm_yI (bm_yI (bm_yI (bm_yI (bm_yI I (x1 + 2) (x0 + 2) 0 0 8) (x1 + 3) (x0 + 3) 0 0 8) (x1 + 4) (x0 + 4) 0 0 8) (x1 + 5) (x0 + 5) 0 0 8) (x1 + 7) (x0 + 7) 0 0 7) (x1 + 8) (x0 + 8) 0 0 7) (x1 + 9) (x0 + 9) 0 0 4) (x1 + 10) (x0 + 10) 0 0 4) x0 10 ((bm_yI (bm_yI (bm_yI (bm_yI (bm_yI (bm_yI (bm_yI (bm_yI I (x1 + 2) (x0 + 2) 0 0 8) (x1 + 3) (x0 + 3) 0 0 8) (x1 + 4) (x0 + 4) 0 0 8) (x1 + 5) (x0 + 5) 0 0 8) (x1 + 7) (x0 + 7) 0 0 7) (x1 + 8) (x0 + 8) 0 0 7) (x1 + 9) (x0 + 9) 0 0 4) (x1 + 10) (x0 + 10) 0 0 4) x1 10)) x1 11)) x0 12 ((bm_uI (bm_uI (bm_yI (bm_yI (bm_yI (bm_yI (bm_yI (bm_yI (bm_yI (bm_yI I (x1 + 2) (x0 + 2) 0 0 8) (x1 + 3) (x0 + 3) 0 0 8) (x1 + 4) (x0 + 4) 0 0 8) (x1 + 5) (x0 + 5) 0 0 8) (x1 + 7) (x0 + 7) 0 0 7) (x1 + 8) (x0 + 8) 0 0 7) (x1 + 9) (x0 + 9) 0 0 4) (x1 + 10) (x0 + 10) 0 0 4) x0 10 ((bm_yI (bm_yI (bm_yI (bm_yI (bm_yI (bm_yI (bm_yI (bm_yI I (x1 + 2) (x0 + 2) 0 0 8) (x1 + 3) (x0 + 3) 0 0 8) (x1 + 4) (x0 + 4) 0 0 8) (x1 + 5) (x0 + 5) 0 0 8) (x1 + 7) (x0 + 7) 0 0 7) (x1 + 8) (x0 + 8) 0 0 7) (x1 + 9) (x0 + 9) 0 0 4) (x1 + 10) (x0 + 10) 0 0 4) x1 10)) x0 11 ((bm_uI (bm_yI (bm_yI (bm_yI (bm_yI (bm_yI (bm_yI (bm_yI (bm_yI I (x1 + 2) (x0 + 2) 0 0 8) (x1 + 3) (x0 + 3) 0 0 8) (x1 + 4) (x0 + 4) 0 0 8) (x1 + 5) (x0 + 5) 0 0 8) (x1 + 7) (x0 + 7) 0 0 7) (x1 + 8) (x0 + 8) 0 0 7) (x1 + 9) (x0 + 9) 0 0 4) (x1 + 10) (x0 + 10) 0 0 4) x0 10 ((bm_yI (bm_yI (bm_yI (bm_yI (bm_yI (bm_yI (bm_yI (bm_yI I (x1 + 2) (x0 + 2) 0 0 8) (x1 + 3) (x0 + 3) 0 0 8) (x1 + 4) (x0 + 4) 0 0 8) (x1 + 5) (x0 + 5) 0 0 8) (x1 + 7) (x0 + 7) 0 0 7) (x1 + 8) (x0 + 8) 0 0 7) (x1 + 9) (x0 + 9) 0 0 4) (x1 + 10) (x0 + 10) 0 0 4) x1 10)) x1 11)) x1 12)) x0 13 ((bm_uI (bm_uI (bm_uI (bm_yI (bm_yI (bm_yI (bm_yI (bm_yI (bm_yI (bm_yI (bm_yI I (x1 + 2) (x0 + 2) 0 0 8) (x1 + 3) (x0 + 3) 0 0 8) (x1 + 4) (x0 + 4) 0 0 8) (x1 + 5) (x0 + 5) 0 0 8) (x1 + 7) (x0 + 7) 0 0 7) (x1 + 8) (x0 + 8) 0 0 7) (x1 + 9) (x0 + 9) 0 0 4) (x1 + 10) (x0 + 10) 0 0 4) x0 10 ((bm_yI (bm_yI (bm_yI (bm_yI (bm_yI (bm_yI (bm_yI (bm_yI I (x1 + 2) (x0 + 2) 0 0 8) (x1 + 3) (x0 + 3) 0 0 8) (x1 + 4) (x0 + 4) 0 0 8) (x1 + 5) (x0 + 5) 0 0 8) (x1 + 7) (x0 + 7) 0 0 7) (x1 + 8) (x0 + 8) 0 0 7) (x1 + 9) (x0 + 9) 0 0 4) (x1 + 10) (x0 + 10) 0 0 4) x1 10)) x0 11 ((bm_uI (bm_yI (bm_yI (bm_yI (bm_yI (bm_yI (bm_yI (bm_yI (bm_yI I (x1 + 2) (x0 + 2) 0 0 8) (x1 + 3) (x0 + 3) 0 0 8) (x1 + 4) (x0 + 4) 0 0 8) (x1 + 5) (x0 + 5) 0 0 8) (x1 + 7) (x0 + 7) 0 0 7) (x1 + 8) (x0 + 8) 0 0 7) (x1 + 9) (x0 + 9) 0 0 4) (x1 + 10) (x0 + 10) 0 0 4) x0 10 ((bm_yI (bm_yI (bm_yI (bm_yI (bm_yI (bm_yI (bm_yI (bm_yI I (x1 + 2) (x0 + 2) 0 0 8) (x1 + 3) (x0 + 3) 0 0 8) (x1 + 4) (x0 + 4) 0 0 8) (x1 + 5) (x0 + 5) 0 0 8) (x1 + 7) (x0 + 7) 0 0 7) (x1 + 8) (x0 + 8) 0 0 7) (x1 + 9) (x0 + 9) 0 0 4) (x1 + 10) (x0 + 10) 0 0 4) x1 10)) x1 11)) x0 12 ((bm_uI (bm_uI (bm_yI (bm_yI (bm_yI (bm_yI (bm_yI (bm_yI (bm_yI (bm_yI I (x1 + 2) (x0 + 2) 0 0 8) (x1 + 3) (x0 + 3) 0 0 8) (x1 + 4) (x0 + 4) 0 0 8) (x1 + 5) (x0 + 5) 0 0 8) (x1 + 7) (x0 + 7) 0 0 7) (x1 + 8) (x0 + 8) 0 0 7) (x1 + 9) (x0 + 9) 0 0 4) (x1 + 10) (x0 + 10) 0 0 4) x0 10 ((bm_yI (bm_yI (bm_yI (bm_yI (bm_yI (bm_yI (bm_yI (bm_yI I (x1 + 2) (x0 + 2) 0 0 8) (x1 + 3) (x0 + 3) 0 0 8) (x1 + 4) (x0 + 4) 0 0 8) (x1 + 5) (x0 + 5) 0 0 8) (x1 + 7) (x0 + 7) 0 0 7) (x1 + 8) (x0 + 8) 0 0 7) (x1 + 9) (x0 + 9) 0 0 4) (x1 + 10) (x0 + 10) 0 0 4) x1 10)) x0 11 ((bm_uI (bm_yI (bm_yI (bm_yI (bm_yI (bm_yI (bm_yI (bm_yI (bm_yI I (x1 + 2) (x0 + 2) 0 0 8) (x1 + 3) (x0 + 3) 0 0 8) (x1 + 4) (x0 + 4) 0 0 8) (x1 + 5) (x0 + 5) 0 0 8) (x1 + 7) (x0 + 7) 0 0 7) (x1 + 8) (x0 + 8) 0 0 7) (x1 + 9) (x0 + 9) 0 0 4) (x1 + 10) (x0 + 10) 0 0 4) x0 10 ((bm_yI (bm_yI (bm_yI (bm_yI (bm_yI (bm_yI (bm_yI (bm_yI I (x1 + 2) (x0 + 2) 0 0 8) (x1 + 3) (x0 + 3) 0 0 8) (x1 + 4) (x0 + 4) 0 0 8) (x1 + 5) (x0 + 5) 0 0 8) (x1 + 7) (x0 + 7) 0 0 7) (x1 + 8) (x0 + 8) 0 0 7) (x1 + 9) (x0 + 9) 0 0 4) (x1 + 10) (x0 + 10) 0 0 4) x1 10)) x1 11)) x1 12)) x1 13)) x0 14 ((bm_uI (bm_uI (bm_uI (bm_uI (bm_yI (bm_yI (bm_yI (bm_yI (bm_yI (bm_yI (bm_yI (bm_yI I (x1 + 2) (x0 + 2) 0 0 8) (x1 + 3) (x0 + 3) 0 0 8) (x1 + 4) (x0 + 4) 0 0 8) (x1 + 5) (x0 + 5) 0 0 8) (x1 + 7) (x0 + 7) 0 0 7) (x1 + 8) (x0 + 8) 0 0 7) (x1 + 9) (x0 + 9) 0 0 4) (x1 + 10) (x0 + 10) 0 0 4) x0 10 ((bm_yI (bm_yI (bm_yI (bm_yI (bm_yI (bm_yI (bm_yI (bm_yI I (x1 + 2) (x0 + 2) 0 0 8) (x1 + 3) (x0 + 3) 0 0 8) (x1 + 4) (x0 + 4) 0 0 8) (x1 + 5) (x0 + 5) 0 0 8) (x1 + 7) (x0 + 7) 0 0 7) (x1 + 8) (x0 + 8) 0 0 7) (x1 + 9) (x0 + 9) 0 0 4) (x1 + 10) (x0 + 10) 0 0 4) x1 10)) x0 11 ((bm_uI (bm_yI (bm_yI (bm_yI (bm_yI (bm_yI (bm_yI (bm_yI (bm_yI I (x1 + 2) (x0 + 2) 0 0 8) (x1 + 3) (x0 + 3) 0 0 8) (x1 + 4) (x0 + 4) 0 0 8) (x1 + 5) (x0 + 5) 0 0 8) (x1 + 7) (x0 + 7) 0 0 7) (x1 + 8) (x0 + 8) 0 0 7) (x1 + 9) (x0 + 9) 0 0 4) (x1 + 10) (x0 + 10) 0 0 4) x0 10 ((bm_yI (bm_yI (bm_yI (bm_yI (bm_yI (bm_yI (bm_yI (bm_yI I (x1 + 2) (x0 + 2) 0 0 8) (x1 + 3) (x0 + 3) 0 0 8) (x1 + 4) (x0 + 4) 0 0 8) (x1 + 5) (x0 + 5) 0 0 8) (x1 + 7) (x0 + 7) 0 0 7) (x1 + 8) (x0 + 8) 0 0 7) (x1 + 9) (x0 + 9) 0 0 4) (x1 + 10) (x0 + 10) 0 0 4) x1 10)) x1 11)) x0 12 ((bm_uI (bm_uI (bm_yI (bm_yI (bm_yI (bm_yI (bm_yI (bm_yI (bm_yI (bm_yI I (x1 + 2) (x0 + 2) 0 0 8) (x1 + 3) (x0 + 3) 0 0 8) (x1 + 4) (x0 + 4) 0 0 8) (x1 + 5) (x0 + 5) 0 0 8) (x1 + 7) (x0 + 7) 0 0 7) (x1 + 8) (x0 + 8) 0 0 7) (x1 + 9) (x0 + 9) 0 0 4) (x1 + 10) (x0 + 10) 0 0 4) x0 10 ((bm_yI (bm_yI (bm_yI (bm_yI (bm_yI (bm_yI (bm_yI (bm_yI I (x1 + 2) (x0 + 2) 0 0 8) (x1 + 3) (x0 + 3) 0 0 8) (x1 + 4) (x0 + 4) 0 0 8) (x1 + 5) (x0 + 5) 0 0 8) (x1 + 7) (x0 + 7) 0 0 7) (x1 + 8) (x0 + 8) 0 0 7) (x1 + 9) (x0 + 9) 0 0 4) (x1 + 10) (x0 + 10) 0 0 4) x1 10)) x0 11 ((bm_uI (bm_yI (bm_yI (bm_yI (bm_yI (bm_yI (bm_yI (bm_yI (bm_yI I (x1 + 2) (x0 + 2) 0 0 8) (x1 + 3) (x0 + 3) 0 0 8) (x1 + 4) (x0 + 4) 0 0 8) (x1 + 5) (x0 + 5) 0 0 8) (x1 + 7) (x0 + 7) 0 0 7) (x1 + 8) (x0 + 8) 0 0 7) (x1 + 9) (x0 + 9) 0 0 4) (x1 + 10) (x0 + 10) 0 0 4) x0 10 ((bm_yI (bm_yI (bm_yI (bm_yI (bm_yI (bm_yI (bm_yI (bm_yI I (x1 + 2) (x0 + 2) 0 0 8) (x1 + 3) (x0 + 3) 0 0 8) (x1 + 4) (x0 + 4) 0 0 8) (x1 + 5) (x0 + 5) 0 0 8) (x1 + 7) (x0 + 7) 0 0 7) (x1 + 8) (x0 + 8) 0 0 7) (x1 + 9) (x0 + 9) 0 0 4) (x1 + 10) (x0 + 10) 0 0 4) x1 10)) x1 11)) x1 12)) x0 13 ((bm_uI (bm_uI (bm_uI (bm_yI (bm_yI (bm_yI (bm_yI (bm_yI (bm_yI (bm_yI (bm_yI I (x1 + 2) (x0 + 2) 0 0 8) (x1 + 3) (x0 + 3) 0 0 8) (x1 + 4) (x0 + 4) 0 0 8) (x1 + 5) (x0 + 5) 0 0 8) (x1 + 7) (x0 + 7) 0 0 7) (x1 + 8) (x0 + 8) 0 0 7) (x1 + 9) (x0 + 9) 0 0 4) (x1 + 10) (x0 + 10) 0 0 4) x0 10 ((bm_yI (bm_yI (bm_yI (bm_yI (bm_yI (bm_yI (bm_yI (bm_yI I (x1 + 2) (x0 + 2) 0 0 8) (x1 + 3) (x0 + 3) 0 0 8) (x1 + 4) (x0 + 4) 0 0 8) (x1 + 5) (x0 + 5) 0 0 8) (x1 + 7) (x0 + 7) 0 0 7) (x1 + 8) (x0 + 8) 0 0 7) (x1 + 9) (x0 + 9) 0 0 4) (x1 + 10) (x0 + 10) 0 0 4) x1 10)) x0 11 ((bm_uI (bm_yI (bm_yI (bm_yI (bm_yI (bm_yI (bm_yI (bm_yI (bm_yI I (x1 + 2) (x0 + 2) 0 0 8) (x1 + 3) (x0 + 3) 0 0 8) (x1 + 4) (x0 + 4) 0 0 8) (x1 + 5) (x0 + 5) 0 0 8) (x1 + 7) (x0 + 7) 0 0 7) (x1 + 8) (x0 + 8) 0 0 7) (x1 + 9) (x0 + 9) 0 0 4) (x1 + 10) (x0 + 10) 0 0 4) x0 10 ((bm_yI (bm_yI (bm_yI (bm_yI (bm_yI (bm_yI (bm_yI (bm_yI I (x1 + 2) (x0 + 2) 0 0 8) (x1 + 3) (x0 + 3) 0 0 8) (x1 + 4) (x0 + 4) 0 0 8) (x1 + 5) (x0 + 5) 0 0 8) (x1 + 7) (x0 + 7) 0 0 7) (x1 + 8) (x0 + 8) 0 0 7) (x1 + 9) (x0 + 9) 0 0 4) (x1 + 10) (x0 + 10) 0 0 4) x1 10)) x1 11)) x0 12 ((bm_uI (bm_uI (bm_yI (bm_yI (bm_yI (bm_yI (bm_yI (bm_yI (bm_yI (bm_yI I (x1 + 2) (x0 + 2) 0 0 8) (x1 + 3) (x0 + 3) 0 0 8) (x1 + 4) (x0 + 4) 0 0 8) (x1 + 5) (x0 + 5) 0 0 8) (x1 + 7) (x0 + 7) 0 0 7) (x1 + 8) (x0 + 8) 0 0 7) (x1 + 9) (x0 + 9) 0 0 4) (x1 + 10) (x0 + 10) 0 0 4) x0 10 ((bm_yI (bm_yI (bm_yI (bm_yI (bm_yI (bm_yI (bm_yI (bm_yI I (x1 + 2) (x0 + 2) 0 0 8) (x1 + 3) (x0 + 3) 0 0 8) (x1 + 4) (x0 + 4) 0 0 8) (x1 + 5) (x0 + 5) 0 0 8) (x1 + 7) (x0 + 7) 0 0 7) (x1 + 8) (x0 + 8) 0 0 7) (x1 + 9) (x0 + 9) 0 0 4) (x1 + 10) (x0 + 10) 0 0 4) x1 10)) x0 11 ((bm_uI (bm_yI (bm_yI (bm_yI (bm_yI (bm_yI (bm_yI (bm_yI (bm_yI I (x1 + 2) (x0 + 2) 0 0 8) (x1 + 3) (x0 + 3) 0 0 8) (x1 + 4) (x0 + 4) 0 0 8) (x1 + 5) (x0 + 5) 0 0 8) (x1 + 7) (x0 + 7) 0 0 7) (x1 + 8) (x0 + 8) 0 0 7) (x1 + 9) (x0 + 9) 0 0 4) (x1 + 10) (x0 + 10) 0 0 4) x0 10 ((bm_yI (bm_yI (bm_yI (bm_yI (bm_yI (bm_yI (bm_yI (bm_yI I (x1 + 2) (x0 + 2) 0 0 8) (x1 + 3) (x0 + 3) 0 0 8) (x1 + 4) (x0 + 4) 0 0 8) (x1 + 5) (x0 + 5) 0 0 8) (x1 + 7) (x0 + 7) 0 0 7) (x1 + 8) (x0 + 8) 0 0 7) (x1 + 9) (x0 + 9) 0 0 4) (x1 + 10) (x0 + 10) 0 0 4) x1 10)) x1 11)) x1 12)) x1 13)) x1 14)) x0 15 ((bm_uI (bm_uI (bm_uI (bm_uI (bm_uI (bm_yI (bm_yI (bm_yI (bm_yI (bm_yI (bm_yI (bm_yI (bm_yI I (x1 + 2) (x0 + 2) 0 0 8) (x1 + 3) (x0 + 3) 0 0 8) (x1 + 4) (x0 + 4) 0 0 8) (x1 + 5) (x0 + 5) 0 0 8) (x1 + 7) (x0 + 7) 0 0 7) (x1 + 8) (x0 + 8) 0 0 7) (x1 + 9) (x0 + 9) 0 0 4) (x1 + 10) (x0 + 10) 0 0 4) x0 10 ((bm_yI (bm_yI (bm_yI (bm_yI (bm_yI (bm_yI (bm_yI (bm_yI I (x1 + 2) (x0 + 2) 0 0 8) (x1 + 3) (x0 + 3) 0 0 8) (x1 + 4) (x0 + 4) 0 0 8) (x1 + 5) (x0 + 5) 0 0 8) (x1 + 7) (x0 + 7) 0 0 7) (x1 + 8) (x0 + 8) 0 0 7) (x1 + 9) (x0 + 9) 0 0 4) (x1 + 10) (x0 + 10) 0 0 4) x1 10)) x0 11 ((bm_uI (bm_yI (bm_yI (bm_yI (bm_yI (bm_yI (bm_yI (bm_yI (bm_yI I (x1 + 2) (x0 + 2) 0 0 8) (x1 + 3) (x0 + 3) 0 0 8) (x1 + 4) (x0 + 4) 0 0 8) (x1 + 5) (x0 + 5) 0 0 8) (x1 + 7) (x0 + 7) 0 0 7) (x1 + 8) (x0 + 8) 0 0 7) (x1 + 9) (x0 + 9) 0 0 4) (x1 + 10) (x0 + 10) 0 0 4) x0 10 ((bm_yI (bm_yI (bm_yI (bm_yI (bm_yI (bm_yI (bm_yI (bm_yI I (x1 + 2) (x0 + 2) 0 0 8) (x1 + 3) (x0 + 3) 0 0 8) (x1 + 4) (x0 + 4) 0 0 8) (x1 + 5) (x0 + 5) 0 0 8) (x1 + 7) (x0 + 7) 0 0 7) (x1 + 8) (x0 + 8) 0 0 7) (x1 + 9) (x0 + 9) 0 0 4) (x1 + 10) (x0 + 10) 0 0 4) x1 10)) x1 11)) x0 12 ((bm_uI (bm_uI (bm_yI (bm_yI (bm_yI (bm_yI (bm_yI (bm_yI (bm_yI (bm_yI I (x1 + 2) (x0 + 2) 0 0 8) (x1 + 3) (x0 + 3) 0 0 8) (x1 + 4) (x0 + 4) 0 0 8) (x1 + 5) (x0 + 5) 0 0 8) (x1 + 7) (x0 + 7) 0 0 7) (x1 + 8) (x0 + 8) 0 0 7) (x1 + 9) (x0 + 9) 0 0 4) (x1 + 10) (x0 + 10) 0 0 4) x0 10 ((bm_yI (bm_yI (bm_yI (bm_yI (bm_yI (bm_yI (bm_yI (bm_yI I (x1 + 2) (x0 + 2) 0 0 8) (x1 + 3) (x0 + 3) 0 0 8) (x1 + 4) (x0 + 4) 0 0 8) (x1 + 5) (x0 + 5) 0 0 8) (x1 + 7) (x0 + 7) 0 0 7) (x1 + 8) (x0 + 8) 0 0 7) (x1 + 9) (x0 + 9) 0 0 4) (x1 + 10) (x0 + 10) 0 0 4) x1 10)) x0 11 ((bm_uI (bm_yI (bm_yI (bm_yI (bm_yI (bm_yI (bm_yI (bm_yI (bm_yI I (x1 + 2) (x0 + 2) 0 0 8) (x1 + 3) (x0 + 3) 0 0 8) (x1 + 4) (x0 + 4) 0 0 8) (x1 + 5) (x0 + 5) 0 0 8) (x1 + 7) (x0 + 7) 0 0 7) (x1 + 8) (x0 + 8) 0 0 7) (x1 + 9) (x0 + 9) 0 0 4) (x1 + 10) (x0 + 10) 0 0 4) x0 10 ((bm_yI (bm_yI (bm_yI (bm_yI (bm_yI (bm_yI (bm_yI (bm_yI I (x1 + 2) (x0 + 2) 0 0 8) (x1 + 3) (x0 + 3) 0 0 8) (x1 + 4) (x0 + 4) 0 0 8) (x1 + 5) (x0 + 5) 0 0 8) (x1 + 7) (x0 + 7) 0 0 7) (x1 + 8) (x0 + 8) 0 0 7) (x1 + 9) (x0 + 9) 0 0 4) (x1 + 10) (x0 + 10) 0 0 4) x1 10)) x1 11)) x1 12)) x0 13 ((bm_uI (bm_uI (bm_uI (bm_yI (bm_yI (bm_yI (bm_yI (bm_yI (bm_yI (bm_yI (bm_yI I (x1 + 2) (x0 + 2) 0 0 8) (x1 + 3) (x0 + 3) 0 0 8) (x1 + 4) (x0 + 4) 0 0 8) (x1 + 5) (x0 + 5) 0 0 8) (x1 + 7) (x0 + 7) 0 0 7) (x1 + 8) (x0 + 8) 0 0 7) (x1 + 9) (x0 + 9) 0 0 4) (x1 + 10) (x0 + 10) 0 0 4) x0 10 ((bm_yI (bm_yI (bm_yI (bm_yI (bm_yI (bm_yI (bm_yI (bm_yI I (x1 + 2) (x0 + 2) 0 0 8) (x1 + 3) (x0 + 3) 0 0 8) (x1 + 4) (x0 + 4) 0 0 8) (x1 + 5) (x0 + 5) 0 0 8) (x1 + 7) (x0 + 7) 0 0 7) (x1 + 8) (x0 + 8) 0 0 7) (x1 + 9) (x0 + 9) 0 0 4) (x1 + 10) (x0 + 10) 0 0 4) x1 10)) x0 11 ((bm_uI (bm_yI (bm_yI (bm_yI (bm_yI (bm_yI (bm_yI (bm_yI (bm_yI I (x1 + 2) (x0 + 2) 0 0 8) (x1 + 3) (x0 + 3) 0 0 8) (x1 + 4) (x0 + 4) 0 0 8) (x1 + 5) (x0 + 5) 0 0 8) (x1 + 7) (x0 + 7) 0 0 7) (x1 + 8) (x0 + 8) 0 0 7) (x1 + 9) (x0 + 9) 0 0 4) (x1 + 10) (x0 + 10) 0 0 4) x0 10 ((bm_yI (bm_yI (bm_yI (bm_yI (bm_yI (bm_yI (bm_yI (bm_yI I (x1 + 2) (x0 + 2) 0 0 8) (x1 + 3) (x0 + 3) 0 0 8) (x1 + 4) (x0 + 4) 0 0 8) (x1 + 5) (x0 + 5) 0 0 8) (x1 + 7) (x0 + 7) 0 0 7) (x1 + 8) (x0 + 8) 0 0 7) (x1 + 9) (x0 + 9) 0 0 4) (x1 + 10) (x0 + 10) 0 0 4) x1 10)) x1 11)) x0 12 ((bm_uI (bm_uI (bm_yI (bm_yI (bm_yI (bm_yI (bm_yI (bm_yI (bm_yI (bm_yI I (x1 + 2) (x0 + 2) 0 0 8) (x1 + 3) (x0 + 3) 0 0 8) (x1 + 4) (x0 + 4) 0 0 8) (x1 + 5) (x0 + 5) 0 0 8) (x1 + 7) (x0 + 7) 0 0 7) (x1 + 8) (x0 + 8) 0 0 7) (x1 + 9) (x0 + 9) 0 0 4) (x1 + 10) (x0 + 10) 0 0 4) x0 10 ((bm_yI (bm_yI (bm_yI (bm_yI (bm_yI (bm_yI (bm_yI (bm_yI I (x1 + 2) (x0 + 2) 0 0 8) (x1 + 3) (x0 + 3) 0 0 8) (x1 + 4) (x0 + 4) 0 0 8) (x1 + 5) (x0 + 5) 0 0 8) (x1 + 7) (x0 + 7) 0 0 7) (x1 + 8) (x0 + 8) 0 0 7) (x1 + 9) (x0 + 9) 0 0 4) (x1 + 10) (x0 + 10) 0 0 4) x1 10)) x0 11 ((bm_uI (bm_yI (bm_yI (bm_yI (bm_yI (bm_yI (bm_yI (bm_yI (bm_yI I (x1 + 2) (x0 + 2) 0 0 8) (x1 + 3) (x0 + 3) 0 0 8) (x1 + 4) (x0 + 4) 0 0 8) (x1 + 5) (x0 + 5) 0 0 8) (x1 + 7) (x0 + 7) 0 0 7) (x1 + 8) (x0 + 8) 0 0 7) (x1 + 9) (x0 + 9) 0 0 4) (x1 + 10) (x0 + 10) 0 0 4) x0 10 ((bm_yI (bm_yI (bm_yI (bm_yI (bm_yI (bm_yI (bm_yI (bm_yI I (x1 + 2) (x0 + 2) 0 0 8) (x1 + 3) (x0 + 3) 0 0 8) (x1 + 4) (x0 + 4) 0 0 8) (x1 + 5) (x0 + 5) 0 0 8) (x1 + 7) (x0 + 7) 0 0 7) (x1 + 8) (x0 + 8) 0 0 7) (x1 + 9) (x0 + 9) 0 0 4) (x1 + 10) (x0 + 10) 0 0 4) x1 10)) x1 11)) x1 12)) x1 13)) x0 14 ((bm_uI (bm_uI (bm_uI (bm_uI (bm_yI (bm_yI (bm_yI (bm_yI (bm_yI (bm_yI (bm_yI (bm_yI I (x1 + 2) (x0 + 2) 0 0 8) (x1 + 3) (x0 + 3) 0 0 8) (x1 + 4) (x0 + 4) 0 0 8) (x1 + 5) (x0 + 5) 0 0 8) (x1 + 7) (x0 + 7) 0 0 7) (x1 + 8) (x0 + 8) 0 0 7) (x1 + 9) (x0 + 9) 0 0 4) (x1 + 10) (x0 + 10) 0 0 4) x0 10 ((bm_yI (bm_yI (bm_yI (bm_yI (bm_yI (bm_yI (bm_yI (bm_yI I (x1 + 2) (x0 + 2) 0 0 8) (x1 + 3) (x0 + 3) 0 0 8) (x1 + 4) (x0 + 4) 0 0 8) (x1 + 5) (x0 + 5) 0 0 8) (x1 + 7) (x0 + 7) 0 0 7) (x1 + 8) (x0 + 8) 0 0 7) (x1 + 9) (x0 + 9) 0 0 4) (x1 + 10) (x0 + 10) 0 0 4) x1 10)) x0 11 ((bm_uI (bm_yI (bm_yI (bm_yI (bm_yI (bm_yI (bm_yI (bm_yI (bm_yI I (x1 + 2) (x0 + 2) 0 0 8) (x1 + 3) (x0 + 3) 0 0 8) (x1 + 4) (x0 + 4) 0 0 8) (x1 + 5) (x0 + 5) 0 0 8) (x1 + 7) (x0 + 7) 0 0 7) (x1 + 8) (x0 + 8) 0 0 7) (x1 + 9) (x0 + 9) 0 0 4) (x1 + 10) (x0 + 10) 0 0 4) x0 10 ((bm_yI (bm_yI (bm_yI (bm_yI (bm_yI (bm_yI (bm_yI (bm_yI I (x1 + 2) (x0 + 2) 0 0 8) (x1 + 3) (x0 + 3) 0 0 8) (x1 + 4) (x0 + 4) 0 0 8) (x1 + 5) (x0 + 5) 0 0 8) (x1 + 7) (x0 + 7) 0 0 7) (x1 + 8) (x0 + 8) 0 0 7) (x1 + 9) (x0 + 9) 0 0 4) (x1 + 10) (x0 + 10) 0 0 4) x1 10)) x1 11)) x0 12 ((bm_uI (bm_uI (bm_yI (bm_yI (bm_yI (bm_yI (bm_yI (bm_yI (bm_yI (bm_yI I (x1 + 2) (x0 + 2) 0 0 8) (x1 + 3) (x0 + 3) 0 0 8) (x1 + 4) (x0 + 4) 0 0 8) (x1 + 5) (x0 + 5) 0 0 8) (x1 + 7) (x0 + 7) 0 0 7) (x1 + 8) (x0 + 8) 0 0 7) (x1 + 9) (x0 + 9) 0 0 4) (x1 + 10) (x0 + 10) 0 0 4) x0 10 ((bm_yI (bm_yI (bm_yI (bm_yI (bm_yI (bm_yI (bm_yI (bm_yI I (x1 + 2) (x0 + 2) 0 0 8) (x1 + 3) (x0 + 3) 0 0 8) (x1 + 4) (x0 + 4) 0 0 8) (x1 + 5) (x0 + 5) 0 0 8) (x1 + 7) (x0 + 7) 0 0 7) (x1 + 8) (x0 + 8) 0 0 7) (x1 + 9) (x0 + 9) 0 0 4) (x1 + 10) (x0 + 10) 0 0 4) x1 10)) x0 11 ((bm_uI (bm_yI (bm_yI (bm_yI (bm_yI (bm_yI (bm_yI (bm_yI (bm_yI I (x1 + 2) (x0 + 2) 0 0 8) (x1 + 3) (x0 + 3) 0 0 8) (x1 + 4) (x0 + 4) 0 0 8) (x1 + 5) (x0 + 5) 0 0 8) (x1 + 7) (x0 + 7) 0 0 7) (x1 + 8) (x0 + 8) 0 0 7) (x1 + 9) (x0 + 9) 0 0 4) (x1 + 10) (x0 + 10) 0 0 4) x0 10 ((bm_yI (bm_yI (bm_yI (bm_yI (bm_yI (bm_yI (bm_yI (bm_yI I (x1 + 2) (x0 + 2) 0 0 8) (x1 + 3) (x0 + 3) 0 0 8) (x1 + 4) (x0 + 4) 0 0 8) (x1 + 5) (x0 + 5) 0 0 8) (x1 + 7) (x0 + 7) 0 0 7) (x1 + 8) (x0 + 8) 0 0 7) (x1 + 9) (x0 + 9) 0 0 4) (x1 + 10) (x0 + 10) 0 0 4) x1 10)) x1 11)) x1 12)) x0 13 ((bm_uI (bm_uI (bm_uI (bm_yI (bm_yI (bm_yI (bm_yI (bm_yI (bm_yI (bm_yI (bm_yI I (x1 + 2) (x0 + 2) 0 0 8) (x1 + 3) (x0 + 3) 0 0 8) (x1 + 4) (x0 + 4) 0 0 8) (x1 + 5) (x0 + 5) 0 0 8) (x1 + 7) (x0 + 7) 0 0 7) (x1 + 8) (x0 + 8) 0 0 7) (x1 + 9) (x0 + 9) 0 0 4) (x1 + 10) (x0 + 10) 0 0 4) x0 10 ((bm_yI (bm_yI (bm_yI (bm_yI (bm_yI (bm_yI (bm_yI (bm_yI I (x1 + 2) (x0 + 2) 0 0 8) (x1 + 3) (x0 + 3) 0 0 8) (x1 + 4) (x0 + 4) 0 0 8) (x1 + 5) (x0 + 5) 0 0 8) (x1 + 7) (x0 + 7) 0 0 7) (x1 + 8) (x0 + 8) 0 0 7) (x1 + 9) (x0 + 9) 0 0 4) (x1 + 10) (x0 + 10) 0 0 4) x1 10)) x0 11 ((bm_uI (bm_yI (bm_yI (bm_yI (bm_yI (bm_yI (bm_yI (bm_yI (bm_yI I (x1 + 2) (x0 + 2) 0 0 8) (x1 + 3) (x0 + 3) 0 0 8) (x1 + 4) (x0 + 4) 0 0 8) (x1 + 5) (x0 + 5) 0 0 8) (x1 + 7) (x0 + 7) 0 0 7) (x1 + 8) (x0 + 8) 0 0 7) (x1 + 9) (x0 + 9) 0 0 4) (x1 + 10) (x0 + 10) 0 0 4) x0 10 ((bm_yI (bm_yI (bm_yI (bm_yI (bm_yI (bm_yI (bm_yI (bm_yI I (x1 + 2) (x0 + 2) 0 0 8) (x1 + 3) (x0 + 3) 0 0 8) (x1 + 4) (x0 + 4) 0 0 8) (x1 + 5) (x0 + 5) 0 0 8) (x1 + 7) (x0 + 7) 0 0 7) (x1 + 8) (x0 + 8) 0 0 7) (x1 + 9) (x0 + 9) 0 0 4) (x1 + 10) (x0 + 10) 0 0 4) x1 10)) x1 11)) x0 12 ((bm_uI (bm_uI (bm_yI (bm_yI (bm_yI (bm_yI (bm_yI (bm_yI (bm_yI (bm_yI I (x1 + 2) (x0 + 2) 0 0 8) (x1 + 3) (x0 + 3) 0 0 8) (x1 + 4) (x0 + 4) 0 0 8) (x1 + 5) (x0 + 5) 0 0 8) (x1 + 7) (x0 + 7) 0 0 7) (x1 + 8) (x0 + 8) 0 0 7) (x1 + 9) (x0 + 9) 0 0 4) (x1 + 10) (x0 + 10) 0 0 4) x0 10 ((bm_yI (bm_yI (bm_yI (bm_yI (bm_yI (bm_yI (bm_yI (bm_yI I (x1 + 2) (x0 + 2) 0 0 8) (x1 + 3) (x0 + 3) 0 0 8) (x1 + 4) (x0 + 4) 0 0 8) (x1 + 5) (x0 + 5) 0 0 8) (x1 + 7) (x0 + 7) 0 0 7) (x1 + 8) (x0 + 8) 0 0 7) (x1 + 9) (x0 + 9) 0 0 4) (x1 + 10) (x0 + 10) 0 0 4) x1 10)) x0 11 ((bm_uI (bm_yI (bm_yI (bm_yI (bm_yI (bm_yI (bm_yI (bm_yI (bm_yI I (x1 + 2) (x0 + 2) 0 0 8) (x1 + 3) (x0 + 3) 0 0 8) (x1 + 4) (x0 + 4) 0 0 8) (x1 + 5) (x0 + 5) 0 0 8) (x1 + 7) (x0 + 7) 0 0 7) (x1 + 8) (x0 + 8) 0 0 7) (x1 + 9) (x0 + 9) 0 0 4) (x1 + 10) (x0 + 10) 0 0 4) x0 10 ((bm_yI (bm_yI (bm_yI (bm_yI (bm_yI (bm_yI (bm_yI (bm_yI I (x1 + 2) (x0 + 2) 0 0 8) (x1 + 3) (x0 + 3) 0 0 8) (x1 + 4) (x0 + 4) 0 0 8) (x1 + 5) (x0 + 5) 0 0 8) (x1 + 7) (x0 + 7) 0 0 7) (x1 + 8) (x0 + 8) 0 0 7) (x1 + 9) (x0 + 9) 0 0 4) (x1 + 10) (x0 + 10) 0 0 4) x1 10)) x1 11)) x1 12)) x1 13)) x1 14)) x1 15)) x0 16 ((bm_uI (bm_uI (bm_uI (bm_uI (bm_uI (bm_uI (bm_yI (bm_yI (bm_yI (bm_yI (bm_yI (bm_yI (bm_yI (bm_yI I (x1 + 2) (x0 + 2) 0 0 8) (x1 + 3) (x0 + 3) 0 0 8) (x1 + 4) (x0 + 4) 0 0 8) (x1 + 5) (x0 + 5) 0 0 8) (x1 + 7) (x0 + 7) 0 0 7) (x1 + 8) (x0 + 8) 0 0 7) (x1 + 9) (x0 + 9) 0 0 4) (x1 + 10) (x0 + 10) 0 0 4) x0 10 ((bm_yI (bm_yI (bm_yI (bm_yI (bm_yI (bm_yI (bm_yI (bm_yI I (x1 + 2) (x0 + 2) 0 0 8) (x1 + 3) (x0 + 3) 0 0 8) (x1 + 4) (x0 + 4) 0 0 8) (x1 + 5) (x0 + 5) 0 0 8) (x1 + 7) (x0 + 7) 0 0 7) (x1 + 8) (x0 + 8) 0 0 7) (x1 + 9) (x0 + 9) 0 0 4) (x1 + 10) (x0 + 10) 0 0 4) x1 10)) x0 11 ((bm_uI (bm_yI (bm_yI (bm_yI (bm_yI (bm_yI (bm_yI (bm_yI (bm_yI I (x1 + 2) (x0 + 2) 0 0 8) (x1 + 3) (x0 + 3) 0 0 8) (x1 + 4) (x0 + 4) 0 0 8) (x1 + 5) (x0 + 5) 0 0 8) (x1 + 7) (x0 + 7) 0 0 7) (x1 + 8) (x0 + 8) 0 0 7) (x1 + 9) (x0 + 9) 0 0 4) (x1 + 10) (x0 + 10) 0 0 4) x0 10 ((bm_yI (bm_yI (bm_yI (bm_yI (bm_yI (bm_yI (bm_yI (bm_yI I (x1 + 2) (x0 + 2) 0 0 8) (x1 + 3) (x0 + 3) 0 0 8) (x1 + 4) (x0 + 4) 0 0 8) (x1 + 5) (x0 + 5) 0 0 8) (x1 + 7) (x0 + 7) 0 0 7) (x1 + 8) (x0 + 8) 0 0 7) (x1 + 9) (x0 + 9) 0 0 4) (x1 + 10) (x0 + 10) 0 0 4) x1 10)) x1 11)) x0 12 ((bm_uI (bm_uI (bm_yI (bm_yI (bm_yI (bm_yI (bm_yI (bm_yI (bm_yI (bm_yI I (x1 + 2) (x0 + 2) 0 0 8) (x1 + 3) (x0 + 3) 0 0 8) (x1 + 4) (x0 + 4) 0 0 8) (x1 + 5) (x0 + 5) 0 0 8) (x1 + 7) (x0 + 7) 0 0 7) (x1 + 8) (x0 + 8) 0 0 7) (x1 + 9) (x0 + 9) 0 0 4) (x1 + 10) (x0 + 10) 0 0 4) x0 10 ((bm_yI (bm_yI (bm_yI (bm_yI (bm_yI (bm_yI (bm_yI (bm_yI I (x1 + 2) (x0 + 2) 0 0 8) (x1 + 3) (x0 + 3) 0 0 8) (x1 + 4) (x0 + 4) 0 0 8) (x1 + 5) (x0 + 5) 0 0 8) (x1 + 7) (x0 + 7) 0 0 7) (x1 + 8) (x0 + 8) 0 0 7) (x1 + 9) (x0 + 9) 0 0 4) (x1 + 10) (x0 + 10) 0 0 4) x1 10)) x0 11 ((bm_uI (bm_yI (bm_yI (bm_yI (bm_yI (bm_yI (bm_yI (bm_yI (bm_yI I (x1 + 2) (x0 + 2) 0 0 8) (x1 + 3) (x0 + 3) 0 0 8) (x1 + 4) (x0 + 4) 0 0 8) (x1 + 5) (x0 + 5) 0 0 8) (x1 + 7) (x0 + 7) 0 0 7) (x1 + 8) (x0 + 8) 0 0 7) (x1 + 9) (x0 + 9) 0 0 4) (x1 + 10) (x0 + 10) 0 0 4) x0 10 ((bm_yI (bm_yI (bm_yI (bm_yI (bm_yI (bm_yI (bm_yI (bm_yI I (x1 + 2) (x0 + 2) 0 0 8) (x1 + 3) (x0 + 3) 0 0 8) (x1 + 4) (x0 + 4) 0 0 8) (x1 + 5) (x0 + 5) 0 0 8) (x1 + 7) (x0 + 7) 0 0 7) (x1 + 8) (x0 + 8) 0 0 7) (x1 + 9) (x0 + 9) 0 0 4) (x1 + 10) (x0 + 10) 0 0 4) x1 10)) x1 11)) x1 12)) x0 13 ((bm_uI (bm_uI (bm_uI (bm_yI (bm_yI (bm_yI (bm_yI (bm_yI (bm_yI (bm_yI (bm_yI I (x1 + 2) (x0 + 2) 0 0 8) (x1 + 3) (x0 + 3) 0 0 8) (x1 + 4) (x0 + 4) 0 0 8) (x1 + 5) (x0 + 5) 0 0 8) (x1 + 7) (x0 + 7) 0 0 7) (x1 + 8) (x0 + 8) 0 0 7) (x1 + 9) (x0 + 9) 0 0 4) (x1 + 10) (x0 + 10) 0 0 4) x0 10 ((bm_yI (bm_yI (bm_yI (bm_yI (bm_yI (bm_yI (bm_yI (bm_yI I (x1 + 2) (x0 + 2) 0 0 8) (x1 + 3) (x0 + 3) 0 0 8) (x1 + 4) (x0 + 4) 0 0 8) (x1 + 5) (x0 + 5) 0 0 8) (x1 + 7) (x0 + 7) 0 0 7) (x1 + 8) (x0 + 8) 0 0 7) (x1 + 9) (x0 + 9) 0 0 4) (x1 + 10) (x0 + 10) 0 0 4) x1 10)) x0 11 ((bm_uI (bm_yI (bm_yI (bm_yI (bm_yI (bm_yI (bm_yI (bm_yI (bm_yI I (x1 + 2) (x0 + 2) 0 0 8) (x1 + 3) (x0 + 3) 0 0 8) (x1 + 4) (x0 + 4) 0 0 8) (x1 + 5) (x0 + 5) 0 0 8) (x1 + 7) (x0 + 7) 0 0 7) (x1 + 8) (x0 + 8) 0 0 7) (x1 + 9) (x0 + 9) 0 0 4) (x1 + 10) (x0 + 10) 0 0 4) x0 10 ((bm_yI (bm_yI (bm_yI (bm_yI (bm_yI (bm_yI (bm_yI (bm_yI I (x1 + 2) (x0 + 2) 0 0 8) (x1 + 3) (x0 + 3) 0 0 8) (x1 + 4) (x0 + 4) 0 0 8) (x1 + 5) (x0 + 5) 0 0 8) (x1 + 7) (x0 + 7) 0 0 7) (x1 + 8) (x0 + 8) 0 0 7) (x1 + 9) (x0 + 9) 0 0 4) (x1 + 10) (x0 + 10) 0 0 4) x1 10)) x1 11)) x0 12 ((bm_uI (bm_uI (bm_yI (bm_yI (bm_yI (bm_yI (bm_yI (bm_yI (bm_yI (bm_yI I (x1 + 2) (x0 + 2) 0 0 8) (x1 + 3) (x0 + 3) 0 0 8) (x1 + 4) (x0 + 4) 0 0 8) (x1 + 5) (x0 + 5) 0 0 8) (x1 + 7) (x0 + 7) 0 0 7) (x1 + 8) (x0 + 8) 0 0 7) (x1 + 9) (x0 + 9) 0 0 4) (x1 + 10) (x0 + 10) 0 0 4) x0 10 ((bm_yI (bm_yI (bm_yI (bm_yI (bm_yI (bm_yI (bm_yI (bm_yI I (x1 + 2) (x0 + 2) 0 0 8) (x1 + 3) (x0 + 3) 0 0 8) (x1 + 4) (x0 + 4) 0 0 8) (x1 + 5) (x0 + 5) 0 0 8) (x1 + 7) (x0 + 7) 0 0 7) (x1 + 8) (x0 + 8) 0 0 7) (x1 + 9) (x0 + 9) 0 0 4) (x1 + 10) (x0 + 10) 0 0 4) x1 10)) x0 11 ((bm_uI (bm_yI (bm_yI (bm_yI (bm_yI (bm_yI (bm_yI (bm_yI (bm_yI I (x1 + 2) (x0 + 2) 0 0 8) (x1 + 3) (x0 + 3) 0 0 8) (x1 + 4) (x0 + 4) 0 0 8) (x1 + 5) (x0 + 5) 0 0 8) (x1 + 7) (x0 + 7) 0 0 7) (x1 + 8) (x0 + 8) 0 0 7) (x1 + 9) (x0 + 9) 0 0 4) (x1 + 10) (x0 + 10) 0 0 4) x0 10 ((bm_yI (bm_yI (bm_yI (bm_yI (bm_yI (bm_yI (bm_yI (bm_yI I (x1 + 2) (x0 + 2) 0 0 8) (x1 + 3) (x0 + 3) 0 0 8) (x1 + 4) (x0 + 4) 0 0 8) (x1 + 5) (x0 + 5) 0 0 8) (x1 + 7) (x0 + 7) 0 0 7) (x1 + 8) (x0 + 8) 0 0 7) (x1 + 9) (x0 + 9) 0 0 4) (x1 + 10) (x0 + 10) 0 0 4) x1 10)) x1 11)) x1 12)) x1 13)) x0 14 ((bm_uI (bm_uI (bm_uI (bm_uI (bm_yI (bm_yI (bm_yI (bm_yI (bm_yI (bm_yI (bm_yI (bm_yI I (x1 + 2) (x0 + 2) 0 0 8) (x1 + 3) (x0 + 3) 0 0 8) (x1 + 4) (x0 + 4) 0 0 8) (x1 + 5) (x0 + 5) 0 0 8) (x1 + 7) (x0 + 7) 0 0 7) (x1 + 8) (x0 + 8) 0 0 7) (x1 + 9) (x0 + 9) 0 0 4) (x1 + 10) (x0 + 10) 0 0 4) x0 10 ((bm_yI (bm_yI (bm_yI (bm_yI (bm_yI (bm_yI (bm_yI (bm_yI I (x1 + 2) (x0 + 2) 0 0 8) (x1 + 3) (x0 + 3) 0 0 8) (x1 + 4) (x0 + 4) 0 0 8) (x1 + 5) (x0 + 5) 0 0 8) (x1 + 7) (x0 + 7) 0 0 7) (x1 + 8) (x0 + 8) 0 0 7) (x1 + 9) (x0 + 9) 0 0 4) (x1 + 10) (x0 + 10) 0 0 4) x1 10)) x0 11 ((bm_uI (bm_yI (bm_yI (bm_yI (bm_yI (bm_yI (bm_yI (bm_yI (bm_yI I (x1 + 2) (x0 + 2) 0 0 8) (x1 + 3) (x0 + 3) 0 0 8) (x1 + 4) (x0 + 4) 0 0 8) (x1 + 5) (x0 + 5) 0 0 8) (x1 + 7) (x0 + 7) 0 0 7) (x1 + 8) (x0 + 8) 0 0 7) (x1 + 9) (x0 + 9) 0 0 4) (x1 + 10) (x0 + 10) 0 0 4) x0 10 ((bm_yI (bm_yI (bm_yI (bm_yI (bm_yI (bm_yI (bm_yI (bm_yI I (x1 + 2) (x0 + 2) 0 0 8) (x1 + 3) (x0 + 3) 0 0 8) (x1 + 4) (x0 + 4) 0 0 8) (x1 + 5) (x0 + 5) 0 0 8) (x1 + 7) (x0 + 7) 0 0 7) (x1 + 8) (x0 + 8) 0 0 7) (x1 + 9) (x0 + 9) 0 0 4) (x1 + 10) (x0 + 10) 0 0 4) x1 10)) x1 11)) x0 12 ((bm_uI (bm_uI (bm_yI (bm_yI (bm_yI (bm_yI (bm_yI (bm_yI (bm_yI (bm_yI I (x1 + 2) (x0 + 2) 0 0 8) (x1 + 3) (x0 + 3) 0 0 8) (x1 + 4) (x0 + 4) 0 0 8) (x1 + 5) (x0 + 5) 0 0 8) (x1 + 7) (x0 + 7) 0 0 7) (x1 + 8) (x0 + 8) 0 0 7) (x1 + 9) (x0 + 9) 0 0 4) (x1 + 10) (x0 + 10) 0 0 4) x0 10 ((bm_yI (bm_yI (bm_yI (bm_yI (bm_yI (bm_yI (bm_yI (bm_yI I (x1 + 2) (x0 + 2) 0 0 8) (x1 + 3) (x0 + 3) 0 0 8) (x1 + 4) (x0 + 4) 0 0 8) (x1 + 5) (x0 + 5) 0 0 8) (x1 + 7) (x0 + 7) 0 0 7) (x1 + 8) (x0 + 8) 0 0 7) (x1 + 9) (x0 + 9) 0 0 4) (x1 + 10) (x0 + 10) 0 0 4) x1 10)) x0 11 ((bm_uI (bm_yI (bm_yI (bm_yI (bm_yI (bm_yI (bm_yI (bm_yI (bm_yI I (x1 + 2) (x0 + 2) 0 0 8) (x1 + 3) (x0 + 3) 0 0 8) (x1 + 4) (x0 + 4) 0 0 8) (x1 + 5) (x0 + 5) 0 0 8) (x1 + 7) (x0 + 7) 0 0 7) (x1 + 8) (x0 + 8) 0 0 7) (x1 + 9) (x0 + 9) 0 0 4) (x1 + 10) (x0 + 10) 0 0 4) x0 10 ((bm_yI (bm_yI (bm_yI (bm_yI (bm_yI (bm_yI (bm_yI (bm_yI I (x1 + 2) (x0 + 2) 0 0 8) (x1 + 3) (x0 + 3) 0 0 8) (x1 + 4) (x0 + 4) 0 0 8) (x1 + 5) (x0 + 5) 0 0 8) (x1 + 7) (x0 + 7) 0 0 7) (x1 + 8) (x0 + 8) 0 0 7) (x1 + 9) (x0 + 9) 0 0 4) (x1 + 10) (x0 + 10) 0 0 4) x1 10)) x1 11)) x1 12)) x0 13 ((bm_uI (bm_uI (bm_uI (bm_yI (bm_yI (bm_yI (bm_yI (bm_yI (bm_yI (bm_yI (bm_yI I (x1 + 2) (x0 + 2) 0 0 8) (x1 + 3) (x0 + 3) 0 0 8) (x1 + 4) (x0 + 4) 0 0 8) (x1 + 5) (x0 + 5) 0 0 8) (x1 + 7) (x0 + 7) 0 0 7) (x1 + 8) (x0 + 8) 0 0 7) (x1 + 9) (x0 + 9) 0 0 4) (x1 + 10) (x0 + 10) 0 0 4) x0 10 ((bm_yI (bm_yI (bm_yI (bm_yI (bm_yI (bm_yI (bm_yI (bm_yI I (x1 + 2) (x0 + 2) 0 0 8) (x1 + 3) (x0 + 3) 0 0 8) (x1 + 4) (x0 + 4) 0 0 8) (x1 + 5) (x0 + 5) 0 0 8) (x1 + 7) (x0 + 7) 0 0 7) (x1 + 8) (x0 + 8) 0 0 7) (x1 + 9) (x0 + 9) 0 0 4) (x1 + 10) (x0 + 10) 0 0 4) x1 10)) x0 11 ((bm_uI (bm_yI (bm_yI (bm_yI (bm_yI (bm_yI (bm_yI (bm_yI (bm_yI I (x1 + 2) (x0 + 2) 0 0 8) (x1 + 3) (x0 + 3) 0 0 8) (x1 + 4) (x0 + 4) 0 0 8) (x1 + 5) (x0 + 5) 0 0 8) (x1 + 7) (x0 + 7) 0 0 7) (x1 + 8) (x0 + 8) 0 0 7) (x1 + 9) (x0 + 9) 0 0 4) (x1 + 10) (x0 + 10) 0 0 4) x0 10 ((bm_yI (bm_yI (bm_yI (bm_yI (bm_yI (bm_yI (bm_yI (bm_yI I (x1 + 2) (x0 + 2) 0 0 8) (x1 + 3) (x0 + 3) 0 0 8) (x1 + 4) (x0 + 4) 0 0 8) (x1 + 5) (x0 + 5) 0 0 8) (x1 + 7) (x0 + 7) 0 0 7) (x1 + 8) (x0 + 8) 0 0 7) (x1 + 9) (x0 + 9) 0 0 4) (x1 + 10) (x0 + 10) 0 0 4) x1 10)) x1 11)) x0 12 ((bm_uI (bm_uI (bm_yI (bm_yI (bm_yI (bm_yI (bm_yI (bm_yI (bm_yI (bm_yI I (x1 + 2) (x0 + 2) 0 0 8) (x1 + 3) (x0 + 3) 0 0 8) (x1 + 4) (x0 + 4) 0 0 8) (x1 + 5) (x0 + 5) 0 0 8) (x1 + 7) (x0 + 7) 0 0 7) (x1 + 8) (x0 + 8) 0 0 7) (x1 + 9) (x0 + 9) 0 0 4) (x1 + 10) (x0 + 10) 0 0 4) x0 10 ((bm_yI (bm_yI (bm_yI (bm_yI (bm_yI (bm_yI (bm_yI (bm_yI I (x1 + 2) (x0 + 2) 0 0 8) (x1 + 3) (x0 + 3) 0 0 8) (x1 + 4) (x0 + 4) 0 0 8) (x1 + 5) (x0 + 5) 0 0 8) (x1 + 7) (x0 + 7) 0 0 7) (x1 + 8) (x0 + 8) 0 0 7) (x1 + 9) (x0 + 9) 0 0 4) (x1 + 10) (x0 + 10) 0 0 4) x1 10)) x0 11 ((bm_uI (bm_yI (bm_yI (bm_yI (bm_yI (bm_yI (bm_yI (bm_yI (bm_yI I (x1 + 2) (x0 + 2) 0 0 8) (x1 + 3) (x0 + 3) 0 0 8) (x1 + 4) (x0 + 4) 0 0 8) (x1 + 5) (x0 + 5) 0 0 8) (x1 + 7) (x0 + 7) 0 0 7) (x1 + 8) (x0 + 8) 0 0 7) (x1 + 9) (x0 + 9) 0 0 4) (x1 + 10) (x0 + 10) 0 0 4) x0 10 ((bm_yI (bm_yI (bm_yI (bm_yI (bm_yI (bm_yI (bm_yI (bm_yI I (x1 + 2) (x0 + 2) 0 0 8) (x1 + 3) (x0 + 3) 0 0 8) (x1 + 4) (x0 + 4) 0 0 8) (x1 + 5) (x0 + 5) 0 0 8) (x1 + 7) (x0 + 7) 0 0 7) (x1 + 8) (x0 + 8) 0 0 7) (x1 + 9) (x0 + 9) 0 0 4) (x1 + 10) (x0 + 10) 0 0 4) x1 10)) x1 11)) x1 12)) x1 13)) x1 14)) x0 15 ((bm_uI (bm_uI (bm_uI (bm_uI (bm_uI (bm_yI (bm_yI (bm_yI (bm_yI (bm_yI (bm_yI (bm_yI (bm_yI I (x1 + 2) (x0 + 2) 0 0 8) (x1 + 3) (x0 + 3) 0 0 8) (x1 + 4) (x0 + 4) 0 0 8) (x1 + 5) (x0 + 5) 0 0 8) (x1 + 7) (x0 + 7) 0 0 7) (x1 + 8) (x0 + 8) 0 0 7) (x1 + 9) (x0 + 9) 0 0 4) (x1 + 10) (x0 + 10) 0 0 4) x0 10 ((bm_yI (bm_yI (bm_yI (bm_yI (bm_yI (bm_yI (bm_yI (bm_yI I (x1 + 2) (x0 + 2) 0 0 8) (x1 + 3) (x0 + 3) 0 0 8) (x1 + 4) (x0 + 4) 0 0 8) (x1 + 5) (x0 + 5) 0 0 8) (x1 + 7) (x0 + 7) 0 0 7) (x1 + 8) (x0 + 8) 0 0 7) (x1 + 9) (x0 + 9) 0 0 4) (x1 + 10) (x0 + 10) 0 0 4) x1 10)) x0 11 ((bm_uI (bm_yI (bm_yI (bm_yI (bm_yI (bm_yI (bm_yI (bm_yI (bm_yI I (x1 + 2) (x0 + 2) 0 0 8) (x1 + 3) (x0 + 3) 0 0 8) (x1 + 4) (x0 + 4) 0 0 8) (x1 + 5) (x0 + 5) 0 0 8) (x1 + 7) (x0 + 7) 0 0 7) (x1 + 8) (x0 + 8) 0 0 7) (x1 + 9) (x0 + 9) 0 0 4) (x1 + 10) (x0 + 10) 0 0 4) x0 10 ((bm_yI (bm_yI (bm_yI (bm_yI (bm_yI (bm_yI (bm_yI (bm_yI I (x1 + 2) (x0 + 2) 0 0 8) (x1 + 3) (x0 + 3) 0 0 8) (x1 + 4) (x0 + 4) 0 0 8) (x1 + 5) (x0 + 5) 0 0 8) (x1 + 7) (x0 + 7) 0 0 7) (x1 + 8) (x0 + 8) 0 0 7) (x1 + 9) (x0 + 9) 0 0 4) (x1 + 10) (x0 + 10) 0 0 4) x1 10)) x1 11)) x0 12 ((bm_uI (bm_uI (bm_yI (bm_yI (bm_yI (bm_yI (bm_yI (bm_yI (bm_yI (bm_yI I (x1 + 2) (x0 + 2) 0 0 8) (x1 + 3) (x0 + 3) 0 0 8) (x1 + 4) (x0 + 4) 0 0 8) (x1 + 5) (x0 + 5) 0 0 8) (x1 + 7) (x0 + 7) 0 0 7) (x1 + 8) (x0 + 8) 0 0 7) (x1 + 9) (x0 + 9) 0 0 4) (x1 + 10) (x0 + 10) 0 0 4) x0 10 ((bm_yI (bm_yI (bm_yI (bm_yI (bm_yI (bm_yI (bm_yI (bm_yI I (x1 + 2) (x0 + 2) 0 0 8) (x1 + 3) (x0 + 3) 0 0 8) (x1 + 4) (x0 + 4) 0 0 8) (x1 + 5) (x0 + 5) 0 0 8) (x1 + 7) (x0 + 7) 0 0 7) (x1 + 8) (x0 + 8) 0 0 7) (x1 + 9) (x0 + 9) 0 0 4) (x1 + 10) (x0 + 10) 0 0 4) x1 10)) x0 11 ((bm_uI (bm_yI (bm_yI (bm_yI (bm_yI (bm_yI (bm_yI (bm_yI (bm_yI I (x1 + 2) (x0 + 2) 0 0 8) (x1 + 3) (x0 + 3) 0 0 8) (x1 + 4) (x0 + 4) 0 0 8) (x1 + 5) (x0 + 5) 0 0 8) (x1 + 7) (x0 + 7) 0 0 7) (x1 + 8) (x0 + 8) 0 0 7) (x1 + 9) (x0 + 9) 0 0 4) (x1 + 10) (x0 + 10) 0 0 4) x0 10 ((bm_yI (bm_yI (bm_yI (bm_yI (bm_yI (bm_yI (bm_yI (bm_yI I (x1 + 2) (x0 + 2) 0 0 8) (x1 + 3) (x0 + 3) 0 0 8) (x1 + 4) (x0 + 4) 0 0 8) (x1 + 5) (x0 + 5) 0 0 8) (x1 + 7) (x0 + 7) 0 0 7) (x1 + 8) (x0 + 8) 0 0 7) (x1 + 9) (x0 + 9) 0 0 4) (x1 + 10) (x0 + 10) 0 0 4) x1 10)) x1 11)) x1 12)) x0 13 ((bm_uI (bm_uI (bm_uI (bm_yI (bm_yI (bm_yI (bm_yI (bm_yI (bm_yI (bm_yI (bm_yI I (x1 + 2) (x0 + 2) 0 0 8) (x1 + 3) (x0 + 3) 0 0 8) (x1 + 4) (x0 + 4) 0 0 8) (x1 + 5) (x0 + 5) 0 0 8) (x1 + 7) (x0 + 7) 0 0 7) (x1 + 8) (x0 + 8) 0 0 7) (x1 + 9) (x0 + 9) 0 0 4) (x1 + 10) (x0 + 10) 0 0 4) x0 10 ((bm_yI (bm_yI (bm_yI (bm_yI (bm_yI (bm_yI (bm_yI (bm_yI I (x1 + 2) (x0 + 2) 0 0 8) (x1 + 3) (x0 + 3) 0 0 8) (x1 + 4) (x0 + 4) 0 0 8) (x1 + 5) (x0 + 5) 0 0 8) (x1 + 7) (x0 + 7) 0 0 7) (x1 + 8) (x0 + 8) 0 0 7) (x1 + 9) (x0 + 9) 0 0 4) (x1 + 10) (x0 + 10) 0 0 4) x1 10)) x0 11 ((bm_uI (bm_yI (bm_yI (bm_yI (bm_yI (bm_yI (bm_yI (bm_yI (bm_yI I (x1 + 2) (x0 + 2) 0 0 8) (x1 + 3) (x0 + 3) 0 0 8) (x1 + 4) (x0 + 4) 0 0 8) (x1 + 5) (x0 + 5) 0 0 8) (x1 + 7) (x0 + 7) 0 0 7) (x1 + 8) (x0 + 8) 0 0 7) (x1 + 9) (x0 + 9) 0 0 4) (x1 + 10) (x0 + 10) 0 0 4) x0 10 ((bm_yI (bm_yI (bm_yI (bm_yI (bm_yI (bm_yI (bm_yI (bm_yI I (x1 + 2) (x0 + 2) 0 0 8) (x1 + 3) (x0 + 3) 0 0 8) (x1 + 4) (x0 + 4) 0 0 8) (x1 + 5) (x0 + 5) 0 0 8) (x1 + 7) (x0 + 7) 0 0 7) (x1 + 8) (x0 + 8) 0 0 7) (x1 + 9) (x0 + 9) 0 0 4) (x1 + 10) (x0 + 10) 0 0 4) x1 10)) x1 11)) x0 12 ((bm_uI (bm_uI (bm_yI (bm_yI (bm_yI (bm_yI (bm_yI (bm_yI (bm_yI (bm_yI I (x1 + 2) (x0 + 2) 0 0 8) (x1 + 3) (x0 + 3) 0 0 8) (x1 + 4) (x0 + 4) 0 0 8) (x1 + 5) (x0 + 5) 0 0 8) (x1 + 7) (x0 + 7) 0 0 7) (x1 + 8) (x0 + 8) 0 0 7) (x1 + 9) (x0 + 9) 0 0 4) (x1 + 10) (x0 + 10) 0 0 4) x0 10 ((bm_yI (bm_yI (bm_yI (bm_yI (bm_yI (bm_yI (bm_yI (bm_yI I (x1 + 2) (x0 + 2) 0 0 8) (x1 + 3) (x0 + 3) 0 0 8) (x1 + 4) (x0 + 4) 0 0 8) (x1 + 5) (x0 + 5) 0 0 8) (x1 + 7) (x0 + 7) 0 0 7) (x1 + 8) (x0 + 8) 0 0 7) (x1 + 9) (x0 + 9) 0 0 4) (x1 + 10) (x0 + 10) 0 0 4) x1 10)) x0 11 ((bm_uI (bm_yI (bm_yI (bm_yI (bm_yI (bm_yI (bm_yI (bm_yI (bm_yI I (x1 + 2) (x0 + 2) 0 0 8) (x1 + 3) (x0 + 3) 0 0 8) (x1 + 4) (x0 + 4) 0 0 8) (x1 + 5) (x0 + 5) 0 0 8) (x1 + 7) (x0 + 7) 0 0 7) (x1 + 8) (x0 + 8) 0 0 7) (x1 + 9) (x0 + 9) 0 0 4) (x1 + 10) (x0 + 10) 0 0 4) x0 10 ((bm_yI (bm_yI (bm_yI (bm_yI (bm_yI (bm_yI (bm_yI (bm_yI I (x1 + 2) (x0 + 2) 0 0 8) (x1 + 3) (x0 + 3) 0 0 8) (x1 + 4) (x0 + 4) 0 0 8) (x1 + 5) (x0 + 5) 0 0 8) (x1 + 7) (x0 + 7) 0 0 7) (x1 + 8) (x0 + 8) 0 0 7) (x1 + 9) (x0 + 9) 0 0 4) (x1 + 10) (x0 + 10) 0 0 4) x1 10)) x1 11)) x1 12)) x1 13)) x0 14 ((bm_uI (bm_uI (bm_uI (bm_uI (bm_yI (bm_yI (bm_yI (bm_yI (bm_yI (bm_yI (bm_yI (bm_yI I (x1 + 2) (x0 + 2) 0 0 8) (x1 + 3) (x0 + 3) 0 0 8) (x1 + 4) (x0 + 4) 0 0 8) (x1 + 5) (x0 + 5) 0 0 8) (x1 + 7) (x0 + 7) 0 0 7) (x1 + 8) (x0 + 8) 0 0 7) (x1 + 9) (x0 + 9) 0 0 4) (x1 + 10) (x0 + 10) 0 0 4) x0 10 ((bm_yI (bm_yI (bm_yI (bm_yI (bm_yI (bm_yI (bm_yI (bm_yI I (x1 + 2) (x0 + 2) 0 0 8) (x1 + 3) (x0 + 3) 0 0 8) (x1 + 4) (x0 + 4) 0 0 8) (x1 + 5) (x0 + 5) 0 0 8) (x1 + 7) (x0 + 7) 0 0 7) (x1 + 8) (x0 + 8) 0 0 7) (x1 + 9) (x0 + 9) 0 0 4) (x1 + 10) (x0 + 10) 0 0 4) x1 10)) x0 11 ((bm_uI (bm_yI (bm_yI (bm_yI (bm_yI (bm_yI (bm_yI (bm_yI (bm_yI I (x1 + 2) (x0 + 2) 0 0 8) (x1 + 3) (x0 + 3) 0 0 8) (x1 + 4) (x0 + 4) 0 0 8) (x1 + 5) (x0 + 5) 0 0 8) (x1 + 7) (x0 + 7) 0 0 7) (x1 + 8) (x0 + 8) 0 0 7) (x1 + 9) (x0 + 9) 0 0 4) (x1 + 10) (x0 + 10) 0 0 4) x0 10 ((bm_yI (bm_yI (bm_yI (bm_yI (bm_yI (bm_yI (bm_yI (bm_yI I (x1 + 2) (x0 + 2) 0 0 8) (x1 + 3) (x0 + 3) 0 0 8) (x1 + 4) (x0 + 4) 0 0 8) (x1 + 5) (x0 + 5) 0 0 8) (x1 + 7) (x0 + 7) 0 0 7) (x1 + 8) (x0 + 8) 0 0 7) (x1 + 9) (x0 + 9) 0 0 4) (x1 + 10) (x0 + 10) 0 0 4) x1 10)) x1 11)) x0 12 ((bm_uI (bm_uI (bm_yI (bm_yI (bm_yI (bm_yI (bm_yI (bm_yI (bm_yI (bm_yI I (x1 + 2) (x0 + 2) 0 0 8) (x1 + 3) (x0 + 3) 0 0 8) (x1 + 4) (x0 + 4) 0 0 8) (x1 + 5) (x0 + 5) 0 0 8) (x1 + 7) (x0 + 7) 0 0 7) (x1 + 8) (x0 + 8) 0 0 7) (x1 + 9) (x0 + 9) 0 0 4) (x1 + 10) (x0 + 10) 0 0 4) x0 10 ((bm_yI (bm_yI (bm_yI (bm_yI (bm_yI (bm_yI (bm_yI (bm_yI I (x1 + 2) (x0 + 2) 0 0 8) (x1 + 3) (x0 + 3) 0 0 8) (x1 + 4) (x0 + 4) 0 0 8) (x1 + 5) (x0 + 5) 0 0 8) (x1 + 7) (x0 + 7) 0 0 7) (x1 + 8) (x0 + 8) 0 0 7) (x1 + 9) (x0 + 9) 0 0 4) (x1 + 10) (x0 + 10) 0 0 4) x1 10)) x0 11 ((bm_uI (bm_yI (bm_yI (bm_yI (bm_yI (bm_yI (bm_yI (bm_yI (bm_yI I (x1 + 2) (x0 + 2) 0 0 8) (x1 + 3) (x0 + 3) 0 0 8) (x1 + 4) (x0 + 4) 0 0 8) (x1 + 5) (x0 + 5) 0 0 8) (x1 + 7) (x0 + 7) 0 0 7) (x1 + 8) (x0 + 8) 0 0 7) (x1 + 9) (x0 + 9) 0 0 4) (x1 + 10) (x0 + 10) 0 0 4) x0 10 ((bm_yI (bm_yI (bm_yI (bm_yI (bm_yI (bm_yI (bm_yI (bm_yI I (x1 + 2) (x0 + 2) 0 0 8) (x1 + 3) (x0 + 3) 0 0 8) (x1 + 4) (x0 + 4) 0 0 8) (x1 + 5) (x0 + 5) 0 0 8) (x1 + 7) (x0 + 7) 0 0 7) (x1 + 8) (x0 + 8) 0 0 7) (x1 + 9) (x0 + 9) 0 0 4) (x1 + 10) (x0 + 10) 0 0 4) x1 10)) x1 11)) x1 12)) x0 13 ((bm_uI (bm_uI (bm_uI (bm_yI (bm_yI (bm_yI (bm_yI (bm_yI (bm_yI (bm_yI (bm_yI I (x1 + 2) (x0 + 2) 0 0 8) (x1 + 3) (x0 + 3) 0 0 8) (x1 + 4) (x0 + 4) 0 0 8) (x1 + 5) (x0 + 5) 0 0 8) (x1 + 7) (x0 + 7) 0 0 7) (x1 + 8) (x0 + 8) 0 0 7) (x1 + 9) (x0 + 9) 0 0 4) (x1 + 10) (x0 + 10) 0 0 4) x0 10 ((bm_yI (bm_yI (bm_yI (bm_yI (bm_yI (bm_yI (bm_yI (bm_yI I (x1 + 2) (x0 + 2) 0 0 8) (x1 + 3) (x0 + 3) 0 0 8) (x1 + 4) (x0 + 4) 0 0 8) (x1 + 5) (x0 + 5) 0 0 8) (x1 + 7) (x0 + 7) 0 0 7) (x1 + 8) (x0 + 8) 0 0 7) (x1 + 9) (x0 + 9) 0 0 4) (x1 + 10) (x0 + 10) 0 0 4) x1 10)) x0 11 ((bm_uI (bm_yI (bm_yI (bm_yI (bm_yI (bm_yI (bm_yI (bm_yI (bm_yI I (x1 + 2) (x0 + 2) 0 0 8) (x1 + 3) (x0 + 3) 0 0 8) (x1 + 4) (x0 + 4) 0 0 8) (x1 + 5) (x0 + 5) 0 0 8) (x1 + 7) (x0 + 7) 0 0 7) (x1 + 8) (x0 + 8) 0 0 7) (x1 + 9) (x0 + 9) 0 0 4) (x1 + 10) (x0 + 10) 0 0 4) x0 10 ((bm_yI (bm_yI (bm_yI (bm_yI (bm_yI (bm_yI (bm_yI (bm_yI I (x1 + 2) (x0 + 2) 0 0 8) (x1 + 3) (x0 + 3) 0 0 8) (x1 + 4) (x0 + 4) 0 0 8) (x1 + 5) (x0 + 5) 0 0 8) (x1 + 7) (x0 + 7) 0 0 7) (x1 + 8) (x0 + 8) 0 0 7) (x1 + 9) (x0 + 9) 0 0 4) (x1 + 10) (x0 + 10) 0 0 4) x1 10)) x1 11)) x0 12 ((bm_uI (bm_uI (bm_yI (bm_yI (bm_yI (bm_yI (bm_yI (bm_yI (bm_yI (bm_yI I (x1 + 2) (x0 + 2) 0 0 8) (x1 + 3) (x0 + 3) 0 0 8) (x1 + 4) (x0 + 4) 0 0 8) (x1 + 5) (x0 + 5) 0 0 8) (x1 + 7) (x0 + 7) 0 0 7) (x1 + 8) (x0 + 8) 0 0 7) (x1 + 9) (x0 + 9) 0 0 4) (x1 + 10) (x0 + 10) 0 0 4) x0 10 ((bm_yI (bm_yI (bm_yI (bm_yI (bm_yI (bm_yI (bm_yI (bm_yI I (x1 + 2) (x0 + 2) 0 0 8) (x1 + 3) (x0 + 3) 0 0 8) (x1 + 4) (x0 + 4) 0 0 8) (x1 + 5) (x0 + 5) 0 0 8) (x1 + 7) (x0 + 7) 0 0 7) (x1 + 8) (x0 + 8) 0 0 7) (x1 + 9) (x0 + 9) 0 0 4) (x1 + 10) (x0 + 10) 0 0 4) x1 10)) x0 11 ((bm_uI (bm_yI (bm_yI (bm_yI (bm_yI (bm_yI (bm_yI (bm_yI (bm_yI I (x1 + 2) (x0 + 2) 0 0 8) (x1 + 3) (x0 + 3) 0 0 8) (x1 + 4) (x0 + 4) 0 0 8) (x1 + 5) (x0 + 5) 0 0 8) (x1 + 7) (x0 + 7) 0 0 7) (x1 + 8) (x0 + 8) 0 0 7) (x1 + 9) (x0 + 9) 0 0 4) (x1 + 10) (x0 + 10) 0 0 4) x0 10 ((bm_yI (bm_yI (bm_yI (bm_yI (bm_yI (bm_yI (bm_yI (bm_yI I (x1 + 2) (x0 + 2) 0 0 8) (x1 + 3) (x0 + 3) 0 0 8) (x1 + 4) (x0 + 4) 0 0 8) (x1 + 5) (x0 + 5) 0 0 8) (x1 + 7) (x0 + 7) 0 0 7) (x1 + 8) (x0 + 8) 0 0 7) (x1 + 9) (x0 + 9) 0 0 4) (x1 + 10) (x0 + 10) 0 0 4) x1 10)) x1 11)) x1 12)) x1 13)) x1 14)) x1 15)) x1 16)), (bm_yJ (bm_yJ J (x1 + 1) (x0 + 1) 0 0 8) (x1 + 6) (x0 + 6) 0 0 7))
set_option maxHeartbeats 4000000 in
set_option maxRecDepth 100000 in
theorem c_X0_copyFrom {lc : bm_L} {d n : Nat} {I : bm_TI} {J : bm_TJ} {R W : bm_TR} {x0 : Nat} {x1 : Nat} {v : bm_TI × bm_TJ} (hN : 181 ≤ n) (hR : bm_RR R) (q_0 : bm_OK x0 0) (q_1 : bm_OK x1 0) (h : f_X0_copyFrom I J x0 x1 = some v) : bm_C lc m_X0_copyFrom (d + 1) n n [.ref x0, .ref x1] (I, J, R, W) (fun r M' => r = none ∧ M' = (v.1, v.2, R, W)) := by
  refine bm_C.ofV (by decide) (Nat.le_of_ble_eq_true rfl) ?_
  show bm_V lc m_X0_copyFrom (d + 1) n n n 0 [(0, .ref x0), (1, .ref x1)] [] (I, J, R, W) _
  unfold f_X0_copyFrom at h
  refine bv_aload_n dX0_copyFrom_0 1 rfl ?_
  refine bz_getA (a := (x1 + 1)) hN q_1 (hR _ _ _ (tr_0_0 q_1)) dX0_copyFrom_1 fl_0_9 rfl ?_
  refine bv_iconst (v := 0) dX0_copyFrom_4 (by decide) ?_
  refine bv_aload_n dX0_copyFrom_5 0 rfl ?_
  refine bz_getA (a := (x0 + 1)) hN q_0 (hR _ _ _ (tr_0_0 q_0)) dX0_copyFrom_6 fl_0_9 rfl ?_
  refine bv_iconst (v := 0) dX0_copyFrom_9 (by decide) ?_
  refine bv_bipush (v := 8) dX0_copyFrom_10 (by decide) ?_
  refine bz_copyJ (sj := 0) (dj := 0) (zj := 8) hN (rk_0_0 q_1) (rk_0_0 q_0) (by decide) (by decide) (by decide) (by decide) (by decide) (by decide) (by decide) (by decide) dX0_copyFrom_12 mw_0_50 (by decide) ?_
  refine bv_aload_n dX0_copyFrom_15 1 rfl ?_
  refine bz_getA (a := (x1 + 2)) hN q_1 (hR _ _ _ (tr_0_1 q_1)) dX0_copyFrom_16 fl_0_15 rfl ?_
  refine bv_iconst (v := 0) dX0_copyFrom_19 (by decide) ?_
  refine bv_aload_n dX0_copyFrom_20 0 rfl ?_
  refine bz_getA (a := (x0 + 2)) hN q_0 (hR _ _ _ (tr_0_1 q_0)) dX0_copyFrom_21 fl_0_15 rfl ?_
  refine bv_iconst (v := 0) dX0_copyFrom_24 (by decide) ?_
  refine bv_bipush (v := 8) dX0_copyFrom_25 (by decide) ?_
  refine bz_copyI (sj := 0) (dj := 0) (zj := 8) hN (rk_0_1 q_1) (rk_0_1 q_0) (by decide) (by decide) (by decide) (by decide) (by decide) (by decide) (by decide) (by decide) dX0_copyFrom_27 mw_0_50 (by decide) ?_
  refine bv_aload_n dX0_copyFrom_30 1 rfl ?_
  refine bz_getA (a := (x1 + 3)) hN q_1 (hR _ _ _ (tr_0_2 q_1)) dX0_copyFrom_31 fl_0_19 rfl ?_
  refine bv_iconst (v := 0) dX0_copyFrom_34 (by decide) ?_
  refine bv_aload_n dX0_copyFrom_35 0 rfl ?_
  refine bz_getA (a := (x0 + 3)) hN q_0 (hR _ _ _ (tr_0_2 q_0)) dX0_copyFrom_36 fl_0_19 rfl ?_
  refine bv_iconst (v := 0) dX0_copyFrom_39 (by decide) ?_
  refine bv_bipush (v := 8) dX0_copyFrom_40 (by decide) ?_
  refine bz_copyI (sj := 0) (dj := 0) (zj := 8) hN (rk_0_2 q_1) (rk_0_2 q_0) (by decide) (by decide) (by decide) (by decide) (by decide) (by decide) (by decide) (by decide) dX0_copyFrom_42 mw_0_50 (by decide) ?_
  refine bv_aload_n dX0_copyFrom_45 1 rfl ?_
  refine bz_getA (a := (x1 + 4)) hN q_1 (hR _ _ _ (tr_0_3 q_1)) dX0_copyFrom_46 fl_0_22 rfl ?_
  refine bv_iconst (v := 0) dX0_copyFrom_49 (by decide) ?_
  refine bv_aload_n dX0_copyFrom_50 0 rfl ?_
  refine bz_getA (a := (x0 + 4)) hN q_0 (hR _ _ _ (tr_0_3 q_0)) dX0_copyFrom_51 fl_0_22 rfl ?_
  refine bv_iconst (v := 0) dX0_copyFrom_54 (by decide) ?_
  refine bv_bipush (v := 8) dX0_copyFrom_55 (by decide) ?_
  refine bz_copyI (sj := 0) (dj := 0) (zj := 8) hN (rk_0_3 q_1) (rk_0_3 q_0) (by decide) (by decide) (by decide) (by decide) (by decide) (by decide) (by decide) (by decide) dX0_copyFrom_57 mw_0_50 (by decide) ?_
  refine bv_aload_n dX0_copyFrom_60 1 rfl ?_
  refine bz_getA (a := (x1 + 5)) hN q_1 (hR _ _ _ (tr_0_4 q_1)) dX0_copyFrom_61 fl_0_25 rfl ?_
  refine bv_iconst (v := 0) dX0_copyFrom_64 (by decide) ?_
  refine bv_aload_n dX0_copyFrom_65 0 rfl ?_
  refine bz_getA (a := (x0 + 5)) hN q_0 (hR _ _ _ (tr_0_4 q_0)) dX0_copyFrom_66 fl_0_25 rfl ?_
  refine bv_iconst (v := 0) dX0_copyFrom_69 (by decide) ?_
  refine bv_bipush (v := 8) dX0_copyFrom_70 (by decide) ?_
  refine bz_copyI (sj := 0) (dj := 0) (zj := 8) hN (rk_0_4 q_1) (rk_0_4 q_0) (by decide) (by decide) (by decide) (by decide) (by decide) (by decide) (by decide) (by decide) dX0_copyFrom_72 mw_0_50 (by decide) ?_
  refine bv_aload_n dX0_copyFrom_75 1 rfl ?_
  refine bz_getA (a := (x1 + 6)) hN q_1 (hR _ _ _ (tr_0_5 q_1)) dX0_copyFrom_76 fl_0_28 rfl ?_
  refine bv_iconst (v := 0) dX0_copyFrom_79 (by decide) ?_
  refine bv_aload_n dX0_copyFrom_80 0 rfl ?_
  refine bz_getA (a := (x0 + 6)) hN q_0 (hR _ _ _ (tr_0_5 q_0)) dX0_copyFrom_81 fl_0_28 rfl ?_
  refine bv_iconst (v := 0) dX0_copyFrom_84 (by decide) ?_
  refine bv_bipush (v := 7) dX0_copyFrom_85 (by decide) ?_
  refine bz_copyJ (sj := 0) (dj := 0) (zj := 7) hN (rk_0_5 q_1) (rk_0_5 q_0) (by decide) (by decide) (by decide) (by decide) (by decide) (by decide) (by decide) (by decide) dX0_copyFrom_87 mw_0_50 (by decide) ?_
  refine bv_aload_n dX0_copyFrom_90 1 rfl ?_
  refine bz_getA (a := (x1 + 7)) hN q_1 (hR _ _ _ (tr_0_6 q_1)) dX0_copyFrom_91 fl_0_31 rfl ?_
  refine bv_iconst (v := 0) dX0_copyFrom_94 (by decide) ?_
  refine bv_aload_n dX0_copyFrom_95 0 rfl ?_
  refine bz_getA (a := (x0 + 7)) hN q_0 (hR _ _ _ (tr_0_6 q_0)) dX0_copyFrom_96 fl_0_31 rfl ?_
  refine bv_iconst (v := 0) dX0_copyFrom_99 (by decide) ?_
  refine bv_bipush (v := 7) dX0_copyFrom_100 (by decide) ?_
  refine bz_copyI (sj := 0) (dj := 0) (zj := 7) hN (rk_0_6 q_1) (rk_0_6 q_0) (by decide) (by decide) (by decide) (by decide) (by decide) (by decide) (by decide) (by decide) dX0_copyFrom_102 mw_0_50 (by decide) ?_
  refine bv_aload_n dX0_copyFrom_105 1 rfl ?_
  refine bz_getA (a := (x1 + 8)) hN q_1 (hR _ _ _ (tr_0_7 q_1)) dX0_copyFrom_106 fl_0_34 rfl ?_
  refine bv_iconst (v := 0) dX0_copyFrom_109 (by decide) ?_
  refine bv_aload_n dX0_copyFrom_110 0 rfl ?_
  refine bz_getA (a := (x0 + 8)) hN q_0 (hR _ _ _ (tr_0_7 q_0)) dX0_copyFrom_111 fl_0_34 rfl ?_
  refine bv_iconst (v := 0) dX0_copyFrom_114 (by decide) ?_
  refine bv_bipush (v := 7) dX0_copyFrom_115 (by decide) ?_
  refine bz_copyI (sj := 0) (dj := 0) (zj := 7) hN (rk_0_7 q_1) (rk_0_7 q_0) (by decide) (by decide) (by decide) (by decide) (by decide) (by decide) (by decide) (by decide) dX0_copyFrom_117 mw_0_50 (by decide) ?_
  refine bv_aload_n dX0_copyFrom_120 1 rfl ?_
  refine bz_getA (a := (x1 + 9)) hN q_1 (hR _ _ _ (tr_0_8 q_1)) dX0_copyFrom_121 fl_0_37 rfl ?_
  refine bv_iconst (v := 0) dX0_copyFrom_124 (by decide) ?_
  refine bv_aload_n dX0_copyFrom_125 0 rfl ?_
  refine bz_getA (a := (x0 + 9)) hN q_0 (hR _ _ _ (tr_0_8 q_0)) dX0_copyFrom_126 fl_0_37 rfl ?_
  refine bv_iconst (v := 0) dX0_copyFrom_129 (by decide) ?_
  refine bv_iconst (v := 4) dX0_copyFrom_130 (by decide) ?_
  refine bz_copyI (sj := 0) (dj := 0) (zj := 4) hN (rk_0_8 q_1) (rk_0_8 q_0) (by decide) (by decide) (by decide) (by decide) (by decide) (by decide) (by decide) (by decide) dX0_copyFrom_131 mw_0_50 (by decide) ?_
  refine bv_aload_n dX0_copyFrom_134 1 rfl ?_
  refine bz_getA (a := (x1 + 10)) hN q_1 (hR _ _ _ (tr_0_9 q_1)) dX0_copyFrom_135 fl_0_40 rfl ?_
  refine bv_iconst (v := 0) dX0_copyFrom_138 (by decide) ?_
  refine bv_aload_n dX0_copyFrom_139 0 rfl ?_
  refine bz_getA (a := (x0 + 10)) hN q_0 (hR _ _ _ (tr_0_9 q_0)) dX0_copyFrom_140 fl_0_40 rfl ?_
  refine bv_iconst (v := 0) dX0_copyFrom_143 (by decide) ?_
  refine bv_iconst (v := 4) dX0_copyFrom_144 (by decide) ?_
  refine bz_copyI (sj := 0) (dj := 0) (zj := 4) hN (rk_0_9 q_1) (rk_0_9 q_0) (by decide) (by decide) (by decide) (by decide) (by decide) (by decide) (by decide) (by decide) dX0_copyFrom_145 mw_0_50 (by decide) ?_
  refine bv_aload_n dX0_copyFrom_148 0 rfl ?_
  refine bv_aload_n dX0_copyFrom_149 1 rfl ?_
  refine bz_getI hN q_1 dX0_copyFrom_150 fl_0_56 rfl ?_
  refine bz_putI hN q_0 dX0_copyFrom_153 fl_0_56 rfl ?_
  refine bv_aload_n dX0_copyFrom_156 0 rfl ?_
  refine bv_aload_n dX0_copyFrom_157 1 rfl ?_
  refine bz_getI hN q_1 dX0_copyFrom_158 fl_0_59 rfl ?_
  refine bz_putI hN q_0 dX0_copyFrom_161 fl_0_59 rfl ?_
  refine bv_aload_n dX0_copyFrom_164 0 rfl ?_
  refine bv_aload_n dX0_copyFrom_165 1 rfl ?_
  refine bz_getI hN q_1 dX0_copyFrom_166 fl_0_62 rfl ?_
  refine bz_putI hN q_0 dX0_copyFrom_169 fl_0_62 rfl ?_
  refine bv_aload_n dX0_copyFrom_172 0 rfl ?_
  refine bv_aload_n dX0_copyFrom_173 1 rfl ?_
  refine bz_getI hN q_1 dX0_copyFrom_174 fl_0_65 rfl ?_
  refine bz_putI hN q_0 dX0_copyFrom_177 fl_0_65 rfl ?_
  refine bv_aload_n dX0_copyFrom_180 0 rfl ?_
  refine bv_aload_n dX0_copyFrom_181 1 rfl ?_
  refine bz_getI hN q_1 dX0_copyFrom_182 fl_0_68 rfl ?_
  refine bz_putI hN q_0 dX0_copyFrom_185 fl_0_68 rfl ?_
  refine bv_aload_n dX0_copyFrom_188 0 rfl ?_
  refine bv_aload_n dX0_copyFrom_189 1 rfl ?_
  refine bz_getI hN q_1 dX0_copyFrom_190 fl_0_43 rfl ?_
  refine bz_putI hN q_0 dX0_copyFrom_193 fl_0_43 rfl ?_
  refine bv_aload_n dX0_copyFrom_196 0 rfl ?_
  refine bv_aload_n dX0_copyFrom_197 1 rfl ?_
  refine bz_getI hN q_1 dX0_copyFrom_198 fl_0_47 rfl ?_
  refine bz_putI hN q_0 dX0_copyFrom_201 fl_0_47 rfl ?_
  obtain rfl := Option.some.inj h
  exact bv_vret dX0_copyFrom_204 rfl ⟨rfl, rfl⟩
def f_X5_isBlank (x0 : Int32) : Bool := (if x0 = 32 then true else (if x0 = 10 then true else false))
set_option maxHeartbeats 4000000 in
set_option maxRecDepth 100000 in
theorem c_X5_isBlank {lc : bm_L} {d n : Nat} {I : bm_TI} {J : bm_TJ} {R W : bm_TR} {x0 : Int32} {v : Bool} (hN : 181 ≤ n) (hR : bm_RR R) (h : f_X5_isBlank x0 = v) : bm_C lc m_X5_isBlank d n n [.int x0] (I, J, R, W) (fun r M' => r = some (.int (bm_bi v)) ∧ M' = (I, J, R, W)) := by
  refine bm_C.ofV (by decide) (Nat.le_of_ble_eq_true rfl) ?_
  show bm_V lc m_X5_isBlank d n n n 0 [(0, .int x0)] [] (I, J, R, W) _
  unfold f_X5_isBlank at h
  refine bv_iload_n dX5_isBlank_0 0 rfl ?_
  refine bv_bipush (v := 32) dX5_isBlank_1 (by decide) ?_
  refine bv_icmp_eq (tgt := 12) dX5_isBlank_3 (by decide) (fun cc => ?_) (fun cc => ?_)
  · replace h := bu_t h cc
    refine bv_iconst (v := 1) dX5_isBlank_12 (by decide) ?_
    refine bv_goto (tgt := 17) dX5_isBlank_13 (by decide) ?_
    subst h
    exact bw_bret (b := true) dX5_isBlank_17 rfl ⟨rfl, rfl⟩
  · replace h := bu_f h cc
    refine bv_iload_n dX5_isBlank_6 0 rfl ?_
    refine bv_bipush (v := 10) dX5_isBlank_7 (by decide) ?_
    refine bv_icmp_ne (tgt := 16) dX5_isBlank_9 (by decide) (fun cc => ?_) (fun cc => ?_)
    · replace h := bu_f h cc
      refine bv_iconst (v := 0) dX5_isBlank_16 (by decide) ?_
      subst h
      exact bw_bret (b := false) dX5_isBlank_17 rfl ⟨rfl, rfl⟩
    · replace h := bu_t h cc
      refine bv_iconst (v := 1) dX5_isBlank_12 (by decide) ?_
      refine bv_goto (tgt := 17) dX5_isBlank_13 (by decide) ?_
      subst h
      exact bw_bret (b := true) dX5_isBlank_17 rfl ⟨rfl, rfl⟩
def f_X5_isDigit (x0 : Int32) : Bool := (if x0 < 48 then false else (if 57 < x0 then false else true))
set_option maxHeartbeats 4000000 in
set_option maxRecDepth 100000 in
theorem c_X5_isDigit {lc : bm_L} {d n : Nat} {I : bm_TI} {J : bm_TJ} {R W : bm_TR} {x0 : Int32} {v : Bool} (hN : 181 ≤ n) (hR : bm_RR R) (h : f_X5_isDigit x0 = v) : bm_C lc m_X5_isDigit d n n [.int x0] (I, J, R, W) (fun r M' => r = some (.int (bm_bi v)) ∧ M' = (I, J, R, W)) := by
  refine bm_C.ofV (by decide) (Nat.le_of_ble_eq_true rfl) ?_
  show bm_V lc m_X5_isDigit d n n n 0 [(0, .int x0)] [] (I, J, R, W) _
  unfold f_X5_isDigit at h
  refine bv_iload_n dX5_isDigit_0 0 rfl ?_
  refine bv_bipush (v := 48) dX5_isDigit_1 (by decide) ?_
  refine bv_icmp_lt (tgt := 16) dX5_isDigit_3 (by decide) (fun cc => ?_) (fun cc => ?_)
  · replace h := bu_t h cc
    refine bv_iconst (v := 0) dX5_isDigit_16 (by decide) ?_
    subst h
    exact bw_bret (b := false) dX5_isDigit_17 rfl ⟨rfl, rfl⟩
  · replace h := bu_f h cc
    refine bv_iload_n dX5_isDigit_6 0 rfl ?_
    refine bv_bipush (v := 57) dX5_isDigit_7 (by decide) ?_
    refine bv_icmp_gt (tgt := 16) dX5_isDigit_9 (by decide) (fun cc => ?_) (fun cc => ?_)
    · replace h := bu_t h cc
      refine bv_iconst (v := 0) dX5_isDigit_16 (by decide) ?_
      subst h
      exact bw_bret (b := false) dX5_isDigit_17 rfl ⟨rfl, rfl⟩
    · replace h := bu_f h cc
      refine bv_iconst (v := 1) dX5_isDigit_12 (by decide) ?_
      refine bv_goto (tgt := 17) dX5_isDigit_13 (by decide) ?_
      subst h
      exact bw_bret (b := true) dX5_isDigit_17 rfl ⟨rfl, rfl⟩
def f_X5_isLetter (x0 : Int32) : Bool := (if x0 < 97 then false else (if 122 < x0 then false else true))
set_option maxHeartbeats 4000000 in
set_option maxRecDepth 100000 in
theorem c_X5_isLetter {lc : bm_L} {d n : Nat} {I : bm_TI} {J : bm_TJ} {R W : bm_TR} {x0 : Int32} {v : Bool} (hN : 181 ≤ n) (hR : bm_RR R) (h : f_X5_isLetter x0 = v) : bm_C lc m_X5_isLetter d n n [.int x0] (I, J, R, W) (fun r M' => r = some (.int (bm_bi v)) ∧ M' = (I, J, R, W)) := by
  refine bm_C.ofV (by decide) (Nat.le_of_ble_eq_true rfl) ?_
  show bm_V lc m_X5_isLetter d n n n 0 [(0, .int x0)] [] (I, J, R, W) _
  unfold f_X5_isLetter at h
  refine bv_iload_n dX5_isLetter_0 0 rfl ?_
  refine bv_bipush (v := 97) dX5_isLetter_1 (by decide) ?_
  refine bv_icmp_lt (tgt := 16) dX5_isLetter_3 (by decide) (fun cc => ?_) (fun cc => ?_)
  · replace h := bu_t h cc
    refine bv_iconst (v := 0) dX5_isLetter_16 (by decide) ?_
    subst h
    exact bw_bret (b := false) dX5_isLetter_17 rfl ⟨rfl, rfl⟩
  · replace h := bu_f h cc
    refine bv_iload_n dX5_isLetter_6 0 rfl ?_
    refine bv_bipush (v := 122) dX5_isLetter_7 (by decide) ?_
    refine bv_icmp_gt (tgt := 16) dX5_isLetter_9 (by decide) (fun cc => ?_) (fun cc => ?_)
    · replace h := bu_t h cc
      refine bv_iconst (v := 0) dX5_isLetter_16 (by decide) ?_
      subst h
      exact bw_bret (b := false) dX5_isLetter_17 rfl ⟨rfl, rfl⟩
    · replace h := bu_f h cc
      refine bv_iconst (v := 1) dX5_isLetter_12 (by decide) ?_
      refine bv_goto (tgt := 17) dX5_isLetter_13 (by decide) ?_
      subst h
      exact bw_bret (b := true) dX5_isLetter_17 rfl ⟨rfl, rfl⟩
def f_X10_named_l2 (x0 : Int64) : Nat → Int32 → Option (((Int32) ⊕ (Unit)))
  | 0, _ => none
  | k + 1, x2 => (if 34 ≤ x2 then some (Sum.inr ()) else (if bm_iALL x2 = true then (if (lg_cmp (bm_wpa (1000 + x2.toNatClampNeg)) x0) = 0 then some (Sum.inl x2) else f_X10_named_l2 x0 k (x2 + 1)) else none))
set_option maxHeartbeats 4000000 in
set_option maxRecDepth 100000 in
theorem v_X10_named_l2 {lc : bm_L} {d n : Nat} {Q : Option Value → bm_M → Prop} {R : bm_TR} {I : bm_TI} {J : bm_TJ} {W : bm_TR} {x0 : Int64} (hN : 181 ≤ n) (hR : bm_RR R) : ∀ (k : Nat) (x2 : Int32) (r : ((Int32) ⊕ (Unit))), f_X10_named_l2 x0 k x2 = some r → (∀ yy, (Sum.inl yy) = r → bm_V lc m_X10_named d n n n 23 [(2, .int yy)] [] (I, J, R, W) Q) → (∀ yy, (Sum.inr yy) = r → bm_V lc m_X10_named d n n n 35 [] [] (I, J, R, W) Q) → bm_V lc m_X10_named d n n n 2 [(0, .long x0), (2, .int x2)] [] (I, J, R, W) Q := by
  intro k
  induction k with
  | zero => intro x2 r h; cases (show (none : Option (((Int32) ⊕ (Unit)))) = some r from h)
  | succ k ih =>
    intro x2 r h K0 K1
    unfold f_X10_named_l2 at h
    refine bv_iload_n dX10_named_2 1 rfl ?_
    refine bw_getALL dX10_named_3 fw_10_160 ?_
    refine bw_ALLlen dX10_named_6 ?_
    refine bv_icmp_ge (tgt := 35) dX10_named_7 (by decide) (fun cc => ?_) (fun cc => ?_)
    · replace h := bu_t h cc
      refine bw_ls (ls1 := []) [] rfl ?_
      obtain rfl := Option.some.inj h
      exact K1 _ rfl
    · replace h := bu_f h cc
      refine bw_getALL dX10_named_10 fw_10_160 ?_
      refine bv_iload_n dX10_named_13 1 rfl ?_
      obtain ⟨i1, h⟩ := bu_g h
      refine bw_ALLat i1 dX10_named_14 ?_
      have wi1 : bm_iw (1000 + x2.toNatClampNeg) = true := bm_ALLiw i1
      refine bw_wpa wi1 dX10_named_15 fw_10_135 ?_
      refine bv_lload_n dX10_named_18 0 rfl ?_
      refine bv_lcmp dX10_named_19 ?_
      refine bv_if_ne (tgt := 29) dX10_named_20 (by decide) (fun cc => ?_) (fun cc => ?_)
      · replace h := bu_f h cc
        refine bv_iinc (j := 1) (v := (x2 + 1)) (ls1 := [(0, .long x0), (2, .int (x2 + 1))]) dX10_named_29 rfl rfl (by decide) rfl rfl ?_
        refine bv_goto (tgt := 2) dX10_named_32 (by decide) ?_
        exact ih _ _ h K0 K1
      · replace h := bu_t h cc
        refine bw_ls (ls1 := [(2, .int x2)]) [1] rfl ?_
        obtain rfl := Option.some.inj h
        exact K0 _ rfl
def f_X10_named (x0 : Int64) : Option (Option Nat) := ((f_X10_named_l2 x0 1000 0).bind fun rr => match rr with | (Sum.inl y3) => (if bm_iALL y3 = true then some (some (1000 + y3.toNatClampNeg)) else none) | (Sum.inr y3) => some none)
set_option maxHeartbeats 4000000 in
set_option maxRecDepth 100000 in
theorem c_X10_named {lc : bm_L} {d n : Nat} {I : bm_TI} {J : bm_TJ} {R W : bm_TR} {x0 : Int64} {v : Option Nat} (hN : 181 ≤ n) (hR : bm_RR R) (h : f_X10_named x0 = some v) : bm_C lc m_X10_named d n n [.long x0] (I, J, R, W) (fun r M' => r = some (va_rf v) ∧ M' = (I, J, R, W)) := by
  refine bm_C.ofV (by decide) (Nat.le_of_ble_eq_true rfl) ?_
  show bm_V lc m_X10_named d n n n 0 [(0, .long x0)] [] (I, J, R, W) _
  unfold f_X10_named at h
  refine bv_iconst (v := 0) dX10_named_0 (by decide) ?_
  refine bv_istore_n (ls1 := [(0, .long x0), (2, .int 0)]) dX10_named_1 (by decide) rfl rfl ?_
  obtain ⟨r1, p2, h⟩ := bu_bd h
  refine v_X10_named_l2 hN hR 1000 _ _ p2 (fun y3 hy => ?_) (fun y3 hy => ?_)
  · subst hy
    refine bw_getALL dX10_named_23 fw_10_160 ?_
    refine bv_iload_n dX10_named_26 0 rfl ?_
    obtain ⟨i4, h⟩ := bu_g h
    refine bw_ALLat i4 dX10_named_27 ?_
    have wi4 : bm_iw (1000 + y3.toNatClampNeg) = true := bm_ALLiw i4
    obtain rfl := Option.some.inj h
    exact bv_aret (x := (some (1000 + y3.toNatClampNeg))) dX10_named_28 rfl (Or.inl ⟨_, rfl⟩) ⟨rfl, rfl⟩
  · subst hy
    refine bv_null dX10_named_35 ?_
    obtain rfl := Option.some.inj h
    exact bv_aret (x := none) dX10_named_36 rfl (Or.inl ⟨_, rfl⟩) ⟨rfl, rfl⟩
def f_X10_packLetter (x0 : Int64) (x2 : Int32) : Int64 := ((bm_lshl x0 5) ||| (((x2 - 97) + 1).toInt64))
set_option maxHeartbeats 4000000 in
set_option maxRecDepth 100000 in
theorem c_X10_packLetter {lc : bm_L} {d n : Nat} {I : bm_TI} {J : bm_TJ} {R W : bm_TR} {x0 : Int64} {x2 : Int32} {v : Int64} (hN : 181 ≤ n) (hR : bm_RR R) (h : f_X10_packLetter x0 x2 = v) : bm_C lc m_X10_packLetter d n n [.long x0, .int x2] (I, J, R, W) (fun r M' => r = some (.long v) ∧ M' = (I, J, R, W)) := by
  refine bm_C.ofV (by decide) (Nat.le_of_ble_eq_true rfl) ?_
  show bm_V lc m_X10_packLetter d n n n 0 [(0, .long x0), (2, .int x2)] [] (I, J, R, W) _
  unfold f_X10_packLetter at h
  refine bv_lload_n dX10_packLetter_0 0 rfl ?_
  refine bv_iconst (v := 5) dX10_packLetter_1 (by decide) ?_
  refine bv_lshl dX10_packLetter_2 ?_
  refine bv_iload_n dX10_packLetter_3 1 rfl ?_
  refine bv_bipush (v := 97) dX10_packLetter_4 (by decide) ?_
  refine bv_isub dX10_packLetter_6 ?_
  refine bv_iconst (v := 1) dX10_packLetter_7 (by decide) ?_
  refine bv_iadd dX10_packLetter_8 ?_
  refine bv_i2l dX10_packLetter_9 ?_
  refine bv_lor dX10_packLetter_10 ?_
  subst h
  exact bv_lret dX10_packLetter_11 rfl ⟨rfl, rfl⟩
def f_X5_readRun_l17 (x1 : Int32) : Nat → Int32 → bm_TI → bm_TJ → Option (Int32 × bm_TI × bm_TJ)
  | 0, _, _, _ => none
  | k + 1, x2, I, J => (if (I 1 1) ≤ (I 3 2) then some (x2, I, J) else (if bm_ix 940 (I 3 2) = true then (if (f_X5_isLetter (I 2 (I 3 2).toNatClampNeg)) = true then (if (f_X5_isLetter (I 2 (I 3 2).toNatClampNeg)) = true then f_X5_readRun_l17 x1 k (x2 + 1) (bm_uI I 3 2 ((I 3 2) + 1)) (bm_uJ J 3 7 (f_X10_packLetter (J 3 7) (I 2 (I 3 2).toNatClampNeg))) else f_X5_readRun_l17 x1 k x2 (bm_uI (bm_uI I 3 5 (((10 * (I 3 5)) + (I 2 (I 3 2).toNatClampNeg)) - 48)) 3 2 (((bm_uI I 3 5 (((10 * (I 3 5)) + (I 2 (I 3 2).toNatClampNeg)) - 48)) 3 2) + 1)) J) else (if (f_X5_isDigit (I 2 (I 3 2).toNatClampNeg)) = true then (if (f_X5_isLetter (I 2 (I 3 2).toNatClampNeg)) = true then f_X5_readRun_l17 x1 k (x2 + 1) (bm_uI I 3 2 ((I 3 2) + 1)) (bm_uJ J 3 7 (f_X10_packLetter (J 3 7) (I 2 (I 3 2).toNatClampNeg))) else f_X5_readRun_l17 x1 k x2 (bm_uI (bm_uI I 3 5 (((10 * (I 3 5)) + (I 2 (I 3 2).toNatClampNeg)) - 48)) 3 2 (((bm_uI I 3 5 (((10 * (I 3 5)) + (I 2 (I 3 2).toNatClampNeg)) - 48)) 3 2) + 1)) J) else some (x2, I, J))) else none))
set_option maxHeartbeats 4000000 in
set_option maxRecDepth 100000 in
theorem v_X5_readRun_l17 {lc : bm_L} {d n : Nat} {Q : Option Value → bm_M → Prop} {R : bm_TR} {W : bm_TR} {x1 : Int32} (hN : 181 ≤ n) (hR : bm_RR R) : ∀ (k : Nat) (x2 : Int32) (I : bm_TI) (J : bm_TJ) (r : Int32 × bm_TI × bm_TJ), f_X5_readRun_l17 x1 k x2 I J = some r → (∀ yy, yy = r → bm_V lc m_X5_readRun (d + 1) n n n 134 [(0, .ref 3), (1, .int x1), (2, .int yy.1)] [] (yy.2.1, yy.2.2, R, W) Q) → bm_V lc m_X5_readRun (d + 1) n n n 17 [(0, .ref 3), (1, .int x1), (2, .int x2)] [] (I, J, R, W) Q := by
  intro k
  induction k with
  | zero => intro x2 I J r h; cases (show (none : Option (Int32 × bm_TI × bm_TJ)) = some r from h)
  | succ k ih =>
    intro x2 I J r h K0
    unfold f_X5_readRun_l17 at h
    refine bv_aload_n dX5_readRun_17 0 rfl ?_
    refine bz_getI hN okL_3 dX5_readRun_18 fl_5_19 rfl ?_
    refine bv_aload_n dX5_readRun_21 0 rfl ?_
    refine bz_getA (a := 1) hN okL_3 (hR _ _ _ r0_3_0) dX5_readRun_22 fl_5_9 rfl ?_
    refine bz_getI hN okL_1 dX5_readRun_25 fl_5_31 rfl ?_
    refine bv_icmp_ge (tgt := 134) dX5_readRun_28 (by decide) (fun cc => ?_) (fun cc => ?_)
    · replace h := bu_t h cc
      obtain rfl := Option.some.inj h
      exact K0 _ rfl
    · replace h := bu_f h cc
      refine bv_aload_n dX5_readRun_31 0 rfl ?_
      refine bz_getA (a := 1) hN okL_3 (hR _ _ _ r0_3_0) dX5_readRun_32 fl_5_9 rfl ?_
      refine bz_getA (a := 2) hN okL_1 (hR _ _ _ r0_1_0) dX5_readRun_35 fl_5_36 rfl ?_
      refine bv_aload_n dX5_readRun_38 0 rfl ?_
      refine bz_getI hN okL_3 dX5_readRun_39 fl_5_19 rfl ?_
      obtain ⟨r1, h⟩ := bu_ix h
      refine bz_iald hN rkL_2 r1 rfl dX5_readRun_42 ?_
      refine bw_callS (As := [.int (I 2 (I 3 2).toNatClampNeg)]) dX5_readRun_43 mc_5_57 (c_X5_isLetter (d := d + 0) hN hR rfl) rfl rfl (by decide) ?_
      refine bw_ifB_ne (b := (f_X5_isLetter (I 2 (I 3 2).toNatClampNeg))) (tgt := 67) dX5_readRun_46 (by decide) (fun cc => ?_) (fun cc => ?_)
      · replace h := bu_bt h cc
        refine bv_aload_n dX5_readRun_67 0 rfl ?_
        refine bz_getA (a := 1) hN okL_3 (hR _ _ _ r0_3_0) dX5_readRun_68 fl_5_9 rfl ?_
        refine bz_getA (a := 2) hN okL_1 (hR _ _ _ r0_1_0) dX5_readRun_71 fl_5_36 rfl ?_
        refine bv_aload_n dX5_readRun_74 0 rfl ?_
        refine bz_getI hN okL_3 dX5_readRun_75 fl_5_19 rfl ?_
        refine bz_iald hN rkL_2 r1 rfl dX5_readRun_78 ?_
        refine bv_istore_n (ls1 := [(0, .ref 3), (1, .int x1), (2, .int x2), (3, .int (I 2 (I 3 2).toNatClampNeg))]) dX5_readRun_79 (by decide) rfl rfl ?_
        refine bv_iload_n dX5_readRun_80 3 rfl ?_
        refine bw_callS (As := [.int (I 2 (I 3 2).toNatClampNeg)]) dX5_readRun_81 mc_5_57 (c_X5_isLetter (d := d + 0) hN hR rfl) rfl rfl (by decide) ?_
        refine bw_ifB_eq (b := (f_X5_isLetter (I 2 (I 3 2).toNatClampNeg))) (tgt := 105) dX5_readRun_84 (by decide) (fun cc => ?_) (fun cc => ?_)
        · replace h := bu_bf h cc
          refine bv_aload_n dX5_readRun_105 0 rfl ?_
          refine bv_bipush (v := 10) dX5_readRun_106 (by decide) ?_
          refine bv_aload_n dX5_readRun_108 0 rfl ?_
          refine bz_getI hN okL_3 dX5_readRun_109 fl_5_70 rfl ?_
          refine bv_imul dX5_readRun_112 ?_
          refine bv_iload_n dX5_readRun_113 3 rfl ?_
          refine bv_iadd dX5_readRun_114 ?_
          refine bv_bipush (v := 48) dX5_readRun_115 (by decide) ?_
          refine bv_isub dX5_readRun_117 ?_
          refine bz_putI hN okL_3 dX5_readRun_118 fl_5_70 rfl ?_
          refine bv_aload_n dX5_readRun_121 0 rfl ?_
          refine bv_dup dX5_readRun_122 rfl ?_
          refine bz_getI hN okL_3 dX5_readRun_123 fl_5_19 rfl ?_
          refine bv_iconst (v := 1) dX5_readRun_126 (by decide) ?_
          refine bv_iadd dX5_readRun_127 ?_
          refine bz_putI hN okL_3 dX5_readRun_128 fl_5_19 rfl ?_
          refine bv_goto (tgt := 17) dX5_readRun_131 (by decide) ?_
          refine bw_ls (ls1 := [(0, .ref 3), (1, .int x1), (2, .int x2)]) [0, 1, 2] rfl ?_
          exact ih _ _ _ _ h K0
        · replace h := bu_bt h cc
          refine bv_iinc (j := 2) (v := (x2 + 1)) (ls1 := [(0, .ref 3), (1, .int x1), (2, .int (x2 + 1)), (3, .int (I 2 (I 3 2).toNatClampNeg))]) dX5_readRun_87 rfl rfl (by decide) rfl rfl ?_
          refine bv_aload_n dX5_readRun_90 0 rfl ?_
          refine bv_aload_n dX5_readRun_91 0 rfl ?_
          refine bz_getJ hN okL_3 dX5_readRun_92 fl_5_66 rfl ?_
          refine bv_iload_n dX5_readRun_95 3 rfl ?_
          refine bw_callS (As := [.long (J 3 7), .int (I 2 (I 3 2).toNatClampNeg)]) dX5_readRun_96 mc_5_73 (c_X10_packLetter (d := d + 0) hN hR rfl) rfl rfl (Nat.le_of_ble_eq_true rfl) ?_
          refine bz_putJ hN okL_3 dX5_readRun_99 fl_5_66 rfl ?_
          refine bv_goto (tgt := 121) dX5_readRun_102 (by decide) ?_
          refine bv_aload_n dX5_readRun_121 0 rfl ?_
          refine bv_dup dX5_readRun_122 rfl ?_
          refine bz_getI hN okL_3 dX5_readRun_123 fl_5_19 rfl ?_
          refine bv_iconst (v := 1) dX5_readRun_126 (by decide) ?_
          refine bv_iadd dX5_readRun_127 ?_
          refine bz_putI hN okL_3 dX5_readRun_128 fl_5_19 rfl ?_
          refine bv_goto (tgt := 17) dX5_readRun_131 (by decide) ?_
          refine bw_ls (ls1 := [(0, .ref 3), (1, .int x1), (2, .int (x2 + 1))]) [0, 1, 2] rfl ?_
          exact ih _ _ _ _ h K0
      · replace h := bu_bf h cc
        refine bv_aload_n dX5_readRun_49 0 rfl ?_
        refine bz_getA (a := 1) hN okL_3 (hR _ _ _ r0_3_0) dX5_readRun_50 fl_5_9 rfl ?_
        refine bz_getA (a := 2) hN okL_1 (hR _ _ _ r0_1_0) dX5_readRun_53 fl_5_36 rfl ?_
        refine bv_aload_n dX5_readRun_56 0 rfl ?_
        refine bz_getI hN okL_3 dX5_readRun_57 fl_5_19 rfl ?_
        refine bz_iald hN rkL_2 r1 rfl dX5_readRun_60 ?_
        refine bw_callS (As := [.int (I 2 (I 3 2).toNatClampNeg)]) dX5_readRun_61 mc_5_60 (c_X5_isDigit (d := d + 0) hN hR rfl) rfl rfl (by decide) ?_
        refine bw_ifB_eq (b := (f_X5_isDigit (I 2 (I 3 2).toNatClampNeg))) (tgt := 134) dX5_readRun_64 (by decide) (fun cc => ?_) (fun cc => ?_)
        · replace h := bu_bf h cc
          obtain rfl := Option.some.inj h
          exact K0 _ rfl
        · replace h := bu_bt h cc
          refine bv_aload_n dX5_readRun_67 0 rfl ?_
          refine bz_getA (a := 1) hN okL_3 (hR _ _ _ r0_3_0) dX5_readRun_68 fl_5_9 rfl ?_
          refine bz_getA (a := 2) hN okL_1 (hR _ _ _ r0_1_0) dX5_readRun_71 fl_5_36 rfl ?_
          refine bv_aload_n dX5_readRun_74 0 rfl ?_
          refine bz_getI hN okL_3 dX5_readRun_75 fl_5_19 rfl ?_
          refine bz_iald hN rkL_2 r1 rfl dX5_readRun_78 ?_
          refine bv_istore_n (ls1 := [(0, .ref 3), (1, .int x1), (2, .int x2), (3, .int (I 2 (I 3 2).toNatClampNeg))]) dX5_readRun_79 (by decide) rfl rfl ?_
          refine bv_iload_n dX5_readRun_80 3 rfl ?_
          refine bw_callS (As := [.int (I 2 (I 3 2).toNatClampNeg)]) dX5_readRun_81 mc_5_57 (c_X5_isLetter (d := d + 0) hN hR rfl) rfl rfl (by decide) ?_
          refine bw_ifB_eq (b := (f_X5_isLetter (I 2 (I 3 2).toNatClampNeg))) (tgt := 105) dX5_readRun_84 (by decide) (fun cc => ?_) (fun cc => ?_)
          · replace h := bu_bf h cc
            refine bv_aload_n dX5_readRun_105 0 rfl ?_
            refine bv_bipush (v := 10) dX5_readRun_106 (by decide) ?_
            refine bv_aload_n dX5_readRun_108 0 rfl ?_
            refine bz_getI hN okL_3 dX5_readRun_109 fl_5_70 rfl ?_
            refine bv_imul dX5_readRun_112 ?_
            refine bv_iload_n dX5_readRun_113 3 rfl ?_
            refine bv_iadd dX5_readRun_114 ?_
            refine bv_bipush (v := 48) dX5_readRun_115 (by decide) ?_
            refine bv_isub dX5_readRun_117 ?_
            refine bz_putI hN okL_3 dX5_readRun_118 fl_5_70 rfl ?_
            refine bv_aload_n dX5_readRun_121 0 rfl ?_
            refine bv_dup dX5_readRun_122 rfl ?_
            refine bz_getI hN okL_3 dX5_readRun_123 fl_5_19 rfl ?_
            refine bv_iconst (v := 1) dX5_readRun_126 (by decide) ?_
            refine bv_iadd dX5_readRun_127 ?_
            refine bz_putI hN okL_3 dX5_readRun_128 fl_5_19 rfl ?_
            refine bv_goto (tgt := 17) dX5_readRun_131 (by decide) ?_
            refine bw_ls (ls1 := [(0, .ref 3), (1, .int x1), (2, .int x2)]) [0, 1, 2] rfl ?_
            exact ih _ _ _ _ h K0
          · replace h := bu_bt h cc
            refine bv_iinc (j := 2) (v := (x2 + 1)) (ls1 := [(0, .ref 3), (1, .int x1), (2, .int (x2 + 1)), (3, .int (I 2 (I 3 2).toNatClampNeg))]) dX5_readRun_87 rfl rfl (by decide) rfl rfl ?_
            refine bv_aload_n dX5_readRun_90 0 rfl ?_
            refine bv_aload_n dX5_readRun_91 0 rfl ?_
            refine bz_getJ hN okL_3 dX5_readRun_92 fl_5_66 rfl ?_
            refine bv_iload_n dX5_readRun_95 3 rfl ?_
            refine bw_callS (As := [.long (J 3 7), .int (I 2 (I 3 2).toNatClampNeg)]) dX5_readRun_96 mc_5_73 (c_X10_packLetter (d := d + 0) hN hR rfl) rfl rfl (Nat.le_of_ble_eq_true rfl) ?_
            refine bz_putJ hN okL_3 dX5_readRun_99 fl_5_66 rfl ?_
            refine bv_goto (tgt := 121) dX5_readRun_102 (by decide) ?_
            refine bv_aload_n dX5_readRun_121 0 rfl ?_
            refine bv_dup dX5_readRun_122 rfl ?_
            refine bz_getI hN okL_3 dX5_readRun_123 fl_5_19 rfl ?_
            refine bv_iconst (v := 1) dX5_readRun_126 (by decide) ?_
            refine bv_iadd dX5_readRun_127 ?_
            refine bz_putI hN okL_3 dX5_readRun_128 fl_5_19 rfl ?_
            refine bv_goto (tgt := 17) dX5_readRun_131 (by decide) ?_
            refine bw_ls (ls1 := [(0, .ref 3), (1, .int x1), (2, .int (x2 + 1))]) [0, 1, 2] rfl ?_
            exact ih _ _ _ _ h K0
def f_X5_readRun (I : bm_TI) (J : bm_TJ) (W : bm_TR) : Option (bm_TI × bm_TJ × bm_TR) := ((f_X5_readRun_l17 (I 3 2) 1000 0 (bm_uI I 3 5 0) (bm_uJ J 3 7 0)).bind fun y3 => (if y3.1 = ((y3.2.1 3 2) - (I 3 2)) then (if 7 < ((y3.2.1 3 2) - (I 3 2)) then (if y3.1 = 0 then (if 3 < ((y3.2.1 3 2) - (I 3 2)) then some ((bm_uI y3.2.1 3 3 1), y3.2.2, W) else some ((bm_uI y3.2.1 3 3 3), y3.2.2, W)) else some ((bm_uI y3.2.1 3 3 1), y3.2.2, W)) else ((f_X10_named (y3.2.2 3 7)).bind fun v4 => (if ((bm_uW W 3 8 v4) 3 8) = none then some ((bm_uI y3.2.1 3 3 5), y3.2.2, (bm_uW W 3 8 v4)) else some ((bm_uI y3.2.1 3 3 4), y3.2.2, (bm_uW W 3 8 v4))))) else (if y3.1 = 0 then (if 3 < ((y3.2.1 3 2) - (I 3 2)) then some ((bm_uI y3.2.1 3 3 1), y3.2.2, W) else some ((bm_uI y3.2.1 3 3 3), y3.2.2, W)) else some ((bm_uI y3.2.1 3 3 1), y3.2.2, W))))
set_option maxHeartbeats 4000000 in
set_option maxRecDepth 100000 in
theorem c_X5_readRun {lc : bm_L} {d n : Nat} {I : bm_TI} {J : bm_TJ} {R W : bm_TR} {v : bm_TI × bm_TJ × bm_TR} (hN : 181 ≤ n) (hR : bm_RR R) (h : f_X5_readRun I J W = some v) : bm_C lc m_X5_readRun (d + 1) n n [.ref 3] (I, J, R, W) (fun r M' => r = none ∧ M' = (v.1, v.2.1, R, v.2.2)) := by
  refine bm_C.ofV (by decide) (Nat.le_of_ble_eq_true rfl) ?_
  show bm_V lc m_X5_readRun (d + 1) n n n 0 [(0, .ref 3)] [] (I, J, R, W) _
  unfold f_X5_readRun at h
  refine bv_aload_n dX5_readRun_0 0 rfl ?_
  refine bz_getI hN okL_3 dX5_readRun_1 fl_5_19 rfl ?_
  refine bv_istore_n (ls1 := [(0, .ref 3), (1, .int (I 3 2))]) dX5_readRun_4 (by decide) rfl rfl ?_
  refine bv_iconst (v := 0) dX5_readRun_5 (by decide) ?_
  refine bv_istore_n (ls1 := [(0, .ref 3), (1, .int (I 3 2)), (2, .int 0)]) dX5_readRun_6 (by decide) rfl rfl ?_
  refine bv_aload_n dX5_readRun_7 0 rfl ?_
  refine bv_lconst (v := 0) dX5_readRun_8 (by decide) ?_
  refine bz_putJ hN okL_3 dX5_readRun_9 fl_5_66 rfl ?_
  refine bv_aload_n dX5_readRun_12 0 rfl ?_
  refine bv_iconst (v := 0) dX5_readRun_13 (by decide) ?_
  refine bz_putI hN okL_3 dX5_readRun_14 fl_5_70 rfl ?_
  obtain ⟨r1, p2, h⟩ := bu_bd h
  refine v_X5_readRun_l17 hN hR 1000 _ _ _ _ p2 (fun y3 hy => ?_)
  · subst hy
    refine bv_aload_n dX5_readRun_134 0 rfl ?_
    refine bz_getI hN okL_3 dX5_readRun_135 fl_5_19 rfl ?_
    refine bv_iload_n dX5_readRun_138 1 rfl ?_
    refine bv_isub dX5_readRun_139 ?_
    refine bv_istore_n (ls1 := [(0, .ref 3), (1, .int (I 3 2)), (2, .int y3.1), (3, .int ((y3.2.1 3 2) - (I 3 2)))]) dX5_readRun_140 (by decide) rfl rfl ?_
    refine bv_iload_n dX5_readRun_141 2 rfl ?_
    refine bv_iload_n dX5_readRun_142 3 rfl ?_
    refine bv_icmp_ne (tgt := 182) dX5_readRun_143 (by decide) (fun cc => ?_) (fun cc => ?_)
    · replace h := bu_f h cc
      refine bv_aload_n dX5_readRun_182 0 rfl ?_
      refine bv_iload_n dX5_readRun_183 2 rfl ?_
      refine bv_if_ne (tgt := 196) dX5_readRun_184 (by decide) (fun cc => ?_) (fun cc => ?_)
      · replace h := bu_f h cc
        refine bv_iconst (v := 1) dX5_readRun_196 (by decide) ?_
        refine bz_putI hN okL_3 dX5_readRun_197 fl_5_54 rfl ?_
        obtain rfl := Option.some.inj h
        exact bv_vret dX5_readRun_200 rfl ⟨rfl, rfl⟩
      · replace h := bu_t h cc
        refine bv_iload_n dX5_readRun_187 3 rfl ?_
        refine bv_iconst (v := 3) dX5_readRun_188 (by decide) ?_
        refine bv_icmp_gt (tgt := 196) dX5_readRun_189 (by decide) (fun cc => ?_) (fun cc => ?_)
        · replace h := bu_t h cc
          refine bv_iconst (v := 1) dX5_readRun_196 (by decide) ?_
          refine bz_putI hN okL_3 dX5_readRun_197 fl_5_54 rfl ?_
          obtain rfl := Option.some.inj h
          exact bv_vret dX5_readRun_200 rfl ⟨rfl, rfl⟩
        · replace h := bu_f h cc
          refine bv_iconst (v := 3) dX5_readRun_192 (by decide) ?_
          refine bv_goto (tgt := 197) dX5_readRun_193 (by decide) ?_
          refine bz_putI hN okL_3 dX5_readRun_197 fl_5_54 rfl ?_
          obtain rfl := Option.some.inj h
          exact bv_vret dX5_readRun_200 rfl ⟨rfl, rfl⟩
    · replace h := bu_t h cc
      refine bv_iload_n dX5_readRun_146 3 rfl ?_
      refine bv_bipush (v := 7) dX5_readRun_147 (by decide) ?_
      refine bv_icmp_gt (tgt := 182) dX5_readRun_149 (by decide) (fun cc => ?_) (fun cc => ?_)
      · replace h := bu_t h cc
        refine bv_aload_n dX5_readRun_182 0 rfl ?_
        refine bv_iload_n dX5_readRun_183 2 rfl ?_
        refine bv_if_ne (tgt := 196) dX5_readRun_184 (by decide) (fun cc => ?_) (fun cc => ?_)
        · replace h := bu_f h cc
          refine bv_iconst (v := 1) dX5_readRun_196 (by decide) ?_
          refine bz_putI hN okL_3 dX5_readRun_197 fl_5_54 rfl ?_
          obtain rfl := Option.some.inj h
          exact bv_vret dX5_readRun_200 rfl ⟨rfl, rfl⟩
        · replace h := bu_t h cc
          refine bv_iload_n dX5_readRun_187 3 rfl ?_
          refine bv_iconst (v := 3) dX5_readRun_188 (by decide) ?_
          refine bv_icmp_gt (tgt := 196) dX5_readRun_189 (by decide) (fun cc => ?_) (fun cc => ?_)
          · replace h := bu_t h cc
            refine bv_iconst (v := 1) dX5_readRun_196 (by decide) ?_
            refine bz_putI hN okL_3 dX5_readRun_197 fl_5_54 rfl ?_
            obtain rfl := Option.some.inj h
            exact bv_vret dX5_readRun_200 rfl ⟨rfl, rfl⟩
          · replace h := bu_f h cc
            refine bv_iconst (v := 3) dX5_readRun_192 (by decide) ?_
            refine bv_goto (tgt := 197) dX5_readRun_193 (by decide) ?_
            refine bz_putI hN okL_3 dX5_readRun_197 fl_5_54 rfl ?_
            obtain rfl := Option.some.inj h
            exact bv_vret dX5_readRun_200 rfl ⟨rfl, rfl⟩
      · replace h := bu_f h cc
        refine bv_aload_n dX5_readRun_152 0 rfl ?_
        refine bv_aload_n dX5_readRun_153 0 rfl ?_
        refine bz_getJ hN okL_3 dX5_readRun_154 fl_5_66 rfl ?_
        obtain ⟨v4, p5, h⟩ := bu_bd h
        refine bw_callS (As := [.long (y3.2.2 3 7)]) dX5_readRun_157 mc_5_79 (c_X10_named (d := d + 0) hN hR p5) rfl rfl (Nat.le_of_ble_eq_true rfl) ?_
        refine bz_putQ (v := v4) hN okL_3 dX5_readRun_160 fl_5_44 rfl ?_
        refine bv_aload_n dX5_readRun_163 0 rfl ?_
        refine bv_aload_n dX5_readRun_164 0 rfl ?_
        refine bz_getQ hN okL_3 dX5_readRun_165 fl_5_44 rfl ?_
        refine bv_ifnonnull (x := ((bm_uW W 3 8 v4) 3 8)) (tgt := 175) dX5_readRun_168 (by decide) (fun cc => ?_) (fun cc => ?_)
        · replace h := bu_f h cc
          refine bv_iconst (v := 4) dX5_readRun_175 (by decide) ?_
          refine bz_putI hN okL_3 dX5_readRun_176 fl_5_54 rfl ?_
          refine bv_goto (tgt := 200) dX5_readRun_179 (by decide) ?_
          obtain rfl := Option.some.inj h
          exact bv_vret dX5_readRun_200 rfl ⟨rfl, rfl⟩
        · replace h := bu_t h cc
          refine bv_iconst (v := 5) dX5_readRun_171 (by decide) ?_
          refine bv_goto (tgt := 176) dX5_readRun_172 (by decide) ?_
          refine bz_putI hN okL_3 dX5_readRun_176 fl_5_54 rfl ?_
          refine bv_goto (tgt := 200) dX5_readRun_179 (by decide) ?_
          obtain rfl := Option.some.inj h
          exact bv_vret dX5_readRun_200 rfl ⟨rfl, rfl⟩
def f_X5_advance_l0 : Nat → bm_TI → Option (bm_TI)
  | 0, _ => none
  | k + 1, I => (if (I 1 1) ≤ (I 3 2) then some I else (if bm_ix 940 (I 3 2) = true then (if (f_X5_isBlank (I 2 (I 3 2).toNatClampNeg)) = true then f_X5_advance_l0 k (bm_uI I 3 2 ((I 3 2) + 1)) else some I) else none))
set_option maxHeartbeats 4000000 in
set_option maxRecDepth 100000 in
theorem v_X5_advance_l0 {lc : bm_L} {d n : Nat} {Q : Option Value → bm_M → Prop} {R : bm_TR} {J : bm_TJ} {W : bm_TR} (hN : 181 ≤ n) (hR : bm_RR R) : ∀ (k : Nat) (I : bm_TI) (r : bm_TI), f_X5_advance_l0 k I = some r → (∀ yy, yy = r → bm_V lc m_X5_advance (d + 2) n n n 45 [(0, .ref 3)] [] (yy, J, R, W) Q) → bm_V lc m_X5_advance (d + 2) n n n 0 [(0, .ref 3)] [] (I, J, R, W) Q := by
  intro k
  induction k with
  | zero => intro I r h; cases (show (none : Option (bm_TI)) = some r from h)
  | succ k ih =>
    intro I r h K0
    unfold f_X5_advance_l0 at h
    refine bv_aload_n dX5_advance_0 0 rfl ?_
    refine bz_getI hN okL_3 dX5_advance_1 fl_5_19 rfl ?_
    refine bv_aload_n dX5_advance_4 0 rfl ?_
    refine bz_getA (a := 1) hN okL_3 (hR _ _ _ r0_3_0) dX5_advance_5 fl_5_9 rfl ?_
    refine bz_getI hN okL_1 dX5_advance_8 fl_5_31 rfl ?_
    refine bv_icmp_ge (tgt := 45) dX5_advance_11 (by decide) (fun cc => ?_) (fun cc => ?_)
    · replace h := bu_t h cc
      obtain rfl := Option.some.inj h
      exact K0 _ rfl
    · replace h := bu_f h cc
      refine bv_aload_n dX5_advance_14 0 rfl ?_
      refine bz_getA (a := 1) hN okL_3 (hR _ _ _ r0_3_0) dX5_advance_15 fl_5_9 rfl ?_
      refine bz_getA (a := 2) hN okL_1 (hR _ _ _ r0_1_0) dX5_advance_18 fl_5_36 rfl ?_
      refine bv_aload_n dX5_advance_21 0 rfl ?_
      refine bz_getI hN okL_3 dX5_advance_22 fl_5_19 rfl ?_
      obtain ⟨r1, h⟩ := bu_ix h
      refine bz_iald hN rkL_2 r1 rfl dX5_advance_25 ?_
      refine bw_callS (As := [.int (I 2 (I 3 2).toNatClampNeg)]) dX5_advance_26 mc_5_40 (c_X5_isBlank (d := d + 1) hN hR rfl) rfl rfl (by decide) ?_
      refine bw_ifB_eq (b := (f_X5_isBlank (I 2 (I 3 2).toNatClampNeg))) (tgt := 45) dX5_advance_29 (by decide) (fun cc => ?_) (fun cc => ?_)
      · replace h := bu_bf h cc
        obtain rfl := Option.some.inj h
        exact K0 _ rfl
      · replace h := bu_bt h cc
        refine bv_aload_n dX5_advance_32 0 rfl ?_
        refine bv_dup dX5_advance_33 rfl ?_
        refine bz_getI hN okL_3 dX5_advance_34 fl_5_19 rfl ?_
        refine bv_iconst (v := 1) dX5_advance_37 (by decide) ?_
        refine bv_iadd dX5_advance_38 ?_
        refine bz_putI hN okL_3 dX5_advance_39 fl_5_19 rfl ?_
        refine bv_goto (tgt := 0) dX5_advance_42 (by decide) ?_
        exact ih _ _ h K0
def f_X5_advance (I : bm_TI) (J : bm_TJ) (W : bm_TR) : Option (bm_TI × bm_TJ × bm_TR) := ((f_X5_advance_l0 1000 I).bind fun y3 => (if ((bm_uI (bm_uI y3 3 6 0) 3 4 ((bm_uI y3 3 6 0) 3 2)) 1 1) ≤ ((bm_uI (bm_uI y3 3 6 0) 3 4 ((bm_uI y3 3 6 0) 3 2)) 3 1) then (if ((bm_uI (bm_uI y3 3 6 0) 3 4 ((bm_uI y3 3 6 0) 3 2)) 3 2) < ((bm_uI (bm_uI y3 3 6 0) 3 4 ((bm_uI y3 3 6 0) 3 2)) 1 1) then (if bm_ix 940 ((bm_uI (bm_uI y3 3 6 0) 3 4 ((bm_uI y3 3 6 0) 3 2)) 3 2) = true then (if (f_X5_isLetter ((bm_uI (bm_uI y3 3 6 0) 3 4 ((bm_uI y3 3 6 0) 3 2)) 2 ((bm_uI (bm_uI y3 3 6 0) 3 4 ((bm_uI y3 3 6 0) 3 2)) 3 2).toNatClampNeg)) = true then ((f_X5_readRun (bm_uI (bm_uI y3 3 6 0) 3 4 ((bm_uI y3 3 6 0) 3 2)) J (bm_uW W 3 8 none)).bind fun v5 => some (v5.1, v5.2.1, v5.2.2)) else (if (f_X5_isDigit ((bm_uI (bm_uI y3 3 6 0) 3 4 ((bm_uI y3 3 6 0) 3 2)) 2 ((bm_uI (bm_uI y3 3 6 0) 3 4 ((bm_uI y3 3 6 0) 3 2)) 3 2).toNatClampNeg)) = true then ((f_X5_readRun (bm_uI (bm_uI y3 3 6 0) 3 4 ((bm_uI y3 3 6 0) 3 2)) J (bm_uW W 3 8 none)).bind fun v8 => some (v8.1, v8.2.1, v8.2.2)) else (if bm_ix 940 ((bm_uI (bm_uI (bm_uI y3 3 6 0) 3 4 ((bm_uI y3 3 6 0) 3 2)) 3 3 2) 3 2) = true then some ((bm_uI (bm_uI (bm_uI (bm_uI (bm_uI y3 3 6 0) 3 4 ((bm_uI y3 3 6 0) 3 2)) 3 3 2) 3 6 ((bm_uI (bm_uI (bm_uI y3 3 6 0) 3 4 ((bm_uI y3 3 6 0) 3 2)) 3 3 2) 2 ((bm_uI (bm_uI (bm_uI y3 3 6 0) 3 4 ((bm_uI y3 3 6 0) 3 2)) 3 3 2) 3 2).toNatClampNeg)) 3 2 (((bm_uI (bm_uI (bm_uI (bm_uI y3 3 6 0) 3 4 ((bm_uI y3 3 6 0) 3 2)) 3 3 2) 3 6 ((bm_uI (bm_uI (bm_uI y3 3 6 0) 3 4 ((bm_uI y3 3 6 0) 3 2)) 3 3 2) 2 ((bm_uI (bm_uI (bm_uI y3 3 6 0) 3 4 ((bm_uI y3 3 6 0) 3 2)) 3 3 2) 3 2).toNatClampNeg)) 3 2) + 1)), J, (bm_uW W 3 8 none)) else none))) else none) else some ((bm_uI (bm_uI (bm_uI y3 3 6 0) 3 4 ((bm_uI y3 3 6 0) 3 2)) 3 3 0), J, (bm_uW W 3 8 none))) else (if ((bm_uI (bm_uI y3 3 6 0) 3 4 ((bm_uI y3 3 6 0) 3 2)) 3 2) < ((bm_uI (bm_uI y3 3 6 0) 3 4 ((bm_uI y3 3 6 0) 3 2)) 3 1) then (if ((bm_uI (bm_uI y3 3 6 0) 3 4 ((bm_uI y3 3 6 0) 3 2)) 3 2) < ((bm_uI (bm_uI y3 3 6 0) 3 4 ((bm_uI y3 3 6 0) 3 2)) 1 1) then (if bm_ix 940 ((bm_uI (bm_uI y3 3 6 0) 3 4 ((bm_uI y3 3 6 0) 3 2)) 3 2) = true then (if (f_X5_isLetter ((bm_uI (bm_uI y3 3 6 0) 3 4 ((bm_uI y3 3 6 0) 3 2)) 2 ((bm_uI (bm_uI y3 3 6 0) 3 4 ((bm_uI y3 3 6 0) 3 2)) 3 2).toNatClampNeg)) = true then ((f_X5_readRun (bm_uI (bm_uI y3 3 6 0) 3 4 ((bm_uI y3 3 6 0) 3 2)) J (bm_uW W 3 8 none)).bind fun v11 => some (v11.1, v11.2.1, v11.2.2)) else (if (f_X5_isDigit ((bm_uI (bm_uI y3 3 6 0) 3 4 ((bm_uI y3 3 6 0) 3 2)) 2 ((bm_uI (bm_uI y3 3 6 0) 3 4 ((bm_uI y3 3 6 0) 3 2)) 3 2).toNatClampNeg)) = true then ((f_X5_readRun (bm_uI (bm_uI y3 3 6 0) 3 4 ((bm_uI y3 3 6 0) 3 2)) J (bm_uW W 3 8 none)).bind fun v14 => some (v14.1, v14.2.1, v14.2.2)) else (if bm_ix 940 ((bm_uI (bm_uI (bm_uI y3 3 6 0) 3 4 ((bm_uI y3 3 6 0) 3 2)) 3 3 2) 3 2) = true then some ((bm_uI (bm_uI (bm_uI (bm_uI (bm_uI y3 3 6 0) 3 4 ((bm_uI y3 3 6 0) 3 2)) 3 3 2) 3 6 ((bm_uI (bm_uI (bm_uI y3 3 6 0) 3 4 ((bm_uI y3 3 6 0) 3 2)) 3 3 2) 2 ((bm_uI (bm_uI (bm_uI y3 3 6 0) 3 4 ((bm_uI y3 3 6 0) 3 2)) 3 3 2) 3 2).toNatClampNeg)) 3 2 (((bm_uI (bm_uI (bm_uI (bm_uI y3 3 6 0) 3 4 ((bm_uI y3 3 6 0) 3 2)) 3 3 2) 3 6 ((bm_uI (bm_uI (bm_uI y3 3 6 0) 3 4 ((bm_uI y3 3 6 0) 3 2)) 3 3 2) 2 ((bm_uI (bm_uI (bm_uI y3 3 6 0) 3 4 ((bm_uI y3 3 6 0) 3 2)) 3 3 2) 3 2).toNatClampNeg)) 3 2) + 1)), J, (bm_uW W 3 8 none)) else none))) else none) else some ((bm_uI (bm_uI (bm_uI y3 3 6 0) 3 4 ((bm_uI y3 3 6 0) 3 2)) 3 3 0), J, (bm_uW W 3 8 none))) else some ((bm_uI (bm_uI (bm_uI (bm_uI y3 3 6 0) 3 4 ((bm_uI y3 3 6 0) 3 2)) 3 3 1) 3 4 ((bm_uI (bm_uI (bm_uI y3 3 6 0) 3 4 ((bm_uI y3 3 6 0) 3 2)) 3 3 1) 3 1)), J, (bm_uW W 3 8 none)))))
set_option maxHeartbeats 4000000 in
set_option maxRecDepth 100000 in
theorem c_X5_advance {lc : bm_L} {d n : Nat} {I : bm_TI} {J : bm_TJ} {R W : bm_TR} {v : bm_TI × bm_TJ × bm_TR} (hN : 181 ≤ n) (hR : bm_RR R) (h : f_X5_advance I J W = some v) : bm_C lc m_X5_advance (d + 2) n n [.ref 3] (I, J, R, W) (fun r M' => r = none ∧ M' = (v.1, v.2.1, R, v.2.2)) := by
  refine bm_C.ofV (by decide) (Nat.le_of_ble_eq_true rfl) ?_
  show bm_V lc m_X5_advance (d + 2) n n n 0 [(0, .ref 3)] [] (I, J, R, W) _
  unfold f_X5_advance at h
  obtain ⟨r1, p2, h⟩ := bu_bd h
  refine v_X5_advance_l0 hN hR 1000 _ _ p2 (fun y3 hy => ?_)
  · subst hy
    refine bv_aload_n dX5_advance_45 0 rfl ?_
    refine bv_null dX5_advance_46 ?_
    refine bz_putQ (v := none) hN okL_3 dX5_advance_47 fl_5_44 rfl ?_
    refine bv_aload_n dX5_advance_50 0 rfl ?_
    refine bv_iconst (v := 0) dX5_advance_51 (by decide) ?_
    refine bz_putI hN okL_3 dX5_advance_52 fl_5_48 rfl ?_
    refine bv_aload_n dX5_advance_55 0 rfl ?_
    refine bv_aload_n dX5_advance_56 0 rfl ?_
    refine bz_getI hN okL_3 dX5_advance_57 fl_5_19 rfl ?_
    refine bz_putI hN okL_3 dX5_advance_60 fl_5_51 rfl ?_
    refine bv_aload_n dX5_advance_63 0 rfl ?_
    refine bz_getA (a := 1) hN okL_3 (hR _ _ _ r0_3_0) dX5_advance_64 fl_5_9 rfl ?_
    refine bz_getI hN okL_1 dX5_advance_67 fl_5_31 rfl ?_
    refine bv_aload_n dX5_advance_70 0 rfl ?_
    refine bz_getI hN okL_3 dX5_advance_71 fl_5_15 rfl ?_
    refine bv_icmp_le (tgt := 104) dX5_advance_74 (by decide) (fun cc => ?_) (fun cc => ?_)
    · replace h := bu_t h cc
      refine bv_aload_n dX5_advance_104 0 rfl ?_
      refine bz_getI hN okL_3 dX5_advance_105 fl_5_19 rfl ?_
      refine bv_aload_n dX5_advance_108 0 rfl ?_
      refine bz_getA (a := 1) hN okL_3 (hR _ _ _ r0_3_0) dX5_advance_109 fl_5_9 rfl ?_
      refine bz_getI hN okL_1 dX5_advance_112 fl_5_31 rfl ?_
      refine bv_icmp_lt (tgt := 126) dX5_advance_115 (by decide) (fun cc => ?_) (fun cc => ?_)
      · replace h := bu_t h cc
        refine bv_aload_n dX5_advance_126 0 rfl ?_
        refine bz_getA (a := 1) hN okL_3 (hR _ _ _ r0_3_0) dX5_advance_127 fl_5_9 rfl ?_
        refine bz_getA (a := 2) hN okL_1 (hR _ _ _ r0_1_0) dX5_advance_130 fl_5_36 rfl ?_
        refine bv_aload_n dX5_advance_133 0 rfl ?_
        refine bz_getI hN okL_3 dX5_advance_134 fl_5_19 rfl ?_
        obtain ⟨r4, h⟩ := bu_ix h
        refine bz_iald hN rkL_2 r4 rfl dX5_advance_137 ?_
        refine bw_callS (As := [.int ((bm_uI (bm_uI y3 3 6 0) 3 4 ((bm_uI y3 3 6 0) 3 2)) 2 ((bm_uI (bm_uI y3 3 6 0) 3 4 ((bm_uI y3 3 6 0) 3 2)) 3 2).toNatClampNeg)]) dX5_advance_138 mc_5_57 (c_X5_isLetter (d := d + 1) hN hR rfl) rfl rfl (by decide) ?_
        refine bw_ifB_ne (b := (f_X5_isLetter ((bm_uI (bm_uI y3 3 6 0) 3 4 ((bm_uI y3 3 6 0) 3 2)) 2 ((bm_uI (bm_uI y3 3 6 0) 3 4 ((bm_uI y3 3 6 0) 3 2)) 3 2).toNatClampNeg))) (tgt := 162) dX5_advance_141 (by decide) (fun cc => ?_) (fun cc => ?_)
        · replace h := bu_bt h cc
          refine bv_aload_n dX5_advance_162 0 rfl ?_
          obtain ⟨v5, p6, h⟩ := bu_bd h
          refine bw_callVv (As := []) hN okL_3 ⟨_, _, rfl⟩ dX5_advance_163 mc_5_63 (c_X5_readRun (d := d + 0) hN hR p6) rfl rfl (by decide) ?_
          refine bv_goto (tgt := 200) dX5_advance_166 (by decide) ?_
          obtain rfl := Option.some.inj h
          exact bv_vret dX5_advance_200 rfl ⟨rfl, rfl⟩
        · replace h := bu_bf h cc
          refine bv_aload_n dX5_advance_144 0 rfl ?_
          refine bz_getA (a := 1) hN okL_3 (hR _ _ _ r0_3_0) dX5_advance_145 fl_5_9 rfl ?_
          refine bz_getA (a := 2) hN okL_1 (hR _ _ _ r0_1_0) dX5_advance_148 fl_5_36 rfl ?_
          refine bv_aload_n dX5_advance_151 0 rfl ?_
          refine bz_getI hN okL_3 dX5_advance_152 fl_5_19 rfl ?_
          refine bz_iald hN rkL_2 r4 rfl dX5_advance_155 ?_
          refine bw_callS (As := [.int ((bm_uI (bm_uI y3 3 6 0) 3 4 ((bm_uI y3 3 6 0) 3 2)) 2 ((bm_uI (bm_uI y3 3 6 0) 3 4 ((bm_uI y3 3 6 0) 3 2)) 3 2).toNatClampNeg)]) dX5_advance_156 mc_5_60 (c_X5_isDigit (d := d + 1) hN hR rfl) rfl rfl (by decide) ?_
          refine bw_ifB_eq (b := (f_X5_isDigit ((bm_uI (bm_uI y3 3 6 0) 3 4 ((bm_uI y3 3 6 0) 3 2)) 2 ((bm_uI (bm_uI y3 3 6 0) 3 4 ((bm_uI y3 3 6 0) 3 2)) 3 2).toNatClampNeg))) (tgt := 169) dX5_advance_159 (by decide) (fun cc => ?_) (fun cc => ?_)
          · replace h := bu_bf h cc
            refine bv_aload_n dX5_advance_169 0 rfl ?_
            refine bv_iconst (v := 2) dX5_advance_170 (by decide) ?_
            refine bz_putI hN okL_3 dX5_advance_171 fl_5_54 rfl ?_
            refine bv_aload_n dX5_advance_174 0 rfl ?_
            refine bv_aload_n dX5_advance_175 0 rfl ?_
            refine bz_getA (a := 1) hN okL_3 (hR _ _ _ r0_3_0) dX5_advance_176 fl_5_9 rfl ?_
            refine bz_getA (a := 2) hN okL_1 (hR _ _ _ r0_1_0) dX5_advance_179 fl_5_36 rfl ?_
            refine bv_aload_n dX5_advance_182 0 rfl ?_
            refine bz_getI hN okL_3 dX5_advance_183 fl_5_19 rfl ?_
            obtain ⟨r7, h⟩ := bu_ix h
            refine bz_iald hN rkL_2 r7 rfl dX5_advance_186 ?_
            refine bz_putI hN okL_3 dX5_advance_187 fl_5_48 rfl ?_
            refine bv_aload_n dX5_advance_190 0 rfl ?_
            refine bv_dup dX5_advance_191 rfl ?_
            refine bz_getI hN okL_3 dX5_advance_192 fl_5_19 rfl ?_
            refine bv_iconst (v := 1) dX5_advance_195 (by decide) ?_
            refine bv_iadd dX5_advance_196 ?_
            refine bz_putI hN okL_3 dX5_advance_197 fl_5_19 rfl ?_
            obtain rfl := Option.some.inj h
            exact bv_vret dX5_advance_200 rfl ⟨rfl, rfl⟩
          · replace h := bu_bt h cc
            refine bv_aload_n dX5_advance_162 0 rfl ?_
            obtain ⟨v8, p9, h⟩ := bu_bd h
            refine bw_callVv (As := []) hN okL_3 ⟨_, _, rfl⟩ dX5_advance_163 mc_5_63 (c_X5_readRun (d := d + 0) hN hR p9) rfl rfl (by decide) ?_
            refine bv_goto (tgt := 200) dX5_advance_166 (by decide) ?_
            obtain rfl := Option.some.inj h
            exact bv_vret dX5_advance_200 rfl ⟨rfl, rfl⟩
      · replace h := bu_f h cc
        refine bv_aload_n dX5_advance_118 0 rfl ?_
        refine bv_iconst (v := 0) dX5_advance_119 (by decide) ?_
        refine bz_putI hN okL_3 dX5_advance_120 fl_5_54 rfl ?_
        refine bv_goto (tgt := 200) dX5_advance_123 (by decide) ?_
        obtain rfl := Option.some.inj h
        exact bv_vret dX5_advance_200 rfl ⟨rfl, rfl⟩
    · replace h := bu_f h cc
      refine bv_aload_n dX5_advance_77 0 rfl ?_
      refine bz_getI hN okL_3 dX5_advance_78 fl_5_19 rfl ?_
      refine bv_aload_n dX5_advance_81 0 rfl ?_
      refine bz_getI hN okL_3 dX5_advance_82 fl_5_15 rfl ?_
      refine bv_icmp_lt (tgt := 104) dX5_advance_85 (by decide) (fun cc => ?_) (fun cc => ?_)
      · replace h := bu_t h cc
        refine bv_aload_n dX5_advance_104 0 rfl ?_
        refine bz_getI hN okL_3 dX5_advance_105 fl_5_19 rfl ?_
        refine bv_aload_n dX5_advance_108 0 rfl ?_
        refine bz_getA (a := 1) hN okL_3 (hR _ _ _ r0_3_0) dX5_advance_109 fl_5_9 rfl ?_
        refine bz_getI hN okL_1 dX5_advance_112 fl_5_31 rfl ?_
        refine bv_icmp_lt (tgt := 126) dX5_advance_115 (by decide) (fun cc => ?_) (fun cc => ?_)
        · replace h := bu_t h cc
          refine bv_aload_n dX5_advance_126 0 rfl ?_
          refine bz_getA (a := 1) hN okL_3 (hR _ _ _ r0_3_0) dX5_advance_127 fl_5_9 rfl ?_
          refine bz_getA (a := 2) hN okL_1 (hR _ _ _ r0_1_0) dX5_advance_130 fl_5_36 rfl ?_
          refine bv_aload_n dX5_advance_133 0 rfl ?_
          refine bz_getI hN okL_3 dX5_advance_134 fl_5_19 rfl ?_
          obtain ⟨r10, h⟩ := bu_ix h
          refine bz_iald hN rkL_2 r10 rfl dX5_advance_137 ?_
          refine bw_callS (As := [.int ((bm_uI (bm_uI y3 3 6 0) 3 4 ((bm_uI y3 3 6 0) 3 2)) 2 ((bm_uI (bm_uI y3 3 6 0) 3 4 ((bm_uI y3 3 6 0) 3 2)) 3 2).toNatClampNeg)]) dX5_advance_138 mc_5_57 (c_X5_isLetter (d := d + 1) hN hR rfl) rfl rfl (by decide) ?_
          refine bw_ifB_ne (b := (f_X5_isLetter ((bm_uI (bm_uI y3 3 6 0) 3 4 ((bm_uI y3 3 6 0) 3 2)) 2 ((bm_uI (bm_uI y3 3 6 0) 3 4 ((bm_uI y3 3 6 0) 3 2)) 3 2).toNatClampNeg))) (tgt := 162) dX5_advance_141 (by decide) (fun cc => ?_) (fun cc => ?_)
          · replace h := bu_bt h cc
            refine bv_aload_n dX5_advance_162 0 rfl ?_
            obtain ⟨v11, p12, h⟩ := bu_bd h
            refine bw_callVv (As := []) hN okL_3 ⟨_, _, rfl⟩ dX5_advance_163 mc_5_63 (c_X5_readRun (d := d + 0) hN hR p12) rfl rfl (by decide) ?_
            refine bv_goto (tgt := 200) dX5_advance_166 (by decide) ?_
            obtain rfl := Option.some.inj h
            exact bv_vret dX5_advance_200 rfl ⟨rfl, rfl⟩
          · replace h := bu_bf h cc
            refine bv_aload_n dX5_advance_144 0 rfl ?_
            refine bz_getA (a := 1) hN okL_3 (hR _ _ _ r0_3_0) dX5_advance_145 fl_5_9 rfl ?_
            refine bz_getA (a := 2) hN okL_1 (hR _ _ _ r0_1_0) dX5_advance_148 fl_5_36 rfl ?_
            refine bv_aload_n dX5_advance_151 0 rfl ?_
            refine bz_getI hN okL_3 dX5_advance_152 fl_5_19 rfl ?_
            refine bz_iald hN rkL_2 r10 rfl dX5_advance_155 ?_
            refine bw_callS (As := [.int ((bm_uI (bm_uI y3 3 6 0) 3 4 ((bm_uI y3 3 6 0) 3 2)) 2 ((bm_uI (bm_uI y3 3 6 0) 3 4 ((bm_uI y3 3 6 0) 3 2)) 3 2).toNatClampNeg)]) dX5_advance_156 mc_5_60 (c_X5_isDigit (d := d + 1) hN hR rfl) rfl rfl (by decide) ?_
            refine bw_ifB_eq (b := (f_X5_isDigit ((bm_uI (bm_uI y3 3 6 0) 3 4 ((bm_uI y3 3 6 0) 3 2)) 2 ((bm_uI (bm_uI y3 3 6 0) 3 4 ((bm_uI y3 3 6 0) 3 2)) 3 2).toNatClampNeg))) (tgt := 169) dX5_advance_159 (by decide) (fun cc => ?_) (fun cc => ?_)
            · replace h := bu_bf h cc
              refine bv_aload_n dX5_advance_169 0 rfl ?_
              refine bv_iconst (v := 2) dX5_advance_170 (by decide) ?_
              refine bz_putI hN okL_3 dX5_advance_171 fl_5_54 rfl ?_
              refine bv_aload_n dX5_advance_174 0 rfl ?_
              refine bv_aload_n dX5_advance_175 0 rfl ?_
              refine bz_getA (a := 1) hN okL_3 (hR _ _ _ r0_3_0) dX5_advance_176 fl_5_9 rfl ?_
              refine bz_getA (a := 2) hN okL_1 (hR _ _ _ r0_1_0) dX5_advance_179 fl_5_36 rfl ?_
              refine bv_aload_n dX5_advance_182 0 rfl ?_
              refine bz_getI hN okL_3 dX5_advance_183 fl_5_19 rfl ?_
              obtain ⟨r13, h⟩ := bu_ix h
              refine bz_iald hN rkL_2 r13 rfl dX5_advance_186 ?_
              refine bz_putI hN okL_3 dX5_advance_187 fl_5_48 rfl ?_
              refine bv_aload_n dX5_advance_190 0 rfl ?_
              refine bv_dup dX5_advance_191 rfl ?_
              refine bz_getI hN okL_3 dX5_advance_192 fl_5_19 rfl ?_
              refine bv_iconst (v := 1) dX5_advance_195 (by decide) ?_
              refine bv_iadd dX5_advance_196 ?_
              refine bz_putI hN okL_3 dX5_advance_197 fl_5_19 rfl ?_
              obtain rfl := Option.some.inj h
              exact bv_vret dX5_advance_200 rfl ⟨rfl, rfl⟩
            · replace h := bu_bt h cc
              refine bv_aload_n dX5_advance_162 0 rfl ?_
              obtain ⟨v14, p15, h⟩ := bu_bd h
              refine bw_callVv (As := []) hN okL_3 ⟨_, _, rfl⟩ dX5_advance_163 mc_5_63 (c_X5_readRun (d := d + 0) hN hR p15) rfl rfl (by decide) ?_
              refine bv_goto (tgt := 200) dX5_advance_166 (by decide) ?_
              obtain rfl := Option.some.inj h
              exact bv_vret dX5_advance_200 rfl ⟨rfl, rfl⟩
        · replace h := bu_f h cc
          refine bv_aload_n dX5_advance_118 0 rfl ?_
          refine bv_iconst (v := 0) dX5_advance_119 (by decide) ?_
          refine bz_putI hN okL_3 dX5_advance_120 fl_5_54 rfl ?_
          refine bv_goto (tgt := 200) dX5_advance_123 (by decide) ?_
          obtain rfl := Option.some.inj h
          exact bv_vret dX5_advance_200 rfl ⟨rfl, rfl⟩
      · replace h := bu_f h cc
        refine bv_aload_n dX5_advance_88 0 rfl ?_
        refine bv_iconst (v := 1) dX5_advance_89 (by decide) ?_
        refine bz_putI hN okL_3 dX5_advance_90 fl_5_54 rfl ?_
        refine bv_aload_n dX5_advance_93 0 rfl ?_
        refine bv_aload_n dX5_advance_94 0 rfl ?_
        refine bz_getI hN okL_3 dX5_advance_95 fl_5_15 rfl ?_
        refine bz_putI hN okL_3 dX5_advance_98 fl_5_51 rfl ?_
        refine bv_goto (tgt := 200) dX5_advance_101 (by decide) ?_
        obtain rfl := Option.some.inj h
        exact bv_vret dX5_advance_200 rfl ⟨rfl, rfl⟩
def f_X5_refuse (I : bm_TI) (x1 : Int32) : Option (Bool × bm_TI) := some (false, (bm_uI (bm_uI I 3 9 x1) 3 10 ((bm_uI I 3 9 x1) 3 4)))
set_option maxHeartbeats 4000000 in
set_option maxRecDepth 100000 in
theorem c_X5_refuse {lc : bm_L} {d n : Nat} {I : bm_TI} {J : bm_TJ} {R W : bm_TR} {x1 : Int32} {v : Bool × bm_TI} (hN : 181 ≤ n) (hR : bm_RR R) (h : f_X5_refuse I x1 = some v) : bm_C lc m_X5_refuse d n n [.ref 3, .int x1] (I, J, R, W) (fun r M' => r = some (.int (bm_bi v.1)) ∧ M' = (v.2, J, R, W)) := by
  refine bm_C.ofV (by decide) (Nat.le_of_ble_eq_true rfl) ?_
  show bm_V lc m_X5_refuse d n n n 0 [(0, .ref 3), (1, .int x1)] [] (I, J, R, W) _
  unfold f_X5_refuse at h
  refine bv_aload_n dX5_refuse_0 0 rfl ?_
  refine bv_iload_n dX5_refuse_1 1 rfl ?_
  refine bz_putI hN okL_3 dX5_refuse_2 fl_5_22 rfl ?_
  refine bv_aload_n dX5_refuse_5 0 rfl ?_
  refine bv_aload_n dX5_refuse_6 0 rfl ?_
  refine bz_getI hN okL_3 dX5_refuse_7 fl_5_51 rfl ?_
  refine bz_putI hN okL_3 dX5_refuse_10 fl_5_25 rfl ?_
  refine bv_iconst (v := 0) dX5_refuse_13 (by decide) ?_
  obtain rfl := Option.some.inj h
  exact bw_bret (b := false) dX5_refuse_14 rfl ⟨rfl, rfl⟩
def f_X5_refuseNumber (I : bm_TI) (x1 : Int32) : Option (Int32 × bm_TI) := some ((-1), (bm_uI (bm_uI I 3 9 x1) 3 10 ((bm_uI I 3 9 x1) 3 4)))
set_option maxHeartbeats 4000000 in
set_option maxRecDepth 100000 in
theorem c_X5_refuseNumber {lc : bm_L} {d n : Nat} {I : bm_TI} {J : bm_TJ} {R W : bm_TR} {x1 : Int32} {v : Int32 × bm_TI} (hN : 181 ≤ n) (hR : bm_RR R) (h : f_X5_refuseNumber I x1 = some v) : bm_C lc m_X5_refuseNumber d n n [.ref 3, .int x1] (I, J, R, W) (fun r M' => r = some (.int v.1) ∧ M' = (v.2, J, R, W)) := by
  refine bm_C.ofV (by decide) (Nat.le_of_ble_eq_true rfl) ?_
  show bm_V lc m_X5_refuseNumber d n n n 0 [(0, .ref 3), (1, .int x1)] [] (I, J, R, W) _
  unfold f_X5_refuseNumber at h
  refine bv_aload_n dX5_refuseNumber_0 0 rfl ?_
  refine bv_iload_n dX5_refuseNumber_1 1 rfl ?_
  refine bz_putI hN okL_3 dX5_refuseNumber_2 fl_5_22 rfl ?_
  refine bv_aload_n dX5_refuseNumber_5 0 rfl ?_
  refine bv_aload_n dX5_refuseNumber_6 0 rfl ?_
  refine bz_getI hN okL_3 dX5_refuseNumber_7 fl_5_51 rfl ?_
  refine bz_putI hN okL_3 dX5_refuseNumber_10 fl_5_25 rfl ?_
  refine bv_iconst (v := (-1)) dX5_refuseNumber_13 (by decide) ?_
  obtain rfl := Option.some.inj h
  exact bv_iret (x := (-1)) dX5_refuseNumber_14 rfl ⟨rfl, rfl⟩
def f_X5_numberHere (I : bm_TI) (x1 : Int32) (x2 : Int32) : Option (Int32 × bm_TI) := (if (I 3 3) = 3 then (if (I 3 5) < x1 then ((f_X5_refuseNumber I 2).bind fun v1 => some (v1.1, v1.2)) else (if (I 3 5) ≤ x2 then some ((I 3 5), I) else ((f_X5_refuseNumber I 2).bind fun v3 => some (v3.1, v3.2)))) else ((f_X5_refuseNumber I 1).bind fun v5 => some (v5.1, v5.2)))
set_option maxHeartbeats 4000000 in
set_option maxRecDepth 100000 in
theorem c_X5_numberHere {lc : bm_L} {d n : Nat} {I : bm_TI} {J : bm_TJ} {R W : bm_TR} {x1 : Int32} {x2 : Int32} {v : Int32 × bm_TI} (hN : 181 ≤ n) (hR : bm_RR R) (h : f_X5_numberHere I x1 x2 = some v) : bm_C lc m_X5_numberHere (d + 1) n n [.ref 3, .int x1, .int x2] (I, J, R, W) (fun r M' => r = some (.int v.1) ∧ M' = (v.2, J, R, W)) := by
  refine bm_C.ofV (by decide) (Nat.le_of_ble_eq_true rfl) ?_
  show bm_V lc m_X5_numberHere (d + 1) n n n 0 [(0, .ref 3), (1, .int x1), (2, .int x2)] [] (I, J, R, W) _
  unfold f_X5_numberHere at h
  refine bv_aload_n dX5_numberHere_0 0 rfl ?_
  refine bz_getI hN okL_3 dX5_numberHere_1 fl_5_54 rfl ?_
  refine bv_iconst (v := 3) dX5_numberHere_4 (by decide) ?_
  refine bv_icmp_eq (tgt := 14) dX5_numberHere_5 (by decide) (fun cc => ?_) (fun cc => ?_)
  · replace h := bu_t h cc
    refine bv_aload_n dX5_numberHere_14 0 rfl ?_
    refine bz_getI hN okL_3 dX5_numberHere_15 fl_5_70 rfl ?_
    refine bv_iload_n dX5_numberHere_18 1 rfl ?_
    refine bv_icmp_lt (tgt := 30) dX5_numberHere_19 (by decide) (fun cc => ?_) (fun cc => ?_)
    · replace h := bu_t h cc
      refine bv_aload_n dX5_numberHere_30 0 rfl ?_
      refine bv_iconst (v := 2) dX5_numberHere_31 (by decide) ?_
      obtain ⟨v1, p2, h⟩ := bu_bd h
      refine bw_callV (As := [.int 2]) hN okL_3 ⟨_, _, rfl⟩ dX5_numberHere_32 mc_5_86 (c_X5_refuseNumber (d := d + 0) hN hR p2) rfl rfl (by decide) ?_
      refine bv_goto (tgt := 42) dX5_numberHere_35 (by decide) ?_
      obtain rfl := Option.some.inj h
      exact bv_iret (x := v1.1) dX5_numberHere_42 rfl ⟨rfl, rfl⟩
    · replace h := bu_f h cc
      refine bv_aload_n dX5_numberHere_22 0 rfl ?_
      refine bz_getI hN okL_3 dX5_numberHere_23 fl_5_70 rfl ?_
      refine bv_iload_n dX5_numberHere_26 2 rfl ?_
      refine bv_icmp_le (tgt := 38) dX5_numberHere_27 (by decide) (fun cc => ?_) (fun cc => ?_)
      · replace h := bu_t h cc
        refine bv_aload_n dX5_numberHere_38 0 rfl ?_
        refine bz_getI hN okL_3 dX5_numberHere_39 fl_5_70 rfl ?_
        obtain rfl := Option.some.inj h
        exact bv_iret (x := (I 3 5)) dX5_numberHere_42 rfl ⟨rfl, rfl⟩
      · replace h := bu_f h cc
        refine bv_aload_n dX5_numberHere_30 0 rfl ?_
        refine bv_iconst (v := 2) dX5_numberHere_31 (by decide) ?_
        obtain ⟨v3, p4, h⟩ := bu_bd h
        refine bw_callV (As := [.int 2]) hN okL_3 ⟨_, _, rfl⟩ dX5_numberHere_32 mc_5_86 (c_X5_refuseNumber (d := d + 0) hN hR p4) rfl rfl (by decide) ?_
        refine bv_goto (tgt := 42) dX5_numberHere_35 (by decide) ?_
        obtain rfl := Option.some.inj h
        exact bv_iret (x := v3.1) dX5_numberHere_42 rfl ⟨rfl, rfl⟩
  · replace h := bu_f h cc
    refine bv_aload_n dX5_numberHere_8 0 rfl ?_
    refine bv_iconst (v := 1) dX5_numberHere_9 (by decide) ?_
    obtain ⟨v5, p6, h⟩ := bu_bd h
    refine bw_callV (As := [.int 1]) hN okL_3 ⟨_, _, rfl⟩ dX5_numberHere_10 mc_5_86 (c_X5_refuseNumber (d := d + 0) hN hR p6) rfl rfl (by decide) ?_
    obtain rfl := Option.some.inj h
    exact bv_iret (x := v5.1) dX5_numberHere_13 rfl ⟨rfl, rfl⟩
def f_X5_takeNumber (I : bm_TI) (J : bm_TJ) (W : bm_TR) (x1 : Int32) (x2 : Int32) : Option (Int32 × bm_TI × bm_TJ × bm_TR) := ((f_X5_numberHere I x1 x2).bind fun v1 => (if v1.1 = (-1) then some (v1.1, v1.2, J, W) else ((f_X5_advance v1.2 J W).bind fun v3 => some (v1.1, v3.1, v3.2.1, v3.2.2))))
set_option maxHeartbeats 4000000 in
set_option maxRecDepth 100000 in
theorem c_X5_takeNumber {lc : bm_L} {d n : Nat} {I : bm_TI} {J : bm_TJ} {R W : bm_TR} {x1 : Int32} {x2 : Int32} {v : Int32 × bm_TI × bm_TJ × bm_TR} (hN : 181 ≤ n) (hR : bm_RR R) (h : f_X5_takeNumber I J W x1 x2 = some v) : bm_C lc m_X5_takeNumber (d + 3) n n [.ref 3, .int x1, .int x2] (I, J, R, W) (fun r M' => r = some (.int v.1) ∧ M' = (v.2.1, v.2.2.1, R, v.2.2.2)) := by
  refine bm_C.ofV (by decide) (Nat.le_of_ble_eq_true rfl) ?_
  show bm_V lc m_X5_takeNumber (d + 3) n n n 0 [(0, .ref 3), (1, .int x1), (2, .int x2)] [] (I, J, R, W) _
  unfold f_X5_takeNumber at h
  refine bv_aload_n dX5_takeNumber_0 0 rfl ?_
  refine bv_iload_n dX5_takeNumber_1 1 rfl ?_
  refine bv_iload_n dX5_takeNumber_2 2 rfl ?_
  obtain ⟨v1, p2, h⟩ := bu_bd h
  refine bw_callV (As := [.int x1, .int x2]) hN okL_3 ⟨_, _, rfl⟩ dX5_takeNumber_3 mc_5_90 (c_X5_numberHere (d := d + 1) hN hR p2) rfl rfl (by decide) ?_
  refine bv_istore_n (ls1 := [(0, .ref 3), (1, .int x1), (2, .int x2), (3, .int v1.1)]) dX5_takeNumber_6 (by decide) rfl rfl ?_
  refine bv_iload_n dX5_takeNumber_7 3 rfl ?_
  refine bv_iconst (v := (-1)) dX5_takeNumber_8 (by decide) ?_
  refine bv_icmp_eq (tgt := 16) dX5_takeNumber_9 (by decide) (fun cc => ?_) (fun cc => ?_)
  · replace h := bu_t h cc
    refine bv_iload_n dX5_takeNumber_16 3 rfl ?_
    obtain rfl := Option.some.inj h
    exact bv_iret (x := v1.1) dX5_takeNumber_17 rfl ⟨rfl, rfl⟩
  · replace h := bu_f h cc
    refine bv_aload_n dX5_takeNumber_12 0 rfl ?_
    obtain ⟨v3, p4, h⟩ := bu_bd h
    refine bw_callVv (As := []) hN okL_3 ⟨_, _, rfl⟩ dX5_takeNumber_13 mc_5_28 (c_X5_advance (d := d + 0) hN hR p4) rfl rfl (by decide) ?_
    refine bv_iload_n dX5_takeNumber_16 3 rfl ?_
    obtain rfl := Option.some.inj h
    exact bv_iret (x := v1.1) dX5_takeNumber_17 rfl ⟨rfl, rfl⟩
def f_X0_readFoe (I : bm_TI) (J : bm_TJ) (W : bm_TR) : Option (Bool × bm_TI × bm_TJ × bm_TR) := (if (I 15 14) < 4 then ((f_X5_advance I J W).bind fun v1 => ((f_X5_takeNumber v1.1 v1.2.1 v1.2.2 0 30).bind fun v3 => (if bm_ix 4 (v1.1 15 14) = true then (if bm_ix 4 ((bm_uI v3.2.1 24 ((v1.1 15 14).toNatClampNeg) v3.1) 15 14) = true then (if ((bm_uI v3.2.1 24 ((v1.1 15 14).toNatClampNeg) v3.1) 24 ((bm_uI v3.2.1 24 ((v1.1 15 14).toNatClampNeg) v3.1) 15 14).toNatClampNeg) = (-1) then some (false, (bm_uI v3.2.1 24 ((v1.1 15 14).toNatClampNeg) v3.1), v3.2.2.1, v3.2.2.2) else ((f_X5_takeNumber (bm_uI v3.2.1 24 ((v1.1 15 14).toNatClampNeg) v3.1) v3.2.2.1 v3.2.2.2 0 30).bind fun v7 => (if bm_ix 4 ((bm_uI v7.2.1 25 (((bm_uI v3.2.1 24 ((v1.1 15 14).toNatClampNeg) v3.1) 15 14).toNatClampNeg) v7.1) 15 14) = true then (if ((bm_uI v7.2.1 25 (((bm_uI v3.2.1 24 ((v1.1 15 14).toNatClampNeg) v3.1) 15 14).toNatClampNeg) v7.1) 25 ((bm_uI v7.2.1 25 (((bm_uI v3.2.1 24 ((v1.1 15 14).toNatClampNeg) v3.1) 15 14).toNatClampNeg) v7.1) 15 14).toNatClampNeg) = (-1) then some (false, (bm_uI v7.2.1 25 (((bm_uI v3.2.1 24 ((v1.1 15 14).toNatClampNeg) v3.1) 15 14).toNatClampNeg) v7.1), v7.2.2.1, v7.2.2.2) else some (true, (bm_uI (bm_uI v7.2.1 25 (((bm_uI v3.2.1 24 ((v1.1 15 14).toNatClampNeg) v3.1) 15 14).toNatClampNeg) v7.1) 15 14 (((bm_uI v7.2.1 25 (((bm_uI v3.2.1 24 ((v1.1 15 14).toNatClampNeg) v3.1) 15 14).toNatClampNeg) v7.1) 15 14) + 1)), v7.2.2.1, v7.2.2.2)) else none))) else none) else none))) else ((f_X5_refuse I 4).bind fun v10 => some (v10.1, v10.2, J, W)))
set_option maxHeartbeats 4000000 in
set_option maxRecDepth 100000 in
theorem c_X0_readFoe {lc : bm_L} {d n : Nat} {I : bm_TI} {J : bm_TJ} {R W : bm_TR} {v : Bool × bm_TI × bm_TJ × bm_TR} (hN : 181 ≤ n) (hR : bm_RR R) (h : f_X0_readFoe I J W = some v) : bm_C lc m_X0_readFoe (d + 4) n n [.ref 15, .ref 3] (I, J, R, W) (fun r M' => r = some (.int (bm_bi v.1)) ∧ M' = (v.2.1, v.2.2.1, R, v.2.2.2)) := by
  refine bm_C.ofV (by decide) (Nat.le_of_ble_eq_true rfl) ?_
  show bm_V lc m_X0_readFoe (d + 4) n n n 0 [(0, .ref 15), (1, .ref 3)] [] (I, J, R, W) _
  unfold f_X0_readFoe at h
  refine bv_aload_n dX0_readFoe_0 0 rfl ?_
  refine bz_getI hN okL_15 dX0_readFoe_1 fl_0_68 rfl ?_
  refine bv_iconst (v := 4) dX0_readFoe_4 (by decide) ?_
  refine bv_icmp_lt (tgt := 14) dX0_readFoe_5 (by decide) (fun cc => ?_) (fun cc => ?_)
  · replace h := bu_t h cc
    refine bv_aload_n dX0_readFoe_14 1 rfl ?_
    obtain ⟨v1, p2, h⟩ := bu_bd h
    refine bw_callVv (As := []) hN okL_3 ⟨_, _, rfl⟩ dX0_readFoe_15 mc_0_127 (c_X5_advance (d := d + 1) hN hR p2) rfl rfl (by decide) ?_
    refine bv_aload_n dX0_readFoe_18 0 rfl ?_
    refine bz_getA (a := 24) hN okL_15 (hR _ _ _ r0_15_8) dX0_readFoe_19 fl_0_37 rfl ?_
    refine bv_aload_n dX0_readFoe_22 0 rfl ?_
    refine bz_getI hN okL_15 dX0_readFoe_23 fl_0_68 rfl ?_
    refine bv_aload_n dX0_readFoe_26 1 rfl ?_
    refine bv_iconst (v := 0) dX0_readFoe_27 (by decide) ?_
    refine bv_bipush (v := 30) dX0_readFoe_28 (by decide) ?_
    obtain ⟨v3, p4, h⟩ := bu_bd h
    refine bw_callV (As := [.int 0, .int 30]) hN okL_3 ⟨_, _, rfl⟩ dX0_readFoe_30 mc_0_137 (c_X5_takeNumber (d := d + 0) hN hR p4) rfl rfl (Nat.le_of_ble_eq_true rfl) ?_
    obtain ⟨r5, h⟩ := bu_ix h
    refine bz_iast hN rkL_24 r5 rfl dX0_readFoe_33 ?_
    refine bv_aload_n dX0_readFoe_34 0 rfl ?_
    refine bz_getA (a := 24) hN okL_15 (hR _ _ _ r0_15_8) dX0_readFoe_35 fl_0_37 rfl ?_
    refine bv_aload_n dX0_readFoe_38 0 rfl ?_
    refine bz_getI hN okL_15 dX0_readFoe_39 fl_0_68 rfl ?_
    obtain ⟨r6, h⟩ := bu_ix h
    refine bz_iald hN rkL_24 r6 rfl dX0_readFoe_42 ?_
    refine bv_iconst (v := (-1)) dX0_readFoe_43 (by decide) ?_
    refine bv_icmp_ne (tgt := 49) dX0_readFoe_44 (by decide) (fun cc => ?_) (fun cc => ?_)
    · replace h := bu_f h cc
      refine bv_aload_n dX0_readFoe_49 0 rfl ?_
      refine bz_getA (a := 25) hN okL_15 (hR _ _ _ r0_15_9) dX0_readFoe_50 fl_0_40 rfl ?_
      refine bv_aload_n dX0_readFoe_53 0 rfl ?_
      refine bz_getI hN okL_15 dX0_readFoe_54 fl_0_68 rfl ?_
      refine bv_aload_n dX0_readFoe_57 1 rfl ?_
      refine bv_iconst (v := 0) dX0_readFoe_58 (by decide) ?_
      refine bv_bipush (v := 30) dX0_readFoe_59 (by decide) ?_
      obtain ⟨v7, p8, h⟩ := bu_bd h
      refine bw_callV (As := [.int 0, .int 30]) hN okL_3 ⟨_, _, rfl⟩ dX0_readFoe_61 mc_0_137 (c_X5_takeNumber (d := d + 0) hN hR p8) rfl rfl (Nat.le_of_ble_eq_true rfl) ?_
      refine bz_iast hN rkL_25 r6 rfl dX0_readFoe_64 ?_
      refine bv_aload_n dX0_readFoe_65 0 rfl ?_
      refine bz_getA (a := 25) hN okL_15 (hR _ _ _ r0_15_9) dX0_readFoe_66 fl_0_40 rfl ?_
      refine bv_aload_n dX0_readFoe_69 0 rfl ?_
      refine bz_getI hN okL_15 dX0_readFoe_70 fl_0_68 rfl ?_
      obtain ⟨r9, h⟩ := bu_ix h
      refine bz_iald hN rkL_25 r9 rfl dX0_readFoe_73 ?_
      refine bv_iconst (v := (-1)) dX0_readFoe_74 (by decide) ?_
      refine bv_icmp_ne (tgt := 80) dX0_readFoe_75 (by decide) (fun cc => ?_) (fun cc => ?_)
      · replace h := bu_f h cc
        refine bv_aload_n dX0_readFoe_80 0 rfl ?_
        refine bv_dup dX0_readFoe_81 rfl ?_
        refine bz_getI hN okL_15 dX0_readFoe_82 fl_0_68 rfl ?_
        refine bv_iconst (v := 1) dX0_readFoe_85 (by decide) ?_
        refine bv_iadd dX0_readFoe_86 ?_
        refine bz_putI hN okL_15 dX0_readFoe_87 fl_0_68 rfl ?_
        refine bv_iconst (v := 1) dX0_readFoe_90 (by decide) ?_
        obtain rfl := Option.some.inj h
        exact bw_bret (b := true) dX0_readFoe_91 rfl ⟨rfl, rfl⟩
      · replace h := bu_t h cc
        refine bv_iconst (v := 0) dX0_readFoe_78 (by decide) ?_
        obtain rfl := Option.some.inj h
        exact bw_bret (b := false) dX0_readFoe_79 rfl ⟨rfl, rfl⟩
    · replace h := bu_t h cc
      refine bv_iconst (v := 0) dX0_readFoe_47 (by decide) ?_
      obtain rfl := Option.some.inj h
      exact bw_bret (b := false) dX0_readFoe_48 rfl ⟨rfl, rfl⟩
  · replace h := bu_f h cc
    refine bv_aload_n dX0_readFoe_8 1 rfl ?_
    refine bv_iconst (v := 4) dX0_readFoe_9 (by decide) ?_
    obtain ⟨v10, p11, h⟩ := bu_bd h
    refine bw_callV (As := [.int 4]) hN okL_3 ⟨_, _, rfl⟩ dX0_readFoe_10 mc_0_124 (c_X5_refuse (d := d + 3) hN hR p11) rfl rfl (by decide) ?_
    obtain rfl := Option.some.inj h
    exact bw_bret (b := v10.1) dX0_readFoe_13 rfl ⟨rfl, rfl⟩
def f_X0_manNamed_l2 (I : bm_TI) (J : bm_TJ) (x0 : Nat) (x1 : Int64) : Nat → Int32 → Option (((Int32) ⊕ (Unit)))
  | 0, _ => none
  | k + 1, x3 => (if (I x0 10) ≤ x3 then some (Sum.inr ()) else (if bm_ix 8 x3 = true then (if (lg_cmp (J (x0 + 1) x3.toNatClampNeg) x1) = 0 then some (Sum.inl x3) else f_X0_manNamed_l2 I J x0 x1 k (x3 + 1)) else none))
set_option maxHeartbeats 4000000 in
set_option maxRecDepth 100000 in
theorem v_X0_manNamed_l2 {lc : bm_L} {d n : Nat} {Q : Option Value → bm_M → Prop} {R : bm_TR} {I : bm_TI} {J : bm_TJ} {W : bm_TR} {x0 : Nat} {x1 : Int64} (hN : 181 ≤ n) (hR : bm_RR R) (q_0 : bm_OK x0 0) : ∀ (k : Nat) (x3 : Int32) (r : ((Int32) ⊕ (Unit))), f_X0_manNamed_l2 I J x0 x1 k x3 = some r → (∀ yy, (Sum.inl yy) = r → bm_V lc m_X0_manNamed d n n n 21 [(3, .int yy)] [] (I, J, R, W) Q) → (∀ yy, (Sum.inr yy) = r → bm_V lc m_X0_manNamed d n n n 29 [] [] (I, J, R, W) Q) → bm_V lc m_X0_manNamed d n n n 2 [(0, .ref x0), (1, .long x1), (3, .int x3)] [] (I, J, R, W) Q := by
  intro k
  induction k with
  | zero => intro x3 r h; cases (show (none : Option (((Int32) ⊕ (Unit)))) = some r from h)
  | succ k ih =>
    intro x3 r h K0 K1
    unfold f_X0_manNamed_l2 at h
    refine bv_iload_n dX0_manNamed_2 2 rfl ?_
    refine bv_aload_n dX0_manNamed_3 0 rfl ?_
    refine bz_getI hN q_0 dX0_manNamed_4 fl_0_56 rfl ?_
    refine bv_icmp_ge (tgt := 29) dX0_manNamed_7 (by decide) (fun cc => ?_) (fun cc => ?_)
    · replace h := bu_t h cc
      refine bw_ls (ls1 := []) [] rfl ?_
      obtain rfl := Option.some.inj h
      exact K1 _ rfl
    · replace h := bu_f h cc
      refine bv_aload_n dX0_manNamed_10 0 rfl ?_
      refine bz_getA (a := (x0 + 1)) hN q_0 (hR _ _ _ (tr_0_0 q_0)) dX0_manNamed_11 fl_0_9 rfl ?_
      refine bv_iload_n dX0_manNamed_14 2 rfl ?_
      obtain ⟨r1, h⟩ := bu_ix h
      refine bz_lald hN (rk_0_0 q_0) r1 rfl dX0_manNamed_15 ?_
      refine bv_lload_n dX0_manNamed_16 1 rfl ?_
      refine bv_lcmp dX0_manNamed_17 ?_
      refine bv_if_ne (tgt := 23) dX0_manNamed_18 (by decide) (fun cc => ?_) (fun cc => ?_)
      · replace h := bu_f h cc
        refine bv_iinc (j := 2) (v := (x3 + 1)) (ls1 := [(0, .ref x0), (1, .long x1), (3, .int (x3 + 1))]) dX0_manNamed_23 rfl rfl (by decide) rfl rfl ?_
        refine bv_goto (tgt := 2) dX0_manNamed_26 (by decide) ?_
        exact ih _ _ h K0 K1
      · replace h := bu_t h cc
        refine bw_ls (ls1 := [(3, .int x3)]) [2] rfl ?_
        obtain rfl := Option.some.inj h
        exact K0 _ rfl
def f_X0_manNamed (I : bm_TI) (J : bm_TJ) (x0 : Nat) (x1 : Int64) : Option (Int32) := ((f_X0_manNamed_l2 I J x0 x1 1000 0).bind fun rr => match rr with | (Sum.inl y3) => some y3 | (Sum.inr y3) => some (-1))
set_option maxHeartbeats 4000000 in
set_option maxRecDepth 100000 in
theorem c_X0_manNamed {lc : bm_L} {d n : Nat} {I : bm_TI} {J : bm_TJ} {R W : bm_TR} {x0 : Nat} {x1 : Int64} {v : Int32} (hN : 181 ≤ n) (hR : bm_RR R) (q_0 : bm_OK x0 0) (h : f_X0_manNamed I J x0 x1 = some v) : bm_C lc m_X0_manNamed d n n [.ref x0, .long x1] (I, J, R, W) (fun r M' => r = some (.int v) ∧ M' = (I, J, R, W)) := by
  refine bm_C.ofV (by decide) (Nat.le_of_ble_eq_true rfl) ?_
  show bm_V lc m_X0_manNamed d n n n 0 [(0, .ref x0), (1, .long x1)] [] (I, J, R, W) _
  unfold f_X0_manNamed at h
  refine bv_iconst (v := 0) dX0_manNamed_0 (by decide) ?_
  refine bv_istore_n (ls1 := [(0, .ref x0), (1, .long x1), (3, .int 0)]) dX0_manNamed_1 (by decide) rfl rfl ?_
  obtain ⟨r1, p2, h⟩ := bu_bd h
  refine v_X0_manNamed_l2 hN hR q_0 1000 _ _ p2 (fun y3 hy => ?_) (fun y3 hy => ?_)
  · subst hy
    refine bv_iload_n dX0_manNamed_21 0 rfl ?_
    obtain rfl := Option.some.inj h
    exact bv_iret (x := y3) dX0_manNamed_22 rfl ⟨rfl, rfl⟩
  · subst hy
    refine bv_iconst (v := (-1)) dX0_manNamed_29 (by decide) ?_
    obtain rfl := Option.some.inj h
    exact bv_iret (x := (-1)) dX0_manNamed_30 rfl ⟨rfl, rfl⟩
def f_X0_orderNamed_l2 (I : bm_TI) (J : bm_TJ) (x0 : Nat) (x1 : Int64) : Nat → Int32 → Option (((Int32) ⊕ (Unit)))
  | 0, _ => none
  | k + 1, x3 => (if (I x0 13) ≤ x3 then some (Sum.inr ()) else (if bm_ix 7 x3 = true then (if (lg_cmp (J (x0 + 6) x3.toNatClampNeg) x1) = 0 then some (Sum.inl x3) else f_X0_orderNamed_l2 I J x0 x1 k (x3 + 1)) else none))
set_option maxHeartbeats 4000000 in
set_option maxRecDepth 100000 in
theorem v_X0_orderNamed_l2 {lc : bm_L} {d n : Nat} {Q : Option Value → bm_M → Prop} {R : bm_TR} {I : bm_TI} {J : bm_TJ} {W : bm_TR} {x0 : Nat} {x1 : Int64} (hN : 181 ≤ n) (hR : bm_RR R) (q_0 : bm_OK x0 0) : ∀ (k : Nat) (x3 : Int32) (r : ((Int32) ⊕ (Unit))), f_X0_orderNamed_l2 I J x0 x1 k x3 = some r → (∀ yy, (Sum.inl yy) = r → bm_V lc m_X0_orderNamed d n n n 21 [(3, .int yy)] [] (I, J, R, W) Q) → (∀ yy, (Sum.inr yy) = r → bm_V lc m_X0_orderNamed d n n n 29 [] [] (I, J, R, W) Q) → bm_V lc m_X0_orderNamed d n n n 2 [(0, .ref x0), (1, .long x1), (3, .int x3)] [] (I, J, R, W) Q := by
  intro k
  induction k with
  | zero => intro x3 r h; cases (show (none : Option (((Int32) ⊕ (Unit)))) = some r from h)
  | succ k ih =>
    intro x3 r h K0 K1
    unfold f_X0_orderNamed_l2 at h
    refine bv_iload_n dX0_orderNamed_2 2 rfl ?_
    refine bv_aload_n dX0_orderNamed_3 0 rfl ?_
    refine bz_getI hN q_0 dX0_orderNamed_4 fl_0_65 rfl ?_
    refine bv_icmp_ge (tgt := 29) dX0_orderNamed_7 (by decide) (fun cc => ?_) (fun cc => ?_)
    · replace h := bu_t h cc
      refine bw_ls (ls1 := []) [] rfl ?_
      obtain rfl := Option.some.inj h
      exact K1 _ rfl
    · replace h := bu_f h cc
      refine bv_aload_n dX0_orderNamed_10 0 rfl ?_
      refine bz_getA (a := (x0 + 6)) hN q_0 (hR _ _ _ (tr_0_5 q_0)) dX0_orderNamed_11 fl_0_28 rfl ?_
      refine bv_iload_n dX0_orderNamed_14 2 rfl ?_
      obtain ⟨r1, h⟩ := bu_ix h
      refine bz_lald hN (rk_0_5 q_0) r1 rfl dX0_orderNamed_15 ?_
      refine bv_lload_n dX0_orderNamed_16 1 rfl ?_
      refine bv_lcmp dX0_orderNamed_17 ?_
      refine bv_if_ne (tgt := 23) dX0_orderNamed_18 (by decide) (fun cc => ?_) (fun cc => ?_)
      · replace h := bu_f h cc
        refine bv_iinc (j := 2) (v := (x3 + 1)) (ls1 := [(0, .ref x0), (1, .long x1), (3, .int (x3 + 1))]) dX0_orderNamed_23 rfl rfl (by decide) rfl rfl ?_
        refine bv_goto (tgt := 2) dX0_orderNamed_26 (by decide) ?_
        exact ih _ _ h K0 K1
      · replace h := bu_t h cc
        refine bw_ls (ls1 := [(3, .int x3)]) [2] rfl ?_
        obtain rfl := Option.some.inj h
        exact K0 _ rfl
def f_X0_orderNamed (I : bm_TI) (J : bm_TJ) (x0 : Nat) (x1 : Int64) : Option (Int32) := ((f_X0_orderNamed_l2 I J x0 x1 1000 0).bind fun rr => match rr with | (Sum.inl y3) => some y3 | (Sum.inr y3) => some (-1))
set_option maxHeartbeats 4000000 in
set_option maxRecDepth 100000 in
theorem c_X0_orderNamed {lc : bm_L} {d n : Nat} {I : bm_TI} {J : bm_TJ} {R W : bm_TR} {x0 : Nat} {x1 : Int64} {v : Int32} (hN : 181 ≤ n) (hR : bm_RR R) (q_0 : bm_OK x0 0) (h : f_X0_orderNamed I J x0 x1 = some v) : bm_C lc m_X0_orderNamed d n n [.ref x0, .long x1] (I, J, R, W) (fun r M' => r = some (.int v) ∧ M' = (I, J, R, W)) := by
  refine bm_C.ofV (by decide) (Nat.le_of_ble_eq_true rfl) ?_
  show bm_V lc m_X0_orderNamed d n n n 0 [(0, .ref x0), (1, .long x1)] [] (I, J, R, W) _
  unfold f_X0_orderNamed at h
  refine bv_iconst (v := 0) dX0_orderNamed_0 (by decide) ?_
  refine bv_istore_n (ls1 := [(0, .ref x0), (1, .long x1), (3, .int 0)]) dX0_orderNamed_1 (by decide) rfl rfl ?_
  obtain ⟨r1, p2, h⟩ := bu_bd h
  refine v_X0_orderNamed_l2 hN hR q_0 1000 _ _ p2 (fun y3 hy => ?_) (fun y3 hy => ?_)
  · subst hy
    refine bv_iload_n dX0_orderNamed_21 0 rfl ?_
    obtain rfl := Option.some.inj h
    exact bv_iret (x := y3) dX0_orderNamed_22 rfl ⟨rfl, rfl⟩
  · subst hy
    refine bv_iconst (v := (-1)) dX0_orderNamed_29 (by decide) ?_
    obtain rfl := Option.some.inj h
    exact bv_iret (x := (-1)) dX0_orderNamed_30 rfl ⟨rfl, rfl⟩
def f_X0_isNewName (I : bm_TI) (J : bm_TJ) : Option (Bool × bm_TI) := (if (I 3 3) = 5 then ((f_X0_manNamed I J 15 (J 3 7)).bind fun v1 => (if v1 = (-1) then ((f_X0_orderNamed I J 15 (J 3 7)).bind fun v5 => (if v5 = (-1) then some (true, I) else ((f_X5_refuse I 3).bind fun v7 => some (v7.1, v7.2)))) else ((f_X5_refuse I 3).bind fun v3 => some (v3.1, v3.2)))) else ((f_X5_refuse I 1).bind fun v9 => some (v9.1, v9.2)))
set_option maxHeartbeats 4000000 in
set_option maxRecDepth 100000 in
theorem c_X0_isNewName {lc : bm_L} {d n : Nat} {I : bm_TI} {J : bm_TJ} {R W : bm_TR} {v : Bool × bm_TI} (hN : 181 ≤ n) (hR : bm_RR R) (h : f_X0_isNewName I J = some v) : bm_C lc m_X0_isNewName (d + 1) n n [.ref 15, .ref 3] (I, J, R, W) (fun r M' => r = some (.int (bm_bi v.1)) ∧ M' = (v.2, J, R, W)) := by
  refine bm_C.ofV (by decide) (Nat.le_of_ble_eq_true rfl) ?_
  show bm_V lc m_X0_isNewName (d + 1) n n n 0 [(0, .ref 15), (1, .ref 3)] [] (I, J, R, W) _
  unfold f_X0_isNewName at h
  refine bv_aload_n dX0_isNewName_0 1 rfl ?_
  refine bz_getI hN okL_3 dX0_isNewName_1 fl_0_71 rfl ?_
  refine bv_iconst (v := 5) dX0_isNewName_4 (by decide) ?_
  refine bv_icmp_eq (tgt := 14) dX0_isNewName_5 (by decide) (fun cc => ?_) (fun cc => ?_)
  · replace h := bu_t h cc
    refine bv_aload_n dX0_isNewName_14 0 rfl ?_
    refine bv_aload_n dX0_isNewName_15 1 rfl ?_
    refine bz_getJ hN okL_3 dX0_isNewName_16 fl_0_133 rfl ?_
    obtain ⟨v1, p2, h⟩ := bu_bd h
    refine bw_callV (As := [.long (J 3 7)]) hN okL_15 ⟨_, _, rfl⟩ dX0_isNewName_19 mc_0_168 (c_X0_manNamed (d := d + 0) hN hR okL_15 p2) rfl rfl (by decide) ?_
    refine bv_iconst (v := (-1)) dX0_isNewName_22 (by decide) ?_
    refine bv_icmp_ne (tgt := 38) dX0_isNewName_23 (by decide) (fun cc => ?_) (fun cc => ?_)
    · replace h := bu_f h cc
      refine bv_aload_n dX0_isNewName_38 1 rfl ?_
      refine bv_iconst (v := 3) dX0_isNewName_39 (by decide) ?_
      obtain ⟨v3, p4, h⟩ := bu_bd h
      refine bw_callV (As := [.int 3]) hN okL_3 ⟨_, _, rfl⟩ dX0_isNewName_40 mc_0_124 (c_X5_refuse (d := d + 0) hN hR p4) rfl rfl (by decide) ?_
      obtain rfl := Option.some.inj h
      exact bw_bret (b := v3.1) dX0_isNewName_43 rfl ⟨rfl, rfl⟩
    · replace h := bu_t h cc
      refine bv_aload_n dX0_isNewName_26 0 rfl ?_
      refine bv_aload_n dX0_isNewName_27 1 rfl ?_
      refine bz_getJ hN okL_3 dX0_isNewName_28 fl_0_133 rfl ?_
      obtain ⟨v5, p6, h⟩ := bu_bd h
      refine bw_callV (As := [.long (J 3 7)]) hN okL_15 ⟨_, _, rfl⟩ dX0_isNewName_31 mc_0_172 (c_X0_orderNamed (d := d + 0) hN hR okL_15 p6) rfl rfl (by decide) ?_
      refine bv_iconst (v := (-1)) dX0_isNewName_34 (by decide) ?_
      refine bv_icmp_eq (tgt := 44) dX0_isNewName_35 (by decide) (fun cc => ?_) (fun cc => ?_)
      · replace h := bu_t h cc
        refine bv_iconst (v := 1) dX0_isNewName_44 (by decide) ?_
        obtain rfl := Option.some.inj h
        exact bw_bret (b := true) dX0_isNewName_45 rfl ⟨rfl, rfl⟩
      · replace h := bu_f h cc
        refine bv_aload_n dX0_isNewName_38 1 rfl ?_
        refine bv_iconst (v := 3) dX0_isNewName_39 (by decide) ?_
        obtain ⟨v7, p8, h⟩ := bu_bd h
        refine bw_callV (As := [.int 3]) hN okL_3 ⟨_, _, rfl⟩ dX0_isNewName_40 mc_0_124 (c_X5_refuse (d := d + 0) hN hR p8) rfl rfl (by decide) ?_
        obtain rfl := Option.some.inj h
        exact bw_bret (b := v7.1) dX0_isNewName_43 rfl ⟨rfl, rfl⟩
  · replace h := bu_f h cc
    refine bv_aload_n dX0_isNewName_8 1 rfl ?_
    refine bv_iconst (v := 1) dX0_isNewName_9 (by decide) ?_
    obtain ⟨v9, p10, h⟩ := bu_bd h
    refine bw_callV (As := [.int 1]) hN okL_3 ⟨_, _, rfl⟩ dX0_isNewName_10 mc_0_124 (c_X5_refuse (d := d + 0) hN hR p10) rfl rfl (by decide) ?_
    obtain rfl := Option.some.inj h
    exact bw_bret (b := v9.1) dX0_isNewName_13 rfl ⟨rfl, rfl⟩
def f_X0_readMan (I : bm_TI) (J : bm_TJ) (W : bm_TR) : Option (Bool × bm_TI × bm_TJ × bm_TR) := (if (I 15 10) < 8 then ((f_X5_advance I J W).bind fun v1 => ((f_X0_isNewName v1.1 v1.2.1).bind fun v3 => (if v3.1 = true then (if bm_ix 8 (v3.2 15 10) = true then ((f_X5_advance v3.2 (bm_uJ v1.2.1 16 ((v3.2 15 10).toNatClampNeg) (v1.2.1 3 7)) v1.2.2).bind fun v6 => ((f_X5_takeNumber v6.1 v6.2.1 v6.2.2 0 30).bind fun v8 => (if bm_ix 8 (v6.1 15 10) = true then (if bm_ix 8 ((bm_uI v8.2.1 17 ((v6.1 15 10).toNatClampNeg) v8.1) 15 10) = true then (if ((bm_uI v8.2.1 17 ((v6.1 15 10).toNatClampNeg) v8.1) 17 ((bm_uI v8.2.1 17 ((v6.1 15 10).toNatClampNeg) v8.1) 15 10).toNatClampNeg) = (-1) then some (false, (bm_uI v8.2.1 17 ((v6.1 15 10).toNatClampNeg) v8.1), v8.2.2.1, v8.2.2.2) else ((f_X5_takeNumber (bm_uI v8.2.1 17 ((v6.1 15 10).toNatClampNeg) v8.1) v8.2.2.1 v8.2.2.2 0 30).bind fun v12 => (if bm_ix 8 ((bm_uI v12.2.1 18 (((bm_uI v8.2.1 17 ((v6.1 15 10).toNatClampNeg) v8.1) 15 10).toNatClampNeg) v12.1) 15 10) = true then (if ((bm_uI v12.2.1 18 (((bm_uI v8.2.1 17 ((v6.1 15 10).toNatClampNeg) v8.1) 15 10).toNatClampNeg) v12.1) 18 ((bm_uI v12.2.1 18 (((bm_uI v8.2.1 17 ((v6.1 15 10).toNatClampNeg) v8.1) 15 10).toNatClampNeg) v12.1) 15 10).toNatClampNeg) = (-1) then some (false, (bm_uI v12.2.1 18 (((bm_uI v8.2.1 17 ((v6.1 15 10).toNatClampNeg) v8.1) 15 10).toNatClampNeg) v12.1), v12.2.2.1, v12.2.2.2) else ((f_X5_takeNumber (bm_uI v12.2.1 18 (((bm_uI v8.2.1 17 ((v6.1 15 10).toNatClampNeg) v8.1) 15 10).toNatClampNeg) v12.1) v12.2.2.1 v12.2.2.2 0 9).bind fun v15 => (if bm_ix 8 ((bm_uI v15.2.1 19 (((bm_uI v12.2.1 18 (((bm_uI v8.2.1 17 ((v6.1 15 10).toNatClampNeg) v8.1) 15 10).toNatClampNeg) v12.1) 15 10).toNatClampNeg) v15.1) 15 10) = true then (if ((bm_uI v15.2.1 19 (((bm_uI v12.2.1 18 (((bm_uI v8.2.1 17 ((v6.1 15 10).toNatClampNeg) v8.1) 15 10).toNatClampNeg) v12.1) 15 10).toNatClampNeg) v15.1) 19 ((bm_uI v15.2.1 19 (((bm_uI v12.2.1 18 (((bm_uI v8.2.1 17 ((v6.1 15 10).toNatClampNeg) v8.1) 15 10).toNatClampNeg) v12.1) 15 10).toNatClampNeg) v15.1) 15 10).toNatClampNeg) = (-1) then some (false, (bm_uI v15.2.1 19 (((bm_uI v12.2.1 18 (((bm_uI v8.2.1 17 ((v6.1 15 10).toNatClampNeg) v8.1) 15 10).toNatClampNeg) v12.1) 15 10).toNatClampNeg) v15.1), v15.2.2.1, v15.2.2.2) else (if bm_iwq (v15.2.2.2 3 8) = true then (if (v15.2.2.2 3 8) = (some (1000 + 24)) then ((f_X5_advance (bm_uI (bm_uI v15.2.1 19 (((bm_uI v12.2.1 18 (((bm_uI v8.2.1 17 ((v6.1 15 10).toNatClampNeg) v8.1) 15 10).toNatClampNeg) v12.1) 15 10).toNatClampNeg) v15.1) 15 11 (((bm_uI v15.2.1 19 (((bm_uI v12.2.1 18 (((bm_uI v8.2.1 17 ((v6.1 15 10).toNatClampNeg) v8.1) 15 10).toNatClampNeg) v12.1) 15 10).toNatClampNeg) v15.1) 15 11) ||| (bm_ishl 1 ((bm_uI v15.2.1 19 (((bm_uI v12.2.1 18 (((bm_uI v8.2.1 17 ((v6.1 15 10).toNatClampNeg) v8.1) 15 10).toNatClampNeg) v12.1) 15 10).toNatClampNeg) v15.1) 15 10)))) v15.2.2.1 v15.2.2.2).bind fun v22 => (if bm_iwq (v22.2.2 3 8) = true then (if (v22.2.2 3 8) = (some (1000 + 25)) then ((f_X5_advance (bm_uI v22.1 15 12 ((v22.1 15 12) ||| (bm_ishl 1 (v22.1 15 10)))) v22.2.1 v22.2.2).bind fun v26 => (if bm_ix 8 (v26.1 15 10) = true then some (true, (bm_uI (bm_uI v26.1 20 ((v26.1 15 10).toNatClampNeg) (-1)) 15 10 (((bm_uI v26.1 20 ((v26.1 15 10).toNatClampNeg) (-1)) 15 10) + 1)), v26.2.1, v26.2.2) else none)) else (if bm_ix 8 (v22.1 15 10) = true then some (true, (bm_uI (bm_uI v22.1 20 ((v22.1 15 10).toNatClampNeg) (-1)) 15 10 (((bm_uI v22.1 20 ((v22.1 15 10).toNatClampNeg) (-1)) 15 10) + 1)), v22.2.1, v22.2.2) else none)) else none)) else (if (v15.2.2.2 3 8) = (some (1000 + 25)) then ((f_X5_advance (bm_uI (bm_uI v15.2.1 19 (((bm_uI v12.2.1 18 (((bm_uI v8.2.1 17 ((v6.1 15 10).toNatClampNeg) v8.1) 15 10).toNatClampNeg) v12.1) 15 10).toNatClampNeg) v15.1) 15 12 (((bm_uI v15.2.1 19 (((bm_uI v12.2.1 18 (((bm_uI v8.2.1 17 ((v6.1 15 10).toNatClampNeg) v8.1) 15 10).toNatClampNeg) v12.1) 15 10).toNatClampNeg) v15.1) 15 12) ||| (bm_ishl 1 ((bm_uI v15.2.1 19 (((bm_uI v12.2.1 18 (((bm_uI v8.2.1 17 ((v6.1 15 10).toNatClampNeg) v8.1) 15 10).toNatClampNeg) v12.1) 15 10).toNatClampNeg) v15.1) 15 10)))) v15.2.2.1 v15.2.2.2).bind fun v19 => (if bm_ix 8 (v19.1 15 10) = true then some (true, (bm_uI (bm_uI v19.1 20 ((v19.1 15 10).toNatClampNeg) (-1)) 15 10 (((bm_uI v19.1 20 ((v19.1 15 10).toNatClampNeg) (-1)) 15 10) + 1)), v19.2.1, v19.2.2) else none)) else some (true, (bm_uI (bm_uI (bm_uI v15.2.1 19 (((bm_uI v12.2.1 18 (((bm_uI v8.2.1 17 ((v6.1 15 10).toNatClampNeg) v8.1) 15 10).toNatClampNeg) v12.1) 15 10).toNatClampNeg) v15.1) 20 (((bm_uI v15.2.1 19 (((bm_uI v12.2.1 18 (((bm_uI v8.2.1 17 ((v6.1 15 10).toNatClampNeg) v8.1) 15 10).toNatClampNeg) v12.1) 15 10).toNatClampNeg) v15.1) 15 10).toNatClampNeg) (-1)) 15 10 (((bm_uI (bm_uI v15.2.1 19 (((bm_uI v12.2.1 18 (((bm_uI v8.2.1 17 ((v6.1 15 10).toNatClampNeg) v8.1) 15 10).toNatClampNeg) v12.1) 15 10).toNatClampNeg) v15.1) 20 (((bm_uI v15.2.1 19 (((bm_uI v12.2.1 18 (((bm_uI v8.2.1 17 ((v6.1 15 10).toNatClampNeg) v8.1) 15 10).toNatClampNeg) v12.1) 15 10).toNatClampNeg) v15.1) 15 10).toNatClampNeg) (-1)) 15 10) + 1)), v15.2.2.1, v15.2.2.2))) else none)) else none))) else none))) else none) else none))) else none) else some (false, v3.2, v1.2.1, v1.2.2)))) else ((f_X5_refuse I 4).bind fun v29 => some (v29.1, v29.2, J, W)))
set_option maxHeartbeats 4000000 in
set_option maxRecDepth 100000 in
theorem c_X0_readMan {lc : bm_L} {d n : Nat} {I : bm_TI} {J : bm_TJ} {R W : bm_TR} {v : Bool × bm_TI × bm_TJ × bm_TR} (hN : 181 ≤ n) (hR : bm_RR R) (h : f_X0_readMan I J W = some v) : bm_C lc m_X0_readMan (d + 4) n n [.ref 15, .ref 3] (I, J, R, W) (fun r M' => r = some (.int (bm_bi v.1)) ∧ M' = (v.2.1, v.2.2.1, R, v.2.2.2)) := by
  refine bm_C.ofV (by decide) (Nat.le_of_ble_eq_true rfl) ?_
  show bm_V lc m_X0_readMan (d + 4) n n n 0 [(0, .ref 15), (1, .ref 3)] [] (I, J, R, W) _
  unfold f_X0_readMan at h
  refine bv_aload_n dX0_readMan_0 0 rfl ?_
  refine bz_getI hN okL_15 dX0_readMan_1 fl_0_56 rfl ?_
  refine bv_bipush (v := 8) dX0_readMan_4 (by decide) ?_
  refine bv_icmp_lt (tgt := 15) dX0_readMan_6 (by decide) (fun cc => ?_) (fun cc => ?_)
  · replace h := bu_t h cc
    refine bv_aload_n dX0_readMan_15 1 rfl ?_
    obtain ⟨v1, p2, h⟩ := bu_bd h
    refine bw_callVv (As := []) hN okL_3 ⟨_, _, rfl⟩ dX0_readMan_16 mc_0_127 (c_X5_advance (d := d + 1) hN hR p2) rfl rfl (by decide) ?_
    refine bv_aload_n dX0_readMan_19 0 rfl ?_
    refine bv_aload_n dX0_readMan_20 1 rfl ?_
    obtain ⟨v3, p4, h⟩ := bu_bd h
    refine bw_callV (As := [.ref 3]) hN okL_15 ⟨_, _, rfl⟩ dX0_readMan_21 mc_0_130 (c_X0_isNewName (d := d + 2) hN hR p4) rfl rfl (by decide) ?_
    refine bw_ifB_ne (b := v3.1) (tgt := 29) dX0_readMan_24 (by decide) (fun cc => ?_) (fun cc => ?_)
    · replace h := bu_bt h cc
      refine bv_aload_n dX0_readMan_29 0 rfl ?_
      refine bz_getA (a := 16) hN okL_15 (hR _ _ _ r0_15_0) dX0_readMan_30 fl_0_9 rfl ?_
      refine bv_aload_n dX0_readMan_33 0 rfl ?_
      refine bz_getI hN okL_15 dX0_readMan_34 fl_0_56 rfl ?_
      refine bv_aload_n dX0_readMan_37 1 rfl ?_
      refine bz_getJ hN okL_3 dX0_readMan_38 fl_0_133 rfl ?_
      obtain ⟨r5, h⟩ := bu_ix h
      refine bz_last hN rkL_16 r5 rfl dX0_readMan_41 ?_
      refine bv_aload_n dX0_readMan_42 1 rfl ?_
      obtain ⟨v6, p7, h⟩ := bu_bd h
      refine bw_callVv (As := []) hN okL_3 ⟨_, _, rfl⟩ dX0_readMan_43 mc_0_127 (c_X5_advance (d := d + 1) hN hR p7) rfl rfl (by decide) ?_
      refine bv_aload_n dX0_readMan_46 0 rfl ?_
      refine bz_getA (a := 17) hN okL_15 (hR _ _ _ r0_15_1) dX0_readMan_47 fl_0_15 rfl ?_
      refine bv_aload_n dX0_readMan_50 0 rfl ?_
      refine bz_getI hN okL_15 dX0_readMan_51 fl_0_56 rfl ?_
      refine bv_aload_n dX0_readMan_54 1 rfl ?_
      refine bv_iconst (v := 0) dX0_readMan_55 (by decide) ?_
      refine bv_bipush (v := 30) dX0_readMan_56 (by decide) ?_
      obtain ⟨v8, p9, h⟩ := bu_bd h
      refine bw_callV (As := [.int 0, .int 30]) hN okL_3 ⟨_, _, rfl⟩ dX0_readMan_58 mc_0_137 (c_X5_takeNumber (d := d + 0) hN hR p9) rfl rfl (Nat.le_of_ble_eq_true rfl) ?_
      obtain ⟨r10, h⟩ := bu_ix h
      refine bz_iast hN rkL_17 r10 rfl dX0_readMan_61 ?_
      refine bv_aload_n dX0_readMan_62 0 rfl ?_
      refine bz_getA (a := 17) hN okL_15 (hR _ _ _ r0_15_1) dX0_readMan_63 fl_0_15 rfl ?_
      refine bv_aload_n dX0_readMan_66 0 rfl ?_
      refine bz_getI hN okL_15 dX0_readMan_67 fl_0_56 rfl ?_
      obtain ⟨r11, h⟩ := bu_ix h
      refine bz_iald hN rkL_17 r11 rfl dX0_readMan_70 ?_
      refine bv_iconst (v := (-1)) dX0_readMan_71 (by decide) ?_
      refine bv_icmp_ne (tgt := 77) dX0_readMan_72 (by decide) (fun cc => ?_) (fun cc => ?_)
      · replace h := bu_f h cc
        refine bv_aload_n dX0_readMan_77 0 rfl ?_
        refine bz_getA (a := 18) hN okL_15 (hR _ _ _ r0_15_2) dX0_readMan_78 fl_0_19 rfl ?_
        refine bv_aload_n dX0_readMan_81 0 rfl ?_
        refine bz_getI hN okL_15 dX0_readMan_82 fl_0_56 rfl ?_
        refine bv_aload_n dX0_readMan_85 1 rfl ?_
        refine bv_iconst (v := 0) dX0_readMan_86 (by decide) ?_
        refine bv_bipush (v := 30) dX0_readMan_87 (by decide) ?_
        obtain ⟨v12, p13, h⟩ := bu_bd h
        refine bw_callV (As := [.int 0, .int 30]) hN okL_3 ⟨_, _, rfl⟩ dX0_readMan_89 mc_0_137 (c_X5_takeNumber (d := d + 0) hN hR p13) rfl rfl (Nat.le_of_ble_eq_true rfl) ?_
        refine bz_iast hN rkL_18 r11 rfl dX0_readMan_92 ?_
        refine bv_aload_n dX0_readMan_93 0 rfl ?_
        refine bz_getA (a := 18) hN okL_15 (hR _ _ _ r0_15_2) dX0_readMan_94 fl_0_19 rfl ?_
        refine bv_aload_n dX0_readMan_97 0 rfl ?_
        refine bz_getI hN okL_15 dX0_readMan_98 fl_0_56 rfl ?_
        obtain ⟨r14, h⟩ := bu_ix h
        refine bz_iald hN rkL_18 r14 rfl dX0_readMan_101 ?_
        refine bv_iconst (v := (-1)) dX0_readMan_102 (by decide) ?_
        refine bv_icmp_ne (tgt := 108) dX0_readMan_103 (by decide) (fun cc => ?_) (fun cc => ?_)
        · replace h := bu_f h cc
          refine bv_aload_n dX0_readMan_108 0 rfl ?_
          refine bz_getA (a := 19) hN okL_15 (hR _ _ _ r0_15_3) dX0_readMan_109 fl_0_22 rfl ?_
          refine bv_aload_n dX0_readMan_112 0 rfl ?_
          refine bz_getI hN okL_15 dX0_readMan_113 fl_0_56 rfl ?_
          refine bv_aload_n dX0_readMan_116 1 rfl ?_
          refine bv_iconst (v := 0) dX0_readMan_117 (by decide) ?_
          refine bv_bipush (v := 9) dX0_readMan_118 (by decide) ?_
          obtain ⟨v15, p16, h⟩ := bu_bd h
          refine bw_callV (As := [.int 0, .int 9]) hN okL_3 ⟨_, _, rfl⟩ dX0_readMan_120 mc_0_137 (c_X5_takeNumber (d := d + 0) hN hR p16) rfl rfl (Nat.le_of_ble_eq_true rfl) ?_
          refine bz_iast hN rkL_19 r14 rfl dX0_readMan_123 ?_
          refine bv_aload_n dX0_readMan_124 0 rfl ?_
          refine bz_getA (a := 19) hN okL_15 (hR _ _ _ r0_15_3) dX0_readMan_125 fl_0_22 rfl ?_
          refine bv_aload_n dX0_readMan_128 0 rfl ?_
          refine bz_getI hN okL_15 dX0_readMan_129 fl_0_56 rfl ?_
          obtain ⟨r17, h⟩ := bu_ix h
          refine bz_iald hN rkL_19 r17 rfl dX0_readMan_132 ?_
          refine bv_iconst (v := (-1)) dX0_readMan_133 (by decide) ?_
          refine bv_icmp_ne (tgt := 139) dX0_readMan_134 (by decide) (fun cc => ?_) (fun cc => ?_)
          · replace h := bu_f h cc
            refine bv_aload_n dX0_readMan_139 1 rfl ?_
            refine bz_getQ hN okL_3 dX0_readMan_140 fl_0_84 rfl ?_
            refine bw_getW (j := 24) dX0_readMan_143 fw_0_141 rfl ?_
            obtain ⟨w18, h⟩ := bu_g h
            refine bv_acmp_ne (x := (v15.2.2.2 3 8)) (y := (some (1000 + 24))) (tgt := 168) dX0_readMan_146 (by decide) (bm_wq_of w18) (bm_wq_of rfl) (fun cc => ?_) (fun cc => ?_)
            · replace h := bu_f h cc
              refine bv_aload_n dX0_readMan_168 1 rfl ?_
              refine bz_getQ hN okL_3 dX0_readMan_169 fl_0_84 rfl ?_
              refine bw_getW (j := 25) dX0_readMan_172 fw_0_144 rfl ?_
              refine bv_acmp_ne (x := (v15.2.2.2 3 8)) (y := (some (1000 + 25))) (tgt := 197) dX0_readMan_175 (by decide) (bm_wq_of w18) (bm_wq_of rfl) (fun cc => ?_) (fun cc => ?_)
              · replace h := bu_f h cc
                refine bv_aload_n dX0_readMan_197 0 rfl ?_
                refine bz_getA (a := 20) hN okL_15 (hR _ _ _ r0_15_4) dX0_readMan_198 fl_0_25 rfl ?_
                refine bv_aload_n dX0_readMan_201 0 rfl ?_
                refine bz_getI hN okL_15 dX0_readMan_202 fl_0_56 rfl ?_
                refine bv_iconst (v := (-1)) dX0_readMan_205 (by decide) ?_
                refine bz_iast hN rkL_20 r17 rfl dX0_readMan_206 ?_
                refine bv_aload_n dX0_readMan_207 0 rfl ?_
                refine bv_dup dX0_readMan_208 rfl ?_
                refine bz_getI hN okL_15 dX0_readMan_209 fl_0_56 rfl ?_
                refine bv_iconst (v := 1) dX0_readMan_212 (by decide) ?_
                refine bv_iadd dX0_readMan_213 ?_
                refine bz_putI hN okL_15 dX0_readMan_214 fl_0_56 rfl ?_
                refine bv_iconst (v := 1) dX0_readMan_217 (by decide) ?_
                obtain rfl := Option.some.inj h
                exact bw_bret (b := true) dX0_readMan_218 rfl ⟨rfl, rfl⟩
              · replace h := bu_t h cc
                refine bv_aload_n dX0_readMan_178 0 rfl ?_
                refine bv_dup dX0_readMan_179 rfl ?_
                refine bz_getI hN okL_15 dX0_readMan_180 fl_0_62 rfl ?_
                refine bv_iconst (v := 1) dX0_readMan_183 (by decide) ?_
                refine bv_aload_n dX0_readMan_184 0 rfl ?_
                refine bz_getI hN okL_15 dX0_readMan_185 fl_0_56 rfl ?_
                refine bv_ishl dX0_readMan_188 ?_
                refine bv_ior dX0_readMan_189 ?_
                refine bz_putI hN okL_15 dX0_readMan_190 fl_0_62 rfl ?_
                refine bv_aload_n dX0_readMan_193 1 rfl ?_
                obtain ⟨v19, p20, h⟩ := bu_bd h
                refine bw_callVv (As := []) hN okL_3 ⟨_, _, rfl⟩ dX0_readMan_194 mc_0_127 (c_X5_advance (d := d + 1) hN hR p20) rfl rfl (by decide) ?_
                refine bv_aload_n dX0_readMan_197 0 rfl ?_
                refine bz_getA (a := 20) hN okL_15 (hR _ _ _ r0_15_4) dX0_readMan_198 fl_0_25 rfl ?_
                refine bv_aload_n dX0_readMan_201 0 rfl ?_
                refine bz_getI hN okL_15 dX0_readMan_202 fl_0_56 rfl ?_
                refine bv_iconst (v := (-1)) dX0_readMan_205 (by decide) ?_
                obtain ⟨r21, h⟩ := bu_ix h
                refine bz_iast hN rkL_20 r21 rfl dX0_readMan_206 ?_
                refine bv_aload_n dX0_readMan_207 0 rfl ?_
                refine bv_dup dX0_readMan_208 rfl ?_
                refine bz_getI hN okL_15 dX0_readMan_209 fl_0_56 rfl ?_
                refine bv_iconst (v := 1) dX0_readMan_212 (by decide) ?_
                refine bv_iadd dX0_readMan_213 ?_
                refine bz_putI hN okL_15 dX0_readMan_214 fl_0_56 rfl ?_
                refine bv_iconst (v := 1) dX0_readMan_217 (by decide) ?_
                obtain rfl := Option.some.inj h
                exact bw_bret (b := true) dX0_readMan_218 rfl ⟨rfl, rfl⟩
            · replace h := bu_t h cc
              refine bv_aload_n dX0_readMan_149 0 rfl ?_
              refine bv_dup dX0_readMan_150 rfl ?_
              refine bz_getI hN okL_15 dX0_readMan_151 fl_0_59 rfl ?_
              refine bv_iconst (v := 1) dX0_readMan_154 (by decide) ?_
              refine bv_aload_n dX0_readMan_155 0 rfl ?_
              refine bz_getI hN okL_15 dX0_readMan_156 fl_0_56 rfl ?_
              refine bv_ishl dX0_readMan_159 ?_
              refine bv_ior dX0_readMan_160 ?_
              refine bz_putI hN okL_15 dX0_readMan_161 fl_0_59 rfl ?_
              refine bv_aload_n dX0_readMan_164 1 rfl ?_
              obtain ⟨v22, p23, h⟩ := bu_bd h
              refine bw_callVv (As := []) hN okL_3 ⟨_, _, rfl⟩ dX0_readMan_165 mc_0_127 (c_X5_advance (d := d + 1) hN hR p23) rfl rfl (by decide) ?_
              refine bv_aload_n dX0_readMan_168 1 rfl ?_
              refine bz_getQ hN okL_3 dX0_readMan_169 fl_0_84 rfl ?_
              refine bw_getW (j := 25) dX0_readMan_172 fw_0_144 rfl ?_
              obtain ⟨w24, h⟩ := bu_g h
              refine bv_acmp_ne (x := (v22.2.2 3 8)) (y := (some (1000 + 25))) (tgt := 197) dX0_readMan_175 (by decide) (bm_wq_of w24) (bm_wq_of rfl) (fun cc => ?_) (fun cc => ?_)
              · replace h := bu_f h cc
                refine bv_aload_n dX0_readMan_197 0 rfl ?_
                refine bz_getA (a := 20) hN okL_15 (hR _ _ _ r0_15_4) dX0_readMan_198 fl_0_25 rfl ?_
                refine bv_aload_n dX0_readMan_201 0 rfl ?_
                refine bz_getI hN okL_15 dX0_readMan_202 fl_0_56 rfl ?_
                refine bv_iconst (v := (-1)) dX0_readMan_205 (by decide) ?_
                obtain ⟨r25, h⟩ := bu_ix h
                refine bz_iast hN rkL_20 r25 rfl dX0_readMan_206 ?_
                refine bv_aload_n dX0_readMan_207 0 rfl ?_
                refine bv_dup dX0_readMan_208 rfl ?_
                refine bz_getI hN okL_15 dX0_readMan_209 fl_0_56 rfl ?_
                refine bv_iconst (v := 1) dX0_readMan_212 (by decide) ?_
                refine bv_iadd dX0_readMan_213 ?_
                refine bz_putI hN okL_15 dX0_readMan_214 fl_0_56 rfl ?_
                refine bv_iconst (v := 1) dX0_readMan_217 (by decide) ?_
                obtain rfl := Option.some.inj h
                exact bw_bret (b := true) dX0_readMan_218 rfl ⟨rfl, rfl⟩
              · replace h := bu_t h cc
                refine bv_aload_n dX0_readMan_178 0 rfl ?_
                refine bv_dup dX0_readMan_179 rfl ?_
                refine bz_getI hN okL_15 dX0_readMan_180 fl_0_62 rfl ?_
                refine bv_iconst (v := 1) dX0_readMan_183 (by decide) ?_
                refine bv_aload_n dX0_readMan_184 0 rfl ?_
                refine bz_getI hN okL_15 dX0_readMan_185 fl_0_56 rfl ?_
                refine bv_ishl dX0_readMan_188 ?_
                refine bv_ior dX0_readMan_189 ?_
                refine bz_putI hN okL_15 dX0_readMan_190 fl_0_62 rfl ?_
                refine bv_aload_n dX0_readMan_193 1 rfl ?_
                obtain ⟨v26, p27, h⟩ := bu_bd h
                refine bw_callVv (As := []) hN okL_3 ⟨_, _, rfl⟩ dX0_readMan_194 mc_0_127 (c_X5_advance (d := d + 1) hN hR p27) rfl rfl (by decide) ?_
                refine bv_aload_n dX0_readMan_197 0 rfl ?_
                refine bz_getA (a := 20) hN okL_15 (hR _ _ _ r0_15_4) dX0_readMan_198 fl_0_25 rfl ?_
                refine bv_aload_n dX0_readMan_201 0 rfl ?_
                refine bz_getI hN okL_15 dX0_readMan_202 fl_0_56 rfl ?_
                refine bv_iconst (v := (-1)) dX0_readMan_205 (by decide) ?_
                obtain ⟨r28, h⟩ := bu_ix h
                refine bz_iast hN rkL_20 r28 rfl dX0_readMan_206 ?_
                refine bv_aload_n dX0_readMan_207 0 rfl ?_
                refine bv_dup dX0_readMan_208 rfl ?_
                refine bz_getI hN okL_15 dX0_readMan_209 fl_0_56 rfl ?_
                refine bv_iconst (v := 1) dX0_readMan_212 (by decide) ?_
                refine bv_iadd dX0_readMan_213 ?_
                refine bz_putI hN okL_15 dX0_readMan_214 fl_0_56 rfl ?_
                refine bv_iconst (v := 1) dX0_readMan_217 (by decide) ?_
                obtain rfl := Option.some.inj h
                exact bw_bret (b := true) dX0_readMan_218 rfl ⟨rfl, rfl⟩
          · replace h := bu_t h cc
            refine bv_iconst (v := 0) dX0_readMan_137 (by decide) ?_
            obtain rfl := Option.some.inj h
            exact bw_bret (b := false) dX0_readMan_138 rfl ⟨rfl, rfl⟩
        · replace h := bu_t h cc
          refine bv_iconst (v := 0) dX0_readMan_106 (by decide) ?_
          obtain rfl := Option.some.inj h
          exact bw_bret (b := false) dX0_readMan_107 rfl ⟨rfl, rfl⟩
      · replace h := bu_t h cc
        refine bv_iconst (v := 0) dX0_readMan_75 (by decide) ?_
        obtain rfl := Option.some.inj h
        exact bw_bret (b := false) dX0_readMan_76 rfl ⟨rfl, rfl⟩
    · replace h := bu_bf h cc
      refine bv_iconst (v := 0) dX0_readMan_27 (by decide) ?_
      obtain rfl := Option.some.inj h
      exact bw_bret (b := false) dX0_readMan_28 rfl ⟨rfl, rfl⟩
  · replace h := bu_f h cc
    refine bv_aload_n dX0_readMan_9 1 rfl ?_
    refine bv_iconst (v := 4) dX0_readMan_10 (by decide) ?_
    obtain ⟨v29, p30, h⟩ := bu_bd h
    refine bw_callV (As := [.int 4]) hN okL_3 ⟨_, _, rfl⟩ dX0_readMan_11 mc_0_124 (c_X5_refuse (d := d + 3) hN hR p30) rfl rfl (by decide) ?_
    obtain rfl := Option.some.inj h
    exact bw_bret (b := v29.1) dX0_readMan_14 rfl ⟨rfl, rfl⟩
def f_X0_readOnce (I : bm_TI) (J : bm_TJ) (W : bm_TR) (x1 : Int32) (x2 : Int32) : Option (Int32 × bm_TI × bm_TJ × bm_TR) := (if x1 = (-1) then ((f_X5_advance I J W).bind fun v1 => ((f_X5_takeNumber v1.1 v1.2.1 v1.2.2 1 x2).bind fun v3 => some (v3.1, v3.2.1, v3.2.2.1, v3.2.2.2))) else ((f_X5_refuseNumber I 3).bind fun v5 => some (v5.1, v5.2, J, W)))
set_option maxHeartbeats 4000000 in
set_option maxRecDepth 100000 in
theorem c_X0_readOnce {lc : bm_L} {d n : Nat} {I : bm_TI} {J : bm_TJ} {R W : bm_TR} {x1 : Int32} {x2 : Int32} {v : Int32 × bm_TI × bm_TJ × bm_TR} (hN : 181 ≤ n) (hR : bm_RR R) (h : f_X0_readOnce I J W x1 x2 = some v) : bm_C lc m_X0_readOnce (d + 4) n n [.ref 3, .int x1, .int x2] (I, J, R, W) (fun r M' => r = some (.int v.1) ∧ M' = (v.2.1, v.2.2.1, R, v.2.2.2)) := by
  refine bm_C.ofV (by decide) (Nat.le_of_ble_eq_true rfl) ?_
  show bm_V lc m_X0_readOnce (d + 4) n n n 0 [(0, .ref 3), (1, .int x1), (2, .int x2)] [] (I, J, R, W) _
  unfold f_X0_readOnce at h
  refine bv_iload_n dX0_readOnce_0 1 rfl ?_
  refine bv_iconst (v := (-1)) dX0_readOnce_1 (by decide) ?_
  refine bv_icmp_eq (tgt := 11) dX0_readOnce_2 (by decide) (fun cc => ?_) (fun cc => ?_)
  · replace h := bu_t h cc
    refine bv_aload_n dX0_readOnce_11 0 rfl ?_
    obtain ⟨v1, p2, h⟩ := bu_bd h
    refine bw_callVv (As := []) hN okL_3 ⟨_, _, rfl⟩ dX0_readOnce_12 mc_0_127 (c_X5_advance (d := d + 1) hN hR p2) rfl rfl (by decide) ?_
    refine bv_aload_n dX0_readOnce_15 0 rfl ?_
    refine bv_iconst (v := 1) dX0_readOnce_16 (by decide) ?_
    refine bv_iload_n dX0_readOnce_17 2 rfl ?_
    obtain ⟨v3, p4, h⟩ := bu_bd h
    refine bw_callV (As := [.int 1, .int x2]) hN okL_3 ⟨_, _, rfl⟩ dX0_readOnce_18 mc_0_137 (c_X5_takeNumber (d := d + 0) hN hR p4) rfl rfl (by decide) ?_
    obtain rfl := Option.some.inj h
    exact bv_iret (x := v3.1) dX0_readOnce_21 rfl ⟨rfl, rfl⟩
  · replace h := bu_f h cc
    refine bv_aload_n dX0_readOnce_5 0 rfl ?_
    refine bv_iconst (v := 3) dX0_readOnce_6 (by decide) ?_
    obtain ⟨v5, p6, h⟩ := bu_bd h
    refine bw_callV (As := [.int 3]) hN okL_3 ⟨_, _, rfl⟩ dX0_readOnce_7 mc_0_165 (c_X5_refuseNumber (d := d + 3) hN hR p6) rfl rfl (by decide) ?_
    obtain rfl := Option.some.inj h
    exact bv_iret (x := v5.1) dX0_readOnce_10 rfl ⟨rfl, rfl⟩
def f_X0_orderOf_l2 (I : bm_TI) (x0 : Nat) (x1 : Int32) (x2 : Int32) : Nat → Int32 → Option (((Int32) ⊕ (Unit)))
  | 0, _ => none
  | k + 1, x3 => (if (I x0 13) ≤ x3 then some (Sum.inr ()) else (if bm_ix 7 x3 = true then (if (I (x0 + 7) x3.toNatClampNeg) = x1 then (if (I (x0 + 8) x3.toNatClampNeg) = x2 then some (Sum.inl x3) else f_X0_orderOf_l2 I x0 x1 x2 k (x3 + 1)) else f_X0_orderOf_l2 I x0 x1 x2 k (x3 + 1)) else none))
set_option maxHeartbeats 4000000 in
set_option maxRecDepth 100000 in
theorem v_X0_orderOf_l2 {lc : bm_L} {d n : Nat} {Q : Option Value → bm_M → Prop} {R : bm_TR} {I : bm_TI} {J : bm_TJ} {W : bm_TR} {x0 : Nat} {x1 : Int32} {x2 : Int32} (hN : 181 ≤ n) (hR : bm_RR R) (q_0 : bm_OK x0 0) : ∀ (k : Nat) (x3 : Int32) (r : ((Int32) ⊕ (Unit))), f_X0_orderOf_l2 I x0 x1 x2 k x3 = some r → (∀ yy, (Sum.inl yy) = r → bm_V lc m_X0_orderOf d n n n 30 [(3, .int yy)] [] (I, J, R, W) Q) → (∀ yy, (Sum.inr yy) = r → bm_V lc m_X0_orderOf d n n n 38 [] [] (I, J, R, W) Q) → bm_V lc m_X0_orderOf d n n n 2 [(0, .ref x0), (1, .int x1), (2, .int x2), (3, .int x3)] [] (I, J, R, W) Q := by
  intro k
  induction k with
  | zero => intro x3 r h; cases (show (none : Option (((Int32) ⊕ (Unit)))) = some r from h)
  | succ k ih =>
    intro x3 r h K0 K1
    unfold f_X0_orderOf_l2 at h
    refine bv_iload_n dX0_orderOf_2 3 rfl ?_
    refine bv_aload_n dX0_orderOf_3 0 rfl ?_
    refine bz_getI hN q_0 dX0_orderOf_4 fl_0_65 rfl ?_
    refine bv_icmp_ge (tgt := 38) dX0_orderOf_7 (by decide) (fun cc => ?_) (fun cc => ?_)
    · replace h := bu_t h cc
      refine bw_ls (ls1 := []) [] rfl ?_
      obtain rfl := Option.some.inj h
      exact K1 _ rfl
    · replace h := bu_f h cc
      refine bv_aload_n dX0_orderOf_10 0 rfl ?_
      refine bz_getA (a := (x0 + 7)) hN q_0 (hR _ _ _ (tr_0_6 q_0)) dX0_orderOf_11 fl_0_31 rfl ?_
      refine bv_iload_n dX0_orderOf_14 3 rfl ?_
      obtain ⟨r1, h⟩ := bu_ix h
      refine bz_iald hN (rk_0_6 q_0) r1 rfl dX0_orderOf_15 ?_
      refine bv_iload_n dX0_orderOf_16 1 rfl ?_
      refine bv_icmp_ne (tgt := 32) dX0_orderOf_17 (by decide) (fun cc => ?_) (fun cc => ?_)
      · replace h := bu_f h cc
        refine bv_iinc (j := 3) (v := (x3 + 1)) (ls1 := [(0, .ref x0), (1, .int x1), (2, .int x2), (3, .int (x3 + 1))]) dX0_orderOf_32 rfl rfl (by decide) rfl rfl ?_
        refine bv_goto (tgt := 2) dX0_orderOf_35 (by decide) ?_
        exact ih _ _ h K0 K1
      · replace h := bu_t h cc
        refine bv_aload_n dX0_orderOf_20 0 rfl ?_
        refine bz_getA (a := (x0 + 8)) hN q_0 (hR _ _ _ (tr_0_7 q_0)) dX0_orderOf_21 fl_0_34 rfl ?_
        refine bv_iload_n dX0_orderOf_24 3 rfl ?_
        refine bz_iald hN (rk_0_7 q_0) r1 rfl dX0_orderOf_25 ?_
        refine bv_iload_n dX0_orderOf_26 2 rfl ?_
        refine bv_icmp_ne (tgt := 32) dX0_orderOf_27 (by decide) (fun cc => ?_) (fun cc => ?_)
        · replace h := bu_f h cc
          refine bv_iinc (j := 3) (v := (x3 + 1)) (ls1 := [(0, .ref x0), (1, .int x1), (2, .int x2), (3, .int (x3 + 1))]) dX0_orderOf_32 rfl rfl (by decide) rfl rfl ?_
          refine bv_goto (tgt := 2) dX0_orderOf_35 (by decide) ?_
          exact ih _ _ h K0 K1
        · replace h := bu_t h cc
          refine bw_ls (ls1 := [(3, .int x3)]) [3] rfl ?_
          obtain rfl := Option.some.inj h
          exact K0 _ rfl
def f_X0_orderOf (I : bm_TI) (x0 : Nat) (x1 : Int32) (x2 : Int32) : Option (Int32) := ((f_X0_orderOf_l2 I x0 x1 x2 1000 0).bind fun rr => match rr with | (Sum.inl y3) => some y3 | (Sum.inr y3) => some (-1))
set_option maxHeartbeats 4000000 in
set_option maxRecDepth 100000 in
theorem c_X0_orderOf {lc : bm_L} {d n : Nat} {I : bm_TI} {J : bm_TJ} {R W : bm_TR} {x0 : Nat} {x1 : Int32} {x2 : Int32} {v : Int32} (hN : 181 ≤ n) (hR : bm_RR R) (q_0 : bm_OK x0 0) (h : f_X0_orderOf I x0 x1 x2 = some v) : bm_C lc m_X0_orderOf d n n [.ref x0, .int x1, .int x2] (I, J, R, W) (fun r M' => r = some (.int v) ∧ M' = (I, J, R, W)) := by
  refine bm_C.ofV (by decide) (Nat.le_of_ble_eq_true rfl) ?_
  show bm_V lc m_X0_orderOf d n n n 0 [(0, .ref x0), (1, .int x1), (2, .int x2)] [] (I, J, R, W) _
  unfold f_X0_orderOf at h
  refine bv_iconst (v := 0) dX0_orderOf_0 (by decide) ?_
  refine bv_istore_n (ls1 := [(0, .ref x0), (1, .int x1), (2, .int x2), (3, .int 0)]) dX0_orderOf_1 (by decide) rfl rfl ?_
  obtain ⟨r1, p2, h⟩ := bu_bd h
  refine v_X0_orderOf_l2 hN hR q_0 1000 _ _ p2 (fun y3 hy => ?_) (fun y3 hy => ?_)
  · subst hy
    refine bv_iload_n dX0_orderOf_30 0 rfl ?_
    obtain rfl := Option.some.inj h
    exact bv_iret (x := y3) dX0_orderOf_31 rfl ⟨rfl, rfl⟩
  · subst hy
    refine bv_iconst (v := (-1)) dX0_orderOf_38 (by decide) ?_
    obtain rfl := Option.some.inj h
    exact bv_iret (x := (-1)) dX0_orderOf_39 rfl ⟨rfl, rfl⟩
def f_X5_wordHere (I : bm_TI) (W : bm_TR) (x1 : Int32) : Option (Int32 × bm_TI) := (if (W 3 8) = none then ((f_X5_refuseNumber I 1).bind fun v1 => some (v1.1, v1.2)) else ((W 3 8).bind fun a3 => (if bm_iw a3 = true then (if (bm_wso a3) = x1 then ((W 3 8).bind fun a8 => (if bm_iw a8 = true then some ((bm_wnu a8), I) else none)) else ((f_X5_refuseNumber I 1).bind fun v6 => some (v6.1, v6.2))) else none)))
set_option maxHeartbeats 4000000 in
set_option maxRecDepth 100000 in
theorem c_X5_wordHere {lc : bm_L} {d n : Nat} {I : bm_TI} {J : bm_TJ} {R W : bm_TR} {x1 : Int32} {v : Int32 × bm_TI} (hN : 181 ≤ n) (hR : bm_RR R) (h : f_X5_wordHere I W x1 = some v) : bm_C lc m_X5_wordHere (d + 1) n n [.ref 3, .int x1] (I, J, R, W) (fun r M' => r = some (.int v.1) ∧ M' = (v.2, J, R, W)) := by
  refine bm_C.ofV (by decide) (Nat.le_of_ble_eq_true rfl) ?_
  show bm_V lc m_X5_wordHere (d + 1) n n n 0 [(0, .ref 3), (1, .int x1)] [] (I, J, R, W) _
  unfold f_X5_wordHere at h
  refine bv_aload_n dX5_wordHere_0 0 rfl ?_
  refine bz_getQ hN okL_3 dX5_wordHere_1 fl_5_44 rfl ?_
  refine bv_ifnull (x := (W 3 8)) (tgt := 28) dX5_wordHere_4 (by decide) (fun cc => ?_) (fun cc => ?_)
  · replace h := bu_t h cc
    refine bv_aload_n dX5_wordHere_28 0 rfl ?_
    refine bv_iconst (v := 1) dX5_wordHere_29 (by decide) ?_
    obtain ⟨v1, p2, h⟩ := bu_bd h
    refine bw_callV (As := [.int 1]) hN okL_3 ⟨_, _, rfl⟩ dX5_wordHere_30 mc_5_86 (c_X5_refuseNumber (d := d + 0) hN hR p2) rfl rfl (by decide) ?_
    obtain rfl := Option.some.inj h
    exact bv_iret (x := v1.1) dX5_wordHere_33 rfl ⟨rfl, rfl⟩
  · replace h := bu_f h cc
    refine bv_aload_n dX5_wordHere_7 0 rfl ?_
    refine bz_getQ hN okL_3 dX5_wordHere_8 fl_5_44 rfl ?_
    obtain ⟨a3, e4, h⟩ := bu_bd h
    refine bw_some e4 ?_
    obtain ⟨w5, h⟩ := bu_g h
    refine bw_wso w5 dX5_wordHere_11 fw_5_94 ?_
    refine bv_iload_n dX5_wordHere_14 1 rfl ?_
    refine bv_icmp_ne (tgt := 28) dX5_wordHere_15 (by decide) (fun cc => ?_) (fun cc => ?_)
    · replace h := bu_f h cc
      refine bv_aload_n dX5_wordHere_28 0 rfl ?_
      refine bv_iconst (v := 1) dX5_wordHere_29 (by decide) ?_
      obtain ⟨v6, p7, h⟩ := bu_bd h
      refine bw_callV (As := [.int 1]) hN okL_3 ⟨_, _, rfl⟩ dX5_wordHere_30 mc_5_86 (c_X5_refuseNumber (d := d + 0) hN hR p7) rfl rfl (by decide) ?_
      obtain rfl := Option.some.inj h
      exact bv_iret (x := v6.1) dX5_wordHere_33 rfl ⟨rfl, rfl⟩
    · replace h := bu_t h cc
      refine bv_aload_n dX5_wordHere_18 0 rfl ?_
      refine bz_getQ hN okL_3 dX5_wordHere_19 fl_5_44 rfl ?_
      obtain ⟨a8, e9, h⟩ := bu_bd h
      refine bw_some e9 ?_
      obtain ⟨w10, h⟩ := bu_g h
      refine bw_wnu w10 dX5_wordHere_22 fw_5_97 ?_
      refine bv_goto (tgt := 33) dX5_wordHere_25 (by decide) ?_
      obtain rfl := Option.some.inj h
      exact bv_iret (x := (bm_wnu a8)) dX5_wordHere_33 rfl ⟨rfl, rfl⟩
def f_X5_takeWord (I : bm_TI) (J : bm_TJ) (W : bm_TR) (x1 : Int32) : Option (Int32 × bm_TI × bm_TJ × bm_TR) := ((f_X5_wordHere I W x1).bind fun v1 => (if v1.1 = (-1) then some (v1.1, v1.2, J, W) else ((f_X5_advance v1.2 J W).bind fun v3 => some (v1.1, v3.1, v3.2.1, v3.2.2))))
set_option maxHeartbeats 4000000 in
set_option maxRecDepth 100000 in
theorem c_X5_takeWord {lc : bm_L} {d n : Nat} {I : bm_TI} {J : bm_TJ} {R W : bm_TR} {x1 : Int32} {v : Int32 × bm_TI × bm_TJ × bm_TR} (hN : 181 ≤ n) (hR : bm_RR R) (h : f_X5_takeWord I J W x1 = some v) : bm_C lc m_X5_takeWord (d + 3) n n [.ref 3, .int x1] (I, J, R, W) (fun r M' => r = some (.int v.1) ∧ M' = (v.2.1, v.2.2.1, R, v.2.2.2)) := by
  refine bm_C.ofV (by decide) (Nat.le_of_ble_eq_true rfl) ?_
  show bm_V lc m_X5_takeWord (d + 3) n n n 0 [(0, .ref 3), (1, .int x1)] [] (I, J, R, W) _
  unfold f_X5_takeWord at h
  refine bv_aload_n dX5_takeWord_0 0 rfl ?_
  refine bv_iload_n dX5_takeWord_1 1 rfl ?_
  obtain ⟨v1, p2, h⟩ := bu_bd h
  refine bw_callV (As := [.int x1]) hN okL_3 ⟨_, _, rfl⟩ dX5_takeWord_2 mc_5_98 (c_X5_wordHere (d := d + 1) hN hR p2) rfl rfl (by decide) ?_
  refine bv_istore_n (ls1 := [(0, .ref 3), (1, .int x1), (2, .int v1.1)]) dX5_takeWord_5 (by decide) rfl rfl ?_
  refine bv_iload_n dX5_takeWord_6 2 rfl ?_
  refine bv_iconst (v := (-1)) dX5_takeWord_7 (by decide) ?_
  refine bv_icmp_eq (tgt := 15) dX5_takeWord_8 (by decide) (fun cc => ?_) (fun cc => ?_)
  · replace h := bu_t h cc
    refine bv_iload_n dX5_takeWord_15 2 rfl ?_
    obtain rfl := Option.some.inj h
    exact bv_iret (x := v1.1) dX5_takeWord_16 rfl ⟨rfl, rfl⟩
  · replace h := bu_f h cc
    refine bv_aload_n dX5_takeWord_11 0 rfl ?_
    obtain ⟨v3, p4, h⟩ := bu_bd h
    refine bw_callVv (As := []) hN okL_3 ⟨_, _, rfl⟩ dX5_takeWord_12 mc_5_28 (c_X5_advance (d := d + 0) hN hR p4) rfl rfl (by decide) ?_
    refine bv_iload_n dX5_takeWord_15 2 rfl ?_
    obtain rfl := Option.some.inj h
    exact bv_iret (x := v1.1) dX5_takeWord_16 rfl ⟨rfl, rfl⟩
def f_X0_readOrder (I : bm_TI) (J : bm_TJ) (W : bm_TR) : Option (Bool × bm_TI × bm_TJ × bm_TR) := (if (I 15 13) < 7 then ((f_X5_advance I J W).bind fun v1 => ((f_X0_isNewName v1.1 v1.2.1).bind fun v3 => (if v3.1 = true then (if bm_ix 7 (v3.2 15 13) = true then ((f_X5_advance v3.2 (bm_uJ v1.2.1 21 ((v3.2 15 13).toNatClampNeg) (v1.2.1 3 7)) v1.2.2).bind fun v6 => ((f_X5_takeWord v6.1 v6.2.1 v6.2.2 1).bind fun v8 => (if bm_ix 7 (v6.1 15 13) = true then (if bm_ix 7 ((bm_uI v8.2.1 22 ((v6.1 15 13).toNatClampNeg) v8.1) 15 13) = true then (if ((bm_uI v8.2.1 22 ((v6.1 15 13).toNatClampNeg) v8.1) 22 ((bm_uI v8.2.1 22 ((v6.1 15 13).toNatClampNeg) v8.1) 15 13).toNatClampNeg) = (-1) then some (false, (bm_uI v8.2.1 22 ((v6.1 15 13).toNatClampNeg) v8.1), v8.2.2.1, v8.2.2.2) else ((f_X5_wordHere (bm_uI v8.2.1 22 ((v6.1 15 13).toNatClampNeg) v8.1) v8.2.2.2 1).bind fun v12 => (if bm_ix 7 ((bm_uI v12.2 23 (((bm_uI v8.2.1 22 ((v6.1 15 13).toNatClampNeg) v8.1) 15 13).toNatClampNeg) v12.1) 15 13) = true then (if ((bm_uI v12.2 23 (((bm_uI v8.2.1 22 ((v6.1 15 13).toNatClampNeg) v8.1) 15 13).toNatClampNeg) v12.1) 23 ((bm_uI v12.2 23 (((bm_uI v8.2.1 22 ((v6.1 15 13).toNatClampNeg) v8.1) 15 13).toNatClampNeg) v12.1) 15 13).toNatClampNeg) = (-1) then some (false, (bm_uI v12.2 23 (((bm_uI v8.2.1 22 ((v6.1 15 13).toNatClampNeg) v8.1) 15 13).toNatClampNeg) v12.1), v8.2.2.1, v8.2.2.2) else ((f_X0_orderOf (bm_uI v12.2 23 (((bm_uI v8.2.1 22 ((v6.1 15 13).toNatClampNeg) v8.1) 15 13).toNatClampNeg) v12.1) 15 ((bm_uI v12.2 23 (((bm_uI v8.2.1 22 ((v6.1 15 13).toNatClampNeg) v8.1) 15 13).toNatClampNeg) v12.1) 22 ((bm_uI v12.2 23 (((bm_uI v8.2.1 22 ((v6.1 15 13).toNatClampNeg) v8.1) 15 13).toNatClampNeg) v12.1) 15 13).toNatClampNeg) ((bm_uI v12.2 23 (((bm_uI v8.2.1 22 ((v6.1 15 13).toNatClampNeg) v8.1) 15 13).toNatClampNeg) v12.1) 23 ((bm_uI v12.2 23 (((bm_uI v8.2.1 22 ((v6.1 15 13).toNatClampNeg) v8.1) 15 13).toNatClampNeg) v12.1) 15 13).toNatClampNeg)).bind fun v15 => (if v15 = (-1) then ((f_X5_advance (bm_uI (bm_uI v12.2 23 (((bm_uI v8.2.1 22 ((v6.1 15 13).toNatClampNeg) v8.1) 15 13).toNatClampNeg) v12.1) 15 13 (((bm_uI v12.2 23 (((bm_uI v8.2.1 22 ((v6.1 15 13).toNatClampNeg) v8.1) 15 13).toNatClampNeg) v12.1) 15 13) + 1)) v8.2.2.1 v8.2.2.2).bind fun v17 => some (true, v17.1, v17.2.1, v17.2.2)) else ((f_X5_refuse (bm_uI v12.2 23 (((bm_uI v8.2.1 22 ((v6.1 15 13).toNatClampNeg) v8.1) 15 13).toNatClampNeg) v12.1) 3).bind fun v19 => some (v19.1, v19.2, v8.2.2.1, v8.2.2.2))))) else none))) else none) else none))) else none) else some (false, v3.2, v1.2.1, v1.2.2)))) else ((f_X5_refuse I 4).bind fun v21 => some (v21.1, v21.2, J, W)))
set_option maxHeartbeats 4000000 in
set_option maxRecDepth 100000 in
theorem c_X0_readOrder {lc : bm_L} {d n : Nat} {I : bm_TI} {J : bm_TJ} {R W : bm_TR} {v : Bool × bm_TI × bm_TJ × bm_TR} (hN : 181 ≤ n) (hR : bm_RR R) (h : f_X0_readOrder I J W = some v) : bm_C lc m_X0_readOrder (d + 4) n n [.ref 15, .ref 3] (I, J, R, W) (fun r M' => r = some (.int (bm_bi v.1)) ∧ M' = (v.2.1, v.2.2.1, R, v.2.2.2)) := by
  refine bm_C.ofV (by decide) (Nat.le_of_ble_eq_true rfl) ?_
  show bm_V lc m_X0_readOrder (d + 4) n n n 0 [(0, .ref 15), (1, .ref 3)] [] (I, J, R, W) _
  unfold f_X0_readOrder at h
  refine bv_aload_n dX0_readOrder_0 0 rfl ?_
  refine bz_getI hN okL_15 dX0_readOrder_1 fl_0_65 rfl ?_
  refine bv_bipush (v := 7) dX0_readOrder_4 (by decide) ?_
  refine bv_icmp_lt (tgt := 15) dX0_readOrder_6 (by decide) (fun cc => ?_) (fun cc => ?_)
  · replace h := bu_t h cc
    refine bv_aload_n dX0_readOrder_15 1 rfl ?_
    obtain ⟨v1, p2, h⟩ := bu_bd h
    refine bw_callVv (As := []) hN okL_3 ⟨_, _, rfl⟩ dX0_readOrder_16 mc_0_127 (c_X5_advance (d := d + 1) hN hR p2) rfl rfl (by decide) ?_
    refine bv_aload_n dX0_readOrder_19 0 rfl ?_
    refine bv_aload_n dX0_readOrder_20 1 rfl ?_
    obtain ⟨v3, p4, h⟩ := bu_bd h
    refine bw_callV (As := [.ref 3]) hN okL_15 ⟨_, _, rfl⟩ dX0_readOrder_21 mc_0_130 (c_X0_isNewName (d := d + 2) hN hR p4) rfl rfl (by decide) ?_
    refine bw_ifB_ne (b := v3.1) (tgt := 29) dX0_readOrder_24 (by decide) (fun cc => ?_) (fun cc => ?_)
    · replace h := bu_bt h cc
      refine bv_aload_n dX0_readOrder_29 0 rfl ?_
      refine bz_getA (a := 21) hN okL_15 (hR _ _ _ r0_15_5) dX0_readOrder_30 fl_0_28 rfl ?_
      refine bv_aload_n dX0_readOrder_33 0 rfl ?_
      refine bz_getI hN okL_15 dX0_readOrder_34 fl_0_65 rfl ?_
      refine bv_aload_n dX0_readOrder_37 1 rfl ?_
      refine bz_getJ hN okL_3 dX0_readOrder_38 fl_0_133 rfl ?_
      obtain ⟨r5, h⟩ := bu_ix h
      refine bz_last hN rkL_21 r5 rfl dX0_readOrder_41 ?_
      refine bv_aload_n dX0_readOrder_42 1 rfl ?_
      obtain ⟨v6, p7, h⟩ := bu_bd h
      refine bw_callVv (As := []) hN okL_3 ⟨_, _, rfl⟩ dX0_readOrder_43 mc_0_127 (c_X5_advance (d := d + 1) hN hR p7) rfl rfl (by decide) ?_
      refine bv_aload_n dX0_readOrder_46 0 rfl ?_
      refine bz_getA (a := 22) hN okL_15 (hR _ _ _ r0_15_6) dX0_readOrder_47 fl_0_31 rfl ?_
      refine bv_aload_n dX0_readOrder_50 0 rfl ?_
      refine bz_getI hN okL_15 dX0_readOrder_51 fl_0_65 rfl ?_
      refine bv_aload_n dX0_readOrder_54 1 rfl ?_
      refine bv_iconst (v := 1) dX0_readOrder_55 (by decide) ?_
      obtain ⟨v8, p9, h⟩ := bu_bd h
      refine bw_callV (As := [.int 1]) hN okL_3 ⟨_, _, rfl⟩ dX0_readOrder_56 mc_0_155 (c_X5_takeWord (d := d + 0) hN hR p9) rfl rfl (Nat.le_of_ble_eq_true rfl) ?_
      obtain ⟨r10, h⟩ := bu_ix h
      refine bz_iast hN rkL_22 r10 rfl dX0_readOrder_59 ?_
      refine bv_aload_n dX0_readOrder_60 0 rfl ?_
      refine bz_getA (a := 22) hN okL_15 (hR _ _ _ r0_15_6) dX0_readOrder_61 fl_0_31 rfl ?_
      refine bv_aload_n dX0_readOrder_64 0 rfl ?_
      refine bz_getI hN okL_15 dX0_readOrder_65 fl_0_65 rfl ?_
      obtain ⟨r11, h⟩ := bu_ix h
      refine bz_iald hN rkL_22 r11 rfl dX0_readOrder_68 ?_
      refine bv_iconst (v := (-1)) dX0_readOrder_69 (by decide) ?_
      refine bv_icmp_ne (tgt := 75) dX0_readOrder_70 (by decide) (fun cc => ?_) (fun cc => ?_)
      · replace h := bu_f h cc
        refine bv_aload_n dX0_readOrder_75 0 rfl ?_
        refine bz_getA (a := 23) hN okL_15 (hR _ _ _ r0_15_7) dX0_readOrder_76 fl_0_34 rfl ?_
        refine bv_aload_n dX0_readOrder_79 0 rfl ?_
        refine bz_getI hN okL_15 dX0_readOrder_80 fl_0_65 rfl ?_
        refine bv_aload_n dX0_readOrder_83 1 rfl ?_
        refine bv_iconst (v := 1) dX0_readOrder_84 (by decide) ?_
        obtain ⟨v12, p13, h⟩ := bu_bd h
        refine bw_callV (As := [.int 1]) hN okL_3 ⟨_, _, rfl⟩ dX0_readOrder_85 mc_0_159 (c_X5_wordHere (d := d + 2) hN hR p13) rfl rfl (Nat.le_of_ble_eq_true rfl) ?_
        refine bz_iast hN rkL_23 r11 rfl dX0_readOrder_88 ?_
        refine bv_aload_n dX0_readOrder_89 0 rfl ?_
        refine bz_getA (a := 23) hN okL_15 (hR _ _ _ r0_15_7) dX0_readOrder_90 fl_0_34 rfl ?_
        refine bv_aload_n dX0_readOrder_93 0 rfl ?_
        refine bz_getI hN okL_15 dX0_readOrder_94 fl_0_65 rfl ?_
        obtain ⟨r14, h⟩ := bu_ix h
        refine bz_iald hN rkL_23 r14 rfl dX0_readOrder_97 ?_
        refine bv_iconst (v := (-1)) dX0_readOrder_98 (by decide) ?_
        refine bv_icmp_ne (tgt := 104) dX0_readOrder_99 (by decide) (fun cc => ?_) (fun cc => ?_)
        · replace h := bu_f h cc
          refine bv_aload_n dX0_readOrder_104 0 rfl ?_
          refine bv_aload_n dX0_readOrder_105 0 rfl ?_
          refine bz_getA (a := 22) hN okL_15 (hR _ _ _ r0_15_6) dX0_readOrder_106 fl_0_31 rfl ?_
          refine bv_aload_n dX0_readOrder_109 0 rfl ?_
          refine bz_getI hN okL_15 dX0_readOrder_110 fl_0_65 rfl ?_
          refine bz_iald hN rkL_22 r14 rfl dX0_readOrder_113 ?_
          refine bv_aload_n dX0_readOrder_114 0 rfl ?_
          refine bz_getA (a := 23) hN okL_15 (hR _ _ _ r0_15_7) dX0_readOrder_115 fl_0_34 rfl ?_
          refine bv_aload_n dX0_readOrder_118 0 rfl ?_
          refine bz_getI hN okL_15 dX0_readOrder_119 fl_0_65 rfl ?_
          refine bz_iald hN rkL_23 r14 rfl dX0_readOrder_122 ?_
          obtain ⟨v15, p16, h⟩ := bu_bd h
          refine bw_callV (As := [.int ((bm_uI v12.2 23 (((bm_uI v8.2.1 22 ((v6.1 15 13).toNatClampNeg) v8.1) 15 13).toNatClampNeg) v12.1) 22 ((bm_uI v12.2 23 (((bm_uI v8.2.1 22 ((v6.1 15 13).toNatClampNeg) v8.1) 15 13).toNatClampNeg) v12.1) 15 13).toNatClampNeg), .int ((bm_uI v12.2 23 (((bm_uI v8.2.1 22 ((v6.1 15 13).toNatClampNeg) v8.1) 15 13).toNatClampNeg) v12.1) 23 ((bm_uI v12.2 23 (((bm_uI v8.2.1 22 ((v6.1 15 13).toNatClampNeg) v8.1) 15 13).toNatClampNeg) v12.1) 15 13).toNatClampNeg)]) hN okL_15 ⟨_, _, rfl⟩ dX0_readOrder_123 mc_0_162 (c_X0_orderOf (d := d + 3) hN hR okL_15 p16) rfl rfl (by decide) ?_
          refine bv_iconst (v := (-1)) dX0_readOrder_126 (by decide) ?_
          refine bv_icmp_eq (tgt := 136) dX0_readOrder_127 (by decide) (fun cc => ?_) (fun cc => ?_)
          · replace h := bu_t h cc
            refine bv_aload_n dX0_readOrder_136 0 rfl ?_
            refine bv_dup dX0_readOrder_137 rfl ?_
            refine bz_getI hN okL_15 dX0_readOrder_138 fl_0_65 rfl ?_
            refine bv_iconst (v := 1) dX0_readOrder_141 (by decide) ?_
            refine bv_iadd dX0_readOrder_142 ?_
            refine bz_putI hN okL_15 dX0_readOrder_143 fl_0_65 rfl ?_
            refine bv_aload_n dX0_readOrder_146 1 rfl ?_
            obtain ⟨v17, p18, h⟩ := bu_bd h
            refine bw_callVv (As := []) hN okL_3 ⟨_, _, rfl⟩ dX0_readOrder_147 mc_0_127 (c_X5_advance (d := d + 1) hN hR p18) rfl rfl (by decide) ?_
            refine bv_iconst (v := 1) dX0_readOrder_150 (by decide) ?_
            obtain rfl := Option.some.inj h
            exact bw_bret (b := true) dX0_readOrder_151 rfl ⟨rfl, rfl⟩
          · replace h := bu_f h cc
            refine bv_aload_n dX0_readOrder_130 1 rfl ?_
            refine bv_iconst (v := 3) dX0_readOrder_131 (by decide) ?_
            obtain ⟨v19, p20, h⟩ := bu_bd h
            refine bw_callV (As := [.int 3]) hN okL_3 ⟨_, _, rfl⟩ dX0_readOrder_132 mc_0_124 (c_X5_refuse (d := d + 3) hN hR p20) rfl rfl (by decide) ?_
            obtain rfl := Option.some.inj h
            exact bw_bret (b := v19.1) dX0_readOrder_135 rfl ⟨rfl, rfl⟩
        · replace h := bu_t h cc
          refine bv_iconst (v := 0) dX0_readOrder_102 (by decide) ?_
          obtain rfl := Option.some.inj h
          exact bw_bret (b := false) dX0_readOrder_103 rfl ⟨rfl, rfl⟩
      · replace h := bu_t h cc
        refine bv_iconst (v := 0) dX0_readOrder_73 (by decide) ?_
        obtain rfl := Option.some.inj h
        exact bw_bret (b := false) dX0_readOrder_74 rfl ⟨rfl, rfl⟩
    · replace h := bu_bf h cc
      refine bv_iconst (v := 0) dX0_readOrder_27 (by decide) ?_
      obtain rfl := Option.some.inj h
      exact bw_bret (b := false) dX0_readOrder_28 rfl ⟨rfl, rfl⟩
  · replace h := bu_f h cc
    refine bv_aload_n dX0_readOrder_9 1 rfl ?_
    refine bv_iconst (v := 4) dX0_readOrder_10 (by decide) ?_
    obtain ⟨v21, p22, h⟩ := bu_bd h
    refine bw_callV (As := [.int 4]) hN okL_3 ⟨_, _, rfl⟩ dX0_readOrder_11 mc_0_124 (c_X5_refuse (d := d + 3) hN hR p22) rfl rfl (by decide) ?_
    obtain rfl := Option.some.inj h
    exact bw_bret (b := v21.1) dX0_readOrder_14 rfl ⟨rfl, rfl⟩
def f_X0_isUnder_l10 (I : bm_TI) (x0 : Nat) (x2 : Int32) : Nat → Int32 → Int32 → Option (((Unit) ⊕ (Unit)))
  | 0, _, _ => none
  | k + 1, x3, x4 => (if 8 ≤ x4 then some (Sum.inr ()) else (if x3 = (-1) then some (Sum.inr ()) else (if x3 = x2 then some (Sum.inl ()) else (if bm_ix 8 x3 = true then f_X0_isUnder_l10 I x0 x2 k (I (x0 + 5) x3.toNatClampNeg) (x4 + 1) else none))))
set_option maxHeartbeats 4000000 in
set_option maxRecDepth 100000 in
theorem v_X0_isUnder_l10 {lc : bm_L} {d n : Nat} {Q : Option Value → bm_M → Prop} {R : bm_TR} {I : bm_TI} {J : bm_TJ} {W : bm_TR} {x0 : Nat} {x2 : Int32} (hN : 181 ≤ n) (hR : bm_RR R) (q_0 : bm_OK x0 0) : ∀ (k : Nat) (x3 : Int32) (x4 : Int32) (r : ((Unit) ⊕ (Unit))), f_X0_isUnder_l10 I x0 x2 k x3 x4 = some r → (∀ yy, (Sum.inl yy) = r → bm_V lc m_X0_isUnder d n n n 27 [] [] (I, J, R, W) Q) → (∀ yy, (Sum.inr yy) = r → bm_V lc m_X0_isUnder d n n n 42 [] [] (I, J, R, W) Q) → bm_V lc m_X0_isUnder d n n n 10 [(0, .ref x0), (2, .int x2), (3, .int x3), (4, .int x4)] [] (I, J, R, W) Q := by
  intro k
  induction k with
  | zero => intro x3 x4 r h; cases (show (none : Option (((Unit) ⊕ (Unit)))) = some r from h)
  | succ k ih =>
    intro x3 x4 r h K0 K1
    unfold f_X0_isUnder_l10 at h
    refine bv_iload dX0_isUnder_10 3 rfl ?_
    refine bv_bipush (v := 8) dX0_isUnder_12 (by decide) ?_
    refine bv_icmp_ge (tgt := 42) dX0_isUnder_14 (by decide) (fun cc => ?_) (fun cc => ?_)
    · replace h := bu_t h cc
      refine bw_ls (ls1 := []) [] rfl ?_
      obtain rfl := Option.some.inj h
      exact K1 _ rfl
    · replace h := bu_f h cc
      refine bv_iload_n dX0_isUnder_17 2 rfl ?_
      refine bv_iconst (v := (-1)) dX0_isUnder_18 (by decide) ?_
      refine bv_icmp_eq (tgt := 42) dX0_isUnder_19 (by decide) (fun cc => ?_) (fun cc => ?_)
      · replace h := bu_t h cc
        refine bw_ls (ls1 := []) [] rfl ?_
        obtain rfl := Option.some.inj h
        exact K1 _ rfl
      · replace h := bu_f h cc
        refine bv_iload_n dX0_isUnder_22 2 rfl ?_
        refine bv_iload_n dX0_isUnder_23 1 rfl ?_
        refine bv_icmp_ne (tgt := 29) dX0_isUnder_24 (by decide) (fun cc => ?_) (fun cc => ?_)
        · replace h := bu_f h cc
          refine bv_aload_n dX0_isUnder_29 0 rfl ?_
          refine bz_getA (a := (x0 + 5)) hN q_0 (hR _ _ _ (tr_0_4 q_0)) dX0_isUnder_30 fl_0_25 rfl ?_
          refine bv_iload_n dX0_isUnder_33 2 rfl ?_
          obtain ⟨r1, h⟩ := bu_ix h
          refine bz_iald hN (rk_0_4 q_0) r1 rfl dX0_isUnder_34 ?_
          refine bv_istore_n (ls1 := [(0, .ref x0), (2, .int x2), (3, .int (I (x0 + 5) x3.toNatClampNeg)), (4, .int x4)]) dX0_isUnder_35 (by decide) rfl rfl ?_
          refine bv_iinc (j := 3) (v := (x4 + 1)) (ls1 := [(0, .ref x0), (2, .int x2), (3, .int (I (x0 + 5) x3.toNatClampNeg)), (4, .int (x4 + 1))]) dX0_isUnder_36 rfl rfl (by decide) rfl rfl ?_
          refine bv_goto (tgt := 10) dX0_isUnder_39 (by decide) ?_
          exact ih _ _ _ h K0 K1
        · replace h := bu_t h cc
          refine bw_ls (ls1 := []) [] rfl ?_
          obtain rfl := Option.some.inj h
          exact K0 _ rfl
def f_X0_isUnder (I : bm_TI) (x0 : Nat) (x1 : Int32) (x2 : Int32) : Option (Bool) := (if bm_ix 8 x1 = true then ((f_X0_isUnder_l10 I x0 x2 1000 (I (x0 + 5) x1.toNatClampNeg) 0).bind fun rr => match rr with | (Sum.inl y4) => some true | (Sum.inr y4) => some false) else none)
set_option maxHeartbeats 4000000 in
set_option maxRecDepth 100000 in
theorem c_X0_isUnder {lc : bm_L} {d n : Nat} {I : bm_TI} {J : bm_TJ} {R W : bm_TR} {x0 : Nat} {x1 : Int32} {x2 : Int32} {v : Bool} (hN : 181 ≤ n) (hR : bm_RR R) (q_0 : bm_OK x0 0) (h : f_X0_isUnder I x0 x1 x2 = some v) : bm_C lc m_X0_isUnder d n n [.ref x0, .int x1, .int x2] (I, J, R, W) (fun r M' => r = some (.int (bm_bi v)) ∧ M' = (I, J, R, W)) := by
  refine bm_C.ofV (by decide) (Nat.le_of_ble_eq_true rfl) ?_
  show bm_V lc m_X0_isUnder d n n n 0 [(0, .ref x0), (1, .int x1), (2, .int x2)] [] (I, J, R, W) _
  unfold f_X0_isUnder at h
  refine bv_aload_n dX0_isUnder_0 0 rfl ?_
  refine bz_getA (a := (x0 + 5)) hN q_0 (hR _ _ _ (tr_0_4 q_0)) dX0_isUnder_1 fl_0_25 rfl ?_
  refine bv_iload_n dX0_isUnder_4 1 rfl ?_
  obtain ⟨r1, h⟩ := bu_ix h
  refine bz_iald hN (rk_0_4 q_0) r1 rfl dX0_isUnder_5 ?_
  refine bv_istore_n (ls1 := [(0, .ref x0), (1, .int x1), (2, .int x2), (3, .int (I (x0 + 5) x1.toNatClampNeg))]) dX0_isUnder_6 (by decide) rfl rfl ?_
  refine bv_iconst (v := 0) dX0_isUnder_7 (by decide) ?_
  refine bv_istore (ls1 := [(0, .ref x0), (1, .int x1), (2, .int x2), (3, .int (I (x0 + 5) x1.toNatClampNeg)), (4, .int 0)]) dX0_isUnder_8 (by decide) rfl rfl ?_
  refine bw_ls (ls1 := [(0, .ref x0), (2, .int x2), (3, .int (I (x0 + 5) x1.toNatClampNeg)), (4, .int 0)]) [0, 2, 3, 4] rfl ?_
  obtain ⟨r2, p3, h⟩ := bu_bd h
  refine v_X0_isUnder_l10 hN hR q_0 1000 _ _ _ p3 (fun y4 hy => ?_) (fun y4 hy => ?_)
  · subst hy
    refine bv_iconst (v := 1) dX0_isUnder_27 (by decide) ?_
    obtain rfl := Option.some.inj h
    exact bw_bret (b := true) dX0_isUnder_28 rfl ⟨rfl, rfl⟩
  · subst hy
    refine bv_iconst (v := 0) dX0_isUnder_42 (by decide) ?_
    obtain rfl := Option.some.inj h
    exact bw_bret (b := false) dX0_isUnder_43 rfl ⟨rfl, rfl⟩
def f_X5_manHere (I : bm_TI) (J : bm_TJ) (x1 : Nat) : Option (Int32 × bm_TI) := (if (I 3 3) = 5 then ((f_X0_manNamed I J x1 (J 3 7)).bind fun v1 => (if v1 = (-1) then ((f_X5_refuseNumber I 3).bind fun v3 => some (v3.1, v3.2)) else some (v1, I))) else ((f_X5_refuseNumber I 1).bind fun v5 => some (v5.1, v5.2)))
set_option maxHeartbeats 4000000 in
set_option maxRecDepth 100000 in
theorem c_X5_manHere {lc : bm_L} {d n : Nat} {I : bm_TI} {J : bm_TJ} {R W : bm_TR} {x1 : Nat} {v : Int32 × bm_TI} (hN : 181 ≤ n) (hR : bm_RR R) (q_1 : bm_OK x1 0) (h : f_X5_manHere I J x1 = some v) : bm_C lc m_X5_manHere (d + 1) n n [.ref 3, .ref x1] (I, J, R, W) (fun r M' => r = some (.int v.1) ∧ M' = (v.2, J, R, W)) := by
  refine bm_C.ofV (by decide) (Nat.le_of_ble_eq_true rfl) ?_
  show bm_V lc m_X5_manHere (d + 1) n n n 0 [(0, .ref 3), (1, .ref x1)] [] (I, J, R, W) _
  unfold f_X5_manHere at h
  refine bv_aload_n dX5_manHere_0 0 rfl ?_
  refine bz_getI hN okL_3 dX5_manHere_1 fl_5_54 rfl ?_
  refine bv_iconst (v := 5) dX5_manHere_4 (by decide) ?_
  refine bv_icmp_eq (tgt := 14) dX5_manHere_5 (by decide) (fun cc => ?_) (fun cc => ?_)
  · replace h := bu_t h cc
    refine bv_aload_n dX5_manHere_14 1 rfl ?_
    refine bv_aload_n dX5_manHere_15 0 rfl ?_
    refine bz_getJ hN okL_3 dX5_manHere_16 fl_5_66 rfl ?_
    obtain ⟨v1, p2, h⟩ := bu_bd h
    refine bw_callV (As := [.long (J 3 7)]) hN q_1 ⟨_, _, rfl⟩ dX5_manHere_19 mc_5_101 (c_X0_manNamed (d := d + 0) hN hR q_1 p2) rfl rfl (by decide) ?_
    refine bv_istore_n (ls1 := [(0, .ref 3), (1, .ref x1), (2, .int v1)]) dX5_manHere_22 (by decide) rfl rfl ?_
    refine bv_iload_n dX5_manHere_23 2 rfl ?_
    refine bv_iconst (v := (-1)) dX5_manHere_24 (by decide) ?_
    refine bv_icmp_ne (tgt := 36) dX5_manHere_25 (by decide) (fun cc => ?_) (fun cc => ?_)
    · replace h := bu_f h cc
      refine bv_iload_n dX5_manHere_36 2 rfl ?_
      obtain rfl := Option.some.inj h
      exact bv_iret (x := v1) dX5_manHere_37 rfl ⟨rfl, rfl⟩
    · replace h := bu_t h cc
      refine bv_aload_n dX5_manHere_28 0 rfl ?_
      refine bv_iconst (v := 3) dX5_manHere_29 (by decide) ?_
      obtain ⟨v3, p4, h⟩ := bu_bd h
      refine bw_callV (As := [.int 3]) hN okL_3 ⟨_, _, rfl⟩ dX5_manHere_30 mc_5_86 (c_X5_refuseNumber (d := d + 0) hN hR p4) rfl rfl (by decide) ?_
      refine bv_goto (tgt := 37) dX5_manHere_33 (by decide) ?_
      obtain rfl := Option.some.inj h
      exact bv_iret (x := v3.1) dX5_manHere_37 rfl ⟨rfl, rfl⟩
  · replace h := bu_f h cc
    refine bv_aload_n dX5_manHere_8 0 rfl ?_
    refine bv_iconst (v := 1) dX5_manHere_9 (by decide) ?_
    obtain ⟨v5, p6, h⟩ := bu_bd h
    refine bw_callV (As := [.int 1]) hN okL_3 ⟨_, _, rfl⟩ dX5_manHere_10 mc_5_86 (c_X5_refuseNumber (d := d + 0) hN hR p6) rfl rfl (by decide) ?_
    obtain rfl := Option.some.inj h
    exact bv_iret (x := v5.1) dX5_manHere_13 rfl ⟨rfl, rfl⟩
def f_X0_readUnder (I : bm_TI) (J : bm_TJ) (W : bm_TR) : Option (Bool × bm_TI × bm_TJ × bm_TR) := ((f_X5_advance I J W).bind fun v1 => ((f_X5_manHere v1.1 v1.2.1 15).bind fun v3 => (if v3.1 = (-1) then some (false, v3.2, v1.2.1, v1.2.2) else (if bm_ix 8 v3.1 = true then (if (v3.2 20 v3.1.toNatClampNeg) = (-1) then ((f_X5_advance v3.2 v1.2.1 v1.2.2).bind fun v6 => ((f_X5_manHere v6.1 v6.2.1 15).bind fun v8 => (if v8.1 = (-1) then some (false, v8.2, v6.2.1, v6.2.2) else (if v8.1 = v3.1 then ((f_X5_refuse v8.2 3).bind fun v10 => some (v10.1, v10.2, v6.2.1, v6.2.2)) else ((f_X0_isUnder v8.2 15 v8.1 v3.1).bind fun v12 => (if v12 = true then ((f_X5_refuse v8.2 3).bind fun v16 => some (v16.1, v16.2, v6.2.1, v6.2.2)) else ((f_X5_advance (bm_uI v8.2 20 v3.1.toNatClampNeg v8.1) v6.2.1 v6.2.2).bind fun v14 => some (true, v14.1, v14.2.1, v14.2.2)))))))) else ((f_X5_refuse v3.2 3).bind fun v18 => some (v18.1, v18.2, v1.2.1, v1.2.2))) else none))))
set_option maxHeartbeats 4000000 in
set_option maxRecDepth 100000 in
theorem c_X0_readUnder {lc : bm_L} {d n : Nat} {I : bm_TI} {J : bm_TJ} {R W : bm_TR} {v : Bool × bm_TI × bm_TJ × bm_TR} (hN : 181 ≤ n) (hR : bm_RR R) (h : f_X0_readUnder I J W = some v) : bm_C lc m_X0_readUnder (d + 3) n n [.ref 15, .ref 3] (I, J, R, W) (fun r M' => r = some (.int (bm_bi v.1)) ∧ M' = (v.2.1, v.2.2.1, R, v.2.2.2)) := by
  refine bm_C.ofV (by decide) (Nat.le_of_ble_eq_true rfl) ?_
  show bm_V lc m_X0_readUnder (d + 3) n n n 0 [(0, .ref 15), (1, .ref 3)] [] (I, J, R, W) _
  unfold f_X0_readUnder at h
  refine bv_aload_n dX0_readUnder_0 1 rfl ?_
  obtain ⟨v1, p2, h⟩ := bu_bd h
  refine bw_callVv (As := []) hN okL_3 ⟨_, _, rfl⟩ dX0_readUnder_1 mc_0_127 (c_X5_advance (d := d + 0) hN hR p2) rfl rfl (by decide) ?_
  refine bv_aload_n dX0_readUnder_4 1 rfl ?_
  refine bv_aload_n dX0_readUnder_5 0 rfl ?_
  obtain ⟨v3, p4, h⟩ := bu_bd h
  refine bw_callV (As := [.ref 15]) hN okL_3 ⟨_, _, rfl⟩ dX0_readUnder_6 mc_0_147 (c_X5_manHere (d := d + 1) hN hR okL_15 p4) rfl rfl (by decide) ?_
  refine bv_istore_n (ls1 := [(0, .ref 15), (1, .ref 3), (2, .int v3.1)]) dX0_readUnder_9 (by decide) rfl rfl ?_
  refine bv_iload_n dX0_readUnder_10 2 rfl ?_
  refine bv_iconst (v := (-1)) dX0_readUnder_11 (by decide) ?_
  refine bv_icmp_ne (tgt := 17) dX0_readUnder_12 (by decide) (fun cc => ?_) (fun cc => ?_)
  · replace h := bu_f h cc
    refine bv_aload_n dX0_readUnder_17 0 rfl ?_
    refine bz_getA (a := 20) hN okL_15 (hR _ _ _ r0_15_4) dX0_readUnder_18 fl_0_25 rfl ?_
    refine bv_iload_n dX0_readUnder_21 2 rfl ?_
    obtain ⟨r5, h⟩ := bu_ix h
    refine bz_iald hN rkL_20 r5 rfl dX0_readUnder_22 ?_
    refine bv_iconst (v := (-1)) dX0_readUnder_23 (by decide) ?_
    refine bv_icmp_eq (tgt := 33) dX0_readUnder_24 (by decide) (fun cc => ?_) (fun cc => ?_)
    · replace h := bu_t h cc
      refine bv_aload_n dX0_readUnder_33 1 rfl ?_
      obtain ⟨v6, p7, h⟩ := bu_bd h
      refine bw_callVv (As := []) hN okL_3 ⟨_, _, rfl⟩ dX0_readUnder_34 mc_0_127 (c_X5_advance (d := d + 0) hN hR p7) rfl rfl (by decide) ?_
      refine bv_aload_n dX0_readUnder_37 1 rfl ?_
      refine bv_aload_n dX0_readUnder_38 0 rfl ?_
      obtain ⟨v8, p9, h⟩ := bu_bd h
      refine bw_callV (As := [.ref 15]) hN okL_3 ⟨_, _, rfl⟩ dX0_readUnder_39 mc_0_147 (c_X5_manHere (d := d + 1) hN hR okL_15 p9) rfl rfl (by decide) ?_
      refine bv_istore_n (ls1 := [(0, .ref 15), (1, .ref 3), (2, .int v3.1), (3, .int v8.1)]) dX0_readUnder_42 (by decide) rfl rfl ?_
      refine bv_iload_n dX0_readUnder_43 3 rfl ?_
      refine bv_iconst (v := (-1)) dX0_readUnder_44 (by decide) ?_
      refine bv_icmp_ne (tgt := 50) dX0_readUnder_45 (by decide) (fun cc => ?_) (fun cc => ?_)
      · replace h := bu_f h cc
        refine bv_iload_n dX0_readUnder_50 3 rfl ?_
        refine bv_iload_n dX0_readUnder_51 2 rfl ?_
        refine bv_icmp_eq (tgt := 64) dX0_readUnder_52 (by decide) (fun cc => ?_) (fun cc => ?_)
        · replace h := bu_t h cc
          refine bv_aload_n dX0_readUnder_64 1 rfl ?_
          refine bv_iconst (v := 3) dX0_readUnder_65 (by decide) ?_
          obtain ⟨v10, p11, h⟩ := bu_bd h
          refine bw_callV (As := [.int 3]) hN okL_3 ⟨_, _, rfl⟩ dX0_readUnder_66 mc_0_124 (c_X5_refuse (d := d + 2) hN hR p11) rfl rfl (by decide) ?_
          obtain rfl := Option.some.inj h
          exact bw_bret (b := v10.1) dX0_readUnder_69 rfl ⟨rfl, rfl⟩
        · replace h := bu_f h cc
          refine bv_aload_n dX0_readUnder_55 0 rfl ?_
          refine bv_iload_n dX0_readUnder_56 3 rfl ?_
          refine bv_iload_n dX0_readUnder_57 2 rfl ?_
          obtain ⟨v12, p13, h⟩ := bu_bd h
          refine bw_callV (As := [.int v8.1, .int v3.1]) hN okL_15 ⟨_, _, rfl⟩ dX0_readUnder_58 mc_0_151 (c_X0_isUnder (d := d + 2) hN hR okL_15 p13) rfl rfl (by decide) ?_
          refine bw_ifB_eq (b := v12) (tgt := 70) dX0_readUnder_61 (by decide) (fun cc => ?_) (fun cc => ?_)
          · replace h := bu_bf h cc
            refine bv_aload_n dX0_readUnder_70 0 rfl ?_
            refine bz_getA (a := 20) hN okL_15 (hR _ _ _ r0_15_4) dX0_readUnder_71 fl_0_25 rfl ?_
            refine bv_iload_n dX0_readUnder_74 2 rfl ?_
            refine bv_iload_n dX0_readUnder_75 3 rfl ?_
            refine bz_iast hN rkL_20 r5 rfl dX0_readUnder_76 ?_
            refine bv_aload_n dX0_readUnder_77 1 rfl ?_
            obtain ⟨v14, p15, h⟩ := bu_bd h
            refine bw_callVv (As := []) hN okL_3 ⟨_, _, rfl⟩ dX0_readUnder_78 mc_0_127 (c_X5_advance (d := d + 0) hN hR p15) rfl rfl (by decide) ?_
            refine bv_iconst (v := 1) dX0_readUnder_81 (by decide) ?_
            obtain rfl := Option.some.inj h
            exact bw_bret (b := true) dX0_readUnder_82 rfl ⟨rfl, rfl⟩
          · replace h := bu_bt h cc
            refine bv_aload_n dX0_readUnder_64 1 rfl ?_
            refine bv_iconst (v := 3) dX0_readUnder_65 (by decide) ?_
            obtain ⟨v16, p17, h⟩ := bu_bd h
            refine bw_callV (As := [.int 3]) hN okL_3 ⟨_, _, rfl⟩ dX0_readUnder_66 mc_0_124 (c_X5_refuse (d := d + 2) hN hR p17) rfl rfl (by decide) ?_
            obtain rfl := Option.some.inj h
            exact bw_bret (b := v16.1) dX0_readUnder_69 rfl ⟨rfl, rfl⟩
      · replace h := bu_t h cc
        refine bv_iconst (v := 0) dX0_readUnder_48 (by decide) ?_
        obtain rfl := Option.some.inj h
        exact bw_bret (b := false) dX0_readUnder_49 rfl ⟨rfl, rfl⟩
    · replace h := bu_f h cc
      refine bv_aload_n dX0_readUnder_27 1 rfl ?_
      refine bv_iconst (v := 3) dX0_readUnder_28 (by decide) ?_
      obtain ⟨v18, p19, h⟩ := bu_bd h
      refine bw_callV (As := [.int 3]) hN okL_3 ⟨_, _, rfl⟩ dX0_readUnder_29 mc_0_124 (c_X5_refuse (d := d + 2) hN hR p19) rfl rfl (by decide) ?_
      obtain rfl := Option.some.inj h
      exact bw_bret (b := v18.1) dX0_readUnder_32 rfl ⟨rfl, rfl⟩
  · replace h := bu_t h cc
    refine bv_iconst (v := 0) dX0_readUnder_15 (by decide) ?_
    obtain rfl := Option.some.inj h
    exact bw_bret (b := false) dX0_readUnder_16 rfl ⟨rfl, rfl⟩
def f_X0_readLine (I : bm_TI) (J : bm_TJ) (W : bm_TR) : Option (Bool × bm_TI × bm_TJ × bm_TR) := (if bm_iwq (W 3 8) = true then (if (W 3 8) = (some (1000 + 0)) then ((f_X0_readMan I J W).bind fun v14 => some (v14.1, v14.2.1, v14.2.2.1, v14.2.2.2)) else (if (W 3 8) = (some (1000 + 27)) then ((f_X0_readUnder I J W).bind fun v12 => some (v12.1, v12.2.1, v12.2.2.1, v12.2.2.2)) else (if (W 3 8) = (some (1000 + 1)) then ((f_X0_readOrder I J W).bind fun v10 => some (v10.1, v10.2.1, v10.2.2.1, v10.2.2.2)) else (if (W 3 8) = (some (1000 + 2)) then ((f_X0_readFoe I J W).bind fun v8 => some (v8.1, v8.2.1, v8.2.2.1, v8.2.2.2)) else (if (W 3 8) = (some (1000 + 3)) then ((f_X0_readOnce I J W (I 15 15) 5).bind fun v6 => (if ((bm_uI v6.2.1 15 15 v6.1) 15 15) = (-1) then some (false, (bm_uI v6.2.1 15 15 v6.1), v6.2.2.1, v6.2.2.2) else some (true, (bm_uI v6.2.1 15 15 v6.1), v6.2.2.1, v6.2.2.2))) else (if (W 3 8) = (some (1000 + 4)) then ((f_X0_readOnce I J W (I 15 16) 30).bind fun v4 => (if ((bm_uI v4.2.1 15 16 v4.1) 15 16) = (-1) then some (false, (bm_uI v4.2.1 15 16 v4.1), v4.2.2.1, v4.2.2.2) else some (true, (bm_uI v4.2.1 15 16 v4.1), v4.2.2.1, v4.2.2.2))) else ((f_X5_refuse I 1).bind fun v2 => some (v2.1, v2.2, J, W)))))))) else none)
set_option maxHeartbeats 4000000 in
set_option maxRecDepth 100000 in
theorem c_X0_readLine {lc : bm_L} {d n : Nat} {I : bm_TI} {J : bm_TJ} {R W : bm_TR} {v : Bool × bm_TI × bm_TJ × bm_TR} (hN : 181 ≤ n) (hR : bm_RR R) (h : f_X0_readLine I J W = some v) : bm_C lc m_X0_readLine (d + 5) n n [.ref 15, .ref 3] (I, J, R, W) (fun r M' => r = some (.int (bm_bi v.1)) ∧ M' = (v.2.1, v.2.2.1, R, v.2.2.2)) := by
  refine bm_C.ofV (by decide) (Nat.le_of_ble_eq_true rfl) ?_
  show bm_V lc m_X0_readLine (d + 5) n n n 0 [(0, .ref 15), (1, .ref 3)] [] (I, J, R, W) _
  unfold f_X0_readLine at h
  refine bv_aload_n dX0_readLine_0 1 rfl ?_
  refine bz_getQ hN okL_3 dX0_readLine_1 fl_0_84 rfl ?_
  refine bv_astoreq_n (x := (W 3 8)) (ls1 := [(0, .ref 15), (1, .ref 3), (2, va_rf (W 3 8))]) dX0_readLine_4 (by decide) rfl rfl ?_
  refine bv_aloadq_n (x := (W 3 8)) dX0_readLine_5 2 rfl ?_
  refine bw_getW (j := 0) dX0_readLine_6 fw_0_88 rfl ?_
  obtain ⟨w1, h⟩ := bu_g h
  refine bv_acmp_ne (x := (W 3 8)) (y := (some (1000 + 0))) (tgt := 18) dX0_readLine_9 (by decide) (bm_wq_of w1) (bm_wq_of rfl) (fun cc => ?_) (fun cc => ?_)
  · replace h := bu_f h cc
    refine bv_aloadq_n (x := (W 3 8)) dX0_readLine_18 2 rfl ?_
    refine bw_getW (j := 27) dX0_readLine_19 fw_0_96 rfl ?_
    refine bv_acmp_ne (x := (W 3 8)) (y := (some (1000 + 27))) (tgt := 31) dX0_readLine_22 (by decide) (bm_wq_of w1) (bm_wq_of rfl) (fun cc => ?_) (fun cc => ?_)
    · replace h := bu_f h cc
      refine bv_aloadq_n (x := (W 3 8)) dX0_readLine_31 2 rfl ?_
      refine bw_getW (j := 1) dX0_readLine_32 fw_0_102 rfl ?_
      refine bv_acmp_ne (x := (W 3 8)) (y := (some (1000 + 1))) (tgt := 44) dX0_readLine_35 (by decide) (bm_wq_of w1) (bm_wq_of rfl) (fun cc => ?_) (fun cc => ?_)
      · replace h := bu_f h cc
        refine bv_aloadq_n (x := (W 3 8)) dX0_readLine_44 2 rfl ?_
        refine bw_getW (j := 2) dX0_readLine_45 fw_0_108 rfl ?_
        refine bv_acmp_ne (x := (W 3 8)) (y := (some (1000 + 2))) (tgt := 57) dX0_readLine_48 (by decide) (bm_wq_of w1) (bm_wq_of rfl) (fun cc => ?_) (fun cc => ?_)
        · replace h := bu_f h cc
          refine bv_aloadq_n (x := (W 3 8)) dX0_readLine_57 2 rfl ?_
          refine bw_getW (j := 3) dX0_readLine_58 fw_0_114 rfl ?_
          refine bv_acmp_ne (x := (W 3 8)) (y := (some (1000 + 3))) (tgt := 91) dX0_readLine_61 (by decide) (bm_wq_of w1) (bm_wq_of rfl) (fun cc => ?_) (fun cc => ?_)
          · replace h := bu_f h cc
            refine bv_aloadq_n (x := (W 3 8)) dX0_readLine_91 2 rfl ?_
            refine bw_getW (j := 4) dX0_readLine_92 fw_0_121 rfl ?_
            refine bv_acmp_ne (x := (W 3 8)) (y := (some (1000 + 4))) (tgt := 126) dX0_readLine_95 (by decide) (bm_wq_of w1) (bm_wq_of rfl) (fun cc => ?_) (fun cc => ?_)
            · replace h := bu_f h cc
              refine bv_aload_n dX0_readLine_126 1 rfl ?_
              refine bv_iconst (v := 1) dX0_readLine_127 (by decide) ?_
              obtain ⟨v2, p3, h⟩ := bu_bd h
              refine bw_callV (As := [.int 1]) hN okL_3 ⟨_, _, rfl⟩ dX0_readLine_128 mc_0_124 (c_X5_refuse (d := d + 4) hN hR p3) rfl rfl (by decide) ?_
              obtain rfl := Option.some.inj h
              exact bw_bret (b := v2.1) dX0_readLine_131 rfl ⟨rfl, rfl⟩
            · replace h := bu_t h cc
              refine bv_aload_n dX0_readLine_98 0 rfl ?_
              refine bv_aload_n dX0_readLine_99 1 rfl ?_
              refine bv_aload_n dX0_readLine_100 0 rfl ?_
              refine bz_getI hN okL_15 dX0_readLine_101 fl_0_47 rfl ?_
              refine bv_bipush (v := 30) dX0_readLine_104 (by decide) ?_
              obtain ⟨v4, p5, h⟩ := bu_bd h
              refine bw_callS (As := [.ref 3, .int (I 15 16), .int 30]) dX0_readLine_106 mc_0_117 (c_X0_readOnce (d := d + 0) hN hR p5) rfl rfl (Nat.le_of_ble_eq_true rfl) ?_
              refine bz_putI hN okL_15 dX0_readLine_109 fl_0_47 rfl ?_
              refine bv_aload_n dX0_readLine_112 0 rfl ?_
              refine bz_getI hN okL_15 dX0_readLine_113 fl_0_47 rfl ?_
              refine bv_iconst (v := (-1)) dX0_readLine_116 (by decide) ?_
              refine bv_icmp_eq (tgt := 124) dX0_readLine_117 (by decide) (fun cc => ?_) (fun cc => ?_)
              · replace h := bu_t h cc
                refine bv_iconst (v := 0) dX0_readLine_124 (by decide) ?_
                obtain rfl := Option.some.inj h
                exact bw_bret (b := false) dX0_readLine_125 rfl ⟨rfl, rfl⟩
              · replace h := bu_f h cc
                refine bv_iconst (v := 1) dX0_readLine_120 (by decide) ?_
                refine bv_goto (tgt := 125) dX0_readLine_121 (by decide) ?_
                obtain rfl := Option.some.inj h
                exact bw_bret (b := true) dX0_readLine_125 rfl ⟨rfl, rfl⟩
          · replace h := bu_t h cc
            refine bv_aload_n dX0_readLine_64 0 rfl ?_
            refine bv_aload_n dX0_readLine_65 1 rfl ?_
            refine bv_aload_n dX0_readLine_66 0 rfl ?_
            refine bz_getI hN okL_15 dX0_readLine_67 fl_0_43 rfl ?_
            refine bv_iconst (v := 5) dX0_readLine_70 (by decide) ?_
            obtain ⟨v6, p7, h⟩ := bu_bd h
            refine bw_callS (As := [.ref 3, .int (I 15 15), .int 5]) dX0_readLine_71 mc_0_117 (c_X0_readOnce (d := d + 0) hN hR p7) rfl rfl (Nat.le_of_ble_eq_true rfl) ?_
            refine bz_putI hN okL_15 dX0_readLine_74 fl_0_43 rfl ?_
            refine bv_aload_n dX0_readLine_77 0 rfl ?_
            refine bz_getI hN okL_15 dX0_readLine_78 fl_0_43 rfl ?_
            refine bv_iconst (v := (-1)) dX0_readLine_81 (by decide) ?_
            refine bv_icmp_eq (tgt := 89) dX0_readLine_82 (by decide) (fun cc => ?_) (fun cc => ?_)
            · replace h := bu_t h cc
              refine bv_iconst (v := 0) dX0_readLine_89 (by decide) ?_
              obtain rfl := Option.some.inj h
              exact bw_bret (b := false) dX0_readLine_90 rfl ⟨rfl, rfl⟩
            · replace h := bu_f h cc
              refine bv_iconst (v := 1) dX0_readLine_85 (by decide) ?_
              refine bv_goto (tgt := 90) dX0_readLine_86 (by decide) ?_
              obtain rfl := Option.some.inj h
              exact bw_bret (b := true) dX0_readLine_90 rfl ⟨rfl, rfl⟩
        · replace h := bu_t h cc
          refine bv_aload_n dX0_readLine_51 0 rfl ?_
          refine bv_aload_n dX0_readLine_52 1 rfl ?_
          obtain ⟨v8, p9, h⟩ := bu_bd h
          refine bw_callV (As := [.ref 3]) hN okL_15 ⟨_, _, rfl⟩ dX0_readLine_53 mc_0_111 (c_X0_readFoe (d := d + 0) hN hR p9) rfl rfl (by decide) ?_
          obtain rfl := Option.some.inj h
          exact bw_bret (b := v8.1) dX0_readLine_56 rfl ⟨rfl, rfl⟩
      · replace h := bu_t h cc
        refine bv_aload_n dX0_readLine_38 0 rfl ?_
        refine bv_aload_n dX0_readLine_39 1 rfl ?_
        obtain ⟨v10, p11, h⟩ := bu_bd h
        refine bw_callV (As := [.ref 3]) hN okL_15 ⟨_, _, rfl⟩ dX0_readLine_40 mc_0_105 (c_X0_readOrder (d := d + 0) hN hR p11) rfl rfl (by decide) ?_
        obtain rfl := Option.some.inj h
        exact bw_bret (b := v10.1) dX0_readLine_43 rfl ⟨rfl, rfl⟩
    · replace h := bu_t h cc
      refine bv_aload_n dX0_readLine_25 0 rfl ?_
      refine bv_aload_n dX0_readLine_26 1 rfl ?_
      obtain ⟨v12, p13, h⟩ := bu_bd h
      refine bw_callV (As := [.ref 3]) hN okL_15 ⟨_, _, rfl⟩ dX0_readLine_27 mc_0_99 (c_X0_readUnder (d := d + 1) hN hR p13) rfl rfl (by decide) ?_
      obtain rfl := Option.some.inj h
      exact bw_bret (b := v12.1) dX0_readLine_30 rfl ⟨rfl, rfl⟩
  · replace h := bu_t h cc
    refine bv_aload_n dX0_readLine_12 0 rfl ?_
    refine bv_aload_n dX0_readLine_13 1 rfl ?_
    obtain ⟨v14, p15, h⟩ := bu_bd h
    refine bw_callV (As := [.ref 3]) hN okL_15 ⟨_, _, rfl⟩ dX0_readLine_14 mc_0_93 (c_X0_readMan (d := d + 0) hN hR p15) rfl rfl (by decide) ?_
    obtain rfl := Option.some.inj h
    exact bw_bret (b := v14.1) dX0_readLine_17 rfl ⟨rfl, rfl⟩
def f_X5_takeSign (I : bm_TI) (J : bm_TJ) (W : bm_TR) (x1 : Int32) : Option (Bool × bm_TI × bm_TJ × bm_TR) := (if (I 3 3) = 2 then (if (I 3 6) = x1 then ((f_X5_advance I J W).bind fun v3 => some (true, v3.1, v3.2.1, v3.2.2)) else ((f_X5_refuse I 1).bind fun v5 => some (v5.1, v5.2, J, W))) else ((f_X5_refuse I 1).bind fun v1 => some (v1.1, v1.2, J, W)))
set_option maxHeartbeats 4000000 in
set_option maxRecDepth 100000 in
theorem c_X5_takeSign {lc : bm_L} {d n : Nat} {I : bm_TI} {J : bm_TJ} {R W : bm_TR} {x1 : Int32} {v : Bool × bm_TI × bm_TJ × bm_TR} (hN : 181 ≤ n) (hR : bm_RR R) (h : f_X5_takeSign I J W x1 = some v) : bm_C lc m_X5_takeSign (d + 3) n n [.ref 3, .int x1] (I, J, R, W) (fun r M' => r = some (.int (bm_bi v.1)) ∧ M' = (v.2.1, v.2.2.1, R, v.2.2.2)) := by
  refine bm_C.ofV (by decide) (Nat.le_of_ble_eq_true rfl) ?_
  show bm_V lc m_X5_takeSign (d + 3) n n n 0 [(0, .ref 3), (1, .int x1)] [] (I, J, R, W) _
  unfold f_X5_takeSign at h
  refine bv_aload_n dX5_takeSign_0 0 rfl ?_
  refine bz_getI hN okL_3 dX5_takeSign_1 fl_5_54 rfl ?_
  refine bv_iconst (v := 2) dX5_takeSign_4 (by decide) ?_
  refine bv_icmp_ne (tgt := 16) dX5_takeSign_5 (by decide) (fun cc => ?_) (fun cc => ?_)
  · replace h := bu_f h cc
    refine bv_aload_n dX5_takeSign_16 0 rfl ?_
    refine bv_iconst (v := 1) dX5_takeSign_17 (by decide) ?_
    obtain ⟨v1, p2, h⟩ := bu_bd h
    refine bw_callV (As := [.int 1]) hN okL_3 ⟨_, _, rfl⟩ dX5_takeSign_18 mc_5_83 (c_X5_refuse (d := d + 2) hN hR p2) rfl rfl (by decide) ?_
    obtain rfl := Option.some.inj h
    exact bw_bret (b := v1.1) dX5_takeSign_21 rfl ⟨rfl, rfl⟩
  · replace h := bu_t h cc
    refine bv_aload_n dX5_takeSign_8 0 rfl ?_
    refine bz_getI hN okL_3 dX5_takeSign_9 fl_5_48 rfl ?_
    refine bv_iload_n dX5_takeSign_12 1 rfl ?_
    refine bv_icmp_eq (tgt := 22) dX5_takeSign_13 (by decide) (fun cc => ?_) (fun cc => ?_)
    · replace h := bu_t h cc
      refine bv_aload_n dX5_takeSign_22 0 rfl ?_
      obtain ⟨v3, p4, h⟩ := bu_bd h
      refine bw_callVv (As := []) hN okL_3 ⟨_, _, rfl⟩ dX5_takeSign_23 mc_5_28 (c_X5_advance (d := d + 0) hN hR p4) rfl rfl (by decide) ?_
      refine bv_iconst (v := 1) dX5_takeSign_26 (by decide) ?_
      obtain rfl := Option.some.inj h
      exact bw_bret (b := true) dX5_takeSign_27 rfl ⟨rfl, rfl⟩
    · replace h := bu_f h cc
      refine bv_aload_n dX5_takeSign_16 0 rfl ?_
      refine bv_iconst (v := 1) dX5_takeSign_17 (by decide) ?_
      obtain ⟨v5, p6, h⟩ := bu_bd h
      refine bw_callV (As := [.int 1]) hN okL_3 ⟨_, _, rfl⟩ dX5_takeSign_18 mc_5_83 (c_X5_refuse (d := d + 2) hN hR p6) rfl rfl (by decide) ?_
      obtain rfl := Option.some.inj h
      exact bw_bret (b := v5.1) dX5_takeSign_21 rfl ⟨rfl, rfl⟩
def f_X0_readFrom_l37 : Nat → Int32 → bm_TI → bm_TJ → bm_TR → Option (((Int32 × bm_TI × bm_TJ × bm_TR) ⊕ (Int32 × bm_TI × bm_TJ × bm_TR)))
  | 0, _, _, _, _ => none
  | k + 1, x2, I, J, W => (if 900 ≤ x2 then some (Sum.inr (x2, I, J, W)) else (if (I 3 3) = 0 then some (Sum.inr (x2, I, J, W)) else ((f_X0_readLine I J W).bind fun v1 => (if v1.1 = true then ((f_X5_takeSign v1.2.1 v1.2.2.1 v1.2.2.2 59).bind fun v3 => (if v3.1 = true then f_X0_readFrom_l37 k (x2 + 1) v3.2.1 v3.2.2.1 v3.2.2.2 else some (Sum.inl (x2, v3.2.1, v3.2.2.1, v3.2.2.2)))) else some (Sum.inl (x2, v1.2.1, v1.2.2.1, v1.2.2.2))))))
set_option maxHeartbeats 4000000 in
set_option maxRecDepth 100000 in
theorem v_X0_readFrom_l37 {lc : bm_L} {d n : Nat} {Q : Option Value → bm_M → Prop} {R : bm_TR} (hN : 181 ≤ n) (hR : bm_RR R) : ∀ (k : Nat) (x2 : Int32) (I : bm_TI) (J : bm_TJ) (W : bm_TR) (r : ((Int32 × bm_TI × bm_TJ × bm_TR) ⊕ (Int32 × bm_TI × bm_TJ × bm_TR))), f_X0_readFrom_l37 k x2 I J W = some r → (∀ yy, (Sum.inl yy) = r → bm_V lc m_X0_readFrom (d + 6) n n n 68 [(2, .int yy.1)] [] (yy.2.1, yy.2.2.1, R, yy.2.2.2) Q) → (∀ yy, (Sum.inr yy) = r → bm_V lc m_X0_readFrom (d + 6) n n n 76 [(0, .ref 15), (2, .int yy.1)] [] (yy.2.1, yy.2.2.1, R, yy.2.2.2) Q) → bm_V lc m_X0_readFrom (d + 6) n n n 37 [(0, .ref 15), (1, .ref 3), (2, .int x2)] [] (I, J, R, W) Q := by
  intro k
  induction k with
  | zero => intro x2 I J W r h; cases (show (none : Option (((Int32 × bm_TI × bm_TJ × bm_TR) ⊕ (Int32 × bm_TI × bm_TJ × bm_TR)))) = some r from h)
  | succ k ih =>
    intro x2 I J W r h K0 K1
    unfold f_X0_readFrom_l37 at h
    refine bv_iload_n dX0_readFrom_37 2 rfl ?_
    refine bv_sipush (v := 900) dX0_readFrom_38 (by decide) ?_
    refine bv_icmp_ge (tgt := 76) dX0_readFrom_41 (by decide) (fun cc => ?_) (fun cc => ?_)
    · replace h := bu_t h cc
      refine bw_ls (ls1 := [(0, .ref 15), (2, .int x2)]) [0, 2] rfl ?_
      obtain rfl := Option.some.inj h
      exact K1 _ rfl
    · replace h := bu_f h cc
      refine bv_aload_n dX0_readFrom_44 1 rfl ?_
      refine bz_getI hN okL_3 dX0_readFrom_45 fl_0_71 rfl ?_
      refine bv_if_eq (tgt := 76) dX0_readFrom_48 (by decide) (fun cc => ?_) (fun cc => ?_)
      · replace h := bu_t h cc
        refine bw_ls (ls1 := [(0, .ref 15), (2, .int x2)]) [0, 2] rfl ?_
        obtain rfl := Option.some.inj h
        exact K1 _ rfl
      · replace h := bu_f h cc
        refine bv_aload_n dX0_readFrom_51 0 rfl ?_
        refine bv_aload_n dX0_readFrom_52 1 rfl ?_
        obtain ⟨v1, p2, h⟩ := bu_bd h
        refine bw_callV (As := [.ref 3]) hN okL_15 ⟨_, _, rfl⟩ dX0_readFrom_53 mc_0_76 (c_X0_readLine (d := d + 0) hN hR p2) rfl rfl (by decide) ?_
        refine bw_ifB_eq (b := v1.1) (tgt := 68) dX0_readFrom_56 (by decide) (fun cc => ?_) (fun cc => ?_)
        · replace h := bu_bf h cc
          refine bw_ls (ls1 := [(2, .int x2)]) [2] rfl ?_
          obtain rfl := Option.some.inj h
          exact K0 _ rfl
        · replace h := bu_bt h cc
          refine bv_aload_n dX0_readFrom_59 1 rfl ?_
          refine bv_bipush (v := 59) dX0_readFrom_60 (by decide) ?_
          obtain ⟨v3, p4, h⟩ := bu_bd h
          refine bw_callV (As := [.int 59]) hN okL_3 ⟨_, _, rfl⟩ dX0_readFrom_62 mc_0_80 (c_X5_takeSign (d := d + 2) hN hR p4) rfl rfl (by decide) ?_
          refine bw_ifB_ne (b := v3.1) (tgt := 70) dX0_readFrom_65 (by decide) (fun cc => ?_) (fun cc => ?_)
          · replace h := bu_bt h cc
            refine bv_iinc (j := 2) (v := (x2 + 1)) (ls1 := [(0, .ref 15), (1, .ref 3), (2, .int (x2 + 1))]) dX0_readFrom_70 rfl rfl (by decide) rfl rfl ?_
            refine bv_goto (tgt := 37) dX0_readFrom_73 (by decide) ?_
            exact ih _ _ _ _ _ h K0 K1
          · replace h := bu_bf h cc
            refine bw_ls (ls1 := [(2, .int x2)]) [2] rfl ?_
            obtain rfl := Option.some.inj h
            exact K0 _ rfl
def f_X0_readFrom (I : bm_TI) (J : bm_TJ) (W : bm_TR) : Option (Int32 × bm_TI × bm_TJ × bm_TR) := ((f_X0_readFrom_l37 1000 0 (bm_uI (bm_uI (bm_uI (bm_uI (bm_uI (bm_uI (bm_uI I 15 10 0) 15 11 0) 15 12 0) 15 13 0) 15 14 0) 15 15 (-1)) 15 16 (-1)) J W).bind fun rr => match rr with | (Sum.inl y3) => some (y3.1, y3.2.1, y3.2.2.1, y3.2.2.2) | (Sum.inr y3) => (if (y3.2.1 15 15) = (-1) then (if ((bm_uI y3.2.1 15 15 2) 15 16) = (-1) then some (y3.1, (bm_uI (bm_uI y3.2.1 15 15 2) 15 16 6), y3.2.2.1, y3.2.2.2) else some (y3.1, (bm_uI (bm_uI y3.2.1 15 15 2) 15 16 ((bm_uI y3.2.1 15 15 2) 15 16)), y3.2.2.1, y3.2.2.2)) else (if ((bm_uI y3.2.1 15 15 (y3.2.1 15 15)) 15 16) = (-1) then some (y3.1, (bm_uI (bm_uI y3.2.1 15 15 (y3.2.1 15 15)) 15 16 6), y3.2.2.1, y3.2.2.2) else some (y3.1, (bm_uI (bm_uI y3.2.1 15 15 (y3.2.1 15 15)) 15 16 ((bm_uI y3.2.1 15 15 (y3.2.1 15 15)) 15 16)), y3.2.2.1, y3.2.2.2))))
set_option maxHeartbeats 4000000 in
set_option maxRecDepth 100000 in
theorem c_X0_readFrom {lc : bm_L} {d n : Nat} {I : bm_TI} {J : bm_TJ} {R W : bm_TR} {v : Int32 × bm_TI × bm_TJ × bm_TR} (hN : 181 ≤ n) (hR : bm_RR R) (h : f_X0_readFrom I J W = some v) : bm_C lc m_X0_readFrom (d + 6) n n [.ref 15, .ref 3] (I, J, R, W) (fun r M' => r = some (.int v.1) ∧ M' = (v.2.1, v.2.2.1, R, v.2.2.2)) := by
  refine bm_C.ofV (by decide) (Nat.le_of_ble_eq_true rfl) ?_
  show bm_V lc m_X0_readFrom (d + 6) n n n 0 [(0, .ref 15), (1, .ref 3)] [] (I, J, R, W) _
  unfold f_X0_readFrom at h
  refine bv_aload_n dX0_readFrom_0 0 rfl ?_
  refine bv_iconst (v := 0) dX0_readFrom_1 (by decide) ?_
  refine bz_putI hN okL_15 dX0_readFrom_2 fl_0_56 rfl ?_
  refine bv_aload_n dX0_readFrom_5 0 rfl ?_
  refine bv_iconst (v := 0) dX0_readFrom_6 (by decide) ?_
  refine bz_putI hN okL_15 dX0_readFrom_7 fl_0_59 rfl ?_
  refine bv_aload_n dX0_readFrom_10 0 rfl ?_
  refine bv_iconst (v := 0) dX0_readFrom_11 (by decide) ?_
  refine bz_putI hN okL_15 dX0_readFrom_12 fl_0_62 rfl ?_
  refine bv_aload_n dX0_readFrom_15 0 rfl ?_
  refine bv_iconst (v := 0) dX0_readFrom_16 (by decide) ?_
  refine bz_putI hN okL_15 dX0_readFrom_17 fl_0_65 rfl ?_
  refine bv_aload_n dX0_readFrom_20 0 rfl ?_
  refine bv_iconst (v := 0) dX0_readFrom_21 (by decide) ?_
  refine bz_putI hN okL_15 dX0_readFrom_22 fl_0_68 rfl ?_
  refine bv_aload_n dX0_readFrom_25 0 rfl ?_
  refine bv_iconst (v := (-1)) dX0_readFrom_26 (by decide) ?_
  refine bz_putI hN okL_15 dX0_readFrom_27 fl_0_43 rfl ?_
  refine bv_aload_n dX0_readFrom_30 0 rfl ?_
  refine bv_iconst (v := (-1)) dX0_readFrom_31 (by decide) ?_
  refine bz_putI hN okL_15 dX0_readFrom_32 fl_0_47 rfl ?_
  refine bv_iconst (v := 0) dX0_readFrom_35 (by decide) ?_
  refine bv_istore_n (ls1 := [(0, .ref 15), (1, .ref 3), (2, .int 0)]) dX0_readFrom_36 (by decide) rfl rfl ?_
  obtain ⟨r1, p2, h⟩ := bu_bd h
  refine v_X0_readFrom_l37 hN hR 1000 _ _ _ _ _ p2 (fun y3 hy => ?_) (fun y3 hy => ?_)
  · subst hy
    refine bv_iload_n dX0_readFrom_68 0 rfl ?_
    obtain rfl := Option.some.inj h
    exact bv_iret (x := y3.1) dX0_readFrom_69 rfl ⟨rfl, rfl⟩
  · subst hy
    refine bv_aload_n dX0_readFrom_76 0 rfl ?_
    refine bv_aload_n dX0_readFrom_77 0 rfl ?_
    refine bz_getI hN okL_15 dX0_readFrom_78 fl_0_43 rfl ?_
    refine bv_iconst (v := (-1)) dX0_readFrom_81 (by decide) ?_
    refine bv_icmp_ne (tgt := 89) dX0_readFrom_82 (by decide) (fun cc => ?_) (fun cc => ?_)
    · replace h := bu_f h cc
      refine bv_aload_n dX0_readFrom_89 0 rfl ?_
      refine bz_getI hN okL_15 dX0_readFrom_90 fl_0_43 rfl ?_
      refine bz_putI hN okL_15 dX0_readFrom_93 fl_0_43 rfl ?_
      refine bv_aload_n dX0_readFrom_96 0 rfl ?_
      refine bv_aload_n dX0_readFrom_97 0 rfl ?_
      refine bz_getI hN okL_15 dX0_readFrom_98 fl_0_47 rfl ?_
      refine bv_iconst (v := (-1)) dX0_readFrom_101 (by decide) ?_
      refine bv_icmp_ne (tgt := 110) dX0_readFrom_102 (by decide) (fun cc => ?_) (fun cc => ?_)
      · replace h := bu_f h cc
        refine bv_aload_n dX0_readFrom_110 0 rfl ?_
        refine bz_getI hN okL_15 dX0_readFrom_111 fl_0_47 rfl ?_
        refine bz_putI hN okL_15 dX0_readFrom_114 fl_0_47 rfl ?_
        refine bv_iload_n dX0_readFrom_117 1 rfl ?_
        obtain rfl := Option.some.inj h
        exact bv_iret (x := y3.1) dX0_readFrom_118 rfl ⟨rfl, rfl⟩
      · replace h := bu_t h cc
        refine bv_bipush (v := 6) dX0_readFrom_105 (by decide) ?_
        refine bv_goto (tgt := 114) dX0_readFrom_107 (by decide) ?_
        refine bz_putI hN okL_15 dX0_readFrom_114 fl_0_47 rfl ?_
        refine bv_iload_n dX0_readFrom_117 1 rfl ?_
        obtain rfl := Option.some.inj h
        exact bv_iret (x := y3.1) dX0_readFrom_118 rfl ⟨rfl, rfl⟩
    · replace h := bu_t h cc
      refine bv_iconst (v := 2) dX0_readFrom_85 (by decide) ?_
      refine bv_goto (tgt := 93) dX0_readFrom_86 (by decide) ?_
      refine bz_putI hN okL_15 dX0_readFrom_93 fl_0_43 rfl ?_
      refine bv_aload_n dX0_readFrom_96 0 rfl ?_
      refine bv_aload_n dX0_readFrom_97 0 rfl ?_
      refine bz_getI hN okL_15 dX0_readFrom_98 fl_0_47 rfl ?_
      refine bv_iconst (v := (-1)) dX0_readFrom_101 (by decide) ?_
      refine bv_icmp_ne (tgt := 110) dX0_readFrom_102 (by decide) (fun cc => ?_) (fun cc => ?_)
      · replace h := bu_f h cc
        refine bv_aload_n dX0_readFrom_110 0 rfl ?_
        refine bz_getI hN okL_15 dX0_readFrom_111 fl_0_47 rfl ?_
        refine bz_putI hN okL_15 dX0_readFrom_114 fl_0_47 rfl ?_
        refine bv_iload_n dX0_readFrom_117 1 rfl ?_
        obtain rfl := Option.some.inj h
        exact bv_iret (x := y3.1) dX0_readFrom_118 rfl ⟨rfl, rfl⟩
      · replace h := bu_t h cc
        refine bv_bipush (v := 6) dX0_readFrom_105 (by decide) ?_
        refine bv_goto (tgt := 114) dX0_readFrom_107 (by decide) ?_
        refine bz_putI hN okL_15 dX0_readFrom_114 fl_0_47 rfl ?_
        refine bv_iload_n dX0_readFrom_117 1 rfl ?_
        obtain rfl := Option.some.inj h
        exact bv_iret (x := y3.1) dX0_readFrom_118 rfl ⟨rfl, rfl⟩
def f_X0_allMen (I : bm_TI) : Option (Int32) := some ((bm_ishl 1 (I 4 10)) - 1)
set_option maxHeartbeats 4000000 in
set_option maxRecDepth 100000 in
theorem c_X0_allMen {lc : bm_L} {d n : Nat} {I : bm_TI} {J : bm_TJ} {R W : bm_TR} {v : Int32} (hN : 181 ≤ n) (hR : bm_RR R) (h : f_X0_allMen I = some v) : bm_C lc m_X0_allMen d n n [.ref 4] (I, J, R, W) (fun r M' => r = some (.int v) ∧ M' = (I, J, R, W)) := by
  refine bm_C.ofV (by decide) (Nat.le_of_ble_eq_true rfl) ?_
  show bm_V lc m_X0_allMen d n n n 0 [(0, .ref 4)] [] (I, J, R, W) _
  unfold f_X0_allMen at h
  refine bv_iconst (v := 1) dX0_allMen_0 (by decide) ?_
  refine bv_aload_n dX0_allMen_1 0 rfl ?_
  refine bz_getI hN okL_4 dX0_allMen_2 fl_0_56 rfl ?_
  refine bv_ishl dX0_allMen_5 ?_
  refine bv_iconst (v := 1) dX0_allMen_6 (by decide) ?_
  refine bv_isub dX0_allMen_7 ?_
  obtain rfl := Option.some.inj h
  exact bv_iret (x := ((bm_ishl 1 (I 4 10)) - 1)) dX0_allMen_8 rfl ⟨rfl, rfl⟩
def f_X0_allUnder_l4 (I : bm_TI) (x1 : Int32) : Nat → Int32 → Int32 → Option (Int32)
  | 0, _, _ => none
  | k + 1, x2, x3 => (if (I 4 10) ≤ x3 then some x2 else ((f_X0_isUnder I 4 x3 x1).bind fun v1 => (if v1 = true then f_X0_allUnder_l4 I x1 k (x2 ||| (bm_ishl 1 x3)) (x3 + 1) else f_X0_allUnder_l4 I x1 k x2 (x3 + 1))))
set_option maxHeartbeats 4000000 in
set_option maxRecDepth 100000 in
theorem v_X0_allUnder_l4 {lc : bm_L} {d n : Nat} {Q : Option Value → bm_M → Prop} {R : bm_TR} {I : bm_TI} {J : bm_TJ} {W : bm_TR} {x1 : Int32} (hN : 181 ≤ n) (hR : bm_RR R) : ∀ (k : Nat) (x2 : Int32) (x3 : Int32) (r : Int32), f_X0_allUnder_l4 I x1 k x2 x3 = some r → (∀ yy, yy = r → bm_V lc m_X0_allUnder (d + 1) n n n 33 [(2, .int yy)] [] (I, J, R, W) Q) → bm_V lc m_X0_allUnder (d + 1) n n n 4 [(0, .ref 4), (1, .int x1), (2, .int x2), (3, .int x3)] [] (I, J, R, W) Q := by
  intro k
  induction k with
  | zero => intro x2 x3 r h; cases (show (none : Option (Int32)) = some r from h)
  | succ k ih =>
    intro x2 x3 r h K0
    unfold f_X0_allUnder_l4 at h
    refine bv_iload_n dX0_allUnder_4 3 rfl ?_
    refine bv_aload_n dX0_allUnder_5 0 rfl ?_
    refine bz_getI hN okL_4 dX0_allUnder_6 fl_0_56 rfl ?_
    refine bv_icmp_ge (tgt := 33) dX0_allUnder_9 (by decide) (fun cc => ?_) (fun cc => ?_)
    · replace h := bu_t h cc
      refine bw_ls (ls1 := [(2, .int x2)]) [2] rfl ?_
      obtain rfl := Option.some.inj h
      exact K0 _ rfl
    · replace h := bu_f h cc
      refine bv_aload_n dX0_allUnder_12 0 rfl ?_
      refine bv_iload_n dX0_allUnder_13 3 rfl ?_
      refine bv_iload_n dX0_allUnder_14 1 rfl ?_
      obtain ⟨v1, p2, h⟩ := bu_bd h
      refine bw_callV (As := [.int x3, .int x1]) hN okL_4 ⟨_, _, rfl⟩ dX0_allUnder_15 mc_0_151 (c_X0_isUnder (d := d + 0) hN hR okL_4 p2) rfl rfl (by decide) ?_
      refine bw_ifB_eq (b := v1) (tgt := 27) dX0_allUnder_18 (by decide) (fun cc => ?_) (fun cc => ?_)
      · replace h := bu_bf h cc
        refine bv_iinc (j := 3) (v := (x3 + 1)) (ls1 := [(0, .ref 4), (1, .int x1), (2, .int x2), (3, .int (x3 + 1))]) dX0_allUnder_27 rfl rfl (by decide) rfl rfl ?_
        refine bv_goto (tgt := 4) dX0_allUnder_30 (by decide) ?_
        exact ih _ _ _ h K0
      · replace h := bu_bt h cc
        refine bv_iload_n dX0_allUnder_21 2 rfl ?_
        refine bv_iconst (v := 1) dX0_allUnder_22 (by decide) ?_
        refine bv_iload_n dX0_allUnder_23 3 rfl ?_
        refine bv_ishl dX0_allUnder_24 ?_
        refine bv_ior dX0_allUnder_25 ?_
        refine bv_istore_n (ls1 := [(0, .ref 4), (1, .int x1), (2, .int (x2 ||| (bm_ishl 1 x3))), (3, .int x3)]) dX0_allUnder_26 (by decide) rfl rfl ?_
        refine bv_iinc (j := 3) (v := (x3 + 1)) (ls1 := [(0, .ref 4), (1, .int x1), (2, .int (x2 ||| (bm_ishl 1 x3))), (3, .int (x3 + 1))]) dX0_allUnder_27 rfl rfl (by decide) rfl rfl ?_
        refine bv_goto (tgt := 4) dX0_allUnder_30 (by decide) ?_
        exact ih _ _ _ h K0
def f_X0_allUnder (I : bm_TI) (x1 : Int32) : Option (Int32) := ((f_X0_allUnder_l4 I x1 1000 0 0).bind fun y3 => some y3)
set_option maxHeartbeats 4000000 in
set_option maxRecDepth 100000 in
theorem c_X0_allUnder {lc : bm_L} {d n : Nat} {I : bm_TI} {J : bm_TJ} {R W : bm_TR} {x1 : Int32} {v : Int32} (hN : 181 ≤ n) (hR : bm_RR R) (h : f_X0_allUnder I x1 = some v) : bm_C lc m_X0_allUnder (d + 1) n n [.ref 4, .int x1] (I, J, R, W) (fun r M' => r = some (.int v) ∧ M' = (I, J, R, W)) := by
  refine bm_C.ofV (by decide) (Nat.le_of_ble_eq_true rfl) ?_
  show bm_V lc m_X0_allUnder (d + 1) n n n 0 [(0, .ref 4), (1, .int x1)] [] (I, J, R, W) _
  unfold f_X0_allUnder at h
  refine bv_iconst (v := 0) dX0_allUnder_0 (by decide) ?_
  refine bv_istore_n (ls1 := [(0, .ref 4), (1, .int x1), (2, .int 0)]) dX0_allUnder_1 (by decide) rfl rfl ?_
  refine bv_iconst (v := 0) dX0_allUnder_2 (by decide) ?_
  refine bv_istore_n (ls1 := [(0, .ref 4), (1, .int x1), (2, .int 0), (3, .int 0)]) dX0_allUnder_3 (by decide) rfl rfl ?_
  obtain ⟨r1, p2, h⟩ := bu_bd h
  refine v_X0_allUnder_l4 hN hR 1000 _ _ _ p2 (fun y3 hy => ?_)
  · subst hy
    refine bv_iload_n dX0_allUnder_33 0 rfl ?_
    obtain rfl := Option.some.inj h
    exact bv_iret (x := y3) dX0_allUnder_34 rfl ⟨rfl, rfl⟩
def f_X0_straightUnder_l4 (I : bm_TI) (x1 : Int32) : Nat → Int32 → Int32 → Option (Int32)
  | 0, _, _ => none
  | k + 1, x2, x3 => (if (I 4 10) ≤ x3 then some x2 else (if bm_ix 8 x3 = true then (if (I 9 x3.toNatClampNeg) = x1 then f_X0_straightUnder_l4 I x1 k (x2 ||| (bm_ishl 1 x3)) (x3 + 1) else f_X0_straightUnder_l4 I x1 k x2 (x3 + 1)) else none))
set_option maxHeartbeats 4000000 in
set_option maxRecDepth 100000 in
theorem v_X0_straightUnder_l4 {lc : bm_L} {d n : Nat} {Q : Option Value → bm_M → Prop} {R : bm_TR} {I : bm_TI} {J : bm_TJ} {W : bm_TR} {x1 : Int32} (hN : 181 ≤ n) (hR : bm_RR R) : ∀ (k : Nat) (x2 : Int32) (x3 : Int32) (r : Int32), f_X0_straightUnder_l4 I x1 k x2 x3 = some r → (∀ yy, yy = r → bm_V lc m_X0_straightUnder d n n n 34 [(2, .int yy)] [] (I, J, R, W) Q) → bm_V lc m_X0_straightUnder d n n n 4 [(0, .ref 4), (1, .int x1), (2, .int x2), (3, .int x3)] [] (I, J, R, W) Q := by
  intro k
  induction k with
  | zero => intro x2 x3 r h; cases (show (none : Option (Int32)) = some r from h)
  | succ k ih =>
    intro x2 x3 r h K0
    unfold f_X0_straightUnder_l4 at h
    refine bv_iload_n dX0_straightUnder_4 3 rfl ?_
    refine bv_aload_n dX0_straightUnder_5 0 rfl ?_
    refine bz_getI hN okL_4 dX0_straightUnder_6 fl_0_56 rfl ?_
    refine bv_icmp_ge (tgt := 34) dX0_straightUnder_9 (by decide) (fun cc => ?_) (fun cc => ?_)
    · replace h := bu_t h cc
      refine bw_ls (ls1 := [(2, .int x2)]) [2] rfl ?_
      obtain rfl := Option.some.inj h
      exact K0 _ rfl
    · replace h := bu_f h cc
      refine bv_aload_n dX0_straightUnder_12 0 rfl ?_
      refine bz_getA (a := 9) hN okL_4 (hR _ _ _ r0_4_4) dX0_straightUnder_13 fl_0_25 rfl ?_
      refine bv_iload_n dX0_straightUnder_16 3 rfl ?_
      obtain ⟨r1, h⟩ := bu_ix h
      refine bz_iald hN rkL_9 r1 rfl dX0_straightUnder_17 ?_
      refine bv_iload_n dX0_straightUnder_18 1 rfl ?_
      refine bv_icmp_ne (tgt := 28) dX0_straightUnder_19 (by decide) (fun cc => ?_) (fun cc => ?_)
      · replace h := bu_f h cc
        refine bv_iinc (j := 3) (v := (x3 + 1)) (ls1 := [(0, .ref 4), (1, .int x1), (2, .int x2), (3, .int (x3 + 1))]) dX0_straightUnder_28 rfl rfl (by decide) rfl rfl ?_
        refine bv_goto (tgt := 4) dX0_straightUnder_31 (by decide) ?_
        exact ih _ _ _ h K0
      · replace h := bu_t h cc
        refine bv_iload_n dX0_straightUnder_22 2 rfl ?_
        refine bv_iconst (v := 1) dX0_straightUnder_23 (by decide) ?_
        refine bv_iload_n dX0_straightUnder_24 3 rfl ?_
        refine bv_ishl dX0_straightUnder_25 ?_
        refine bv_ior dX0_straightUnder_26 ?_
        refine bv_istore_n (ls1 := [(0, .ref 4), (1, .int x1), (2, .int (x2 ||| (bm_ishl 1 x3))), (3, .int x3)]) dX0_straightUnder_27 (by decide) rfl rfl ?_
        refine bv_iinc (j := 3) (v := (x3 + 1)) (ls1 := [(0, .ref 4), (1, .int x1), (2, .int (x2 ||| (bm_ishl 1 x3))), (3, .int (x3 + 1))]) dX0_straightUnder_28 rfl rfl (by decide) rfl rfl ?_
        refine bv_goto (tgt := 4) dX0_straightUnder_31 (by decide) ?_
        exact ih _ _ _ h K0
def f_X0_straightUnder (I : bm_TI) (x1 : Int32) : Option (Int32) := ((f_X0_straightUnder_l4 I x1 1000 0 0).bind fun y3 => some y3)
set_option maxHeartbeats 4000000 in
set_option maxRecDepth 100000 in
theorem c_X0_straightUnder {lc : bm_L} {d n : Nat} {I : bm_TI} {J : bm_TJ} {R W : bm_TR} {x1 : Int32} {v : Int32} (hN : 181 ≤ n) (hR : bm_RR R) (h : f_X0_straightUnder I x1 = some v) : bm_C lc m_X0_straightUnder d n n [.ref 4, .int x1] (I, J, R, W) (fun r M' => r = some (.int v) ∧ M' = (I, J, R, W)) := by
  refine bm_C.ofV (by decide) (Nat.le_of_ble_eq_true rfl) ?_
  show bm_V lc m_X0_straightUnder d n n n 0 [(0, .ref 4), (1, .int x1)] [] (I, J, R, W) _
  unfold f_X0_straightUnder at h
  refine bv_iconst (v := 0) dX0_straightUnder_0 (by decide) ?_
  refine bv_istore_n (ls1 := [(0, .ref 4), (1, .int x1), (2, .int 0)]) dX0_straightUnder_1 (by decide) rfl rfl ?_
  refine bv_iconst (v := 0) dX0_straightUnder_2 (by decide) ?_
  refine bv_istore_n (ls1 := [(0, .ref 4), (1, .int x1), (2, .int 0), (3, .int 0)]) dX0_straightUnder_3 (by decide) rfl rfl ?_
  obtain ⟨r1, p2, h⟩ := bu_bd h
  refine v_X0_straightUnder_l4 hN hR 1000 _ _ _ p2 (fun y3 hy => ?_)
  · subst hy
    refine bv_iload_n dX0_straightUnder_34 0 rfl ?_
    obtain rfl := Option.some.inj h
    exact bv_iret (x := y3) dX0_straightUnder_35 rfl ⟨rfl, rfl⟩
def f_X0_unlike (I : bm_TI) (x1 : Int32) (x2 : Int32) (x3 : Int32) : Option (Int32) := (if bm_ix 7 x1 = true then (if (I 11 x1.toNatClampNeg) = x2 then (if (I 12 x1.toNatClampNeg) = x3 then some (0 + 0) else some (0 + 1)) else (if (I 12 x1.toNatClampNeg) = x3 then some (1 + 0) else some (1 + 1))) else none)
set_option maxHeartbeats 4000000 in
set_option maxRecDepth 100000 in
theorem c_X0_unlike {lc : bm_L} {d n : Nat} {I : bm_TI} {J : bm_TJ} {R W : bm_TR} {x1 : Int32} {x2 : Int32} {x3 : Int32} {v : Int32} (hN : 181 ≤ n) (hR : bm_RR R) (h : f_X0_unlike I x1 x2 x3 = some v) : bm_C lc m_X0_unlike d n n [.ref 4, .int x1, .int x2, .int x3] (I, J, R, W) (fun r M' => r = some (.int v) ∧ M' = (I, J, R, W)) := by
  refine bm_C.ofV (by decide) (Nat.le_of_ble_eq_true rfl) ?_
  show bm_V lc m_X0_unlike d n n n 0 [(0, .ref 4), (1, .int x1), (2, .int x2), (3, .int x3)] [] (I, J, R, W) _
  unfold f_X0_unlike at h
  refine bv_aload_n dX0_unlike_0 0 rfl ?_
  refine bz_getA (a := 11) hN okL_4 (hR _ _ _ r0_4_6) dX0_unlike_1 fl_0_31 rfl ?_
  refine bv_iload_n dX0_unlike_4 1 rfl ?_
  obtain ⟨r1, h⟩ := bu_ix h
  refine bz_iald hN rkL_11 r1 rfl dX0_unlike_5 ?_
  refine bv_iload_n dX0_unlike_6 2 rfl ?_
  refine bv_icmp_ne (tgt := 14) dX0_unlike_7 (by decide) (fun cc => ?_) (fun cc => ?_)
  · replace h := bu_f h cc
    refine bv_iconst (v := 1) dX0_unlike_14 (by decide) ?_
    refine bv_aload_n dX0_unlike_15 0 rfl ?_
    refine bz_getA (a := 12) hN okL_4 (hR _ _ _ r0_4_7) dX0_unlike_16 fl_0_34 rfl ?_
    refine bv_iload_n dX0_unlike_19 1 rfl ?_
    refine bz_iald hN rkL_12 r1 rfl dX0_unlike_20 ?_
    refine bv_iload_n dX0_unlike_21 3 rfl ?_
    refine bv_icmp_ne (tgt := 29) dX0_unlike_22 (by decide) (fun cc => ?_) (fun cc => ?_)
    · replace h := bu_f h cc
      refine bv_iconst (v := 1) dX0_unlike_29 (by decide) ?_
      refine bv_iadd dX0_unlike_30 ?_
      obtain rfl := Option.some.inj h
      exact bv_iret (x := (1 + 1)) dX0_unlike_31 rfl ⟨rfl, rfl⟩
    · replace h := bu_t h cc
      refine bv_iconst (v := 0) dX0_unlike_25 (by decide) ?_
      refine bv_goto (tgt := 30) dX0_unlike_26 (by decide) ?_
      refine bv_iadd dX0_unlike_30 ?_
      obtain rfl := Option.some.inj h
      exact bv_iret (x := (1 + 0)) dX0_unlike_31 rfl ⟨rfl, rfl⟩
  · replace h := bu_t h cc
    refine bv_iconst (v := 0) dX0_unlike_10 (by decide) ?_
    refine bv_goto (tgt := 15) dX0_unlike_11 (by decide) ?_
    refine bv_aload_n dX0_unlike_15 0 rfl ?_
    refine bz_getA (a := 12) hN okL_4 (hR _ _ _ r0_4_7) dX0_unlike_16 fl_0_34 rfl ?_
    refine bv_iload_n dX0_unlike_19 1 rfl ?_
    refine bz_iald hN rkL_12 r1 rfl dX0_unlike_20 ?_
    refine bv_iload_n dX0_unlike_21 3 rfl ?_
    refine bv_icmp_ne (tgt := 29) dX0_unlike_22 (by decide) (fun cc => ?_) (fun cc => ?_)
    · replace h := bu_f h cc
      refine bv_iconst (v := 1) dX0_unlike_29 (by decide) ?_
      refine bv_iadd dX0_unlike_30 ?_
      obtain rfl := Option.some.inj h
      exact bv_iret (x := (0 + 1)) dX0_unlike_31 rfl ⟨rfl, rfl⟩
    · replace h := bu_t h cc
      refine bv_iconst (v := 0) dX0_unlike_25 (by decide) ?_
      refine bv_goto (tgt := 30) dX0_unlike_26 (by decide) ?_
      refine bv_iadd dX0_unlike_30 ?_
      obtain rfl := Option.some.inj h
      exact bv_iret (x := (0 + 0)) dX0_unlike_31 rfl ⟨rfl, rfl⟩
def f_X0_fewestUnlike_l5 (I : bm_TI) (x1 : Int32) (x2 : Int32) : Nat → Int32 → Int32 → Option (Int32)
  | 0, _, _ => none
  | k + 1, x3, x4 => (if (I 4 13) ≤ x4 then some x3 else ((f_X0_unlike I x4 x1 x2).bind fun v1 => f_X0_fewestUnlike_l5 I x1 x2 k (bm_min x3 v1) (x4 + 1)))
set_option maxHeartbeats 4000000 in
set_option maxRecDepth 100000 in
theorem v_X0_fewestUnlike_l5 {lc : bm_L} {d n : Nat} {Q : Option Value → bm_M → Prop} {R : bm_TR} {I : bm_TI} {J : bm_TJ} {W : bm_TR} {x1 : Int32} {x2 : Int32} (hN : 181 ≤ n) (hR : bm_RR R) : ∀ (k : Nat) (x3 : Int32) (x4 : Int32) (r : Int32), f_X0_fewestUnlike_l5 I x1 x2 k x3 x4 = some r → (∀ yy, yy = r → bm_V lc m_X0_fewestUnlike (d + 1) n n n 33 [(3, .int yy)] [] (I, J, R, W) Q) → bm_V lc m_X0_fewestUnlike (d + 1) n n n 5 [(0, .ref 4), (1, .int x1), (2, .int x2), (3, .int x3), (4, .int x4)] [] (I, J, R, W) Q := by
  intro k
  induction k with
  | zero => intro x3 x4 r h; cases (show (none : Option (Int32)) = some r from h)
  | succ k ih =>
    intro x3 x4 r h K0
    unfold f_X0_fewestUnlike_l5 at h
    refine bv_iload dX0_fewestUnlike_5 4 rfl ?_
    refine bv_aload_n dX0_fewestUnlike_7 0 rfl ?_
    refine bz_getI hN okL_4 dX0_fewestUnlike_8 fl_0_65 rfl ?_
    refine bv_icmp_ge (tgt := 33) dX0_fewestUnlike_11 (by decide) (fun cc => ?_) (fun cc => ?_)
    · replace h := bu_t h cc
      refine bw_ls (ls1 := [(3, .int x3)]) [3] rfl ?_
      obtain rfl := Option.some.inj h
      exact K0 _ rfl
    · replace h := bu_f h cc
      refine bv_iload_n dX0_fewestUnlike_14 3 rfl ?_
      refine bv_aload_n dX0_fewestUnlike_15 0 rfl ?_
      refine bv_iload dX0_fewestUnlike_16 4 rfl ?_
      refine bv_iload_n dX0_fewestUnlike_18 1 rfl ?_
      refine bv_iload_n dX0_fewestUnlike_19 2 rfl ?_
      obtain ⟨v1, p2, h⟩ := bu_bd h
      refine bw_callV (As := [.int x4, .int x1, .int x2]) hN okL_4 ⟨_, _, rfl⟩ dX0_fewestUnlike_20 mc_0_178 (c_X0_unlike (d := d + 0) hN hR p2) rfl rfl (Nat.le_of_ble_eq_true rfl) ?_
      refine bv_mmin dX0_fewestUnlike_23 mw_0_182 (by decide) (Nat.le_refl n) ?_
      refine bv_istore_n (ls1 := [(0, .ref 4), (1, .int x1), (2, .int x2), (3, .int (bm_min x3 v1)), (4, .int x4)]) dX0_fewestUnlike_26 (by decide) rfl rfl ?_
      refine bv_iinc (j := 4) (v := (x4 + 1)) (ls1 := [(0, .ref 4), (1, .int x1), (2, .int x2), (3, .int (bm_min x3 v1)), (4, .int (x4 + 1))]) dX0_fewestUnlike_27 rfl rfl (by decide) rfl rfl ?_
      refine bv_goto (tgt := 5) dX0_fewestUnlike_30 (by decide) ?_
      exact ih _ _ _ h K0
def f_X0_fewestUnlike (I : bm_TI) (x1 : Int32) (x2 : Int32) : Option (Int32) := ((f_X0_fewestUnlike_l5 I x1 x2 1000 2 0).bind fun y3 => some y3)
set_option maxHeartbeats 4000000 in
set_option maxRecDepth 100000 in
theorem c_X0_fewestUnlike {lc : bm_L} {d n : Nat} {I : bm_TI} {J : bm_TJ} {R W : bm_TR} {x1 : Int32} {x2 : Int32} {v : Int32} (hN : 181 ≤ n) (hR : bm_RR R) (h : f_X0_fewestUnlike I x1 x2 = some v) : bm_C lc m_X0_fewestUnlike (d + 1) n n [.ref 4, .int x1, .int x2] (I, J, R, W) (fun r M' => r = some (.int v) ∧ M' = (I, J, R, W)) := by
  refine bm_C.ofV (by decide) (Nat.le_of_ble_eq_true rfl) ?_
  show bm_V lc m_X0_fewestUnlike (d + 1) n n n 0 [(0, .ref 4), (1, .int x1), (2, .int x2)] [] (I, J, R, W) _
  unfold f_X0_fewestUnlike at h
  refine bv_iconst (v := 2) dX0_fewestUnlike_0 (by decide) ?_
  refine bv_istore_n (ls1 := [(0, .ref 4), (1, .int x1), (2, .int x2), (3, .int 2)]) dX0_fewestUnlike_1 (by decide) rfl rfl ?_
  refine bv_iconst (v := 0) dX0_fewestUnlike_2 (by decide) ?_
  refine bv_istore (ls1 := [(0, .ref 4), (1, .int x1), (2, .int x2), (3, .int 2), (4, .int 0)]) dX0_fewestUnlike_3 (by decide) rfl rfl ?_
  obtain ⟨r1, p2, h⟩ := bu_bd h
  refine v_X0_fewestUnlike_l5 hN hR 1000 _ _ _ p2 (fun y3 hy => ?_)
  · subst hy
    refine bv_iload_n dX0_fewestUnlike_33 0 rfl ?_
    obtain rfl := Option.some.inj h
    exact bv_iret (x := y3) dX0_fewestUnlike_34 rfl ⟨rfl, rfl⟩
def f_X0_newLifts_l14 (I : bm_TI) (x3 : Int32) : Nat → Int32 → Int32 → Int32 → Option (Int32 × Int32)
  | 0, _, _, _ => none
  | k + 1, x1, x2, x4 => (if 3 < x4 then some (x1, x2) else ((f_X0_fewestUnlike I x3 x4).bind fun v1 => (if v1 ≤ 0 then f_X0_newLifts_l14 I x3 k x1 x2 (x4 + 1) else (if v1 ≤ x2 then f_X0_newLifts_l14 I x3 k x1 x2 (x4 + 1) else f_X0_newLifts_l14 I x3 k ((4 * x3) + x4) v1 (x4 + 1)))))
set_option maxHeartbeats 4000000 in
set_option maxRecDepth 100000 in
theorem v_X0_newLifts_l14 {lc : bm_L} {d n : Nat} {Q : Option Value → bm_M → Prop} {R : bm_TR} {I : bm_TI} {J : bm_TJ} {W : bm_TR} {x3 : Int32} (hN : 181 ≤ n) (hR : bm_RR R) : ∀ (k : Nat) (x1 : Int32) (x2 : Int32) (x4 : Int32) (r : Int32 × Int32), f_X0_newLifts_l14 I x3 k x1 x2 x4 = some r → (∀ yy, yy = r → bm_V lc m_X0_newLifts (d + 2) n n n 56 [(0, .ref 4), (1, .int yy.1), (2, .int yy.2), (3, .int x3)] [] (I, J, R, W) Q) → bm_V lc m_X0_newLifts (d + 2) n n n 14 [(0, .ref 4), (1, .int x1), (2, .int x2), (3, .int x3), (4, .int x4)] [] (I, J, R, W) Q := by
  intro k
  induction k with
  | zero => intro x1 x2 x4 r h; cases (show (none : Option (Int32 × Int32)) = some r from h)
  | succ k ih =>
    intro x1 x2 x4 r h K0
    unfold f_X0_newLifts_l14 at h
    refine bv_iload dX0_newLifts_14 4 rfl ?_
    refine bv_iconst (v := 3) dX0_newLifts_16 (by decide) ?_
    refine bv_icmp_gt (tgt := 56) dX0_newLifts_17 (by decide) (fun cc => ?_) (fun cc => ?_)
    · replace h := bu_t h cc
      refine bw_ls (ls1 := [(0, .ref 4), (1, .int x1), (2, .int x2), (3, .int x3)]) [0, 1, 2, 3] rfl ?_
      obtain rfl := Option.some.inj h
      exact K0 _ rfl
    · replace h := bu_f h cc
      refine bv_aload_n dX0_newLifts_20 0 rfl ?_
      refine bv_iload_n dX0_newLifts_21 3 rfl ?_
      refine bv_iload dX0_newLifts_22 4 rfl ?_
      obtain ⟨v1, p2, h⟩ := bu_bd h
      refine bw_callV (As := [.int x3, .int x4]) hN okL_4 ⟨_, _, rfl⟩ dX0_newLifts_24 mc_0_175 (c_X0_fewestUnlike (d := d + 0) hN hR p2) rfl rfl (by decide) ?_
      refine bv_istore (ls1 := [(0, .ref 4), (1, .int x1), (2, .int x2), (3, .int x3), (4, .int x4), (5, .int v1)]) dX0_newLifts_27 (by decide) rfl rfl ?_
      refine bv_iload dX0_newLifts_29 5 rfl ?_
      refine bv_if_le (tgt := 50) dX0_newLifts_31 (by decide) (fun cc => ?_) (fun cc => ?_)
      · replace h := bu_t h cc
        refine bv_iinc (j := 4) (v := (x4 + 1)) (ls1 := [(0, .ref 4), (1, .int x1), (2, .int x2), (3, .int x3), (4, .int (x4 + 1)), (5, .int v1)]) dX0_newLifts_50 rfl rfl (by decide) rfl rfl ?_
        refine bv_goto (tgt := 14) dX0_newLifts_53 (by decide) ?_
        refine bw_ls (ls1 := [(0, .ref 4), (1, .int x1), (2, .int x2), (3, .int x3), (4, .int (x4 + 1))]) [0, 1, 2, 3, 4] rfl ?_
        exact ih _ _ _ _ h K0
      · replace h := bu_f h cc
        refine bv_iload dX0_newLifts_34 5 rfl ?_
        refine bv_iload_n dX0_newLifts_36 2 rfl ?_
        refine bv_icmp_le (tgt := 50) dX0_newLifts_37 (by decide) (fun cc => ?_) (fun cc => ?_)
        · replace h := bu_t h cc
          refine bv_iinc (j := 4) (v := (x4 + 1)) (ls1 := [(0, .ref 4), (1, .int x1), (2, .int x2), (3, .int x3), (4, .int (x4 + 1)), (5, .int v1)]) dX0_newLifts_50 rfl rfl (by decide) rfl rfl ?_
          refine bv_goto (tgt := 14) dX0_newLifts_53 (by decide) ?_
          refine bw_ls (ls1 := [(0, .ref 4), (1, .int x1), (2, .int x2), (3, .int x3), (4, .int (x4 + 1))]) [0, 1, 2, 3, 4] rfl ?_
          exact ih _ _ _ _ h K0
        · replace h := bu_f h cc
          refine bv_iload dX0_newLifts_40 5 rfl ?_
          refine bv_istore_n (ls1 := [(0, .ref 4), (1, .int x1), (2, .int v1), (3, .int x3), (4, .int x4), (5, .int v1)]) dX0_newLifts_42 (by decide) rfl rfl ?_
          refine bv_iconst (v := 4) dX0_newLifts_43 (by decide) ?_
          refine bv_iload_n dX0_newLifts_44 3 rfl ?_
          refine bv_imul dX0_newLifts_45 ?_
          refine bv_iload dX0_newLifts_46 4 rfl ?_
          refine bv_iadd dX0_newLifts_48 ?_
          refine bv_istore_n (ls1 := [(0, .ref 4), (1, .int ((4 * x3) + x4)), (2, .int v1), (3, .int x3), (4, .int x4), (5, .int v1)]) dX0_newLifts_49 (by decide) rfl rfl ?_
          refine bv_iinc (j := 4) (v := (x4 + 1)) (ls1 := [(0, .ref 4), (1, .int ((4 * x3) + x4)), (2, .int v1), (3, .int x3), (4, .int (x4 + 1)), (5, .int v1)]) dX0_newLifts_50 rfl rfl (by decide) rfl rfl ?_
          refine bv_goto (tgt := 14) dX0_newLifts_53 (by decide) ?_
          refine bw_ls (ls1 := [(0, .ref 4), (1, .int ((4 * x3) + x4)), (2, .int v1), (3, .int x3), (4, .int (x4 + 1))]) [0, 1, 2, 3, 4] rfl ?_
          exact ih _ _ _ _ h K0
def f_X0_newLifts_l6 (I : bm_TI) : Nat → Int32 → Int32 → Int32 → Option (Int32)
  | 0, _, _, _ => none
  | k + 1, x1, x2, x3 => (if 3 < x3 then some x1 else ((f_X0_newLifts_l14 I x3 1000 x1 x2 1).bind fun y3 => f_X0_newLifts_l6 I k y3.1 y3.2 (x3 + 1)))
set_option maxHeartbeats 4000000 in
set_option maxRecDepth 100000 in
theorem v_X0_newLifts_l6 {lc : bm_L} {d n : Nat} {Q : Option Value → bm_M → Prop} {R : bm_TR} {I : bm_TI} {J : bm_TJ} {W : bm_TR} (hN : 181 ≤ n) (hR : bm_RR R) : ∀ (k : Nat) (x1 : Int32) (x2 : Int32) (x3 : Int32) (r : Int32), f_X0_newLifts_l6 I k x1 x2 x3 = some r → (∀ yy, yy = r → bm_V lc m_X0_newLifts (d + 2) n n n 62 [(1, .int yy)] [] (I, J, R, W) Q) → bm_V lc m_X0_newLifts (d + 2) n n n 6 [(0, .ref 4), (1, .int x1), (2, .int x2), (3, .int x3)] [] (I, J, R, W) Q := by
  intro k
  induction k with
  | zero => intro x1 x2 x3 r h; cases (show (none : Option (Int32)) = some r from h)
  | succ k ih =>
    intro x1 x2 x3 r h K0
    unfold f_X0_newLifts_l6 at h
    refine bv_iload_n dX0_newLifts_6 3 rfl ?_
    refine bv_iconst (v := 3) dX0_newLifts_7 (by decide) ?_
    refine bv_icmp_gt (tgt := 62) dX0_newLifts_8 (by decide) (fun cc => ?_) (fun cc => ?_)
    · replace h := bu_t h cc
      refine bw_ls (ls1 := [(1, .int x1)]) [1] rfl ?_
      obtain rfl := Option.some.inj h
      exact K0 _ rfl
    · replace h := bu_f h cc
      refine bv_iconst (v := 1) dX0_newLifts_11 (by decide) ?_
      refine bv_istore (ls1 := [(0, .ref 4), (1, .int x1), (2, .int x2), (3, .int x3), (4, .int 1)]) dX0_newLifts_12 (by decide) rfl rfl ?_
      obtain ⟨r1, p2, h⟩ := bu_bd h
      refine v_X0_newLifts_l14 hN hR 1000 _ _ _ _ p2 (fun y3 hy => ?_)
      · subst hy
        refine bv_iinc (j := 3) (v := (x3 + 1)) (ls1 := [(0, .ref 4), (1, .int y3.1), (2, .int y3.2), (3, .int (x3 + 1))]) dX0_newLifts_56 rfl rfl (by decide) rfl rfl ?_
        refine bv_goto (tgt := 6) dX0_newLifts_59 (by decide) ?_
        exact ih _ _ _ _ h K0
def f_X0_newLifts (I : bm_TI) : Option (Int32) := ((f_X0_newLifts_l6 I 1000 (-1) (-1) 1).bind fun y3 => some y3)
set_option maxHeartbeats 4000000 in
set_option maxRecDepth 100000 in
theorem c_X0_newLifts {lc : bm_L} {d n : Nat} {I : bm_TI} {J : bm_TJ} {R W : bm_TR} {v : Int32} (hN : 181 ≤ n) (hR : bm_RR R) (h : f_X0_newLifts I = some v) : bm_C lc m_X0_newLifts (d + 2) n n [.ref 4] (I, J, R, W) (fun r M' => r = some (.int v) ∧ M' = (I, J, R, W)) := by
  refine bm_C.ofV (by decide) (Nat.le_of_ble_eq_true rfl) ?_
  show bm_V lc m_X0_newLifts (d + 2) n n n 0 [(0, .ref 4)] [] (I, J, R, W) _
  unfold f_X0_newLifts at h
  refine bv_iconst (v := (-1)) dX0_newLifts_0 (by decide) ?_
  refine bv_istore_n (ls1 := [(0, .ref 4), (1, .int (-1))]) dX0_newLifts_1 (by decide) rfl rfl ?_
  refine bv_iconst (v := (-1)) dX0_newLifts_2 (by decide) ?_
  refine bv_istore_n (ls1 := [(0, .ref 4), (1, .int (-1)), (2, .int (-1))]) dX0_newLifts_3 (by decide) rfl rfl ?_
  refine bv_iconst (v := 1) dX0_newLifts_4 (by decide) ?_
  refine bv_istore_n (ls1 := [(0, .ref 4), (1, .int (-1)), (2, .int (-1)), (3, .int 1)]) dX0_newLifts_5 (by decide) rfl rfl ?_
  obtain ⟨r1, p2, h⟩ := bu_bd h
  refine v_X0_newLifts_l6 hN hR 1000 _ _ _ _ p2 (fun y3 hy => ?_)
  · subst hy
    refine bv_iload_n dX0_newLifts_62 0 rfl ?_
    obtain rfl := Option.some.inj h
    exact bv_iret (x := y3) dX0_newLifts_63 rfl ⟨rfl, rfl⟩
def f_X5_orderHere (I : bm_TI) (J : bm_TJ) : Option (Int32 × bm_TI) := (if (I 3 3) = 5 then ((f_X0_orderNamed I J 4 (J 3 7)).bind fun v1 => (if v1 = (-1) then ((f_X5_refuseNumber I 3).bind fun v3 => some (v3.1, v3.2)) else some (v1, I))) else ((f_X5_refuseNumber I 1).bind fun v5 => some (v5.1, v5.2)))
set_option maxHeartbeats 4000000 in
set_option maxRecDepth 100000 in
theorem c_X5_orderHere {lc : bm_L} {d n : Nat} {I : bm_TI} {J : bm_TJ} {R W : bm_TR} {v : Int32 × bm_TI} (hN : 181 ≤ n) (hR : bm_RR R) (h : f_X5_orderHere I J = some v) : bm_C lc m_X5_orderHere (d + 1) n n [.ref 3, .ref 4] (I, J, R, W) (fun r M' => r = some (.int v.1) ∧ M' = (v.2, J, R, W)) := by
  refine bm_C.ofV (by decide) (Nat.le_of_ble_eq_true rfl) ?_
  show bm_V lc m_X5_orderHere (d + 1) n n n 0 [(0, .ref 3), (1, .ref 4)] [] (I, J, R, W) _
  unfold f_X5_orderHere at h
  refine bv_aload_n dX5_orderHere_0 0 rfl ?_
  refine bz_getI hN okL_3 dX5_orderHere_1 fl_5_54 rfl ?_
  refine bv_iconst (v := 5) dX5_orderHere_4 (by decide) ?_
  refine bv_icmp_eq (tgt := 14) dX5_orderHere_5 (by decide) (fun cc => ?_) (fun cc => ?_)
  · replace h := bu_t h cc
    refine bv_aload_n dX5_orderHere_14 1 rfl ?_
    refine bv_aload_n dX5_orderHere_15 0 rfl ?_
    refine bz_getJ hN okL_3 dX5_orderHere_16 fl_5_66 rfl ?_
    obtain ⟨v1, p2, h⟩ := bu_bd h
    refine bw_callV (As := [.long (J 3 7)]) hN okL_4 ⟨_, _, rfl⟩ dX5_orderHere_19 mc_5_107 (c_X0_orderNamed (d := d + 0) hN hR okL_4 p2) rfl rfl (by decide) ?_
    refine bv_istore_n (ls1 := [(0, .ref 3), (1, .ref 4), (2, .int v1)]) dX5_orderHere_22 (by decide) rfl rfl ?_
    refine bv_iload_n dX5_orderHere_23 2 rfl ?_
    refine bv_iconst (v := (-1)) dX5_orderHere_24 (by decide) ?_
    refine bv_icmp_ne (tgt := 36) dX5_orderHere_25 (by decide) (fun cc => ?_) (fun cc => ?_)
    · replace h := bu_f h cc
      refine bv_iload_n dX5_orderHere_36 2 rfl ?_
      obtain rfl := Option.some.inj h
      exact bv_iret (x := v1) dX5_orderHere_37 rfl ⟨rfl, rfl⟩
    · replace h := bu_t h cc
      refine bv_aload_n dX5_orderHere_28 0 rfl ?_
      refine bv_iconst (v := 3) dX5_orderHere_29 (by decide) ?_
      obtain ⟨v3, p4, h⟩ := bu_bd h
      refine bw_callV (As := [.int 3]) hN okL_3 ⟨_, _, rfl⟩ dX5_orderHere_30 mc_5_86 (c_X5_refuseNumber (d := d + 0) hN hR p4) rfl rfl (by decide) ?_
      refine bv_goto (tgt := 37) dX5_orderHere_33 (by decide) ?_
      obtain rfl := Option.some.inj h
      exact bv_iret (x := v3.1) dX5_orderHere_37 rfl ⟨rfl, rfl⟩
  · replace h := bu_f h cc
    refine bv_aload_n dX5_orderHere_8 0 rfl ?_
    refine bv_iconst (v := 1) dX5_orderHere_9 (by decide) ?_
    obtain ⟨v5, p6, h⟩ := bu_bd h
    refine bw_callV (As := [.int 1]) hN okL_3 ⟨_, _, rfl⟩ dX5_orderHere_10 mc_5_86 (c_X5_refuseNumber (d := d + 0) hN hR p6) rfl rfl (by decide) ?_
    obtain rfl := Option.some.inj h
    exact bv_iret (x := v5.1) dX5_orderHere_13 rfl ⟨rfl, rfl⟩
def f_X5_takeOrder (I : bm_TI) (J : bm_TJ) (W : bm_TR) : Option (Int32 × bm_TI × bm_TJ × bm_TR) := ((f_X5_orderHere I J).bind fun v1 => (if v1.1 = (-1) then some (v1.1, v1.2, J, W) else ((f_X5_advance v1.2 J W).bind fun v3 => some (v1.1, v3.1, v3.2.1, v3.2.2))))
set_option maxHeartbeats 4000000 in
set_option maxRecDepth 100000 in
theorem c_X5_takeOrder {lc : bm_L} {d n : Nat} {I : bm_TI} {J : bm_TJ} {R W : bm_TR} {v : Int32 × bm_TI × bm_TJ × bm_TR} (hN : 181 ≤ n) (hR : bm_RR R) (h : f_X5_takeOrder I J W = some v) : bm_C lc m_X5_takeOrder (d + 3) n n [.ref 3, .ref 4] (I, J, R, W) (fun r M' => r = some (.int v.1) ∧ M' = (v.2.1, v.2.2.1, R, v.2.2.2)) := by
  refine bm_C.ofV (by decide) (Nat.le_of_ble_eq_true rfl) ?_
  show bm_V lc m_X5_takeOrder (d + 3) n n n 0 [(0, .ref 3), (1, .ref 4)] [] (I, J, R, W) _
  unfold f_X5_takeOrder at h
  refine bv_aload_n dX5_takeOrder_0 0 rfl ?_
  refine bv_aload_n dX5_takeOrder_1 1 rfl ?_
  obtain ⟨v1, p2, h⟩ := bu_bd h
  refine bw_callV (As := [.ref 4]) hN okL_3 ⟨_, _, rfl⟩ dX5_takeOrder_2 mc_5_110 (c_X5_orderHere (d := d + 1) hN hR p2) rfl rfl (by decide) ?_
  refine bv_istore_n (ls1 := [(0, .ref 3), (1, .ref 4), (2, .int v1.1)]) dX5_takeOrder_5 (by decide) rfl rfl ?_
  refine bv_iload_n dX5_takeOrder_6 2 rfl ?_
  refine bv_iconst (v := (-1)) dX5_takeOrder_7 (by decide) ?_
  refine bv_icmp_eq (tgt := 15) dX5_takeOrder_8 (by decide) (fun cc => ?_) (fun cc => ?_)
  · replace h := bu_t h cc
    refine bv_iload_n dX5_takeOrder_15 2 rfl ?_
    obtain rfl := Option.some.inj h
    exact bv_iret (x := v1.1) dX5_takeOrder_16 rfl ⟨rfl, rfl⟩
  · replace h := bu_f h cc
    refine bv_aload_n dX5_takeOrder_11 0 rfl ?_
    obtain ⟨v3, p4, h⟩ := bu_bd h
    refine bw_callVv (As := []) hN okL_3 ⟨_, _, rfl⟩ dX5_takeOrder_12 mc_5_28 (c_X5_advance (d := d + 0) hN hR p4) rfl rfl (by decide) ?_
    refine bv_iload_n dX5_takeOrder_15 2 rfl ?_
    obtain rfl := Option.some.inj h
    exact bv_iret (x := v1.1) dX5_takeOrder_16 rfl ⟨rfl, rfl⟩
def f_X1_readObject (I : bm_TI) (J : bm_TJ) (W : bm_TR) (x0 : Int32) : Option (Int32 × bm_TI × bm_TJ × bm_TR) := (if x0 = 0 then ((f_X5_takeWord I J W 1).bind fun v2 => some (v2.1, v2.2.1, v2.2.2.1, v2.2.2.2)) else (if x0 = 1 then ((f_X5_takeOrder I J W).bind fun v5 => some (v5.1, v5.2.1, v5.2.2.1, v5.2.2.2)) else (if x0 = 2 then some (0, I, J, W) else (if x0 = 3 then some (0, I, J, W) else (if x0 = 4 then some (0, I, J, W) else (if x0 = 5 then ((f_X5_takeWord I J W 2).bind fun v11 => some (v11.1, v11.2.1, v11.2.2.1, v11.2.2.2)) else (if x0 = 6 then ((f_X5_takeNumber I J W 1 60).bind fun v14 => some (v14.1, v14.2.1, v14.2.2.1, v14.2.2.2)) else some (0, I, J, W))))))))
set_option maxHeartbeats 4000000 in
set_option maxRecDepth 100000 in
theorem c_X1_readObject {lc : bm_L} {d n : Nat} {I : bm_TI} {J : bm_TJ} {R W : bm_TR} {x0 : Int32} {v : Int32 × bm_TI × bm_TJ × bm_TR} (hN : 181 ≤ n) (hR : bm_RR R) (h : f_X1_readObject I J W x0 = some v) : bm_C lc m_X1_readObject (d + 4) n n [.int x0, .ref 3, .ref 4] (I, J, R, W) (fun r M' => r = some (.int v.1) ∧ M' = (v.2.1, v.2.2.1, R, v.2.2.2)) := by
  refine bm_C.ofV (by decide) (Nat.le_of_ble_eq_true rfl) ?_
  show bm_V lc m_X1_readObject (d + 4) n n n 0 [(0, .int x0), (1, .ref 3), (2, .ref 4)] [] (I, J, R, W) _
  unfold f_X1_readObject at h
  refine bv_iload_n dX1_readObject_0 0 rfl ?_
  by_cases c1 : x0 = 0
  · replace h := bu_t h c1
    refine bv_tableIn (tgt := 44) dX1_readObject_1 (by rw [c1]; decide) (by rw [c1]; decide) (by rw [c1]; rfl) (by decide) ?_
    refine bv_aload_n dX1_readObject_44 1 rfl ?_
    refine bv_iconst (v := 1) dX1_readObject_45 (by decide) ?_
    obtain ⟨v2, p3, h⟩ := bu_bd h
    refine bw_callV (As := [.int 1]) hN okL_3 ⟨_, _, rfl⟩ dX1_readObject_46 mc_1_69 (c_X5_takeWord (d := d + 0) hN hR p3) rfl rfl (by decide) ?_
    obtain rfl := Option.some.inj h
    exact bv_iret (x := v2.1) dX1_readObject_49 rfl ⟨rfl, rfl⟩
  · replace h := bu_f h c1
    by_cases c4 : x0 = 1
    · replace h := bu_t h c4
      refine bv_tableIn (tgt := 50) dX1_readObject_1 (by rw [c4]; decide) (by rw [c4]; decide) (by rw [c4]; rfl) (by decide) ?_
      refine bv_aload_n dX1_readObject_50 1 rfl ?_
      refine bv_aload_n dX1_readObject_51 2 rfl ?_
      obtain ⟨v5, p6, h⟩ := bu_bd h
      refine bw_callV (As := [.ref 4]) hN okL_3 ⟨_, _, rfl⟩ dX1_readObject_52 mc_1_77 (c_X5_takeOrder (d := d + 0) hN hR p6) rfl rfl (by decide) ?_
      obtain rfl := Option.some.inj h
      exact bv_iret (x := v5.1) dX1_readObject_55 rfl ⟨rfl, rfl⟩
    · replace h := bu_f h c4
      by_cases c7 : x0 = 2
      · replace h := bu_t h c7
        refine bv_tableIn (tgt := 70) dX1_readObject_1 (by rw [c7]; decide) (by rw [c7]; decide) (by rw [c7]; rfl) (by decide) ?_
        refine bv_iconst (v := 0) dX1_readObject_70 (by decide) ?_
        obtain rfl := Option.some.inj h
        exact bv_iret (x := 0) dX1_readObject_71 rfl ⟨rfl, rfl⟩
      · replace h := bu_f h c7
        by_cases c8 : x0 = 3
        · replace h := bu_t h c8
          refine bv_tableIn (tgt := 70) dX1_readObject_1 (by rw [c8]; decide) (by rw [c8]; decide) (by rw [c8]; rfl) (by decide) ?_
          refine bv_iconst (v := 0) dX1_readObject_70 (by decide) ?_
          obtain rfl := Option.some.inj h
          exact bv_iret (x := 0) dX1_readObject_71 rfl ⟨rfl, rfl⟩
        · replace h := bu_f h c8
          by_cases c9 : x0 = 4
          · replace h := bu_t h c9
            refine bv_tableIn (tgt := 70) dX1_readObject_1 (by rw [c9]; decide) (by rw [c9]; decide) (by rw [c9]; rfl) (by decide) ?_
            refine bv_iconst (v := 0) dX1_readObject_70 (by decide) ?_
            obtain rfl := Option.some.inj h
            exact bv_iret (x := 0) dX1_readObject_71 rfl ⟨rfl, rfl⟩
          · replace h := bu_f h c9
            by_cases c10 : x0 = 5
            · replace h := bu_t h c10
              refine bv_tableIn (tgt := 56) dX1_readObject_1 (by rw [c10]; decide) (by rw [c10]; decide) (by rw [c10]; rfl) (by decide) ?_
              refine bv_aload_n dX1_readObject_56 1 rfl ?_
              refine bv_iconst (v := 2) dX1_readObject_57 (by decide) ?_
              obtain ⟨v11, p12, h⟩ := bu_bd h
              refine bw_callV (As := [.int 2]) hN okL_3 ⟨_, _, rfl⟩ dX1_readObject_58 mc_1_69 (c_X5_takeWord (d := d + 0) hN hR p12) rfl rfl (by decide) ?_
              obtain rfl := Option.some.inj h
              exact bv_iret (x := v11.1) dX1_readObject_61 rfl ⟨rfl, rfl⟩
            · replace h := bu_f h c10
              by_cases c13 : x0 = 6
              · replace h := bu_t h c13
                refine bv_tableIn (tgt := 62) dX1_readObject_1 (by rw [c13]; decide) (by rw [c13]; decide) (by rw [c13]; rfl) (by decide) ?_
                refine bv_aload_n dX1_readObject_62 1 rfl ?_
                refine bv_iconst (v := 1) dX1_readObject_63 (by decide) ?_
                refine bv_bipush (v := 60) dX1_readObject_64 (by decide) ?_
                obtain ⟨v14, p15, h⟩ := bu_bd h
                refine bw_callV (As := [.int 1, .int 60]) hN okL_3 ⟨_, _, rfl⟩ dX1_readObject_66 mc_1_80 (c_X5_takeNumber (d := d + 0) hN hR p15) rfl rfl (by decide) ?_
                obtain rfl := Option.some.inj h
                exact bv_iret (x := v14.1) dX1_readObject_69 rfl ⟨rfl, rfl⟩
              · replace h := bu_f h c13
                refine bv_tableOut (tgt := 70) dX1_readObject_1 (bm_sw (k := 7) (by decide) (fun j hj => by match j, hj with | 0, _ => exact c1 | 1, _ => exact c4 | 2, _ => exact c7 | 3, _ => exact c8 | 4, _ => exact c9 | 5, _ => exact c10 | 6, _ => exact c13)) (by decide) ?_
                refine bv_iconst (v := 0) dX1_readObject_70 (by decide) ?_
                obtain rfl := Option.some.inj h
                exact bv_iret (x := 0) dX1_readObject_71 rfl ⟨rfl, rfl⟩
def f_X1_readLine (I : bm_TI) (J : bm_TJ) (W : bm_TR) : Option (Bool × bm_TI × bm_TJ × bm_TR) := (if bm_iwq (W 3 8) = true then (if (W 3 8) = (some (1000 + 14)) then (if (I 147 3) < 40 then (if bm_ix 40 (I 147 3) = true then ((f_X5_advance (bm_uI I 149 ((I 147 3).toNatClampNeg) 0) J W).bind fun v17 => (if bm_ix 40 (v17.1 147 3) = true then (if bm_ix 40 ((bm_uI v17.1 148 ((v17.1 147 3).toNatClampNeg) 6) 147 3) = true then (if ((bm_uI v17.1 148 ((v17.1 147 3).toNatClampNeg) 6) 148 ((bm_uI v17.1 148 ((v17.1 147 3).toNatClampNeg) 6) 147 3).toNatClampNeg) = (-1) then some (false, (bm_uI v17.1 148 ((v17.1 147 3).toNatClampNeg) 6), v17.2.1, v17.2.2) else ((f_X1_readObject (bm_uI v17.1 148 ((v17.1 147 3).toNatClampNeg) 6) v17.2.1 v17.2.2 ((bm_uI v17.1 148 ((v17.1 147 3).toNatClampNeg) 6) 148 ((bm_uI v17.1 148 ((v17.1 147 3).toNatClampNeg) 6) 147 3).toNatClampNeg)).bind fun v21 => (if bm_ix 40 ((bm_uI v21.2.1 150 (((bm_uI v17.1 148 ((v17.1 147 3).toNatClampNeg) 6) 147 3).toNatClampNeg) v21.1) 147 3) = true then (if ((bm_uI v21.2.1 150 (((bm_uI v17.1 148 ((v17.1 147 3).toNatClampNeg) 6) 147 3).toNatClampNeg) v21.1) 150 ((bm_uI v21.2.1 150 (((bm_uI v17.1 148 ((v17.1 147 3).toNatClampNeg) 6) 147 3).toNatClampNeg) v21.1) 147 3).toNatClampNeg) = (-1) then some (false, (bm_uI v21.2.1 150 (((bm_uI v17.1 148 ((v17.1 147 3).toNatClampNeg) 6) 147 3).toNatClampNeg) v21.1), v21.2.2.1, v21.2.2.2) else some (true, (bm_uI v21.2.1 150 (((bm_uI v17.1 148 ((v17.1 147 3).toNatClampNeg) 6) 147 3).toNatClampNeg) v21.1), v21.2.2.1, v21.2.2.2)) else none))) else none) else none)) else none) else ((f_X5_refuse I 4).bind fun v24 => some (v24.1, v24.2, J, W))) else ((f_X5_manHere I J 4).bind fun v2 => (if v2.1 = (-1) then some (false, v2.2, J, W) else (if (v2.2 147 3) < 40 then (if bm_ix 40 (v2.2 147 3) = true then ((f_X5_advance (bm_uI v2.2 149 ((v2.2 147 3).toNatClampNeg) v2.1) J W).bind fun v5 => ((f_X5_takeWord v5.1 v5.2.1 v5.2.2 3).bind fun v7 => (if bm_ix 40 (v5.1 147 3) = true then (if bm_ix 40 ((bm_uI v7.2.1 148 ((v5.1 147 3).toNatClampNeg) v7.1) 147 3) = true then (if ((bm_uI v7.2.1 148 ((v5.1 147 3).toNatClampNeg) v7.1) 148 ((bm_uI v7.2.1 148 ((v5.1 147 3).toNatClampNeg) v7.1) 147 3).toNatClampNeg) = (-1) then some (false, (bm_uI v7.2.1 148 ((v5.1 147 3).toNatClampNeg) v7.1), v7.2.2.1, v7.2.2.2) else ((f_X1_readObject (bm_uI v7.2.1 148 ((v5.1 147 3).toNatClampNeg) v7.1) v7.2.2.1 v7.2.2.2 ((bm_uI v7.2.1 148 ((v5.1 147 3).toNatClampNeg) v7.1) 148 ((bm_uI v7.2.1 148 ((v5.1 147 3).toNatClampNeg) v7.1) 147 3).toNatClampNeg)).bind fun v11 => (if bm_ix 40 ((bm_uI v11.2.1 150 (((bm_uI v7.2.1 148 ((v5.1 147 3).toNatClampNeg) v7.1) 147 3).toNatClampNeg) v11.1) 147 3) = true then (if ((bm_uI v11.2.1 150 (((bm_uI v7.2.1 148 ((v5.1 147 3).toNatClampNeg) v7.1) 147 3).toNatClampNeg) v11.1) 150 ((bm_uI v11.2.1 150 (((bm_uI v7.2.1 148 ((v5.1 147 3).toNatClampNeg) v7.1) 147 3).toNatClampNeg) v11.1) 147 3).toNatClampNeg) = (-1) then some (false, (bm_uI v11.2.1 150 (((bm_uI v7.2.1 148 ((v5.1 147 3).toNatClampNeg) v7.1) 147 3).toNatClampNeg) v11.1), v11.2.2.1, v11.2.2.2) else some (true, (bm_uI v11.2.1 150 (((bm_uI v7.2.1 148 ((v5.1 147 3).toNatClampNeg) v7.1) 147 3).toNatClampNeg) v11.1), v11.2.2.1, v11.2.2.2)) else none))) else none) else none))) else none) else ((f_X5_refuse v2.2 4).bind fun v14 => some (v14.1, v14.2, J, W)))))) else none)
set_option maxHeartbeats 4000000 in
set_option maxRecDepth 100000 in
theorem c_X1_readLine {lc : bm_L} {d n : Nat} {I : bm_TI} {J : bm_TJ} {R W : bm_TR} {v : Bool × bm_TI × bm_TJ × bm_TR} (hN : 181 ≤ n) (hR : bm_RR R) (h : f_X1_readLine I J W = some v) : bm_C lc m_X1_readLine (d + 5) n n [.ref 147, .ref 3, .ref 4] (I, J, R, W) (fun r M' => r = some (.int (bm_bi v.1)) ∧ M' = (v.2.1, v.2.2.1, R, v.2.2.2)) := by
  refine bm_C.ofV (by decide) (Nat.le_of_ble_eq_true rfl) ?_
  show bm_V lc m_X1_readLine (d + 5) n n n 0 [(0, .ref 147), (1, .ref 3), (2, .ref 4)] [] (I, J, R, W) _
  unfold f_X1_readLine at h
  refine bv_aload_n dX1_readLine_0 1 rfl ?_
  refine bz_getQ hN okL_3 dX1_readLine_1 fl_1_50 rfl ?_
  refine bw_getW (j := 14) dX1_readLine_4 fw_1_54 rfl ?_
  obtain ⟨w1, h⟩ := bu_g h
  refine bv_acmp_ne (x := (W 3 8)) (y := (some (1000 + 14))) (tgt := 14) dX1_readLine_7 (by decide) (bm_wq_of w1) (bm_wq_of rfl) (fun cc => ?_) (fun cc => ?_)
  · replace h := bu_f h cc
    refine bv_iconst (v := 0) dX1_readLine_14 (by decide) ?_
    refine bv_istore_n (ls1 := [(0, .ref 147), (1, .ref 3), (2, .ref 4), (3, .int 0)]) dX1_readLine_15 (by decide) rfl rfl ?_
    refine bv_iload_n dX1_readLine_16 3 rfl ?_
    refine bv_if_eq (tgt := 24) dX1_readLine_17 (by decide) (fun cc => ?_) (fun cc => ?_)
    rotate_left
    · exact absurd cc (by decide)
    refine bv_aload_n dX1_readLine_24 1 rfl ?_
    refine bv_aload_n dX1_readLine_25 2 rfl ?_
    obtain ⟨v2, p3, h⟩ := bu_bd h
    refine bw_callV (As := [.ref 4]) hN okL_3 ⟨_, _, rfl⟩ dX1_readLine_26 mc_1_59 (c_X5_manHere (d := d + 3) hN hR okL_4 p3) rfl rfl (by decide) ?_
    refine bv_istore (ls1 := [(0, .ref 147), (1, .ref 3), (2, .ref 4), (3, .int 0), (4, .int v2.1)]) dX1_readLine_29 (by decide) rfl rfl ?_
    refine bv_iload dX1_readLine_31 4 rfl ?_
    refine bv_iconst (v := (-1)) dX1_readLine_33 (by decide) ?_
    refine bv_icmp_ne (tgt := 39) dX1_readLine_34 (by decide) (fun cc => ?_) (fun cc => ?_)
    · replace h := bu_f h cc
      refine bv_aload_n dX1_readLine_39 0 rfl ?_
      refine bz_getI hN okL_147 dX1_readLine_40 fl_1_34 rfl ?_
      refine bv_bipush (v := 40) dX1_readLine_43 (by decide) ?_
      refine bv_icmp_lt (tgt := 54) dX1_readLine_45 (by decide) (fun cc => ?_) (fun cc => ?_)
      · replace h := bu_t h cc
        refine bv_aload_n dX1_readLine_54 0 rfl ?_
        refine bz_getA (a := 149) hN okL_147 (hR _ _ _ r0_147_1) dX1_readLine_55 fl_1_15 rfl ?_
        refine bv_aload_n dX1_readLine_58 0 rfl ?_
        refine bz_getI hN okL_147 dX1_readLine_59 fl_1_34 rfl ?_
        refine bv_iload dX1_readLine_62 4 rfl ?_
        obtain ⟨r4, h⟩ := bu_ix h
        refine bz_iast hN rkL_149 r4 rfl dX1_readLine_64 ?_
        refine bv_aload_n dX1_readLine_65 1 rfl ?_
        obtain ⟨v5, p6, h⟩ := bu_bd h
        refine bw_callVv (As := []) hN okL_3 ⟨_, _, rfl⟩ dX1_readLine_66 mc_1_66 (c_X5_advance (d := d + 2) hN hR p6) rfl rfl (by decide) ?_
        refine bv_aload_n dX1_readLine_69 0 rfl ?_
        refine bz_getA (a := 148) hN okL_147 (hR _ _ _ r0_147_0) dX1_readLine_70 fl_1_9 rfl ?_
        refine bv_aload_n dX1_readLine_73 0 rfl ?_
        refine bz_getI hN okL_147 dX1_readLine_74 fl_1_34 rfl ?_
        refine bv_iload_n dX1_readLine_77 3 rfl ?_
        refine bv_if_eq (tgt := 86) dX1_readLine_78 (by decide) (fun cc => ?_) (fun cc => ?_)
        rotate_left
        · exact absurd cc (by decide)
        refine bv_aload_n dX1_readLine_86 1 rfl ?_
        refine bv_iconst (v := 3) dX1_readLine_87 (by decide) ?_
        obtain ⟨v7, p8, h⟩ := bu_bd h
        refine bw_callV (As := [.int 3]) hN okL_3 ⟨_, _, rfl⟩ dX1_readLine_88 mc_1_69 (c_X5_takeWord (d := d + 1) hN hR p8) rfl rfl (Nat.le_of_ble_eq_true rfl) ?_
        obtain ⟨r9, h⟩ := bu_ix h
        refine bz_iast hN rkL_148 r9 rfl dX1_readLine_91 ?_
        refine bv_aload_n dX1_readLine_92 0 rfl ?_
        refine bz_getA (a := 148) hN okL_147 (hR _ _ _ r0_147_0) dX1_readLine_93 fl_1_9 rfl ?_
        refine bv_aload_n dX1_readLine_96 0 rfl ?_
        refine bz_getI hN okL_147 dX1_readLine_97 fl_1_34 rfl ?_
        obtain ⟨r10, h⟩ := bu_ix h
        refine bz_iald hN rkL_148 r10 rfl dX1_readLine_100 ?_
        refine bv_iconst (v := (-1)) dX1_readLine_101 (by decide) ?_
        refine bv_icmp_ne (tgt := 107) dX1_readLine_102 (by decide) (fun cc => ?_) (fun cc => ?_)
        · replace h := bu_f h cc
          refine bv_aload_n dX1_readLine_107 0 rfl ?_
          refine bz_getA (a := 150) hN okL_147 (hR _ _ _ r0_147_2) dX1_readLine_108 fl_1_18 rfl ?_
          refine bv_aload_n dX1_readLine_111 0 rfl ?_
          refine bz_getI hN okL_147 dX1_readLine_112 fl_1_34 rfl ?_
          refine bv_aload_n dX1_readLine_115 0 rfl ?_
          refine bz_getA (a := 148) hN okL_147 (hR _ _ _ r0_147_0) dX1_readLine_116 fl_1_9 rfl ?_
          refine bv_aload_n dX1_readLine_119 0 rfl ?_
          refine bz_getI hN okL_147 dX1_readLine_120 fl_1_34 rfl ?_
          refine bz_iald hN rkL_148 r10 rfl dX1_readLine_123 ?_
          refine bv_aload_n dX1_readLine_124 1 rfl ?_
          refine bv_aload_n dX1_readLine_125 2 rfl ?_
          obtain ⟨v11, p12, h⟩ := bu_bd h
          refine bw_callS (As := [.int ((bm_uI v7.2.1 148 ((v5.1 147 3).toNatClampNeg) v7.1) 148 ((bm_uI v7.2.1 148 ((v5.1 147 3).toNatClampNeg) v7.1) 147 3).toNatClampNeg), .ref 3, .ref 4]) dX1_readLine_126 mc_1_73 (c_X1_readObject (d := d + 0) hN hR p12) rfl rfl (Nat.le_of_ble_eq_true rfl) ?_
          refine bz_iast hN rkL_150 r10 rfl dX1_readLine_129 ?_
          refine bv_aload_n dX1_readLine_130 0 rfl ?_
          refine bz_getA (a := 150) hN okL_147 (hR _ _ _ r0_147_2) dX1_readLine_131 fl_1_18 rfl ?_
          refine bv_aload_n dX1_readLine_134 0 rfl ?_
          refine bz_getI hN okL_147 dX1_readLine_135 fl_1_34 rfl ?_
          obtain ⟨r13, h⟩ := bu_ix h
          refine bz_iald hN rkL_150 r13 rfl dX1_readLine_138 ?_
          refine bv_iconst (v := (-1)) dX1_readLine_139 (by decide) ?_
          refine bv_icmp_eq (tgt := 147) dX1_readLine_140 (by decide) (fun cc => ?_) (fun cc => ?_)
          · replace h := bu_t h cc
            refine bv_iconst (v := 0) dX1_readLine_147 (by decide) ?_
            obtain rfl := Option.some.inj h
            exact bw_bret (b := false) dX1_readLine_148 rfl ⟨rfl, rfl⟩
          · replace h := bu_f h cc
            refine bv_iconst (v := 1) dX1_readLine_143 (by decide) ?_
            refine bv_goto (tgt := 148) dX1_readLine_144 (by decide) ?_
            obtain rfl := Option.some.inj h
            exact bw_bret (b := true) dX1_readLine_148 rfl ⟨rfl, rfl⟩
        · replace h := bu_t h cc
          refine bv_iconst (v := 0) dX1_readLine_105 (by decide) ?_
          obtain rfl := Option.some.inj h
          exact bw_bret (b := false) dX1_readLine_106 rfl ⟨rfl, rfl⟩
      · replace h := bu_f h cc
        refine bv_aload_n dX1_readLine_48 1 rfl ?_
        refine bv_iconst (v := 4) dX1_readLine_49 (by decide) ?_
        obtain ⟨v14, p15, h⟩ := bu_bd h
        refine bw_callV (As := [.int 4]) hN okL_3 ⟨_, _, rfl⟩ dX1_readLine_50 mc_1_63 (c_X5_refuse (d := d + 4) hN hR p15) rfl rfl (by decide) ?_
        obtain rfl := Option.some.inj h
        exact bw_bret (b := v14.1) dX1_readLine_53 rfl ⟨rfl, rfl⟩
    · replace h := bu_t h cc
      refine bv_iconst (v := 0) dX1_readLine_37 (by decide) ?_
      obtain rfl := Option.some.inj h
      exact bw_bret (b := false) dX1_readLine_38 rfl ⟨rfl, rfl⟩
  · replace h := bu_t h cc
    refine bv_iconst (v := 1) dX1_readLine_10 (by decide) ?_
    refine bv_goto (tgt := 15) dX1_readLine_11 (by decide) ?_
    refine bv_istore_n (ls1 := [(0, .ref 147), (1, .ref 3), (2, .ref 4), (3, .int 1)]) dX1_readLine_15 (by decide) rfl rfl ?_
    refine bv_iload_n dX1_readLine_16 3 rfl ?_
    refine bv_if_eq (tgt := 24) dX1_readLine_17 (by decide) (fun cc => ?_) (fun cc => ?_)
    · exact absurd cc (by decide)
    refine bv_iconst (v := 0) dX1_readLine_20 (by decide) ?_
    refine bv_goto (tgt := 29) dX1_readLine_21 (by decide) ?_
    refine bv_istore (ls1 := [(0, .ref 147), (1, .ref 3), (2, .ref 4), (3, .int 1), (4, .int 0)]) dX1_readLine_29 (by decide) rfl rfl ?_
    refine bv_iload dX1_readLine_31 4 rfl ?_
    refine bv_iconst (v := (-1)) dX1_readLine_33 (by decide) ?_
    refine bv_icmp_ne (tgt := 39) dX1_readLine_34 (by decide) (fun cc => ?_) (fun cc => ?_)
    rotate_left
    · exact absurd cc (by decide)
    refine bv_aload_n dX1_readLine_39 0 rfl ?_
    refine bz_getI hN okL_147 dX1_readLine_40 fl_1_34 rfl ?_
    refine bv_bipush (v := 40) dX1_readLine_43 (by decide) ?_
    refine bv_icmp_lt (tgt := 54) dX1_readLine_45 (by decide) (fun cc => ?_) (fun cc => ?_)
    · replace h := bu_t h cc
      refine bv_aload_n dX1_readLine_54 0 rfl ?_
      refine bz_getA (a := 149) hN okL_147 (hR _ _ _ r0_147_1) dX1_readLine_55 fl_1_15 rfl ?_
      refine bv_aload_n dX1_readLine_58 0 rfl ?_
      refine bz_getI hN okL_147 dX1_readLine_59 fl_1_34 rfl ?_
      refine bv_iload dX1_readLine_62 4 rfl ?_
      obtain ⟨r16, h⟩ := bu_ix h
      refine bz_iast hN rkL_149 r16 rfl dX1_readLine_64 ?_
      refine bv_aload_n dX1_readLine_65 1 rfl ?_
      obtain ⟨v17, p18, h⟩ := bu_bd h
      refine bw_callVv (As := []) hN okL_3 ⟨_, _, rfl⟩ dX1_readLine_66 mc_1_66 (c_X5_advance (d := d + 2) hN hR p18) rfl rfl (by decide) ?_
      refine bv_aload_n dX1_readLine_69 0 rfl ?_
      refine bz_getA (a := 148) hN okL_147 (hR _ _ _ r0_147_0) dX1_readLine_70 fl_1_9 rfl ?_
      refine bv_aload_n dX1_readLine_73 0 rfl ?_
      refine bz_getI hN okL_147 dX1_readLine_74 fl_1_34 rfl ?_
      refine bv_iload_n dX1_readLine_77 3 rfl ?_
      refine bv_if_eq (tgt := 86) dX1_readLine_78 (by decide) (fun cc => ?_) (fun cc => ?_)
      · exact absurd cc (by decide)
      refine bv_bipush (v := 6) dX1_readLine_81 (by decide) ?_
      refine bv_goto (tgt := 91) dX1_readLine_83 (by decide) ?_
      obtain ⟨r19, h⟩ := bu_ix h
      refine bz_iast hN rkL_148 r19 rfl dX1_readLine_91 ?_
      refine bv_aload_n dX1_readLine_92 0 rfl ?_
      refine bz_getA (a := 148) hN okL_147 (hR _ _ _ r0_147_0) dX1_readLine_93 fl_1_9 rfl ?_
      refine bv_aload_n dX1_readLine_96 0 rfl ?_
      refine bz_getI hN okL_147 dX1_readLine_97 fl_1_34 rfl ?_
      obtain ⟨r20, h⟩ := bu_ix h
      refine bz_iald hN rkL_148 r20 rfl dX1_readLine_100 ?_
      refine bv_iconst (v := (-1)) dX1_readLine_101 (by decide) ?_
      refine bv_icmp_ne (tgt := 107) dX1_readLine_102 (by decide) (fun cc => ?_) (fun cc => ?_)
      · replace h := bu_f h cc
        refine bv_aload_n dX1_readLine_107 0 rfl ?_
        refine bz_getA (a := 150) hN okL_147 (hR _ _ _ r0_147_2) dX1_readLine_108 fl_1_18 rfl ?_
        refine bv_aload_n dX1_readLine_111 0 rfl ?_
        refine bz_getI hN okL_147 dX1_readLine_112 fl_1_34 rfl ?_
        refine bv_aload_n dX1_readLine_115 0 rfl ?_
        refine bz_getA (a := 148) hN okL_147 (hR _ _ _ r0_147_0) dX1_readLine_116 fl_1_9 rfl ?_
        refine bv_aload_n dX1_readLine_119 0 rfl ?_
        refine bz_getI hN okL_147 dX1_readLine_120 fl_1_34 rfl ?_
        refine bz_iald hN rkL_148 r20 rfl dX1_readLine_123 ?_
        refine bv_aload_n dX1_readLine_124 1 rfl ?_
        refine bv_aload_n dX1_readLine_125 2 rfl ?_
        obtain ⟨v21, p22, h⟩ := bu_bd h
        refine bw_callS (As := [.int ((bm_uI v17.1 148 ((v17.1 147 3).toNatClampNeg) 6) 148 ((bm_uI v17.1 148 ((v17.1 147 3).toNatClampNeg) 6) 147 3).toNatClampNeg), .ref 3, .ref 4]) dX1_readLine_126 mc_1_73 (c_X1_readObject (d := d + 0) hN hR p22) rfl rfl (Nat.le_of_ble_eq_true rfl) ?_
        refine bz_iast hN rkL_150 r20 rfl dX1_readLine_129 ?_
        refine bv_aload_n dX1_readLine_130 0 rfl ?_
        refine bz_getA (a := 150) hN okL_147 (hR _ _ _ r0_147_2) dX1_readLine_131 fl_1_18 rfl ?_
        refine bv_aload_n dX1_readLine_134 0 rfl ?_
        refine bz_getI hN okL_147 dX1_readLine_135 fl_1_34 rfl ?_
        obtain ⟨r23, h⟩ := bu_ix h
        refine bz_iald hN rkL_150 r23 rfl dX1_readLine_138 ?_
        refine bv_iconst (v := (-1)) dX1_readLine_139 (by decide) ?_
        refine bv_icmp_eq (tgt := 147) dX1_readLine_140 (by decide) (fun cc => ?_) (fun cc => ?_)
        · replace h := bu_t h cc
          refine bv_iconst (v := 0) dX1_readLine_147 (by decide) ?_
          obtain rfl := Option.some.inj h
          exact bw_bret (b := false) dX1_readLine_148 rfl ⟨rfl, rfl⟩
        · replace h := bu_f h cc
          refine bv_iconst (v := 1) dX1_readLine_143 (by decide) ?_
          refine bv_goto (tgt := 148) dX1_readLine_144 (by decide) ?_
          obtain rfl := Option.some.inj h
          exact bw_bret (b := true) dX1_readLine_148 rfl ⟨rfl, rfl⟩
      · replace h := bu_t h cc
        refine bv_iconst (v := 0) dX1_readLine_105 (by decide) ?_
        obtain rfl := Option.some.inj h
        exact bw_bret (b := false) dX1_readLine_106 rfl ⟨rfl, rfl⟩
    · replace h := bu_f h cc
      refine bv_aload_n dX1_readLine_48 1 rfl ?_
      refine bv_iconst (v := 4) dX1_readLine_49 (by decide) ?_
      obtain ⟨v24, p25, h⟩ := bu_bd h
      refine bw_callV (As := [.int 4]) hN okL_3 ⟨_, _, rfl⟩ dX1_readLine_50 mc_1_63 (c_X5_refuse (d := d + 4) hN hR p25) rfl rfl (by decide) ?_
      obtain rfl := Option.some.inj h
      exact bw_bret (b := v24.1) dX1_readLine_53 rfl ⟨rfl, rfl⟩
def f_X1_readFrom_l7 : Nat → Int32 → bm_TI → bm_TJ → bm_TR → Option (((bm_TI × bm_TJ × bm_TR) ⊕ (bm_TI × bm_TJ × bm_TR)))
  | 0, _, _, _, _ => none
  | k + 1, x3, I, J, W => (if 40 < x3 then some (Sum.inr (I, J, W)) else (if (I 3 3) = 0 then some (Sum.inr (I, J, W)) else ((f_X1_readLine I J W).bind fun v1 => (if v1.1 = true then ((f_X5_takeSign v1.2.1 v1.2.2.1 v1.2.2.2 59).bind fun v3 => (if v3.1 = true then f_X1_readFrom_l7 k (x3 + 1) (bm_uI v3.2.1 147 3 ((v3.2.1 147 3) + 1)) v3.2.2.1 v3.2.2.2 else some (Sum.inl (v3.2.1, v3.2.2.1, v3.2.2.2)))) else some (Sum.inl (v1.2.1, v1.2.2.1, v1.2.2.2))))))
set_option maxHeartbeats 4000000 in
set_option maxRecDepth 100000 in
theorem v_X1_readFrom_l7 {lc : bm_L} {d n : Nat} {Q : Option Value → bm_M → Prop} {R : bm_TR} (hN : 181 ≤ n) (hR : bm_RR R) : ∀ (k : Nat) (x3 : Int32) (I : bm_TI) (J : bm_TJ) (W : bm_TR) (r : ((bm_TI × bm_TJ × bm_TR) ⊕ (bm_TI × bm_TJ × bm_TR))), f_X1_readFrom_l7 k x3 I J W = some r → (∀ yy, (Sum.inl yy) = r → bm_V lc m_X1_readFrom (d + 6) n n n 38 [] [] (yy.1, yy.2.1, R, yy.2.2) Q) → (∀ yy, (Sum.inr yy) = r → bm_V lc m_X1_readFrom (d + 6) n n n 55 [] [] (yy.1, yy.2.1, R, yy.2.2) Q) → bm_V lc m_X1_readFrom (d + 6) n n n 7 [(0, .ref 147), (1, .ref 3), (2, .ref 4), (3, .int x3)] [] (I, J, R, W) Q := by
  intro k
  induction k with
  | zero => intro x3 I J W r h; cases (show (none : Option (((bm_TI × bm_TJ × bm_TR) ⊕ (bm_TI × bm_TJ × bm_TR)))) = some r from h)
  | succ k ih =>
    intro x3 I J W r h K0 K1
    unfold f_X1_readFrom_l7 at h
    refine bv_iload_n dX1_readFrom_7 3 rfl ?_
    refine bv_bipush (v := 40) dX1_readFrom_8 (by decide) ?_
    refine bv_icmp_gt (tgt := 55) dX1_readFrom_10 (by decide) (fun cc => ?_) (fun cc => ?_)
    · replace h := bu_t h cc
      refine bw_ls (ls1 := []) [] rfl ?_
      obtain rfl := Option.some.inj h
      exact K1 _ rfl
    · replace h := bu_f h cc
      refine bv_aload_n dX1_readFrom_13 1 rfl ?_
      refine bz_getI hN okL_3 dX1_readFrom_14 fl_1_37 rfl ?_
      refine bv_if_eq (tgt := 55) dX1_readFrom_17 (by decide) (fun cc => ?_) (fun cc => ?_)
      · replace h := bu_t h cc
        refine bw_ls (ls1 := []) [] rfl ?_
        obtain rfl := Option.some.inj h
        exact K1 _ rfl
      · replace h := bu_f h cc
        refine bv_aload_n dX1_readFrom_20 0 rfl ?_
        refine bv_aload_n dX1_readFrom_21 1 rfl ?_
        refine bv_aload_n dX1_readFrom_22 2 rfl ?_
        obtain ⟨v1, p2, h⟩ := bu_bd h
        refine bw_callV (As := [.ref 3, .ref 4]) hN okL_147 ⟨_, _, rfl⟩ dX1_readFrom_23 mc_1_42 (c_X1_readLine (d := d + 0) hN hR p2) rfl rfl (by decide) ?_
        refine bw_ifB_eq (b := v1.1) (tgt := 38) dX1_readFrom_26 (by decide) (fun cc => ?_) (fun cc => ?_)
        · replace h := bu_bf h cc
          refine bw_ls (ls1 := []) [] rfl ?_
          obtain rfl := Option.some.inj h
          exact K0 _ rfl
        · replace h := bu_bt h cc
          refine bv_aload_n dX1_readFrom_29 1 rfl ?_
          refine bv_bipush (v := 59) dX1_readFrom_30 (by decide) ?_
          obtain ⟨v3, p4, h⟩ := bu_bd h
          refine bw_callV (As := [.int 59]) hN okL_3 ⟨_, _, rfl⟩ dX1_readFrom_32 mc_1_46 (c_X5_takeSign (d := d + 2) hN hR p4) rfl rfl (by decide) ?_
          refine bw_ifB_ne (b := v3.1) (tgt := 39) dX1_readFrom_35 (by decide) (fun cc => ?_) (fun cc => ?_)
          · replace h := bu_bt h cc
            refine bv_aload_n dX1_readFrom_39 0 rfl ?_
            refine bv_dup dX1_readFrom_40 rfl ?_
            refine bz_getI hN okL_147 dX1_readFrom_41 fl_1_34 rfl ?_
            refine bv_iconst (v := 1) dX1_readFrom_44 (by decide) ?_
            refine bv_iadd dX1_readFrom_45 ?_
            refine bz_putI hN okL_147 dX1_readFrom_46 fl_1_34 rfl ?_
            refine bv_iinc (j := 3) (v := (x3 + 1)) (ls1 := [(0, .ref 147), (1, .ref 3), (2, .ref 4), (3, .int (x3 + 1))]) dX1_readFrom_49 rfl rfl (by decide) rfl rfl ?_
            refine bv_goto (tgt := 7) dX1_readFrom_52 (by decide) ?_
            exact ih _ _ _ _ _ h K0 K1
          · replace h := bu_bf h cc
            refine bw_ls (ls1 := []) [] rfl ?_
            obtain rfl := Option.some.inj h
            exact K0 _ rfl
def f_X1_readFrom (I : bm_TI) (J : bm_TJ) (W : bm_TR) : Option (bm_TI × bm_TJ × bm_TR) := ((f_X1_readFrom_l7 1000 0 (bm_uI I 147 3 0) J W).bind fun rr => match rr with | (Sum.inl y3) => some (y3.1, y3.2.1, y3.2.2) | (Sum.inr y3) => some (y3.1, y3.2.1, y3.2.2))
set_option maxHeartbeats 4000000 in
set_option maxRecDepth 100000 in
theorem c_X1_readFrom {lc : bm_L} {d n : Nat} {I : bm_TI} {J : bm_TJ} {R W : bm_TR} {v : bm_TI × bm_TJ × bm_TR} (hN : 181 ≤ n) (hR : bm_RR R) (h : f_X1_readFrom I J W = some v) : bm_C lc m_X1_readFrom (d + 6) n n [.ref 147, .ref 3, .ref 4] (I, J, R, W) (fun r M' => r = none ∧ M' = (v.1, v.2.1, R, v.2.2)) := by
  refine bm_C.ofV (by decide) (Nat.le_of_ble_eq_true rfl) ?_
  show bm_V lc m_X1_readFrom (d + 6) n n n 0 [(0, .ref 147), (1, .ref 3), (2, .ref 4)] [] (I, J, R, W) _
  unfold f_X1_readFrom at h
  refine bv_aload_n dX1_readFrom_0 0 rfl ?_
  refine bv_iconst (v := 0) dX1_readFrom_1 (by decide) ?_
  refine bz_putI hN okL_147 dX1_readFrom_2 fl_1_34 rfl ?_
  refine bv_iconst (v := 0) dX1_readFrom_5 (by decide) ?_
  refine bv_istore_n (ls1 := [(0, .ref 147), (1, .ref 3), (2, .ref 4), (3, .int 0)]) dX1_readFrom_6 (by decide) rfl rfl ?_
  obtain ⟨r1, p2, h⟩ := bu_bd h
  refine v_X1_readFrom_l7 hN hR 1000 _ _ _ _ _ p2 (fun y3 hy => ?_) (fun y3 hy => ?_)
  · subst hy
    obtain rfl := Option.some.inj h
    exact bv_vret dX1_readFrom_38 rfl ⟨rfl, rfl⟩
  · subst hy
    obtain rfl := Option.some.inj h
    exact bv_vret dX1_readFrom_55 rfl ⟨rfl, rfl⟩
def f_X2_countWrong_l5 (I : bm_TI) (x1 : Int32) (x2 : Int32) : Nat → Int32 → Int32 → Option (Int32)
  | 0, _, _ => none
  | k + 1, x3, x4 => (if (I 1 1) ≤ x4 then some x3 else (if bm_ix 940 x4 = true then (if (I 2 x4.toNatClampNeg) = 0 then f_X2_countWrong_l5 I x1 x2 k x3 (x4 + 1) else (if (bm_rem x4 2) = 0 then (if (I 2 x4.toNatClampNeg) = x1 then f_X2_countWrong_l5 I x1 x2 k x3 (x4 + 1) else f_X2_countWrong_l5 I x1 x2 k (x3 + 1) (x4 + 1)) else (if (I 2 x4.toNatClampNeg) = x2 then f_X2_countWrong_l5 I x1 x2 k x3 (x4 + 1) else f_X2_countWrong_l5 I x1 x2 k (x3 + 1) (x4 + 1)))) else none))
set_option maxHeartbeats 4000000 in
set_option maxRecDepth 100000 in
theorem v_X2_countWrong_l5 {lc : bm_L} {d n : Nat} {Q : Option Value → bm_M → Prop} {R : bm_TR} {I : bm_TI} {J : bm_TJ} {W : bm_TR} {x1 : Int32} {x2 : Int32} (hN : 181 ≤ n) (hR : bm_RR R) : ∀ (k : Nat) (x3 : Int32) (x4 : Int32) (r : Int32), f_X2_countWrong_l5 I x1 x2 k x3 x4 = some r → (∀ yy, yy = r → bm_V lc m_X2_countWrong d n n n 54 [(3, .int yy)] [] (I, J, R, W) Q) → bm_V lc m_X2_countWrong d n n n 5 [(0, .ref 1), (1, .int x1), (2, .int x2), (3, .int x3), (4, .int x4)] [] (I, J, R, W) Q := by
  intro k
  induction k with
  | zero => intro x3 x4 r h; cases (show (none : Option (Int32)) = some r from h)
  | succ k ih =>
    intro x3 x4 r h K0
    unfold f_X2_countWrong_l5 at h
    refine bv_iload dX2_countWrong_5 4 rfl ?_
    refine bv_aload_n dX2_countWrong_7 0 rfl ?_
    refine bz_getI hN okL_1 dX2_countWrong_8 fl_2_27 rfl ?_
    refine bv_icmp_ge (tgt := 54) dX2_countWrong_11 (by decide) (fun cc => ?_) (fun cc => ?_)
    · replace h := bu_t h cc
      refine bw_ls (ls1 := [(3, .int x3)]) [3] rfl ?_
      obtain rfl := Option.some.inj h
      exact K0 _ rfl
    · replace h := bu_f h cc
      refine bv_aload_n dX2_countWrong_14 0 rfl ?_
      refine bz_getA (a := 2) hN okL_1 (hR _ _ _ r0_1_0) dX2_countWrong_15 fl_2_51 rfl ?_
      refine bv_iload dX2_countWrong_18 4 rfl ?_
      obtain ⟨r1, h⟩ := bu_ix h
      refine bz_iald hN rkL_2 r1 rfl dX2_countWrong_20 ?_
      refine bv_istore (ls1 := [(0, .ref 1), (1, .int x1), (2, .int x2), (3, .int x3), (4, .int x4), (5, .int (I 2 x4.toNatClampNeg))]) dX2_countWrong_21 (by decide) rfl rfl ?_
      refine bv_iload dX2_countWrong_23 5 rfl ?_
      refine bv_if_eq (tgt := 48) dX2_countWrong_25 (by decide) (fun cc => ?_) (fun cc => ?_)
      · replace h := bu_t h cc
        refine bv_iinc (j := 4) (v := (x4 + 1)) (ls1 := [(0, .ref 1), (1, .int x1), (2, .int x2), (3, .int x3), (4, .int (x4 + 1)), (5, .int (I 2 x4.toNatClampNeg))]) dX2_countWrong_48 rfl rfl (by decide) rfl rfl ?_
        refine bv_goto (tgt := 5) dX2_countWrong_51 (by decide) ?_
        refine bw_ls (ls1 := [(0, .ref 1), (1, .int x1), (2, .int x2), (3, .int x3), (4, .int (x4 + 1))]) [0, 1, 2, 3, 4] rfl ?_
        exact ih _ _ _ h K0
      · replace h := bu_f h cc
        refine bv_iload dX2_countWrong_28 5 rfl ?_
        refine bv_iload dX2_countWrong_30 4 rfl ?_
        refine bv_iconst (v := 2) dX2_countWrong_32 (by decide) ?_
        refine bv_irem dX2_countWrong_33 (by decide) ?_
        refine bv_if_ne (tgt := 41) dX2_countWrong_34 (by decide) (fun cc => ?_) (fun cc => ?_)
        · replace h := bu_f h cc
          refine bv_iload_n dX2_countWrong_41 2 rfl ?_
          refine bv_icmp_eq (tgt := 48) dX2_countWrong_42 (by decide) (fun cc => ?_) (fun cc => ?_)
          · replace h := bu_t h cc
            refine bv_iinc (j := 4) (v := (x4 + 1)) (ls1 := [(0, .ref 1), (1, .int x1), (2, .int x2), (3, .int x3), (4, .int (x4 + 1)), (5, .int (I 2 x4.toNatClampNeg))]) dX2_countWrong_48 rfl rfl (by decide) rfl rfl ?_
            refine bv_goto (tgt := 5) dX2_countWrong_51 (by decide) ?_
            refine bw_ls (ls1 := [(0, .ref 1), (1, .int x1), (2, .int x2), (3, .int x3), (4, .int (x4 + 1))]) [0, 1, 2, 3, 4] rfl ?_
            exact ih _ _ _ h K0
          · replace h := bu_f h cc
            refine bv_iinc (j := 3) (v := (x3 + 1)) (ls1 := [(0, .ref 1), (1, .int x1), (2, .int x2), (3, .int (x3 + 1)), (4, .int x4), (5, .int (I 2 x4.toNatClampNeg))]) dX2_countWrong_45 rfl rfl (by decide) rfl rfl ?_
            refine bv_iinc (j := 4) (v := (x4 + 1)) (ls1 := [(0, .ref 1), (1, .int x1), (2, .int x2), (3, .int (x3 + 1)), (4, .int (x4 + 1)), (5, .int (I 2 x4.toNatClampNeg))]) dX2_countWrong_48 rfl rfl (by decide) rfl rfl ?_
            refine bv_goto (tgt := 5) dX2_countWrong_51 (by decide) ?_
            refine bw_ls (ls1 := [(0, .ref 1), (1, .int x1), (2, .int x2), (3, .int (x3 + 1)), (4, .int (x4 + 1))]) [0, 1, 2, 3, 4] rfl ?_
            exact ih _ _ _ h K0
        · replace h := bu_t h cc
          refine bv_iload_n dX2_countWrong_37 1 rfl ?_
          refine bv_goto (tgt := 42) dX2_countWrong_38 (by decide) ?_
          refine bv_icmp_eq (tgt := 48) dX2_countWrong_42 (by decide) (fun cc => ?_) (fun cc => ?_)
          · replace h := bu_t h cc
            refine bv_iinc (j := 4) (v := (x4 + 1)) (ls1 := [(0, .ref 1), (1, .int x1), (2, .int x2), (3, .int x3), (4, .int (x4 + 1)), (5, .int (I 2 x4.toNatClampNeg))]) dX2_countWrong_48 rfl rfl (by decide) rfl rfl ?_
            refine bv_goto (tgt := 5) dX2_countWrong_51 (by decide) ?_
            refine bw_ls (ls1 := [(0, .ref 1), (1, .int x1), (2, .int x2), (3, .int x3), (4, .int (x4 + 1))]) [0, 1, 2, 3, 4] rfl ?_
            exact ih _ _ _ h K0
          · replace h := bu_f h cc
            refine bv_iinc (j := 3) (v := (x3 + 1)) (ls1 := [(0, .ref 1), (1, .int x1), (2, .int x2), (3, .int (x3 + 1)), (4, .int x4), (5, .int (I 2 x4.toNatClampNeg))]) dX2_countWrong_45 rfl rfl (by decide) rfl rfl ?_
            refine bv_iinc (j := 4) (v := (x4 + 1)) (ls1 := [(0, .ref 1), (1, .int x1), (2, .int x2), (3, .int (x3 + 1)), (4, .int (x4 + 1)), (5, .int (I 2 x4.toNatClampNeg))]) dX2_countWrong_48 rfl rfl (by decide) rfl rfl ?_
            refine bv_goto (tgt := 5) dX2_countWrong_51 (by decide) ?_
            refine bw_ls (ls1 := [(0, .ref 1), (1, .int x1), (2, .int x2), (3, .int (x3 + 1)), (4, .int (x4 + 1))]) [0, 1, 2, 3, 4] rfl ?_
            exact ih _ _ _ h K0
def f_X2_countWrong (I : bm_TI) (x1 : Int32) (x2 : Int32) : Option (Int32) := ((f_X2_countWrong_l5 I x1 x2 1000 0 0).bind fun y3 => some y3)
set_option maxHeartbeats 4000000 in
set_option maxRecDepth 100000 in
theorem c_X2_countWrong {lc : bm_L} {d n : Nat} {I : bm_TI} {J : bm_TJ} {R W : bm_TR} {x1 : Int32} {x2 : Int32} {v : Int32} (hN : 181 ≤ n) (hR : bm_RR R) (h : f_X2_countWrong I x1 x2 = some v) : bm_C lc m_X2_countWrong d n n [.ref 1, .int x1, .int x2] (I, J, R, W) (fun r M' => r = some (.int v) ∧ M' = (I, J, R, W)) := by
  refine bm_C.ofV (by decide) (Nat.le_of_ble_eq_true rfl) ?_
  show bm_V lc m_X2_countWrong d n n n 0 [(0, .ref 1), (1, .int x1), (2, .int x2)] [] (I, J, R, W) _
  unfold f_X2_countWrong at h
  refine bv_iconst (v := 0) dX2_countWrong_0 (by decide) ?_
  refine bv_istore_n (ls1 := [(0, .ref 1), (1, .int x1), (2, .int x2), (3, .int 0)]) dX2_countWrong_1 (by decide) rfl rfl ?_
  refine bv_iconst (v := 0) dX2_countWrong_2 (by decide) ?_
  refine bv_istore (ls1 := [(0, .ref 1), (1, .int x1), (2, .int x2), (3, .int 0), (4, .int 0)]) dX2_countWrong_3 (by decide) rfl rfl ?_
  obtain ⟨r1, p2, h⟩ := bu_bd h
  refine v_X2_countWrong_l5 hN hR 1000 _ _ _ p2 (fun y3 hy => ?_)
  · subst hy
    refine bv_iload_n dX2_countWrong_54 0 rfl ?_
    obtain rfl := Option.some.inj h
    exact bv_iret (x := y3) dX2_countWrong_55 rfl ⟨rfl, rfl⟩
def f_X9_isPairs (I : bm_TI) (x1 : Int32) : Option (Bool) := (if (I 1 1) < 2 then some false else (if (2 * x1) < (I 1 1) then some false else (if (bm_rem (I 1 1) 2) = 0 then some true else some false)))
set_option maxHeartbeats 4000000 in
set_option maxRecDepth 100000 in
theorem c_X9_isPairs {lc : bm_L} {d n : Nat} {I : bm_TI} {J : bm_TJ} {R W : bm_TR} {x1 : Int32} {v : Bool} (hN : 181 ≤ n) (hR : bm_RR R) (h : f_X9_isPairs I x1 = some v) : bm_C lc m_X9_isPairs d n n [.ref 1, .int x1] (I, J, R, W) (fun r M' => r = some (.int (bm_bi v)) ∧ M' = (I, J, R, W)) := by
  refine bm_C.ofV (by decide) (Nat.le_of_ble_eq_true rfl) ?_
  show bm_V lc m_X9_isPairs d n n n 0 [(0, .ref 1), (1, .int x1)] [] (I, J, R, W) _
  unfold f_X9_isPairs at h
  refine bv_aload_n dX9_isPairs_0 0 rfl ?_
  refine bz_getI hN okL_1 dX9_isPairs_1 fl_9_15 rfl ?_
  refine bv_iconst (v := 2) dX9_isPairs_4 (by decide) ?_
  refine bv_icmp_lt (tgt := 31) dX9_isPairs_5 (by decide) (fun cc => ?_) (fun cc => ?_)
  · replace h := bu_t h cc
    refine bv_iconst (v := 0) dX9_isPairs_31 (by decide) ?_
    obtain rfl := Option.some.inj h
    exact bw_bret (b := false) dX9_isPairs_32 rfl ⟨rfl, rfl⟩
  · replace h := bu_f h cc
    refine bv_aload_n dX9_isPairs_8 0 rfl ?_
    refine bz_getI hN okL_1 dX9_isPairs_9 fl_9_15 rfl ?_
    refine bv_iconst (v := 2) dX9_isPairs_12 (by decide) ?_
    refine bv_iload_n dX9_isPairs_13 1 rfl ?_
    refine bv_imul dX9_isPairs_14 ?_
    refine bv_icmp_gt (tgt := 31) dX9_isPairs_15 (by decide) (fun cc => ?_) (fun cc => ?_)
    · replace h := bu_t h cc
      refine bv_iconst (v := 0) dX9_isPairs_31 (by decide) ?_
      obtain rfl := Option.some.inj h
      exact bw_bret (b := false) dX9_isPairs_32 rfl ⟨rfl, rfl⟩
    · replace h := bu_f h cc
      refine bv_aload_n dX9_isPairs_18 0 rfl ?_
      refine bz_getI hN okL_1 dX9_isPairs_19 fl_9_15 rfl ?_
      refine bv_iconst (v := 2) dX9_isPairs_22 (by decide) ?_
      refine bv_irem dX9_isPairs_23 (by decide) ?_
      refine bv_if_ne (tgt := 31) dX9_isPairs_24 (by decide) (fun cc => ?_) (fun cc => ?_)
      · replace h := bu_f h cc
        refine bv_iconst (v := 0) dX9_isPairs_31 (by decide) ?_
        obtain rfl := Option.some.inj h
        exact bw_bret (b := false) dX9_isPairs_32 rfl ⟨rfl, rfl⟩
      · replace h := bu_t h cc
        refine bv_iconst (v := 1) dX9_isPairs_27 (by decide) ?_
        refine bv_goto (tgt := 32) dX9_isPairs_28 (by decide) ?_
        obtain rfl := Option.some.inj h
        exact bw_bret (b := true) dX9_isPairs_32 rfl ⟨rfl, rfl⟩
def f_X2_isAsTold_l13 (I : bm_TI) : Nat → Int32 → Option (((Unit) ⊕ (Unit)))
  | 0, _ => none
  | k + 1, x1 => (if (I 1 1) ≤ x1 then some (Sum.inr ()) else (if bm_ix 940 x1 = true then (if (I 2 x1.toNatClampNeg) ≤ 3 then f_X2_isAsTold_l13 I k (x1 + 1) else some (Sum.inl ())) else none))
set_option maxHeartbeats 4000000 in
set_option maxRecDepth 100000 in
theorem v_X2_isAsTold_l13 {lc : bm_L} {d n : Nat} {Q : Option Value → bm_M → Prop} {R : bm_TR} {I : bm_TI} {J : bm_TJ} {W : bm_TR} (hN : 181 ≤ n) (hR : bm_RR R) : ∀ (k : Nat) (x1 : Int32) (r : ((Unit) ⊕ (Unit))), f_X2_isAsTold_l13 I k x1 = some r → (∀ yy, (Sum.inl yy) = r → bm_V lc m_X2_isAsTold (d + 1) n n n 31 [] [] (I, J, R, W) Q) → (∀ yy, (Sum.inr yy) = r → bm_V lc m_X2_isAsTold (d + 1) n n n 39 [] [] (I, J, R, W) Q) → bm_V lc m_X2_isAsTold (d + 1) n n n 13 [(0, .ref 1), (1, .int x1)] [] (I, J, R, W) Q := by
  intro k
  induction k with
  | zero => intro x1 r h; cases (show (none : Option (((Unit) ⊕ (Unit)))) = some r from h)
  | succ k ih =>
    intro x1 r h K0 K1
    unfold f_X2_isAsTold_l13 at h
    refine bv_iload_n dX2_isAsTold_13 1 rfl ?_
    refine bv_aload_n dX2_isAsTold_14 0 rfl ?_
    refine bz_getI hN okL_1 dX2_isAsTold_15 fl_2_27 rfl ?_
    refine bv_icmp_ge (tgt := 39) dX2_isAsTold_18 (by decide) (fun cc => ?_) (fun cc => ?_)
    · replace h := bu_t h cc
      refine bw_ls (ls1 := []) [] rfl ?_
      obtain rfl := Option.some.inj h
      exact K1 _ rfl
    · replace h := bu_f h cc
      refine bv_aload_n dX2_isAsTold_21 0 rfl ?_
      refine bz_getA (a := 2) hN okL_1 (hR _ _ _ r0_1_0) dX2_isAsTold_22 fl_2_51 rfl ?_
      refine bv_iload_n dX2_isAsTold_25 1 rfl ?_
      obtain ⟨r1, h⟩ := bu_ix h
      refine bz_iald hN rkL_2 r1 rfl dX2_isAsTold_26 ?_
      refine bv_iconst (v := 3) dX2_isAsTold_27 (by decide) ?_
      refine bv_icmp_le (tgt := 33) dX2_isAsTold_28 (by decide) (fun cc => ?_) (fun cc => ?_)
      · replace h := bu_t h cc
        refine bv_iinc (j := 1) (v := (x1 + 1)) (ls1 := [(0, .ref 1), (1, .int (x1 + 1))]) dX2_isAsTold_33 rfl rfl (by decide) rfl rfl ?_
        refine bv_goto (tgt := 13) dX2_isAsTold_36 (by decide) ?_
        exact ih _ _ h K0 K1
      · replace h := bu_f h cc
        refine bw_ls (ls1 := []) [] rfl ?_
        obtain rfl := Option.some.inj h
        exact K0 _ rfl
def f_X2_isAsTold (I : bm_TI) : Option (Bool) := ((f_X9_isPairs I 6).bind fun v1 => (if v1 = true then ((f_X2_isAsTold_l13 I 1000 0).bind fun rr => match rr with | (Sum.inl y5) => some false | (Sum.inr y5) => some true) else some false))
set_option maxHeartbeats 4000000 in
set_option maxRecDepth 100000 in
theorem c_X2_isAsTold {lc : bm_L} {d n : Nat} {I : bm_TI} {J : bm_TJ} {R W : bm_TR} {v : Bool} (hN : 181 ≤ n) (hR : bm_RR R) (h : f_X2_isAsTold I = some v) : bm_C lc m_X2_isAsTold (d + 1) n n [.ref 1] (I, J, R, W) (fun r M' => r = some (.int (bm_bi v)) ∧ M' = (I, J, R, W)) := by
  refine bm_C.ofV (by decide) (Nat.le_of_ble_eq_true rfl) ?_
  show bm_V lc m_X2_isAsTold (d + 1) n n n 0 [(0, .ref 1)] [] (I, J, R, W) _
  unfold f_X2_isAsTold at h
  refine bv_aload_n dX2_isAsTold_0 0 rfl ?_
  refine bv_bipush (v := 6) dX2_isAsTold_1 (by decide) ?_
  obtain ⟨v1, p2, h⟩ := bu_bd h
  refine bw_callV (As := [.int 6]) hN okL_1 ⟨_, _, rfl⟩ dX2_isAsTold_3 mc_2_47 (c_X9_isPairs (d := d + 0) hN hR p2) rfl rfl (by decide) ?_
  refine bw_ifB_ne (b := v1) (tgt := 11) dX2_isAsTold_6 (by decide) (fun cc => ?_) (fun cc => ?_)
  · replace h := bu_bt h cc
    refine bv_iconst (v := 0) dX2_isAsTold_11 (by decide) ?_
    refine bv_istore_n (ls1 := [(0, .ref 1), (1, .int 0)]) dX2_isAsTold_12 (by decide) rfl rfl ?_
    obtain ⟨r3, p4, h⟩ := bu_bd h
    refine v_X2_isAsTold_l13 hN hR 1000 _ _ p4 (fun y5 hy => ?_) (fun y5 hy => ?_)
    · subst hy
      refine bv_iconst (v := 0) dX2_isAsTold_31 (by decide) ?_
      obtain rfl := Option.some.inj h
      exact bw_bret (b := false) dX2_isAsTold_32 rfl ⟨rfl, rfl⟩
    · subst hy
      refine bv_iconst (v := 1) dX2_isAsTold_39 (by decide) ?_
      obtain rfl := Option.some.inj h
      exact bw_bret (b := true) dX2_isAsTold_40 rfl ⟨rfl, rfl⟩
  · replace h := bu_bf h cc
    refine bv_iconst (v := 0) dX2_isAsTold_9 (by decide) ?_
    obtain rfl := Option.some.inj h
    exact bw_bret (b := false) dX2_isAsTold_10 rfl ⟨rfl, rfl⟩
