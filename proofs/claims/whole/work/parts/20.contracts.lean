theorem bm_rf_cat (x : Option Nat) : (va_rf x).category = 1 := by cases x <;> rfl
def f_X0_copyFrom (M : bm_M) (x0 : Nat) (x1 : Nat) : Option (bm_M) := (if bm_io x1 0 then ((M.2.2 x1 0).bind fun a2 => (if bm_io x0 0 then ((M.2.2 x0 0).bind fun a5 => (if bm_ic a2 2 0 8 = true then (if bm_ic a5 2 0 8 = true then ((M.2.2 x1 1).bind fun a9 => ((M.2.2 x0 1).bind fun a11 => (if bm_ic a9 0 0 8 = true then (if bm_ic a11 0 0 8 = true then ((M.2.2 x1 2).bind fun a15 => ((M.2.2 x0 2).bind fun a17 => (if bm_ic a15 0 0 8 = true then (if bm_ic a17 0 0 8 = true then ((M.2.2 x1 3).bind fun a21 => ((M.2.2 x0 3).bind fun a23 => (if bm_ic a21 0 0 8 = true then (if bm_ic a23 0 0 8 = true then ((M.2.2 x1 4).bind fun a27 => ((M.2.2 x0 4).bind fun a29 => (if bm_ic a27 0 0 8 = true then (if bm_ic a29 0 0 8 = true then ((M.2.2 x1 5).bind fun a33 => ((M.2.2 x0 5).bind fun a35 => (if bm_ic a33 2 0 7 = true then (if bm_ic a35 2 0 7 = true then ((M.2.2 x1 6).bind fun a39 => ((M.2.2 x0 6).bind fun a41 => (if bm_ic a39 0 0 7 = true then (if bm_ic a41 0 0 7 = true then ((M.2.2 x1 7).bind fun a45 => ((M.2.2 x0 7).bind fun a47 => (if bm_ic a45 0 0 7 = true then (if bm_ic a47 0 0 7 = true then ((M.2.2 x1 8).bind fun a51 => ((M.2.2 x0 8).bind fun a53 => (if bm_ic a51 0 0 4 = true then (if bm_ic a53 0 0 4 = true then ((M.2.2 x1 9).bind fun a57 => ((M.2.2 x0 9).bind fun a59 => (if bm_ic a57 0 0 4 = true then (if bm_ic a59 0 0 4 = true then some (bm_sI (bm_sI (bm_sI (bm_sI (bm_sI (bm_sI (bm_sI (bm_cI (bm_cI (bm_cI (bm_cI (bm_cL (bm_cI (bm_cI (bm_cI (bm_cI (bm_cL M a2 a5 (0 : Int32).toNatClampNeg (0 : Int32).toNatClampNeg (8 : Int32).toNatClampNeg) a9 a11 (0 : Int32).toNatClampNeg (0 : Int32).toNatClampNeg (8 : Int32).toNatClampNeg) a15 a17 (0 : Int32).toNatClampNeg (0 : Int32).toNatClampNeg (8 : Int32).toNatClampNeg) a21 a23 (0 : Int32).toNatClampNeg (0 : Int32).toNatClampNeg (8 : Int32).toNatClampNeg) a27 a29 (0 : Int32).toNatClampNeg (0 : Int32).toNatClampNeg (8 : Int32).toNatClampNeg) a33 a35 (0 : Int32).toNatClampNeg (0 : Int32).toNatClampNeg (7 : Int32).toNatClampNeg) a39 a41 (0 : Int32).toNatClampNeg (0 : Int32).toNatClampNeg (7 : Int32).toNatClampNeg) a45 a47 (0 : Int32).toNatClampNeg (0 : Int32).toNatClampNeg (7 : Int32).toNatClampNeg) a51 a53 (0 : Int32).toNatClampNeg (0 : Int32).toNatClampNeg (4 : Int32).toNatClampNeg) a57 a59 (0 : Int32).toNatClampNeg (0 : Int32).toNatClampNeg (4 : Int32).toNatClampNeg) x0 10 ((bm_cI (bm_cI (bm_cI (bm_cI (bm_cL (bm_cI (bm_cI (bm_cI (bm_cI (bm_cL M a2 a5 (0 : Int32).toNatClampNeg (0 : Int32).toNatClampNeg (8 : Int32).toNatClampNeg) a9 a11 (0 : Int32).toNatClampNeg (0 : Int32).toNatClampNeg (8 : Int32).toNatClampNeg) a15 a17 (0 : Int32).toNatClampNeg (0 : Int32).toNatClampNeg (8 : Int32).toNatClampNeg) a21 a23 (0 : Int32).toNatClampNeg (0 : Int32).toNatClampNeg (8 : Int32).toNatClampNeg) a27 a29 (0 : Int32).toNatClampNeg (0 : Int32).toNatClampNeg (8 : Int32).toNatClampNeg) a33 a35 (0 : Int32).toNatClampNeg (0 : Int32).toNatClampNeg (7 : Int32).toNatClampNeg) a39 a41 (0 : Int32).toNatClampNeg (0 : Int32).toNatClampNeg (7 : Int32).toNatClampNeg) a45 a47 (0 : Int32).toNatClampNeg (0 : Int32).toNatClampNeg (7 : Int32).toNatClampNeg) a51 a53 (0 : Int32).toNatClampNeg (0 : Int32).toNatClampNeg (4 : Int32).toNatClampNeg) a57 a59 (0 : Int32).toNatClampNeg (0 : Int32).toNatClampNeg (4 : Int32).toNatClampNeg).1 x1 10)) x0 11 ((bm_sI (bm_cI (bm_cI (bm_cI (bm_cI (bm_cL (bm_cI (bm_cI (bm_cI (bm_cI (bm_cL M a2 a5 (0 : Int32).toNatClampNeg (0 : Int32).toNatClampNeg (8 : Int32).toNatClampNeg) a9 a11 (0 : Int32).toNatClampNeg (0 : Int32).toNatClampNeg (8 : Int32).toNatClampNeg) a15 a17 (0 : Int32).toNatClampNeg (0 : Int32).toNatClampNeg (8 : Int32).toNatClampNeg) a21 a23 (0 : Int32).toNatClampNeg (0 : Int32).toNatClampNeg (8 : Int32).toNatClampNeg) a27 a29 (0 : Int32).toNatClampNeg (0 : Int32).toNatClampNeg (8 : Int32).toNatClampNeg) a33 a35 (0 : Int32).toNatClampNeg (0 : Int32).toNatClampNeg (7 : Int32).toNatClampNeg) a39 a41 (0 : Int32).toNatClampNeg (0 : Int32).toNatClampNeg (7 : Int32).toNatClampNeg) a45 a47 (0 : Int32).toNatClampNeg (0 : Int32).toNatClampNeg (7 : Int32).toNatClampNeg) a51 a53 (0 : Int32).toNatClampNeg (0 : Int32).toNatClampNeg (4 : Int32).toNatClampNeg) a57 a59 (0 : Int32).toNatClampNeg (0 : Int32).toNatClampNeg (4 : Int32).toNatClampNeg) x0 10 ((bm_cI (bm_cI (bm_cI (bm_cI (bm_cL (bm_cI (bm_cI (bm_cI (bm_cI (bm_cL M a2 a5 (0 : Int32).toNatClampNeg (0 : Int32).toNatClampNeg (8 : Int32).toNatClampNeg) a9 a11 (0 : Int32).toNatClampNeg (0 : Int32).toNatClampNeg (8 : Int32).toNatClampNeg) a15 a17 (0 : Int32).toNatClampNeg (0 : Int32).toNatClampNeg (8 : Int32).toNatClampNeg) a21 a23 (0 : Int32).toNatClampNeg (0 : Int32).toNatClampNeg (8 : Int32).toNatClampNeg) a27 a29 (0 : Int32).toNatClampNeg (0 : Int32).toNatClampNeg (8 : Int32).toNatClampNeg) a33 a35 (0 : Int32).toNatClampNeg (0 : Int32).toNatClampNeg (7 : Int32).toNatClampNeg) a39 a41 (0 : Int32).toNatClampNeg (0 : Int32).toNatClampNeg (7 : Int32).toNatClampNeg) a45 a47 (0 : Int32).toNatClampNeg (0 : Int32).toNatClampNeg (7 : Int32).toNatClampNeg) a51 a53 (0 : Int32).toNatClampNeg (0 : Int32).toNatClampNeg (4 : Int32).toNatClampNeg) a57 a59 (0 : Int32).toNatClampNeg (0 : Int32).toNatClampNeg (4 : Int32).toNatClampNeg).1 x1 10)).1 x1 11)) x0 12 ((bm_sI (bm_sI (bm_cI (bm_cI (bm_cI (bm_cI (bm_cL (bm_cI (bm_cI (bm_cI (bm_cI (bm_cL M a2 a5 (0 : Int32).toNatClampNeg (0 : Int32).toNatClampNeg (8 : Int32).toNatClampNeg) a9 a11 (0 : Int32).toNatClampNeg (0 : Int32).toNatClampNeg (8 : Int32).toNatClampNeg) a15 a17 (0 : Int32).toNatClampNeg (0 : Int32).toNatClampNeg (8 : Int32).toNatClampNeg) a21 a23 (0 : Int32).toNatClampNeg (0 : Int32).toNatClampNeg (8 : Int32).toNatClampNeg) a27 a29 (0 : Int32).toNatClampNeg (0 : Int32).toNatClampNeg (8 : Int32).toNatClampNeg) a33 a35 (0 : Int32).toNatClampNeg (0 : Int32).toNatClampNeg (7 : Int32).toNatClampNeg) a39 a41 (0 : Int32).toNatClampNeg (0 : Int32).toNatClampNeg (7 : Int32).toNatClampNeg) a45 a47 (0 : Int32).toNatClampNeg (0 : Int32).toNatClampNeg (7 : Int32).toNatClampNeg) a51 a53 (0 : Int32).toNatClampNeg (0 : Int32).toNatClampNeg (4 : Int32).toNatClampNeg) a57 a59 (0 : Int32).toNatClampNeg (0 : Int32).toNatClampNeg (4 : Int32).toNatClampNeg) x0 10 ((bm_cI (bm_cI (bm_cI (bm_cI (bm_cL (bm_cI (bm_cI (bm_cI (bm_cI (bm_cL M a2 a5 (0 : Int32).toNatClampNeg (0 : Int32).toNatClampNeg (8 : Int32).toNatClampNeg) a9 a11 (0 : Int32).toNatClampNeg (0 : Int32).toNatClampNeg (8 : Int32).toNatClampNeg) a15 a17 (0 : Int32).toNatClampNeg (0 : Int32).toNatClampNeg (8 : Int32).toNatClampNeg) a21 a23 (0 : Int32).toNatClampNeg (0 : Int32).toNatClampNeg (8 : Int32).toNatClampNeg) a27 a29 (0 : Int32).toNatClampNeg (0 : Int32).toNatClampNeg (8 : Int32).toNatClampNeg) a33 a35 (0 : Int32).toNatClampNeg (0 : Int32).toNatClampNeg (7 : Int32).toNatClampNeg) a39 a41 (0 : Int32).toNatClampNeg (0 : Int32).toNatClampNeg (7 : Int32).toNatClampNeg) a45 a47 (0 : Int32).toNatClampNeg (0 : Int32).toNatClampNeg (7 : Int32).toNatClampNeg) a51 a53 (0 : Int32).toNatClampNeg (0 : Int32).toNatClampNeg (4 : Int32).toNatClampNeg) a57 a59 (0 : Int32).toNatClampNeg (0 : Int32).toNatClampNeg (4 : Int32).toNatClampNeg).1 x1 10)) x0 11 ((bm_sI (bm_cI (bm_cI (bm_cI (bm_cI (bm_cL (bm_cI (bm_cI (bm_cI (bm_cI (bm_cL M a2 a5 (0 : Int32).toNatClampNeg (0 : Int32).toNatClampNeg (8 : Int32).toNatClampNeg) a9 a11 (0 : Int32).toNatClampNeg (0 : Int32).toNatClampNeg (8 : Int32).toNatClampNeg) a15 a17 (0 : Int32).toNatClampNeg (0 : Int32).toNatClampNeg (8 : Int32).toNatClampNeg) a21 a23 (0 : Int32).toNatClampNeg (0 : Int32).toNatClampNeg (8 : Int32).toNatClampNeg) a27 a29 (0 : Int32).toNatClampNeg (0 : Int32).toNatClampNeg (8 : Int32).toNatClampNeg) a33 a35 (0 : Int32).toNatClampNeg (0 : Int32).toNatClampNeg (7 : Int32).toNatClampNeg) a39 a41 (0 : Int32).toNatClampNeg (0 : Int32).toNatClampNeg (7 : Int32).toNatClampNeg) a45 a47 (0 : Int32).toNatClampNeg (0 : Int32).toNatClampNeg (7 : Int32).toNatClampNeg) a51 a53 (0 : Int32).toNatClampNeg (0 : Int32).toNatClampNeg (4 : Int32).toNatClampNeg) a57 a59 (0 : Int32).toNatClampNeg (0 : Int32).toNatClampNeg (4 : Int32).toNatClampNeg) x0 10 ((bm_cI (bm_cI (bm_cI (bm_cI (bm_cL (bm_cI (bm_cI (bm_cI (bm_cI (bm_cL M a2 a5 (0 : Int32).toNatClampNeg (0 : Int32).toNatClampNeg (8 : Int32).toNatClampNeg) a9 a11 (0 : Int32).toNatClampNeg (0 : Int32).toNatClampNeg (8 : Int32).toNatClampNeg) a15 a17 (0 : Int32).toNatClampNeg (0 : Int32).toNatClampNeg (8 : Int32).toNatClampNeg) a21 a23 (0 : Int32).toNatClampNeg (0 : Int32).toNatClampNeg (8 : Int32).toNatClampNeg) a27 a29 (0 : Int32).toNatClampNeg (0 : Int32).toNatClampNeg (8 : Int32).toNatClampNeg) a33 a35 (0 : Int32).toNatClampNeg (0 : Int32).toNatClampNeg (7 : Int32).toNatClampNeg) a39 a41 (0 : Int32).toNatClampNeg (0 : Int32).toNatClampNeg (7 : Int32).toNatClampNeg) a45 a47 (0 : Int32).toNatClampNeg (0 : Int32).toNatClampNeg (7 : Int32).toNatClampNeg) a51 a53 (0 : Int32).toNatClampNeg (0 : Int32).toNatClampNeg (4 : Int32).toNatClampNeg) a57 a59 (0 : Int32).toNatClampNeg (0 : Int32).toNatClampNeg (4 : Int32).toNatClampNeg).1 x1 10)).1 x1 11)).1 x1 12)) x0 13 ((bm_sI (bm_sI (bm_sI (bm_cI (bm_cI (bm_cI (bm_cI (bm_cL (bm_cI (bm_cI (bm_cI (bm_cI (bm_cL M a2 a5 (0 : Int32).toNatClampNeg (0 : Int32).toNatClampNeg (8 : Int32).toNatClampNeg) a9 a11 (0 : Int32).toNatClampNeg (0 : Int32).toNatClampNeg (8 : Int32).toNatClampNeg) a15 a17 (0 : Int32).toNatClampNeg (0 : Int32).toNatClampNeg (8 : Int32).toNatClampNeg) a21 a23 (0 : Int32).toNatClampNeg (0 : Int32).toNatClampNeg (8 : Int32).toNatClampNeg) a27 a29 (0 : Int32).toNatClampNeg (0 : Int32).toNatClampNeg (8 : Int32).toNatClampNeg) a33 a35 (0 : Int32).toNatClampNeg (0 : Int32).toNatClampNeg (7 : Int32).toNatClampNeg) a39 a41 (0 : Int32).toNatClampNeg (0 : Int32).toNatClampNeg (7 : Int32).toNatClampNeg) a45 a47 (0 : Int32).toNatClampNeg (0 : Int32).toNatClampNeg (7 : Int32).toNatClampNeg) a51 a53 (0 : Int32).toNatClampNeg (0 : Int32).toNatClampNeg (4 : Int32).toNatClampNeg) a57 a59 (0 : Int32).toNatClampNeg (0 : Int32).toNatClampNeg (4 : Int32).toNatClampNeg) x0 10 ((bm_cI (bm_cI (bm_cI (bm_cI (bm_cL (bm_cI (bm_cI (bm_cI (bm_cI (bm_cL M a2 a5 (0 : Int32).toNatClampNeg (0 : Int32).toNatClampNeg (8 : Int32).toNatClampNeg) a9 a11 (0 : Int32).toNatClampNeg (0 : Int32).toNatClampNeg (8 : Int32).toNatClampNeg) a15 a17 (0 : Int32).toNatClampNeg (0 : Int32).toNatClampNeg (8 : Int32).toNatClampNeg) a21 a23 (0 : Int32).toNatClampNeg (0 : Int32).toNatClampNeg (8 : Int32).toNatClampNeg) a27 a29 (0 : Int32).toNatClampNeg (0 : Int32).toNatClampNeg (8 : Int32).toNatClampNeg) a33 a35 (0 : Int32).toNatClampNeg (0 : Int32).toNatClampNeg (7 : Int32).toNatClampNeg) a39 a41 (0 : Int32).toNatClampNeg (0 : Int32).toNatClampNeg (7 : Int32).toNatClampNeg) a45 a47 (0 : Int32).toNatClampNeg (0 : Int32).toNatClampNeg (7 : Int32).toNatClampNeg) a51 a53 (0 : Int32).toNatClampNeg (0 : Int32).toNatClampNeg (4 : Int32).toNatClampNeg) a57 a59 (0 : Int32).toNatClampNeg (0 : Int32).toNatClampNeg (4 : Int32).toNatClampNeg).1 x1 10)) x0 11 ((bm_sI (bm_cI (bm_cI (bm_cI (bm_cI (bm_cL (bm_cI (bm_cI (bm_cI (bm_cI (bm_cL M a2 a5 (0 : Int32).toNatClampNeg (0 : Int32).toNatClampNeg (8 : Int32).toNatClampNeg) a9 a11 (0 : Int32).toNatClampNeg (0 : Int32).toNatClampNeg (8 : Int32).toNatClampNeg) a15 a17 (0 : Int32).toNatClampNeg (0 : Int32).toNatClampNeg (8 : Int32).toNatClampNeg) a21 a23 (0 : Int32).toNatClampNeg (0 : Int32).toNatClampNeg (8 : Int32).toNatClampNeg) a27 a29 (0 : Int32).toNatClampNeg (0 : Int32).toNatClampNeg (8 : Int32).toNatClampNeg) a33 a35 (0 : Int32).toNatClampNeg (0 : Int32).toNatClampNeg (7 : Int32).toNatClampNeg) a39 a41 (0 : Int32).toNatClampNeg (0 : Int32).toNatClampNeg (7 : Int32).toNatClampNeg) a45 a47 (0 : Int32).toNatClampNeg (0 : Int32).toNatClampNeg (7 : Int32).toNatClampNeg) a51 a53 (0 : Int32).toNatClampNeg (0 : Int32).toNatClampNeg (4 : Int32).toNatClampNeg) a57 a59 (0 : Int32).toNatClampNeg (0 : Int32).toNatClampNeg (4 : Int32).toNatClampNeg) x0 10 ((bm_cI (bm_cI (bm_cI (bm_cI (bm_cL (bm_cI (bm_cI (bm_cI (bm_cI (bm_cL M a2 a5 (0 : Int32).toNatClampNeg (0 : Int32).toNatClampNeg (8 : Int32).toNatClampNeg) a9 a11 (0 : Int32).toNatClampNeg (0 : Int32).toNatClampNeg (8 : Int32).toNatClampNeg) a15 a17 (0 : Int32).toNatClampNeg (0 : Int32).toNatClampNeg (8 : Int32).toNatClampNeg) a21 a23 (0 : Int32).toNatClampNeg (0 : Int32).toNatClampNeg (8 : Int32).toNatClampNeg) a27 a29 (0 : Int32).toNatClampNeg (0 : Int32).toNatClampNeg (8 : Int32).toNatClampNeg) a33 a35 (0 : Int32).toNatClampNeg (0 : Int32).toNatClampNeg (7 : Int32).toNatClampNeg) a39 a41 (0 : Int32).toNatClampNeg (0 : Int32).toNatClampNeg (7 : Int32).toNatClampNeg) a45 a47 (0 : Int32).toNatClampNeg (0 : Int32).toNatClampNeg (7 : Int32).toNatClampNeg) a51 a53 (0 : Int32).toNatClampNeg (0 : Int32).toNatClampNeg (4 : Int32).toNatClampNeg) a57 a59 (0 : Int32).toNatClampNeg (0 : Int32).toNatClampNeg (4 : Int32).toNatClampNeg).1 x1 10)).1 x1 11)) x0 12 ((bm_sI (bm_sI (bm_cI (bm_cI (bm_cI (bm_cI (bm_cL (bm_cI (bm_cI (bm_cI (bm_cI (bm_cL M a2 a5 (0 : Int32).toNatClampNeg (0 : Int32).toNatClampNeg (8 : Int32).toNatClampNeg) a9 a11 (0 : Int32).toNatClampNeg (0 : Int32).toNatClampNeg (8 : Int32).toNatClampNeg) a15 a17 (0 : Int32).toNatClampNeg (0 : Int32).toNatClampNeg (8 : Int32).toNatClampNeg) a21 a23 (0 : Int32).toNatClampNeg (0 : Int32).toNatClampNeg (8 : Int32).toNatClampNeg) a27 a29 (0 : Int32).toNatClampNeg (0 : Int32).toNatClampNeg (8 : Int32).toNatClampNeg) a33 a35 (0 : Int32).toNatClampNeg (0 : Int32).toNatClampNeg (7 : Int32).toNatClampNeg) a39 a41 (0 : Int32).toNatClampNeg (0 : Int32).toNatClampNeg (7 : Int32).toNatClampNeg) a45 a47 (0 : Int32).toNatClampNeg (0 : Int32).toNatClampNeg (7 : Int32).toNatClampNeg) a51 a53 (0 : Int32).toNatClampNeg (0 : Int32).toNatClampNeg (4 : Int32).toNatClampNeg) a57 a59 (0 : Int32).toNatClampNeg (0 : Int32).toNatClampNeg (4 : Int32).toNatClampNeg) x0 10 ((bm_cI (bm_cI (bm_cI (bm_cI (bm_cL (bm_cI (bm_cI (bm_cI (bm_cI (bm_cL M a2 a5 (0 : Int32).toNatClampNeg (0 : Int32).toNatClampNeg (8 : Int32).toNatClampNeg) a9 a11 (0 : Int32).toNatClampNeg (0 : Int32).toNatClampNeg (8 : Int32).toNatClampNeg) a15 a17 (0 : Int32).toNatClampNeg (0 : Int32).toNatClampNeg (8 : Int32).toNatClampNeg) a21 a23 (0 : Int32).toNatClampNeg (0 : Int32).toNatClampNeg (8 : Int32).toNatClampNeg) a27 a29 (0 : Int32).toNatClampNeg (0 : Int32).toNatClampNeg (8 : Int32).toNatClampNeg) a33 a35 (0 : Int32).toNatClampNeg (0 : Int32).toNatClampNeg (7 : Int32).toNatClampNeg) a39 a41 (0 : Int32).toNatClampNeg (0 : Int32).toNatClampNeg (7 : Int32).toNatClampNeg) a45 a47 (0 : Int32).toNatClampNeg (0 : Int32).toNatClampNeg (7 : Int32).toNatClampNeg) a51 a53 (0 : Int32).toNatClampNeg (0 : Int32).toNatClampNeg (4 : Int32).toNatClampNeg) a57 a59 (0 : Int32).toNatClampNeg (0 : Int32).toNatClampNeg (4 : Int32).toNatClampNeg).1 x1 10)) x0 11 ((bm_sI (bm_cI (bm_cI (bm_cI (bm_cI (bm_cL (bm_cI (bm_cI (bm_cI (bm_cI (bm_cL M a2 a5 (0 : Int32).toNatClampNeg (0 : Int32).toNatClampNeg (8 : Int32).toNatClampNeg) a9 a11 (0 : Int32).toNatClampNeg (0 : Int32).toNatClampNeg (8 : Int32).toNatClampNeg) a15 a17 (0 : Int32).toNatClampNeg (0 : Int32).toNatClampNeg (8 : Int32).toNatClampNeg) a21 a23 (0 : Int32).toNatClampNeg (0 : Int32).toNatClampNeg (8 : Int32).toNatClampNeg) a27 a29 (0 : Int32).toNatClampNeg (0 : Int32).toNatClampNeg (8 : Int32).toNatClampNeg) a33 a35 (0 : Int32).toNatClampNeg (0 : Int32).toNatClampNeg (7 : Int32).toNatClampNeg) a39 a41 (0 : Int32).toNatClampNeg (0 : Int32).toNatClampNeg (7 : Int32).toNatClampNeg) a45 a47 (0 : Int32).toNatClampNeg (0 : Int32).toNatClampNeg (7 : Int32).toNatClampNeg) a51 a53 (0 : Int32).toNatClampNeg (0 : Int32).toNatClampNeg (4 : Int32).toNatClampNeg) a57 a59 (0 : Int32).toNatClampNeg (0 : Int32).toNatClampNeg (4 : Int32).toNatClampNeg) x0 10 ((bm_cI (bm_cI (bm_cI (bm_cI (bm_cL (bm_cI (bm_cI (bm_cI (bm_cI (bm_cL M a2 a5 (0 : Int32).toNatClampNeg (0 : Int32).toNatClampNeg (8 : Int32).toNatClampNeg) a9 a11 (0 : Int32).toNatClampNeg (0 : Int32).toNatClampNeg (8 : Int32).toNatClampNeg) a15 a17 (0 : Int32).toNatClampNeg (0 : Int32).toNatClampNeg (8 : Int32).toNatClampNeg) a21 a23 (0 : Int32).toNatClampNeg (0 : Int32).toNatClampNeg (8 : Int32).toNatClampNeg) a27 a29 (0 : Int32).toNatClampNeg (0 : Int32).toNatClampNeg (8 : Int32).toNatClampNeg) a33 a35 (0 : Int32).toNatClampNeg (0 : Int32).toNatClampNeg (7 : Int32).toNatClampNeg) a39 a41 (0 : Int32).toNatClampNeg (0 : Int32).toNatClampNeg (7 : Int32).toNatClampNeg) a45 a47 (0 : Int32).toNatClampNeg (0 : Int32).toNatClampNeg (7 : Int32).toNatClampNeg) a51 a53 (0 : Int32).toNatClampNeg (0 : Int32).toNatClampNeg (4 : Int32).toNatClampNeg) a57 a59 (0 : Int32).toNatClampNeg (0 : Int32).toNatClampNeg (4 : Int32).toNatClampNeg).1 x1 10)).1 x1 11)).1 x1 12)).1 x1 13)) x0 14 ((bm_sI (bm_sI (bm_sI (bm_sI (bm_cI (bm_cI (bm_cI (bm_cI (bm_cL (bm_cI (bm_cI (bm_cI (bm_cI (bm_cL M a2 a5 (0 : Int32).toNatClampNeg (0 : Int32).toNatClampNeg (8 : Int32).toNatClampNeg) a9 a11 (0 : Int32).toNatClampNeg (0 : Int32).toNatClampNeg (8 : Int32).toNatClampNeg) a15 a17 (0 : Int32).toNatClampNeg (0 : Int32).toNatClampNeg (8 : Int32).toNatClampNeg) a21 a23 (0 : Int32).toNatClampNeg (0 : Int32).toNatClampNeg (8 : Int32).toNatClampNeg) a27 a29 (0 : Int32).toNatClampNeg (0 : Int32).toNatClampNeg (8 : Int32).toNatClampNeg) a33 a35 (0 : Int32).toNatClampNeg (0 : Int32).toNatClampNeg (7 : Int32).toNatClampNeg) a39 a41 (0 : Int32).toNatClampNeg (0 : Int32).toNatClampNeg (7 : Int32).toNatClampNeg) a45 a47 (0 : Int32).toNatClampNeg (0 : Int32).toNatClampNeg (7 : Int32).toNatClampNeg) a51 a53 (0 : Int32).toNatClampNeg (0 : Int32).toNatClampNeg (4 : Int32).toNatClampNeg) a57 a59 (0 : Int32).toNatClampNeg (0 : Int32).toNatClampNeg (4 : Int32).toNatClampNeg) x0 10 ((bm_cI (bm_cI (bm_cI (bm_cI (bm_cL (bm_cI (bm_cI (bm_cI (bm_cI (bm_cL M a2 a5 (0 : Int32).toNatClampNeg (0 : Int32).toNatClampNeg (8 : Int32).toNatClampNeg) a9 a11 (0 : Int32).toNatClampNeg (0 : Int32).toNatClampNeg (8 : Int32).toNatClampNeg) a15 a17 (0 : Int32).toNatClampNeg (0 : Int32).toNatClampNeg (8 : Int32).toNatClampNeg) a21 a23 (0 : Int32).toNatClampNeg (0 : Int32).toNatClampNeg (8 : Int32).toNatClampNeg) a27 a29 (0 : Int32).toNatClampNeg (0 : Int32).toNatClampNeg (8 : Int32).toNatClampNeg) a33 a35 (0 : Int32).toNatClampNeg (0 : Int32).toNatClampNeg (7 : Int32).toNatClampNeg) a39 a41 (0 : Int32).toNatClampNeg (0 : Int32).toNatClampNeg (7 : Int32).toNatClampNeg) a45 a47 (0 : Int32).toNatClampNeg (0 : Int32).toNatClampNeg (7 : Int32).toNatClampNeg) a51 a53 (0 : Int32).toNatClampNeg (0 : Int32).toNatClampNeg (4 : Int32).toNatClampNeg) a57 a59 (0 : Int32).toNatClampNeg (0 : Int32).toNatClampNeg (4 : Int32).toNatClampNeg).1 x1 10)) x0 11 ((bm_sI (bm_cI (bm_cI (bm_cI (bm_cI (bm_cL (bm_cI (bm_cI (bm_cI (bm_cI (bm_cL M a2 a5 (0 : Int32).toNatClampNeg (0 : Int32).toNatClampNeg (8 : Int32).toNatClampNeg) a9 a11 (0 : Int32).toNatClampNeg (0 : Int32).toNatClampNeg (8 : Int32).toNatClampNeg) a15 a17 (0 : Int32).toNatClampNeg (0 : Int32).toNatClampNeg (8 : Int32).toNatClampNeg) a21 a23 (0 : Int32).toNatClampNeg (0 : Int32).toNatClampNeg (8 : Int32).toNatClampNeg) a27 a29 (0 : Int32).toNatClampNeg (0 : Int32).toNatClampNeg (8 : Int32).toNatClampNeg) a33 a35 (0 : Int32).toNatClampNeg (0 : Int32).toNatClampNeg (7 : Int32).toNatClampNeg) a39 a41 (0 : Int32).toNatClampNeg (0 : Int32).toNatClampNeg (7 : Int32).toNatClampNeg) a45 a47 (0 : Int32).toNatClampNeg (0 : Int32).toNatClampNeg (7 : Int32).toNatClampNeg) a51 a53 (0 : Int32).toNatClampNeg (0 : Int32).toNatClampNeg (4 : Int32).toNatClampNeg) a57 a59 (0 : Int32).toNatClampNeg (0 : Int32).toNatClampNeg (4 : Int32).toNatClampNeg) x0 10 ((bm_cI (bm_cI (bm_cI (bm_cI (bm_cL (bm_cI (bm_cI (bm_cI (bm_cI (bm_cL M a2 a5 (0 : Int32).toNatClampNeg (0 : Int32).toNatClampNeg (8 : Int32).toNatClampNeg) a9 a11 (0 : Int32).toNatClampNeg (0 : Int32).toNatClampNeg (8 : Int32).toNatClampNeg) a15 a17 (0 : Int32).toNatClampNeg (0 : Int32).toNatClampNeg (8 : Int32).toNatClampNeg) a21 a23 (0 : Int32).toNatClampNeg (0 : Int32).toNatClampNeg (8 : Int32).toNatClampNeg) a27 a29 (0 : Int32).toNatClampNeg (0 : Int32).toNatClampNeg (8 : Int32).toNatClampNeg) a33 a35 (0 : Int32).toNatClampNeg (0 : Int32).toNatClampNeg (7 : Int32).toNatClampNeg) a39 a41 (0 : Int32).toNatClampNeg (0 : Int32).toNatClampNeg (7 : Int32).toNatClampNeg) a45 a47 (0 : Int32).toNatClampNeg (0 : Int32).toNatClampNeg (7 : Int32).toNatClampNeg) a51 a53 (0 : Int32).toNatClampNeg (0 : Int32).toNatClampNeg (4 : Int32).toNatClampNeg) a57 a59 (0 : Int32).toNatClampNeg (0 : Int32).toNatClampNeg (4 : Int32).toNatClampNeg).1 x1 10)).1 x1 11)) x0 12 ((bm_sI (bm_sI (bm_cI (bm_cI (bm_cI (bm_cI (bm_cL (bm_cI (bm_cI (bm_cI (bm_cI (bm_cL M a2 a5 (0 : Int32).toNatClampNeg (0 : Int32).toNatClampNeg (8 : Int32).toNatClampNeg) a9 a11 (0 : Int32).toNatClampNeg (0 : Int32).toNatClampNeg (8 : Int32).toNatClampNeg) a15 a17 (0 : Int32).toNatClampNeg (0 : Int32).toNatClampNeg (8 : Int32).toNatClampNeg) a21 a23 (0 : Int32).toNatClampNeg (0 : Int32).toNatClampNeg (8 : Int32).toNatClampNeg) a27 a29 (0 : Int32).toNatClampNeg (0 : Int32).toNatClampNeg (8 : Int32).toNatClampNeg) a33 a35 (0 : Int32).toNatClampNeg (0 : Int32).toNatClampNeg (7 : Int32).toNatClampNeg) a39 a41 (0 : Int32).toNatClampNeg (0 : Int32).toNatClampNeg (7 : Int32).toNatClampNeg) a45 a47 (0 : Int32).toNatClampNeg (0 : Int32).toNatClampNeg (7 : Int32).toNatClampNeg) a51 a53 (0 : Int32).toNatClampNeg (0 : Int32).toNatClampNeg (4 : Int32).toNatClampNeg) a57 a59 (0 : Int32).toNatClampNeg (0 : Int32).toNatClampNeg (4 : Int32).toNatClampNeg) x0 10 ((bm_cI (bm_cI (bm_cI (bm_cI (bm_cL (bm_cI (bm_cI (bm_cI (bm_cI (bm_cL M a2 a5 (0 : Int32).toNatClampNeg (0 : Int32).toNatClampNeg (8 : Int32).toNatClampNeg) a9 a11 (0 : Int32).toNatClampNeg (0 : Int32).toNatClampNeg (8 : Int32).toNatClampNeg) a15 a17 (0 : Int32).toNatClampNeg (0 : Int32).toNatClampNeg (8 : Int32).toNatClampNeg) a21 a23 (0 : Int32).toNatClampNeg (0 : Int32).toNatClampNeg (8 : Int32).toNatClampNeg) a27 a29 (0 : Int32).toNatClampNeg (0 : Int32).toNatClampNeg (8 : Int32).toNatClampNeg) a33 a35 (0 : Int32).toNatClampNeg (0 : Int32).toNatClampNeg (7 : Int32).toNatClampNeg) a39 a41 (0 : Int32).toNatClampNeg (0 : Int32).toNatClampNeg (7 : Int32).toNatClampNeg) a45 a47 (0 : Int32).toNatClampNeg (0 : Int32).toNatClampNeg (7 : Int32).toNatClampNeg) a51 a53 (0 : Int32).toNatClampNeg (0 : Int32).toNatClampNeg (4 : Int32).toNatClampNeg) a57 a59 (0 : Int32).toNatClampNeg (0 : Int32).toNatClampNeg (4 : Int32).toNatClampNeg).1 x1 10)) x0 11 ((bm_sI (bm_cI (bm_cI (bm_cI (bm_cI (bm_cL (bm_cI (bm_cI (bm_cI (bm_cI (bm_cL M a2 a5 (0 : Int32).toNatClampNeg (0 : Int32).toNatClampNeg (8 : Int32).toNatClampNeg) a9 a11 (0 : Int32).toNatClampNeg (0 : Int32).toNatClampNeg (8 : Int32).toNatClampNeg) a15 a17 (0 : Int32).toNatClampNeg (0 : Int32).toNatClampNeg (8 : Int32).toNatClampNeg) a21 a23 (0 : Int32).toNatClampNeg (0 : Int32).toNatClampNeg (8 : Int32).toNatClampNeg) a27 a29 (0 : Int32).toNatClampNeg (0 : Int32).toNatClampNeg (8 : Int32).toNatClampNeg) a33 a35 (0 : Int32).toNatClampNeg (0 : Int32).toNatClampNeg (7 : Int32).toNatClampNeg) a39 a41 (0 : Int32).toNatClampNeg (0 : Int32).toNatClampNeg (7 : Int32).toNatClampNeg) a45 a47 (0 : Int32).toNatClampNeg (0 : Int32).toNatClampNeg (7 : Int32).toNatClampNeg) a51 a53 (0 : Int32).toNatClampNeg (0 : Int32).toNatClampNeg (4 : Int32).toNatClampNeg) a57 a59 (0 : Int32).toNatClampNeg (0 : Int32).toNatClampNeg (4 : Int32).toNatClampNeg) x0 10 ((bm_cI (bm_cI (bm_cI (bm_cI (bm_cL (bm_cI (bm_cI (bm_cI (bm_cI (bm_cL M a2 a5 (0 : Int32).toNatClampNeg (0 : Int32).toNatClampNeg (8 : Int32).toNatClampNeg) a9 a11 (0 : Int32).toNatClampNeg (0 : Int32).toNatClampNeg (8 : Int32).toNatClampNeg) a15 a17 (0 : Int32).toNatClampNeg (0 : Int32).toNatClampNeg (8 : Int32).toNatClampNeg) a21 a23 (0 : Int32).toNatClampNeg (0 : Int32).toNatClampNeg (8 : Int32).toNatClampNeg) a27 a29 (0 : Int32).toNatClampNeg (0 : Int32).toNatClampNeg (8 : Int32).toNatClampNeg) a33 a35 (0 : Int32).toNatClampNeg (0 : Int32).toNatClampNeg (7 : Int32).toNatClampNeg) a39 a41 (0 : Int32).toNatClampNeg (0 : Int32).toNatClampNeg (7 : Int32).toNatClampNeg) a45 a47 (0 : Int32).toNatClampNeg (0 : Int32).toNatClampNeg (7 : Int32).toNatClampNeg) a51 a53 (0 : Int32).toNatClampNeg (0 : Int32).toNatClampNeg (4 : Int32).toNatClampNeg) a57 a59 (0 : Int32).toNatClampNeg (0 : Int32).toNatClampNeg (4 : Int32).toNatClampNeg).1 x1 10)).1 x1 11)).1 x1 12)) x0 13 ((bm_sI (bm_sI (bm_sI (bm_cI (bm_cI (bm_cI (bm_cI (bm_cL (bm_cI (bm_cI (bm_cI (bm_cI (bm_cL M a2 a5 (0 : Int32).toNatClampNeg (0 : Int32).toNatClampNeg (8 : Int32).toNatClampNeg) a9 a11 (0 : Int32).toNatClampNeg (0 : Int32).toNatClampNeg (8 : Int32).toNatClampNeg) a15 a17 (0 : Int32).toNatClampNeg (0 : Int32).toNatClampNeg (8 : Int32).toNatClampNeg) a21 a23 (0 : Int32).toNatClampNeg (0 : Int32).toNatClampNeg (8 : Int32).toNatClampNeg) a27 a29 (0 : Int32).toNatClampNeg (0 : Int32).toNatClampNeg (8 : Int32).toNatClampNeg) a33 a35 (0 : Int32).toNatClampNeg (0 : Int32).toNatClampNeg (7 : Int32).toNatClampNeg) a39 a41 (0 : Int32).toNatClampNeg (0 : Int32).toNatClampNeg (7 : Int32).toNatClampNeg) a45 a47 (0 : Int32).toNatClampNeg (0 : Int32).toNatClampNeg (7 : Int32).toNatClampNeg) a51 a53 (0 : Int32).toNatClampNeg (0 : Int32).toNatClampNeg (4 : Int32).toNatClampNeg) a57 a59 (0 : Int32).toNatClampNeg (0 : Int32).toNatClampNeg (4 : Int32).toNatClampNeg) x0 10 ((bm_cI (bm_cI (bm_cI (bm_cI (bm_cL (bm_cI (bm_cI (bm_cI (bm_cI (bm_cL M a2 a5 (0 : Int32).toNatClampNeg (0 : Int32).toNatClampNeg (8 : Int32).toNatClampNeg) a9 a11 (0 : Int32).toNatClampNeg (0 : Int32).toNatClampNeg (8 : Int32).toNatClampNeg) a15 a17 (0 : Int32).toNatClampNeg (0 : Int32).toNatClampNeg (8 : Int32).toNatClampNeg) a21 a23 (0 : Int32).toNatClampNeg (0 : Int32).toNatClampNeg (8 : Int32).toNatClampNeg) a27 a29 (0 : Int32).toNatClampNeg (0 : Int32).toNatClampNeg (8 : Int32).toNatClampNeg) a33 a35 (0 : Int32).toNatClampNeg (0 : Int32).toNatClampNeg (7 : Int32).toNatClampNeg) a39 a41 (0 : Int32).toNatClampNeg (0 : Int32).toNatClampNeg (7 : Int32).toNatClampNeg) a45 a47 (0 : Int32).toNatClampNeg (0 : Int32).toNatClampNeg (7 : Int32).toNatClampNeg) a51 a53 (0 : Int32).toNatClampNeg (0 : Int32).toNatClampNeg (4 : Int32).toNatClampNeg) a57 a59 (0 : Int32).toNatClampNeg (0 : Int32).toNatClampNeg (4 : Int32).toNatClampNeg).1 x1 10)) x0 11 ((bm_sI (bm_cI (bm_cI (bm_cI (bm_cI (bm_cL (bm_cI (bm_cI (bm_cI (bm_cI (bm_cL M a2 a5 (0 : Int32).toNatClampNeg (0 : Int32).toNatClampNeg (8 : Int32).toNatClampNeg) a9 a11 (0 : Int32).toNatClampNeg (0 : Int32).toNatClampNeg (8 : Int32).toNatClampNeg) a15 a17 (0 : Int32).toNatClampNeg (0 : Int32).toNatClampNeg (8 : Int32).toNatClampNeg) a21 a23 (0 : Int32).toNatClampNeg (0 : Int32).toNatClampNeg (8 : Int32).toNatClampNeg) a27 a29 (0 : Int32).toNatClampNeg (0 : Int32).toNatClampNeg (8 : Int32).toNatClampNeg) a33 a35 (0 : Int32).toNatClampNeg (0 : Int32).toNatClampNeg (7 : Int32).toNatClampNeg) a39 a41 (0 : Int32).toNatClampNeg (0 : Int32).toNatClampNeg (7 : Int32).toNatClampNeg) a45 a47 (0 : Int32).toNatClampNeg (0 : Int32).toNatClampNeg (7 : Int32).toNatClampNeg) a51 a53 (0 : Int32).toNatClampNeg (0 : Int32).toNatClampNeg (4 : Int32).toNatClampNeg) a57 a59 (0 : Int32).toNatClampNeg (0 : Int32).toNatClampNeg (4 : Int32).toNatClampNeg) x0 10 ((bm_cI (bm_cI (bm_cI (bm_cI (bm_cL (bm_cI (bm_cI (bm_cI (bm_cI (bm_cL M a2 a5 (0 : Int32).toNatClampNeg (0 : Int32).toNatClampNeg (8 : Int32).toNatClampNeg) a9 a11 (0 : Int32).toNatClampNeg (0 : Int32).toNatClampNeg (8 : Int32).toNatClampNeg) a15 a17 (0 : Int32).toNatClampNeg (0 : Int32).toNatClampNeg (8 : Int32).toNatClampNeg) a21 a23 (0 : Int32).toNatClampNeg (0 : Int32).toNatClampNeg (8 : Int32).toNatClampNeg) a27 a29 (0 : Int32).toNatClampNeg (0 : Int32).toNatClampNeg (8 : Int32).toNatClampNeg) a33 a35 (0 : Int32).toNatClampNeg (0 : Int32).toNatClampNeg (7 : Int32).toNatClampNeg) a39 a41 (0 : Int32).toNatClampNeg (0 : Int32).toNatClampNeg (7 : Int32).toNatClampNeg) a45 a47 (0 : Int32).toNatClampNeg (0 : Int32).toNatClampNeg (7 : Int32).toNatClampNeg) a51 a53 (0 : Int32).toNatClampNeg (0 : Int32).toNatClampNeg (4 : Int32).toNatClampNeg) a57 a59 (0 : Int32).toNatClampNeg (0 : Int32).toNatClampNeg (4 : Int32).toNatClampNeg).1 x1 10)).1 x1 11)) x0 12 ((bm_sI (bm_sI (bm_cI (bm_cI (bm_cI (bm_cI (bm_cL (bm_cI (bm_cI (bm_cI (bm_cI (bm_cL M a2 a5 (0 : Int32).toNatClampNeg (0 : Int32).toNatClampNeg (8 : Int32).toNatClampNeg) a9 a11 (0 : Int32).toNatClampNeg (0 : Int32).toNatClampNeg (8 : Int32).toNatClampNeg) a15 a17 (0 : Int32).toNatClampNeg (0 : Int32).toNatClampNeg (8 : Int32).toNatClampNeg) a21 a23 (0 : Int32).toNatClampNeg (0 : Int32).toNatClampNeg (8 : Int32).toNatClampNeg) a27 a29 (0 : Int32).toNatClampNeg (0 : Int32).toNatClampNeg (8 : Int32).toNatClampNeg) a33 a35 (0 : Int32).toNatClampNeg (0 : Int32).toNatClampNeg (7 : Int32).toNatClampNeg) a39 a41 (0 : Int32).toNatClampNeg (0 : Int32).toNatClampNeg (7 : Int32).toNatClampNeg) a45 a47 (0 : Int32).toNatClampNeg (0 : Int32).toNatClampNeg (7 : Int32).toNatClampNeg) a51 a53 (0 : Int32).toNatClampNeg (0 : Int32).toNatClampNeg (4 : Int32).toNatClampNeg) a57 a59 (0 : Int32).toNatClampNeg (0 : Int32).toNatClampNeg (4 : Int32).toNatClampNeg) x0 10 ((bm_cI (bm_cI (bm_cI (bm_cI (bm_cL (bm_cI (bm_cI (bm_cI (bm_cI (bm_cL M a2 a5 (0 : Int32).toNatClampNeg (0 : Int32).toNatClampNeg (8 : Int32).toNatClampNeg) a9 a11 (0 : Int32).toNatClampNeg (0 : Int32).toNatClampNeg (8 : Int32).toNatClampNeg) a15 a17 (0 : Int32).toNatClampNeg (0 : Int32).toNatClampNeg (8 : Int32).toNatClampNeg) a21 a23 (0 : Int32).toNatClampNeg (0 : Int32).toNatClampNeg (8 : Int32).toNatClampNeg) a27 a29 (0 : Int32).toNatClampNeg (0 : Int32).toNatClampNeg (8 : Int32).toNatClampNeg) a33 a35 (0 : Int32).toNatClampNeg (0 : Int32).toNatClampNeg (7 : Int32).toNatClampNeg) a39 a41 (0 : Int32).toNatClampNeg (0 : Int32).toNatClampNeg (7 : Int32).toNatClampNeg) a45 a47 (0 : Int32).toNatClampNeg (0 : Int32).toNatClampNeg (7 : Int32).toNatClampNeg) a51 a53 (0 : Int32).toNatClampNeg (0 : Int32).toNatClampNeg (4 : Int32).toNatClampNeg) a57 a59 (0 : Int32).toNatClampNeg (0 : Int32).toNatClampNeg (4 : Int32).toNatClampNeg).1 x1 10)) x0 11 ((bm_sI (bm_cI (bm_cI (bm_cI (bm_cI (bm_cL (bm_cI (bm_cI (bm_cI (bm_cI (bm_cL M a2 a5 (0 : Int32).toNatClampNeg (0 : Int32).toNatClampNeg (8 : Int32).toNatClampNeg) a9 a11 (0 : Int32).toNatClampNeg (0 : Int32).toNatClampNeg (8 : Int32).toNatClampNeg) a15 a17 (0 : Int32).toNatClampNeg (0 : Int32).toNatClampNeg (8 : Int32).toNatClampNeg) a21 a23 (0 : Int32).toNatClampNeg (0 : Int32).toNatClampNeg (8 : Int32).toNatClampNeg) a27 a29 (0 : Int32).toNatClampNeg (0 : Int32).toNatClampNeg (8 : Int32).toNatClampNeg) a33 a35 (0 : Int32).toNatClampNeg (0 : Int32).toNatClampNeg (7 : Int32).toNatClampNeg) a39 a41 (0 : Int32).toNatClampNeg (0 : Int32).toNatClampNeg (7 : Int32).toNatClampNeg) a45 a47 (0 : Int32).toNatClampNeg (0 : Int32).toNatClampNeg (7 : Int32).toNatClampNeg) a51 a53 (0 : Int32).toNatClampNeg (0 : Int32).toNatClampNeg (4 : Int32).toNatClampNeg) a57 a59 (0 : Int32).toNatClampNeg (0 : Int32).toNatClampNeg (4 : Int32).toNatClampNeg) x0 10 ((bm_cI (bm_cI (bm_cI (bm_cI (bm_cL (bm_cI (bm_cI (bm_cI (bm_cI (bm_cL M a2 a5 (0 : Int32).toNatClampNeg (0 : Int32).toNatClampNeg (8 : Int32).toNatClampNeg) a9 a11 (0 : Int32).toNatClampNeg (0 : Int32).toNatClampNeg (8 : Int32).toNatClampNeg) a15 a17 (0 : Int32).toNatClampNeg (0 : Int32).toNatClampNeg (8 : Int32).toNatClampNeg) a21 a23 (0 : Int32).toNatClampNeg (0 : Int32).toNatClampNeg (8 : Int32).toNatClampNeg) a27 a29 (0 : Int32).toNatClampNeg (0 : Int32).toNatClampNeg (8 : Int32).toNatClampNeg) a33 a35 (0 : Int32).toNatClampNeg (0 : Int32).toNatClampNeg (7 : Int32).toNatClampNeg) a39 a41 (0 : Int32).toNatClampNeg (0 : Int32).toNatClampNeg (7 : Int32).toNatClampNeg) a45 a47 (0 : Int32).toNatClampNeg (0 : Int32).toNatClampNeg (7 : Int32).toNatClampNeg) a51 a53 (0 : Int32).toNatClampNeg (0 : Int32).toNatClampNeg (4 : Int32).toNatClampNeg) a57 a59 (0 : Int32).toNatClampNeg (0 : Int32).toNatClampNeg (4 : Int32).toNatClampNeg).1 x1 10)).1 x1 11)).1 x1 12)).1 x1 13)).1 x1 14)) x0 15 ((bm_sI (bm_sI (bm_sI (bm_sI (bm_sI (bm_cI (bm_cI (bm_cI (bm_cI (bm_cL (bm_cI (bm_cI (bm_cI (bm_cI (bm_cL M a2 a5 (0 : Int32).toNatClampNeg (0 : Int32).toNatClampNeg (8 : Int32).toNatClampNeg) a9 a11 (0 : Int32).toNatClampNeg (0 : Int32).toNatClampNeg (8 : Int32).toNatClampNeg) a15 a17 (0 : Int32).toNatClampNeg (0 : Int32).toNatClampNeg (8 : Int32).toNatClampNeg) a21 a23 (0 : Int32).toNatClampNeg (0 : Int32).toNatClampNeg (8 : Int32).toNatClampNeg) a27 a29 (0 : Int32).toNatClampNeg (0 : Int32).toNatClampNeg (8 : Int32).toNatClampNeg) a33 a35 (0 : Int32).toNatClampNeg (0 : Int32).toNatClampNeg (7 : Int32).toNatClampNeg) a39 a41 (0 : Int32).toNatClampNeg (0 : Int32).toNatClampNeg (7 : Int32).toNatClampNeg) a45 a47 (0 : Int32).toNatClampNeg (0 : Int32).toNatClampNeg (7 : Int32).toNatClampNeg) a51 a53 (0 : Int32).toNatClampNeg (0 : Int32).toNatClampNeg (4 : Int32).toNatClampNeg) a57 a59 (0 : Int32).toNatClampNeg (0 : Int32).toNatClampNeg (4 : Int32).toNatClampNeg) x0 10 ((bm_cI (bm_cI (bm_cI (bm_cI (bm_cL (bm_cI (bm_cI (bm_cI (bm_cI (bm_cL M a2 a5 (0 : Int32).toNatClampNeg (0 : Int32).toNatClampNeg (8 : Int32).toNatClampNeg) a9 a11 (0 : Int32).toNatClampNeg (0 : Int32).toNatClampNeg (8 : Int32).toNatClampNeg) a15 a17 (0 : Int32).toNatClampNeg (0 : Int32).toNatClampNeg (8 : Int32).toNatClampNeg) a21 a23 (0 : Int32).toNatClampNeg (0 : Int32).toNatClampNeg (8 : Int32).toNatClampNeg) a27 a29 (0 : Int32).toNatClampNeg (0 : Int32).toNatClampNeg (8 : Int32).toNatClampNeg) a33 a35 (0 : Int32).toNatClampNeg (0 : Int32).toNatClampNeg (7 : Int32).toNatClampNeg) a39 a41 (0 : Int32).toNatClampNeg (0 : Int32).toNatClampNeg (7 : Int32).toNatClampNeg) a45 a47 (0 : Int32).toNatClampNeg (0 : Int32).toNatClampNeg (7 : Int32).toNatClampNeg) a51 a53 (0 : Int32).toNatClampNeg (0 : Int32).toNatClampNeg (4 : Int32).toNatClampNeg) a57 a59 (0 : Int32).toNatClampNeg (0 : Int32).toNatClampNeg (4 : Int32).toNatClampNeg).1 x1 10)) x0 11 ((bm_sI (bm_cI (bm_cI (bm_cI (bm_cI (bm_cL (bm_cI (bm_cI (bm_cI (bm_cI (bm_cL M a2 a5 (0 : Int32).toNatClampNeg (0 : Int32).toNatClampNeg (8 : Int32).toNatClampNeg) a9 a11 (0 : Int32).toNatClampNeg (0 : Int32).toNatClampNeg (8 : Int32).toNatClampNeg) a15 a17 (0 : Int32).toNatClampNeg (0 : Int32).toNatClampNeg (8 : Int32).toNatClampNeg) a21 a23 (0 : Int32).toNatClampNeg (0 : Int32).toNatClampNeg (8 : Int32).toNatClampNeg) a27 a29 (0 : Int32).toNatClampNeg (0 : Int32).toNatClampNeg (8 : Int32).toNatClampNeg) a33 a35 (0 : Int32).toNatClampNeg (0 : Int32).toNatClampNeg (7 : Int32).toNatClampNeg) a39 a41 (0 : Int32).toNatClampNeg (0 : Int32).toNatClampNeg (7 : Int32).toNatClampNeg) a45 a47 (0 : Int32).toNatClampNeg (0 : Int32).toNatClampNeg (7 : Int32).toNatClampNeg) a51 a53 (0 : Int32).toNatClampNeg (0 : Int32).toNatClampNeg (4 : Int32).toNatClampNeg) a57 a59 (0 : Int32).toNatClampNeg (0 : Int32).toNatClampNeg (4 : Int32).toNatClampNeg) x0 10 ((bm_cI (bm_cI (bm_cI (bm_cI (bm_cL (bm_cI (bm_cI (bm_cI (bm_cI (bm_cL M a2 a5 (0 : Int32).toNatClampNeg (0 : Int32).toNatClampNeg (8 : Int32).toNatClampNeg) a9 a11 (0 : Int32).toNatClampNeg (0 : Int32).toNatClampNeg (8 : Int32).toNatClampNeg) a15 a17 (0 : Int32).toNatClampNeg (0 : Int32).toNatClampNeg (8 : Int32).toNatClampNeg) a21 a23 (0 : Int32).toNatClampNeg (0 : Int32).toNatClampNeg (8 : Int32).toNatClampNeg) a27 a29 (0 : Int32).toNatClampNeg (0 : Int32).toNatClampNeg (8 : Int32).toNatClampNeg) a33 a35 (0 : Int32).toNatClampNeg (0 : Int32).toNatClampNeg (7 : Int32).toNatClampNeg) a39 a41 (0 : Int32).toNatClampNeg (0 : Int32).toNatClampNeg (7 : Int32).toNatClampNeg) a45 a47 (0 : Int32).toNatClampNeg (0 : Int32).toNatClampNeg (7 : Int32).toNatClampNeg) a51 a53 (0 : Int32).toNatClampNeg (0 : Int32).toNatClampNeg (4 : Int32).toNatClampNeg) a57 a59 (0 : Int32).toNatClampNeg (0 : Int32).toNatClampNeg (4 : Int32).toNatClampNeg).1 x1 10)).1 x1 11)) x0 12 ((bm_sI (bm_sI (bm_cI (bm_cI (bm_cI (bm_cI (bm_cL (bm_cI (bm_cI (bm_cI (bm_cI (bm_cL M a2 a5 (0 : Int32).toNatClampNeg (0 : Int32).toNatClampNeg (8 : Int32).toNatClampNeg) a9 a11 (0 : Int32).toNatClampNeg (0 : Int32).toNatClampNeg (8 : Int32).toNatClampNeg) a15 a17 (0 : Int32).toNatClampNeg (0 : Int32).toNatClampNeg (8 : Int32).toNatClampNeg) a21 a23 (0 : Int32).toNatClampNeg (0 : Int32).toNatClampNeg (8 : Int32).toNatClampNeg) a27 a29 (0 : Int32).toNatClampNeg (0 : Int32).toNatClampNeg (8 : Int32).toNatClampNeg) a33 a35 (0 : Int32).toNatClampNeg (0 : Int32).toNatClampNeg (7 : Int32).toNatClampNeg) a39 a41 (0 : Int32).toNatClampNeg (0 : Int32).toNatClampNeg (7 : Int32).toNatClampNeg) a45 a47 (0 : Int32).toNatClampNeg (0 : Int32).toNatClampNeg (7 : Int32).toNatClampNeg) a51 a53 (0 : Int32).toNatClampNeg (0 : Int32).toNatClampNeg (4 : Int32).toNatClampNeg) a57 a59 (0 : Int32).toNatClampNeg (0 : Int32).toNatClampNeg (4 : Int32).toNatClampNeg) x0 10 ((bm_cI (bm_cI (bm_cI (bm_cI (bm_cL (bm_cI (bm_cI (bm_cI (bm_cI (bm_cL M a2 a5 (0 : Int32).toNatClampNeg (0 : Int32).toNatClampNeg (8 : Int32).toNatClampNeg) a9 a11 (0 : Int32).toNatClampNeg (0 : Int32).toNatClampNeg (8 : Int32).toNatClampNeg) a15 a17 (0 : Int32).toNatClampNeg (0 : Int32).toNatClampNeg (8 : Int32).toNatClampNeg) a21 a23 (0 : Int32).toNatClampNeg (0 : Int32).toNatClampNeg (8 : Int32).toNatClampNeg) a27 a29 (0 : Int32).toNatClampNeg (0 : Int32).toNatClampNeg (8 : Int32).toNatClampNeg) a33 a35 (0 : Int32).toNatClampNeg (0 : Int32).toNatClampNeg (7 : Int32).toNatClampNeg) a39 a41 (0 : Int32).toNatClampNeg (0 : Int32).toNatClampNeg (7 : Int32).toNatClampNeg) a45 a47 (0 : Int32).toNatClampNeg (0 : Int32).toNatClampNeg (7 : Int32).toNatClampNeg) a51 a53 (0 : Int32).toNatClampNeg (0 : Int32).toNatClampNeg (4 : Int32).toNatClampNeg) a57 a59 (0 : Int32).toNatClampNeg (0 : Int32).toNatClampNeg (4 : Int32).toNatClampNeg).1 x1 10)) x0 11 ((bm_sI (bm_cI (bm_cI (bm_cI (bm_cI (bm_cL (bm_cI (bm_cI (bm_cI (bm_cI (bm_cL M a2 a5 (0 : Int32).toNatClampNeg (0 : Int32).toNatClampNeg (8 : Int32).toNatClampNeg) a9 a11 (0 : Int32).toNatClampNeg (0 : Int32).toNatClampNeg (8 : Int32).toNatClampNeg) a15 a17 (0 : Int32).toNatClampNeg (0 : Int32).toNatClampNeg (8 : Int32).toNatClampNeg) a21 a23 (0 : Int32).toNatClampNeg (0 : Int32).toNatClampNeg (8 : Int32).toNatClampNeg) a27 a29 (0 : Int32).toNatClampNeg (0 : Int32).toNatClampNeg (8 : Int32).toNatClampNeg) a33 a35 (0 : Int32).toNatClampNeg (0 : Int32).toNatClampNeg (7 : Int32).toNatClampNeg) a39 a41 (0 : Int32).toNatClampNeg (0 : Int32).toNatClampNeg (7 : Int32).toNatClampNeg) a45 a47 (0 : Int32).toNatClampNeg (0 : Int32).toNatClampNeg (7 : Int32).toNatClampNeg) a51 a53 (0 : Int32).toNatClampNeg (0 : Int32).toNatClampNeg (4 : Int32).toNatClampNeg) a57 a59 (0 : Int32).toNatClampNeg (0 : Int32).toNatClampNeg (4 : Int32).toNatClampNeg) x0 10 ((bm_cI (bm_cI (bm_cI (bm_cI (bm_cL (bm_cI (bm_cI (bm_cI (bm_cI (bm_cL M a2 a5 (0 : Int32).toNatClampNeg (0 : Int32).toNatClampNeg (8 : Int32).toNatClampNeg) a9 a11 (0 : Int32).toNatClampNeg (0 : Int32).toNatClampNeg (8 : Int32).toNatClampNeg) a15 a17 (0 : Int32).toNatClampNeg (0 : Int32).toNatClampNeg (8 : Int32).toNatClampNeg) a21 a23 (0 : Int32).toNatClampNeg (0 : Int32).toNatClampNeg (8 : Int32).toNatClampNeg) a27 a29 (0 : Int32).toNatClampNeg (0 : Int32).toNatClampNeg (8 : Int32).toNatClampNeg) a33 a35 (0 : Int32).toNatClampNeg (0 : Int32).toNatClampNeg (7 : Int32).toNatClampNeg) a39 a41 (0 : Int32).toNatClampNeg (0 : Int32).toNatClampNeg (7 : Int32).toNatClampNeg) a45 a47 (0 : Int32).toNatClampNeg (0 : Int32).toNatClampNeg (7 : Int32).toNatClampNeg) a51 a53 (0 : Int32).toNatClampNeg (0 : Int32).toNatClampNeg (4 : Int32).toNatClampNeg) a57 a59 (0 : Int32).toNatClampNeg (0 : Int32).toNatClampNeg (4 : Int32).toNatClampNeg).1 x1 10)).1 x1 11)).1 x1 12)) x0 13 ((bm_sI (bm_sI (bm_sI (bm_cI (bm_cI (bm_cI (bm_cI (bm_cL (bm_cI (bm_cI (bm_cI (bm_cI (bm_cL M a2 a5 (0 : Int32).toNatClampNeg (0 : Int32).toNatClampNeg (8 : Int32).toNatClampNeg) a9 a11 (0 : Int32).toNatClampNeg (0 : Int32).toNatClampNeg (8 : Int32).toNatClampNeg) a15 a17 (0 : Int32).toNatClampNeg (0 : Int32).toNatClampNeg (8 : Int32).toNatClampNeg) a21 a23 (0 : Int32).toNatClampNeg (0 : Int32).toNatClampNeg (8 : Int32).toNatClampNeg) a27 a29 (0 : Int32).toNatClampNeg (0 : Int32).toNatClampNeg (8 : Int32).toNatClampNeg) a33 a35 (0 : Int32).toNatClampNeg (0 : Int32).toNatClampNeg (7 : Int32).toNatClampNeg) a39 a41 (0 : Int32).toNatClampNeg (0 : Int32).toNatClampNeg (7 : Int32).toNatClampNeg) a45 a47 (0 : Int32).toNatClampNeg (0 : Int32).toNatClampNeg (7 : Int32).toNatClampNeg) a51 a53 (0 : Int32).toNatClampNeg (0 : Int32).toNatClampNeg (4 : Int32).toNatClampNeg) a57 a59 (0 : Int32).toNatClampNeg (0 : Int32).toNatClampNeg (4 : Int32).toNatClampNeg) x0 10 ((bm_cI (bm_cI (bm_cI (bm_cI (bm_cL (bm_cI (bm_cI (bm_cI (bm_cI (bm_cL M a2 a5 (0 : Int32).toNatClampNeg (0 : Int32).toNatClampNeg (8 : Int32).toNatClampNeg) a9 a11 (0 : Int32).toNatClampNeg (0 : Int32).toNatClampNeg (8 : Int32).toNatClampNeg) a15 a17 (0 : Int32).toNatClampNeg (0 : Int32).toNatClampNeg (8 : Int32).toNatClampNeg) a21 a23 (0 : Int32).toNatClampNeg (0 : Int32).toNatClampNeg (8 : Int32).toNatClampNeg) a27 a29 (0 : Int32).toNatClampNeg (0 : Int32).toNatClampNeg (8 : Int32).toNatClampNeg) a33 a35 (0 : Int32).toNatClampNeg (0 : Int32).toNatClampNeg (7 : Int32).toNatClampNeg) a39 a41 (0 : Int32).toNatClampNeg (0 : Int32).toNatClampNeg (7 : Int32).toNatClampNeg) a45 a47 (0 : Int32).toNatClampNeg (0 : Int32).toNatClampNeg (7 : Int32).toNatClampNeg) a51 a53 (0 : Int32).toNatClampNeg (0 : Int32).toNatClampNeg (4 : Int32).toNatClampNeg) a57 a59 (0 : Int32).toNatClampNeg (0 : Int32).toNatClampNeg (4 : Int32).toNatClampNeg).1 x1 10)) x0 11 ((bm_sI (bm_cI (bm_cI (bm_cI (bm_cI (bm_cL (bm_cI (bm_cI (bm_cI (bm_cI (bm_cL M a2 a5 (0 : Int32).toNatClampNeg (0 : Int32).toNatClampNeg (8 : Int32).toNatClampNeg) a9 a11 (0 : Int32).toNatClampNeg (0 : Int32).toNatClampNeg (8 : Int32).toNatClampNeg) a15 a17 (0 : Int32).toNatClampNeg (0 : Int32).toNatClampNeg (8 : Int32).toNatClampNeg) a21 a23 (0 : Int32).toNatClampNeg (0 : Int32).toNatClampNeg (8 : Int32).toNatClampNeg) a27 a29 (0 : Int32).toNatClampNeg (0 : Int32).toNatClampNeg (8 : Int32).toNatClampNeg) a33 a35 (0 : Int32).toNatClampNeg (0 : Int32).toNatClampNeg (7 : Int32).toNatClampNeg) a39 a41 (0 : Int32).toNatClampNeg (0 : Int32).toNatClampNeg (7 : Int32).toNatClampNeg) a45 a47 (0 : Int32).toNatClampNeg (0 : Int32).toNatClampNeg (7 : Int32).toNatClampNeg) a51 a53 (0 : Int32).toNatClampNeg (0 : Int32).toNatClampNeg (4 : Int32).toNatClampNeg) a57 a59 (0 : Int32).toNatClampNeg (0 : Int32).toNatClampNeg (4 : Int32).toNatClampNeg) x0 10 ((bm_cI (bm_cI (bm_cI (bm_cI (bm_cL (bm_cI (bm_cI (bm_cI (bm_cI (bm_cL M a2 a5 (0 : Int32).toNatClampNeg (0 : Int32).toNatClampNeg (8 : Int32).toNatClampNeg) a9 a11 (0 : Int32).toNatClampNeg (0 : Int32).toNatClampNeg (8 : Int32).toNatClampNeg) a15 a17 (0 : Int32).toNatClampNeg (0 : Int32).toNatClampNeg (8 : Int32).toNatClampNeg) a21 a23 (0 : Int32).toNatClampNeg (0 : Int32).toNatClampNeg (8 : Int32).toNatClampNeg) a27 a29 (0 : Int32).toNatClampNeg (0 : Int32).toNatClampNeg (8 : Int32).toNatClampNeg) a33 a35 (0 : Int32).toNatClampNeg (0 : Int32).toNatClampNeg (7 : Int32).toNatClampNeg) a39 a41 (0 : Int32).toNatClampNeg (0 : Int32).toNatClampNeg (7 : Int32).toNatClampNeg) a45 a47 (0 : Int32).toNatClampNeg (0 : Int32).toNatClampNeg (7 : Int32).toNatClampNeg) a51 a53 (0 : Int32).toNatClampNeg (0 : Int32).toNatClampNeg (4 : Int32).toNatClampNeg) a57 a59 (0 : Int32).toNatClampNeg (0 : Int32).toNatClampNeg (4 : Int32).toNatClampNeg).1 x1 10)).1 x1 11)) x0 12 ((bm_sI (bm_sI (bm_cI (bm_cI (bm_cI (bm_cI (bm_cL (bm_cI (bm_cI (bm_cI (bm_cI (bm_cL M a2 a5 (0 : Int32).toNatClampNeg (0 : Int32).toNatClampNeg (8 : Int32).toNatClampNeg) a9 a11 (0 : Int32).toNatClampNeg (0 : Int32).toNatClampNeg (8 : Int32).toNatClampNeg) a15 a17 (0 : Int32).toNatClampNeg (0 : Int32).toNatClampNeg (8 : Int32).toNatClampNeg) a21 a23 (0 : Int32).toNatClampNeg (0 : Int32).toNatClampNeg (8 : Int32).toNatClampNeg) a27 a29 (0 : Int32).toNatClampNeg (0 : Int32).toNatClampNeg (8 : Int32).toNatClampNeg) a33 a35 (0 : Int32).toNatClampNeg (0 : Int32).toNatClampNeg (7 : Int32).toNatClampNeg) a39 a41 (0 : Int32).toNatClampNeg (0 : Int32).toNatClampNeg (7 : Int32).toNatClampNeg) a45 a47 (0 : Int32).toNatClampNeg (0 : Int32).toNatClampNeg (7 : Int32).toNatClampNeg) a51 a53 (0 : Int32).toNatClampNeg (0 : Int32).toNatClampNeg (4 : Int32).toNatClampNeg) a57 a59 (0 : Int32).toNatClampNeg (0 : Int32).toNatClampNeg (4 : Int32).toNatClampNeg) x0 10 ((bm_cI (bm_cI (bm_cI (bm_cI (bm_cL (bm_cI (bm_cI (bm_cI (bm_cI (bm_cL M a2 a5 (0 : Int32).toNatClampNeg (0 : Int32).toNatClampNeg (8 : Int32).toNatClampNeg) a9 a11 (0 : Int32).toNatClampNeg (0 : Int32).toNatClampNeg (8 : Int32).toNatClampNeg) a15 a17 (0 : Int32).toNatClampNeg (0 : Int32).toNatClampNeg (8 : Int32).toNatClampNeg) a21 a23 (0 : Int32).toNatClampNeg (0 : Int32).toNatClampNeg (8 : Int32).toNatClampNeg) a27 a29 (0 : Int32).toNatClampNeg (0 : Int32).toNatClampNeg (8 : Int32).toNatClampNeg) a33 a35 (0 : Int32).toNatClampNeg (0 : Int32).toNatClampNeg (7 : Int32).toNatClampNeg) a39 a41 (0 : Int32).toNatClampNeg (0 : Int32).toNatClampNeg (7 : Int32).toNatClampNeg) a45 a47 (0 : Int32).toNatClampNeg (0 : Int32).toNatClampNeg (7 : Int32).toNatClampNeg) a51 a53 (0 : Int32).toNatClampNeg (0 : Int32).toNatClampNeg (4 : Int32).toNatClampNeg) a57 a59 (0 : Int32).toNatClampNeg (0 : Int32).toNatClampNeg (4 : Int32).toNatClampNeg).1 x1 10)) x0 11 ((bm_sI (bm_cI (bm_cI (bm_cI (bm_cI (bm_cL (bm_cI (bm_cI (bm_cI (bm_cI (bm_cL M a2 a5 (0 : Int32).toNatClampNeg (0 : Int32).toNatClampNeg (8 : Int32).toNatClampNeg) a9 a11 (0 : Int32).toNatClampNeg (0 : Int32).toNatClampNeg (8 : Int32).toNatClampNeg) a15 a17 (0 : Int32).toNatClampNeg (0 : Int32).toNatClampNeg (8 : Int32).toNatClampNeg) a21 a23 (0 : Int32).toNatClampNeg (0 : Int32).toNatClampNeg (8 : Int32).toNatClampNeg) a27 a29 (0 : Int32).toNatClampNeg (0 : Int32).toNatClampNeg (8 : Int32).toNatClampNeg) a33 a35 (0 : Int32).toNatClampNeg (0 : Int32).toNatClampNeg (7 : Int32).toNatClampNeg) a39 a41 (0 : Int32).toNatClampNeg (0 : Int32).toNatClampNeg (7 : Int32).toNatClampNeg) a45 a47 (0 : Int32).toNatClampNeg (0 : Int32).toNatClampNeg (7 : Int32).toNatClampNeg) a51 a53 (0 : Int32).toNatClampNeg (0 : Int32).toNatClampNeg (4 : Int32).toNatClampNeg) a57 a59 (0 : Int32).toNatClampNeg (0 : Int32).toNatClampNeg (4 : Int32).toNatClampNeg) x0 10 ((bm_cI (bm_cI (bm_cI (bm_cI (bm_cL (bm_cI (bm_cI (bm_cI (bm_cI (bm_cL M a2 a5 (0 : Int32).toNatClampNeg (0 : Int32).toNatClampNeg (8 : Int32).toNatClampNeg) a9 a11 (0 : Int32).toNatClampNeg (0 : Int32).toNatClampNeg (8 : Int32).toNatClampNeg) a15 a17 (0 : Int32).toNatClampNeg (0 : Int32).toNatClampNeg (8 : Int32).toNatClampNeg) a21 a23 (0 : Int32).toNatClampNeg (0 : Int32).toNatClampNeg (8 : Int32).toNatClampNeg) a27 a29 (0 : Int32).toNatClampNeg (0 : Int32).toNatClampNeg (8 : Int32).toNatClampNeg) a33 a35 (0 : Int32).toNatClampNeg (0 : Int32).toNatClampNeg (7 : Int32).toNatClampNeg) a39 a41 (0 : Int32).toNatClampNeg (0 : Int32).toNatClampNeg (7 : Int32).toNatClampNeg) a45 a47 (0 : Int32).toNatClampNeg (0 : Int32).toNatClampNeg (7 : Int32).toNatClampNeg) a51 a53 (0 : Int32).toNatClampNeg (0 : Int32).toNatClampNeg (4 : Int32).toNatClampNeg) a57 a59 (0 : Int32).toNatClampNeg (0 : Int32).toNatClampNeg (4 : Int32).toNatClampNeg).1 x1 10)).1 x1 11)).1 x1 12)).1 x1 13)) x0 14 ((bm_sI (bm_sI (bm_sI (bm_sI (bm_cI (bm_cI (bm_cI (bm_cI (bm_cL (bm_cI (bm_cI (bm_cI (bm_cI (bm_cL M a2 a5 (0 : Int32).toNatClampNeg (0 : Int32).toNatClampNeg (8 : Int32).toNatClampNeg) a9 a11 (0 : Int32).toNatClampNeg (0 : Int32).toNatClampNeg (8 : Int32).toNatClampNeg) a15 a17 (0 : Int32).toNatClampNeg (0 : Int32).toNatClampNeg (8 : Int32).toNatClampNeg) a21 a23 (0 : Int32).toNatClampNeg (0 : Int32).toNatClampNeg (8 : Int32).toNatClampNeg) a27 a29 (0 : Int32).toNatClampNeg (0 : Int32).toNatClampNeg (8 : Int32).toNatClampNeg) a33 a35 (0 : Int32).toNatClampNeg (0 : Int32).toNatClampNeg (7 : Int32).toNatClampNeg) a39 a41 (0 : Int32).toNatClampNeg (0 : Int32).toNatClampNeg (7 : Int32).toNatClampNeg) a45 a47 (0 : Int32).toNatClampNeg (0 : Int32).toNatClampNeg (7 : Int32).toNatClampNeg) a51 a53 (0 : Int32).toNatClampNeg (0 : Int32).toNatClampNeg (4 : Int32).toNatClampNeg) a57 a59 (0 : Int32).toNatClampNeg (0 : Int32).toNatClampNeg (4 : Int32).toNatClampNeg) x0 10 ((bm_cI (bm_cI (bm_cI (bm_cI (bm_cL (bm_cI (bm_cI (bm_cI (bm_cI (bm_cL M a2 a5 (0 : Int32).toNatClampNeg (0 : Int32).toNatClampNeg (8 : Int32).toNatClampNeg) a9 a11 (0 : Int32).toNatClampNeg (0 : Int32).toNatClampNeg (8 : Int32).toNatClampNeg) a15 a17 (0 : Int32).toNatClampNeg (0 : Int32).toNatClampNeg (8 : Int32).toNatClampNeg) a21 a23 (0 : Int32).toNatClampNeg (0 : Int32).toNatClampNeg (8 : Int32).toNatClampNeg) a27 a29 (0 : Int32).toNatClampNeg (0 : Int32).toNatClampNeg (8 : Int32).toNatClampNeg) a33 a35 (0 : Int32).toNatClampNeg (0 : Int32).toNatClampNeg (7 : Int32).toNatClampNeg) a39 a41 (0 : Int32).toNatClampNeg (0 : Int32).toNatClampNeg (7 : Int32).toNatClampNeg) a45 a47 (0 : Int32).toNatClampNeg (0 : Int32).toNatClampNeg (7 : Int32).toNatClampNeg) a51 a53 (0 : Int32).toNatClampNeg (0 : Int32).toNatClampNeg (4 : Int32).toNatClampNeg) a57 a59 (0 : Int32).toNatClampNeg (0 : Int32).toNatClampNeg (4 : Int32).toNatClampNeg).1 x1 10)) x0 11 ((bm_sI (bm_cI (bm_cI (bm_cI (bm_cI (bm_cL (bm_cI (bm_cI (bm_cI (bm_cI (bm_cL M a2 a5 (0 : Int32).toNatClampNeg (0 : Int32).toNatClampNeg (8 : Int32).toNatClampNeg) a9 a11 (0 : Int32).toNatClampNeg (0 : Int32).toNatClampNeg (8 : Int32).toNatClampNeg) a15 a17 (0 : Int32).toNatClampNeg (0 : Int32).toNatClampNeg (8 : Int32).toNatClampNeg) a21 a23 (0 : Int32).toNatClampNeg (0 : Int32).toNatClampNeg (8 : Int32).toNatClampNeg) a27 a29 (0 : Int32).toNatClampNeg (0 : Int32).toNatClampNeg (8 : Int32).toNatClampNeg) a33 a35 (0 : Int32).toNatClampNeg (0 : Int32).toNatClampNeg (7 : Int32).toNatClampNeg) a39 a41 (0 : Int32).toNatClampNeg (0 : Int32).toNatClampNeg (7 : Int32).toNatClampNeg) a45 a47 (0 : Int32).toNatClampNeg (0 : Int32).toNatClampNeg (7 : Int32).toNatClampNeg) a51 a53 (0 : Int32).toNatClampNeg (0 : Int32).toNatClampNeg (4 : Int32).toNatClampNeg) a57 a59 (0 : Int32).toNatClampNeg (0 : Int32).toNatClampNeg (4 : Int32).toNatClampNeg) x0 10 ((bm_cI (bm_cI (bm_cI (bm_cI (bm_cL (bm_cI (bm_cI (bm_cI (bm_cI (bm_cL M a2 a5 (0 : Int32).toNatClampNeg (0 : Int32).toNatClampNeg (8 : Int32).toNatClampNeg) a9 a11 (0 : Int32).toNatClampNeg (0 : Int32).toNatClampNeg (8 : Int32).toNatClampNeg) a15 a17 (0 : Int32).toNatClampNeg (0 : Int32).toNatClampNeg (8 : Int32).toNatClampNeg) a21 a23 (0 : Int32).toNatClampNeg (0 : Int32).toNatClampNeg (8 : Int32).toNatClampNeg) a27 a29 (0 : Int32).toNatClampNeg (0 : Int32).toNatClampNeg (8 : Int32).toNatClampNeg) a33 a35 (0 : Int32).toNatClampNeg (0 : Int32).toNatClampNeg (7 : Int32).toNatClampNeg) a39 a41 (0 : Int32).toNatClampNeg (0 : Int32).toNatClampNeg (7 : Int32).toNatClampNeg) a45 a47 (0 : Int32).toNatClampNeg (0 : Int32).toNatClampNeg (7 : Int32).toNatClampNeg) a51 a53 (0 : Int32).toNatClampNeg (0 : Int32).toNatClampNeg (4 : Int32).toNatClampNeg) a57 a59 (0 : Int32).toNatClampNeg (0 : Int32).toNatClampNeg (4 : Int32).toNatClampNeg).1 x1 10)).1 x1 11)) x0 12 ((bm_sI (bm_sI (bm_cI (bm_cI (bm_cI (bm_cI (bm_cL (bm_cI (bm_cI (bm_cI (bm_cI (bm_cL M a2 a5 (0 : Int32).toNatClampNeg (0 : Int32).toNatClampNeg (8 : Int32).toNatClampNeg) a9 a11 (0 : Int32).toNatClampNeg (0 : Int32).toNatClampNeg (8 : Int32).toNatClampNeg) a15 a17 (0 : Int32).toNatClampNeg (0 : Int32).toNatClampNeg (8 : Int32).toNatClampNeg) a21 a23 (0 : Int32).toNatClampNeg (0 : Int32).toNatClampNeg (8 : Int32).toNatClampNeg) a27 a29 (0 : Int32).toNatClampNeg (0 : Int32).toNatClampNeg (8 : Int32).toNatClampNeg) a33 a35 (0 : Int32).toNatClampNeg (0 : Int32).toNatClampNeg (7 : Int32).toNatClampNeg) a39 a41 (0 : Int32).toNatClampNeg (0 : Int32).toNatClampNeg (7 : Int32).toNatClampNeg) a45 a47 (0 : Int32).toNatClampNeg (0 : Int32).toNatClampNeg (7 : Int32).toNatClampNeg) a51 a53 (0 : Int32).toNatClampNeg (0 : Int32).toNatClampNeg (4 : Int32).toNatClampNeg) a57 a59 (0 : Int32).toNatClampNeg (0 : Int32).toNatClampNeg (4 : Int32).toNatClampNeg) x0 10 ((bm_cI (bm_cI (bm_cI (bm_cI (bm_cL (bm_cI (bm_cI (bm_cI (bm_cI (bm_cL M a2 a5 (0 : Int32).toNatClampNeg (0 : Int32).toNatClampNeg (8 : Int32).toNatClampNeg) a9 a11 (0 : Int32).toNatClampNeg (0 : Int32).toNatClampNeg (8 : Int32).toNatClampNeg) a15 a17 (0 : Int32).toNatClampNeg (0 : Int32).toNatClampNeg (8 : Int32).toNatClampNeg) a21 a23 (0 : Int32).toNatClampNeg (0 : Int32).toNatClampNeg (8 : Int32).toNatClampNeg) a27 a29 (0 : Int32).toNatClampNeg (0 : Int32).toNatClampNeg (8 : Int32).toNatClampNeg) a33 a35 (0 : Int32).toNatClampNeg (0 : Int32).toNatClampNeg (7 : Int32).toNatClampNeg) a39 a41 (0 : Int32).toNatClampNeg (0 : Int32).toNatClampNeg (7 : Int32).toNatClampNeg) a45 a47 (0 : Int32).toNatClampNeg (0 : Int32).toNatClampNeg (7 : Int32).toNatClampNeg) a51 a53 (0 : Int32).toNatClampNeg (0 : Int32).toNatClampNeg (4 : Int32).toNatClampNeg) a57 a59 (0 : Int32).toNatClampNeg (0 : Int32).toNatClampNeg (4 : Int32).toNatClampNeg).1 x1 10)) x0 11 ((bm_sI (bm_cI (bm_cI (bm_cI (bm_cI (bm_cL (bm_cI (bm_cI (bm_cI (bm_cI (bm_cL M a2 a5 (0 : Int32).toNatClampNeg (0 : Int32).toNatClampNeg (8 : Int32).toNatClampNeg) a9 a11 (0 : Int32).toNatClampNeg (0 : Int32).toNatClampNeg (8 : Int32).toNatClampNeg) a15 a17 (0 : Int32).toNatClampNeg (0 : Int32).toNatClampNeg (8 : Int32).toNatClampNeg) a21 a23 (0 : Int32).toNatClampNeg (0 : Int32).toNatClampNeg (8 : Int32).toNatClampNeg) a27 a29 (0 : Int32).toNatClampNeg (0 : Int32).toNatClampNeg (8 : Int32).toNatClampNeg) a33 a35 (0 : Int32).toNatClampNeg (0 : Int32).toNatClampNeg (7 : Int32).toNatClampNeg) a39 a41 (0 : Int32).toNatClampNeg (0 : Int32).toNatClampNeg (7 : Int32).toNatClampNeg) a45 a47 (0 : Int32).toNatClampNeg (0 : Int32).toNatClampNeg (7 : Int32).toNatClampNeg) a51 a53 (0 : Int32).toNatClampNeg (0 : Int32).toNatClampNeg (4 : Int32).toNatClampNeg) a57 a59 (0 : Int32).toNatClampNeg (0 : Int32).toNatClampNeg (4 : Int32).toNatClampNeg) x0 10 ((bm_cI (bm_cI (bm_cI (bm_cI (bm_cL (bm_cI (bm_cI (bm_cI (bm_cI (bm_cL M a2 a5 (0 : Int32).toNatClampNeg (0 : Int32).toNatClampNeg (8 : Int32).toNatClampNeg) a9 a11 (0 : Int32).toNatClampNeg (0 : Int32).toNatClampNeg (8 : Int32).toNatClampNeg) a15 a17 (0 : Int32).toNatClampNeg (0 : Int32).toNatClampNeg (8 : Int32).toNatClampNeg) a21 a23 (0 : Int32).toNatClampNeg (0 : Int32).toNatClampNeg (8 : Int32).toNatClampNeg) a27 a29 (0 : Int32).toNatClampNeg (0 : Int32).toNatClampNeg (8 : Int32).toNatClampNeg) a33 a35 (0 : Int32).toNatClampNeg (0 : Int32).toNatClampNeg (7 : Int32).toNatClampNeg) a39 a41 (0 : Int32).toNatClampNeg (0 : Int32).toNatClampNeg (7 : Int32).toNatClampNeg) a45 a47 (0 : Int32).toNatClampNeg (0 : Int32).toNatClampNeg (7 : Int32).toNatClampNeg) a51 a53 (0 : Int32).toNatClampNeg (0 : Int32).toNatClampNeg (4 : Int32).toNatClampNeg) a57 a59 (0 : Int32).toNatClampNeg (0 : Int32).toNatClampNeg (4 : Int32).toNatClampNeg).1 x1 10)).1 x1 11)).1 x1 12)) x0 13 ((bm_sI (bm_sI (bm_sI (bm_cI (bm_cI (bm_cI (bm_cI (bm_cL (bm_cI (bm_cI (bm_cI (bm_cI (bm_cL M a2 a5 (0 : Int32).toNatClampNeg (0 : Int32).toNatClampNeg (8 : Int32).toNatClampNeg) a9 a11 (0 : Int32).toNatClampNeg (0 : Int32).toNatClampNeg (8 : Int32).toNatClampNeg) a15 a17 (0 : Int32).toNatClampNeg (0 : Int32).toNatClampNeg (8 : Int32).toNatClampNeg) a21 a23 (0 : Int32).toNatClampNeg (0 : Int32).toNatClampNeg (8 : Int32).toNatClampNeg) a27 a29 (0 : Int32).toNatClampNeg (0 : Int32).toNatClampNeg (8 : Int32).toNatClampNeg) a33 a35 (0 : Int32).toNatClampNeg (0 : Int32).toNatClampNeg (7 : Int32).toNatClampNeg) a39 a41 (0 : Int32).toNatClampNeg (0 : Int32).toNatClampNeg (7 : Int32).toNatClampNeg) a45 a47 (0 : Int32).toNatClampNeg (0 : Int32).toNatClampNeg (7 : Int32).toNatClampNeg) a51 a53 (0 : Int32).toNatClampNeg (0 : Int32).toNatClampNeg (4 : Int32).toNatClampNeg) a57 a59 (0 : Int32).toNatClampNeg (0 : Int32).toNatClampNeg (4 : Int32).toNatClampNeg) x0 10 ((bm_cI (bm_cI (bm_cI (bm_cI (bm_cL (bm_cI (bm_cI (bm_cI (bm_cI (bm_cL M a2 a5 (0 : Int32).toNatClampNeg (0 : Int32).toNatClampNeg (8 : Int32).toNatClampNeg) a9 a11 (0 : Int32).toNatClampNeg (0 : Int32).toNatClampNeg (8 : Int32).toNatClampNeg) a15 a17 (0 : Int32).toNatClampNeg (0 : Int32).toNatClampNeg (8 : Int32).toNatClampNeg) a21 a23 (0 : Int32).toNatClampNeg (0 : Int32).toNatClampNeg (8 : Int32).toNatClampNeg) a27 a29 (0 : Int32).toNatClampNeg (0 : Int32).toNatClampNeg (8 : Int32).toNatClampNeg) a33 a35 (0 : Int32).toNatClampNeg (0 : Int32).toNatClampNeg (7 : Int32).toNatClampNeg) a39 a41 (0 : Int32).toNatClampNeg (0 : Int32).toNatClampNeg (7 : Int32).toNatClampNeg) a45 a47 (0 : Int32).toNatClampNeg (0 : Int32).toNatClampNeg (7 : Int32).toNatClampNeg) a51 a53 (0 : Int32).toNatClampNeg (0 : Int32).toNatClampNeg (4 : Int32).toNatClampNeg) a57 a59 (0 : Int32).toNatClampNeg (0 : Int32).toNatClampNeg (4 : Int32).toNatClampNeg).1 x1 10)) x0 11 ((bm_sI (bm_cI (bm_cI (bm_cI (bm_cI (bm_cL (bm_cI (bm_cI (bm_cI (bm_cI (bm_cL M a2 a5 (0 : Int32).toNatClampNeg (0 : Int32).toNatClampNeg (8 : Int32).toNatClampNeg) a9 a11 (0 : Int32).toNatClampNeg (0 : Int32).toNatClampNeg (8 : Int32).toNatClampNeg) a15 a17 (0 : Int32).toNatClampNeg (0 : Int32).toNatClampNeg (8 : Int32).toNatClampNeg) a21 a23 (0 : Int32).toNatClampNeg (0 : Int32).toNatClampNeg (8 : Int32).toNatClampNeg) a27 a29 (0 : Int32).toNatClampNeg (0 : Int32).toNatClampNeg (8 : Int32).toNatClampNeg) a33 a35 (0 : Int32).toNatClampNeg (0 : Int32).toNatClampNeg (7 : Int32).toNatClampNeg) a39 a41 (0 : Int32).toNatClampNeg (0 : Int32).toNatClampNeg (7 : Int32).toNatClampNeg) a45 a47 (0 : Int32).toNatClampNeg (0 : Int32).toNatClampNeg (7 : Int32).toNatClampNeg) a51 a53 (0 : Int32).toNatClampNeg (0 : Int32).toNatClampNeg (4 : Int32).toNatClampNeg) a57 a59 (0 : Int32).toNatClampNeg (0 : Int32).toNatClampNeg (4 : Int32).toNatClampNeg) x0 10 ((bm_cI (bm_cI (bm_cI (bm_cI (bm_cL (bm_cI (bm_cI (bm_cI (bm_cI (bm_cL M a2 a5 (0 : Int32).toNatClampNeg (0 : Int32).toNatClampNeg (8 : Int32).toNatClampNeg) a9 a11 (0 : Int32).toNatClampNeg (0 : Int32).toNatClampNeg (8 : Int32).toNatClampNeg) a15 a17 (0 : Int32).toNatClampNeg (0 : Int32).toNatClampNeg (8 : Int32).toNatClampNeg) a21 a23 (0 : Int32).toNatClampNeg (0 : Int32).toNatClampNeg (8 : Int32).toNatClampNeg) a27 a29 (0 : Int32).toNatClampNeg (0 : Int32).toNatClampNeg (8 : Int32).toNatClampNeg) a33 a35 (0 : Int32).toNatClampNeg (0 : Int32).toNatClampNeg (7 : Int32).toNatClampNeg) a39 a41 (0 : Int32).toNatClampNeg (0 : Int32).toNatClampNeg (7 : Int32).toNatClampNeg) a45 a47 (0 : Int32).toNatClampNeg (0 : Int32).toNatClampNeg (7 : Int32).toNatClampNeg) a51 a53 (0 : Int32).toNatClampNeg (0 : Int32).toNatClampNeg (4 : Int32).toNatClampNeg) a57 a59 (0 : Int32).toNatClampNeg (0 : Int32).toNatClampNeg (4 : Int32).toNatClampNeg).1 x1 10)).1 x1 11)) x0 12 ((bm_sI (bm_sI (bm_cI (bm_cI (bm_cI (bm_cI (bm_cL (bm_cI (bm_cI (bm_cI (bm_cI (bm_cL M a2 a5 (0 : Int32).toNatClampNeg (0 : Int32).toNatClampNeg (8 : Int32).toNatClampNeg) a9 a11 (0 : Int32).toNatClampNeg (0 : Int32).toNatClampNeg (8 : Int32).toNatClampNeg) a15 a17 (0 : Int32).toNatClampNeg (0 : Int32).toNatClampNeg (8 : Int32).toNatClampNeg) a21 a23 (0 : Int32).toNatClampNeg (0 : Int32).toNatClampNeg (8 : Int32).toNatClampNeg) a27 a29 (0 : Int32).toNatClampNeg (0 : Int32).toNatClampNeg (8 : Int32).toNatClampNeg) a33 a35 (0 : Int32).toNatClampNeg (0 : Int32).toNatClampNeg (7 : Int32).toNatClampNeg) a39 a41 (0 : Int32).toNatClampNeg (0 : Int32).toNatClampNeg (7 : Int32).toNatClampNeg) a45 a47 (0 : Int32).toNatClampNeg (0 : Int32).toNatClampNeg (7 : Int32).toNatClampNeg) a51 a53 (0 : Int32).toNatClampNeg (0 : Int32).toNatClampNeg (4 : Int32).toNatClampNeg) a57 a59 (0 : Int32).toNatClampNeg (0 : Int32).toNatClampNeg (4 : Int32).toNatClampNeg) x0 10 ((bm_cI (bm_cI (bm_cI (bm_cI (bm_cL (bm_cI (bm_cI (bm_cI (bm_cI (bm_cL M a2 a5 (0 : Int32).toNatClampNeg (0 : Int32).toNatClampNeg (8 : Int32).toNatClampNeg) a9 a11 (0 : Int32).toNatClampNeg (0 : Int32).toNatClampNeg (8 : Int32).toNatClampNeg) a15 a17 (0 : Int32).toNatClampNeg (0 : Int32).toNatClampNeg (8 : Int32).toNatClampNeg) a21 a23 (0 : Int32).toNatClampNeg (0 : Int32).toNatClampNeg (8 : Int32).toNatClampNeg) a27 a29 (0 : Int32).toNatClampNeg (0 : Int32).toNatClampNeg (8 : Int32).toNatClampNeg) a33 a35 (0 : Int32).toNatClampNeg (0 : Int32).toNatClampNeg (7 : Int32).toNatClampNeg) a39 a41 (0 : Int32).toNatClampNeg (0 : Int32).toNatClampNeg (7 : Int32).toNatClampNeg) a45 a47 (0 : Int32).toNatClampNeg (0 : Int32).toNatClampNeg (7 : Int32).toNatClampNeg) a51 a53 (0 : Int32).toNatClampNeg (0 : Int32).toNatClampNeg (4 : Int32).toNatClampNeg) a57 a59 (0 : Int32).toNatClampNeg (0 : Int32).toNatClampNeg (4 : Int32).toNatClampNeg).1 x1 10)) x0 11 ((bm_sI (bm_cI (bm_cI (bm_cI (bm_cI (bm_cL (bm_cI (bm_cI (bm_cI (bm_cI (bm_cL M a2 a5 (0 : Int32).toNatClampNeg (0 : Int32).toNatClampNeg (8 : Int32).toNatClampNeg) a9 a11 (0 : Int32).toNatClampNeg (0 : Int32).toNatClampNeg (8 : Int32).toNatClampNeg) a15 a17 (0 : Int32).toNatClampNeg (0 : Int32).toNatClampNeg (8 : Int32).toNatClampNeg) a21 a23 (0 : Int32).toNatClampNeg (0 : Int32).toNatClampNeg (8 : Int32).toNatClampNeg) a27 a29 (0 : Int32).toNatClampNeg (0 : Int32).toNatClampNeg (8 : Int32).toNatClampNeg) a33 a35 (0 : Int32).toNatClampNeg (0 : Int32).toNatClampNeg (7 : Int32).toNatClampNeg) a39 a41 (0 : Int32).toNatClampNeg (0 : Int32).toNatClampNeg (7 : Int32).toNatClampNeg) a45 a47 (0 : Int32).toNatClampNeg (0 : Int32).toNatClampNeg (7 : Int32).toNatClampNeg) a51 a53 (0 : Int32).toNatClampNeg (0 : Int32).toNatClampNeg (4 : Int32).toNatClampNeg) a57 a59 (0 : Int32).toNatClampNeg (0 : Int32).toNatClampNeg (4 : Int32).toNatClampNeg) x0 10 ((bm_cI (bm_cI (bm_cI (bm_cI (bm_cL (bm_cI (bm_cI (bm_cI (bm_cI (bm_cL M a2 a5 (0 : Int32).toNatClampNeg (0 : Int32).toNatClampNeg (8 : Int32).toNatClampNeg) a9 a11 (0 : Int32).toNatClampNeg (0 : Int32).toNatClampNeg (8 : Int32).toNatClampNeg) a15 a17 (0 : Int32).toNatClampNeg (0 : Int32).toNatClampNeg (8 : Int32).toNatClampNeg) a21 a23 (0 : Int32).toNatClampNeg (0 : Int32).toNatClampNeg (8 : Int32).toNatClampNeg) a27 a29 (0 : Int32).toNatClampNeg (0 : Int32).toNatClampNeg (8 : Int32).toNatClampNeg) a33 a35 (0 : Int32).toNatClampNeg (0 : Int32).toNatClampNeg (7 : Int32).toNatClampNeg) a39 a41 (0 : Int32).toNatClampNeg (0 : Int32).toNatClampNeg (7 : Int32).toNatClampNeg) a45 a47 (0 : Int32).toNatClampNeg (0 : Int32).toNatClampNeg (7 : Int32).toNatClampNeg) a51 a53 (0 : Int32).toNatClampNeg (0 : Int32).toNatClampNeg (4 : Int32).toNatClampNeg) a57 a59 (0 : Int32).toNatClampNeg (0 : Int32).toNatClampNeg (4 : Int32).toNatClampNeg).1 x1 10)).1 x1 11)).1 x1 12)).1 x1 13)).1 x1 14)).1 x1 15)) x0 16 ((bm_sI (bm_sI (bm_sI (bm_sI (bm_sI (bm_sI (bm_cI (bm_cI (bm_cI (bm_cI (bm_cL (bm_cI (bm_cI (bm_cI (bm_cI (bm_cL M a2 a5 (0 : Int32).toNatClampNeg (0 : Int32).toNatClampNeg (8 : Int32).toNatClampNeg) a9 a11 (0 : Int32).toNatClampNeg (0 : Int32).toNatClampNeg (8 : Int32).toNatClampNeg) a15 a17 (0 : Int32).toNatClampNeg (0 : Int32).toNatClampNeg (8 : Int32).toNatClampNeg) a21 a23 (0 : Int32).toNatClampNeg (0 : Int32).toNatClampNeg (8 : Int32).toNatClampNeg) a27 a29 (0 : Int32).toNatClampNeg (0 : Int32).toNatClampNeg (8 : Int32).toNatClampNeg) a33 a35 (0 : Int32).toNatClampNeg (0 : Int32).toNatClampNeg (7 : Int32).toNatClampNeg) a39 a41 (0 : Int32).toNatClampNeg (0 : Int32).toNatClampNeg (7 : Int32).toNatClampNeg) a45 a47 (0 : Int32).toNatClampNeg (0 : Int32).toNatClampNeg (7 : Int32).toNatClampNeg) a51 a53 (0 : Int32).toNatClampNeg (0 : Int32).toNatClampNeg (4 : Int32).toNatClampNeg) a57 a59 (0 : Int32).toNatClampNeg (0 : Int32).toNatClampNeg (4 : Int32).toNatClampNeg) x0 10 ((bm_cI (bm_cI (bm_cI (bm_cI (bm_cL (bm_cI (bm_cI (bm_cI (bm_cI (bm_cL M a2 a5 (0 : Int32).toNatClampNeg (0 : Int32).toNatClampNeg (8 : Int32).toNatClampNeg) a9 a11 (0 : Int32).toNatClampNeg (0 : Int32).toNatClampNeg (8 : Int32).toNatClampNeg) a15 a17 (0 : Int32).toNatClampNeg (0 : Int32).toNatClampNeg (8 : Int32).toNatClampNeg) a21 a23 (0 : Int32).toNatClampNeg (0 : Int32).toNatClampNeg (8 : Int32).toNatClampNeg) a27 a29 (0 : Int32).toNatClampNeg (0 : Int32).toNatClampNeg (8 : Int32).toNatClampNeg) a33 a35 (0 : Int32).toNatClampNeg (0 : Int32).toNatClampNeg (7 : Int32).toNatClampNeg) a39 a41 (0 : Int32).toNatClampNeg (0 : Int32).toNatClampNeg (7 : Int32).toNatClampNeg) a45 a47 (0 : Int32).toNatClampNeg (0 : Int32).toNatClampNeg (7 : Int32).toNatClampNeg) a51 a53 (0 : Int32).toNatClampNeg (0 : Int32).toNatClampNeg (4 : Int32).toNatClampNeg) a57 a59 (0 : Int32).toNatClampNeg (0 : Int32).toNatClampNeg (4 : Int32).toNatClampNeg).1 x1 10)) x0 11 ((bm_sI (bm_cI (bm_cI (bm_cI (bm_cI (bm_cL (bm_cI (bm_cI (bm_cI (bm_cI (bm_cL M a2 a5 (0 : Int32).toNatClampNeg (0 : Int32).toNatClampNeg (8 : Int32).toNatClampNeg) a9 a11 (0 : Int32).toNatClampNeg (0 : Int32).toNatClampNeg (8 : Int32).toNatClampNeg) a15 a17 (0 : Int32).toNatClampNeg (0 : Int32).toNatClampNeg (8 : Int32).toNatClampNeg) a21 a23 (0 : Int32).toNatClampNeg (0 : Int32).toNatClampNeg (8 : Int32).toNatClampNeg) a27 a29 (0 : Int32).toNatClampNeg (0 : Int32).toNatClampNeg (8 : Int32).toNatClampNeg) a33 a35 (0 : Int32).toNatClampNeg (0 : Int32).toNatClampNeg (7 : Int32).toNatClampNeg) a39 a41 (0 : Int32).toNatClampNeg (0 : Int32).toNatClampNeg (7 : Int32).toNatClampNeg) a45 a47 (0 : Int32).toNatClampNeg (0 : Int32).toNatClampNeg (7 : Int32).toNatClampNeg) a51 a53 (0 : Int32).toNatClampNeg (0 : Int32).toNatClampNeg (4 : Int32).toNatClampNeg) a57 a59 (0 : Int32).toNatClampNeg (0 : Int32).toNatClampNeg (4 : Int32).toNatClampNeg) x0 10 ((bm_cI (bm_cI (bm_cI (bm_cI (bm_cL (bm_cI (bm_cI (bm_cI (bm_cI (bm_cL M a2 a5 (0 : Int32).toNatClampNeg (0 : Int32).toNatClampNeg (8 : Int32).toNatClampNeg) a9 a11 (0 : Int32).toNatClampNeg (0 : Int32).toNatClampNeg (8 : Int32).toNatClampNeg) a15 a17 (0 : Int32).toNatClampNeg (0 : Int32).toNatClampNeg (8 : Int32).toNatClampNeg) a21 a23 (0 : Int32).toNatClampNeg (0 : Int32).toNatClampNeg (8 : Int32).toNatClampNeg) a27 a29 (0 : Int32).toNatClampNeg (0 : Int32).toNatClampNeg (8 : Int32).toNatClampNeg) a33 a35 (0 : Int32).toNatClampNeg (0 : Int32).toNatClampNeg (7 : Int32).toNatClampNeg) a39 a41 (0 : Int32).toNatClampNeg (0 : Int32).toNatClampNeg (7 : Int32).toNatClampNeg) a45 a47 (0 : Int32).toNatClampNeg (0 : Int32).toNatClampNeg (7 : Int32).toNatClampNeg) a51 a53 (0 : Int32).toNatClampNeg (0 : Int32).toNatClampNeg (4 : Int32).toNatClampNeg) a57 a59 (0 : Int32).toNatClampNeg (0 : Int32).toNatClampNeg (4 : Int32).toNatClampNeg).1 x1 10)).1 x1 11)) x0 12 ((bm_sI (bm_sI (bm_cI (bm_cI (bm_cI (bm_cI (bm_cL (bm_cI (bm_cI (bm_cI (bm_cI (bm_cL M a2 a5 (0 : Int32).toNatClampNeg (0 : Int32).toNatClampNeg (8 : Int32).toNatClampNeg) a9 a11 (0 : Int32).toNatClampNeg (0 : Int32).toNatClampNeg (8 : Int32).toNatClampNeg) a15 a17 (0 : Int32).toNatClampNeg (0 : Int32).toNatClampNeg (8 : Int32).toNatClampNeg) a21 a23 (0 : Int32).toNatClampNeg (0 : Int32).toNatClampNeg (8 : Int32).toNatClampNeg) a27 a29 (0 : Int32).toNatClampNeg (0 : Int32).toNatClampNeg (8 : Int32).toNatClampNeg) a33 a35 (0 : Int32).toNatClampNeg (0 : Int32).toNatClampNeg (7 : Int32).toNatClampNeg) a39 a41 (0 : Int32).toNatClampNeg (0 : Int32).toNatClampNeg (7 : Int32).toNatClampNeg) a45 a47 (0 : Int32).toNatClampNeg (0 : Int32).toNatClampNeg (7 : Int32).toNatClampNeg) a51 a53 (0 : Int32).toNatClampNeg (0 : Int32).toNatClampNeg (4 : Int32).toNatClampNeg) a57 a59 (0 : Int32).toNatClampNeg (0 : Int32).toNatClampNeg (4 : Int32).toNatClampNeg) x0 10 ((bm_cI (bm_cI (bm_cI (bm_cI (bm_cL (bm_cI (bm_cI (bm_cI (bm_cI (bm_cL M a2 a5 (0 : Int32).toNatClampNeg (0 : Int32).toNatClampNeg (8 : Int32).toNatClampNeg) a9 a11 (0 : Int32).toNatClampNeg (0 : Int32).toNatClampNeg (8 : Int32).toNatClampNeg) a15 a17 (0 : Int32).toNatClampNeg (0 : Int32).toNatClampNeg (8 : Int32).toNatClampNeg) a21 a23 (0 : Int32).toNatClampNeg (0 : Int32).toNatClampNeg (8 : Int32).toNatClampNeg) a27 a29 (0 : Int32).toNatClampNeg (0 : Int32).toNatClampNeg (8 : Int32).toNatClampNeg) a33 a35 (0 : Int32).toNatClampNeg (0 : Int32).toNatClampNeg (7 : Int32).toNatClampNeg) a39 a41 (0 : Int32).toNatClampNeg (0 : Int32).toNatClampNeg (7 : Int32).toNatClampNeg) a45 a47 (0 : Int32).toNatClampNeg (0 : Int32).toNatClampNeg (7 : Int32).toNatClampNeg) a51 a53 (0 : Int32).toNatClampNeg (0 : Int32).toNatClampNeg (4 : Int32).toNatClampNeg) a57 a59 (0 : Int32).toNatClampNeg (0 : Int32).toNatClampNeg (4 : Int32).toNatClampNeg).1 x1 10)) x0 11 ((bm_sI (bm_cI (bm_cI (bm_cI (bm_cI (bm_cL (bm_cI (bm_cI (bm_cI (bm_cI (bm_cL M a2 a5 (0 : Int32).toNatClampNeg (0 : Int32).toNatClampNeg (8 : Int32).toNatClampNeg) a9 a11 (0 : Int32).toNatClampNeg (0 : Int32).toNatClampNeg (8 : Int32).toNatClampNeg) a15 a17 (0 : Int32).toNatClampNeg (0 : Int32).toNatClampNeg (8 : Int32).toNatClampNeg) a21 a23 (0 : Int32).toNatClampNeg (0 : Int32).toNatClampNeg (8 : Int32).toNatClampNeg) a27 a29 (0 : Int32).toNatClampNeg (0 : Int32).toNatClampNeg (8 : Int32).toNatClampNeg) a33 a35 (0 : Int32).toNatClampNeg (0 : Int32).toNatClampNeg (7 : Int32).toNatClampNeg) a39 a41 (0 : Int32).toNatClampNeg (0 : Int32).toNatClampNeg (7 : Int32).toNatClampNeg) a45 a47 (0 : Int32).toNatClampNeg (0 : Int32).toNatClampNeg (7 : Int32).toNatClampNeg) a51 a53 (0 : Int32).toNatClampNeg (0 : Int32).toNatClampNeg (4 : Int32).toNatClampNeg) a57 a59 (0 : Int32).toNatClampNeg (0 : Int32).toNatClampNeg (4 : Int32).toNatClampNeg) x0 10 ((bm_cI (bm_cI (bm_cI (bm_cI (bm_cL (bm_cI (bm_cI (bm_cI (bm_cI (bm_cL M a2 a5 (0 : Int32).toNatClampNeg (0 : Int32).toNatClampNeg (8 : Int32).toNatClampNeg) a9 a11 (0 : Int32).toNatClampNeg (0 : Int32).toNatClampNeg (8 : Int32).toNatClampNeg) a15 a17 (0 : Int32).toNatClampNeg (0 : Int32).toNatClampNeg (8 : Int32).toNatClampNeg) a21 a23 (0 : Int32).toNatClampNeg (0 : Int32).toNatClampNeg (8 : Int32).toNatClampNeg) a27 a29 (0 : Int32).toNatClampNeg (0 : Int32).toNatClampNeg (8 : Int32).toNatClampNeg) a33 a35 (0 : Int32).toNatClampNeg (0 : Int32).toNatClampNeg (7 : Int32).toNatClampNeg) a39 a41 (0 : Int32).toNatClampNeg (0 : Int32).toNatClampNeg (7 : Int32).toNatClampNeg) a45 a47 (0 : Int32).toNatClampNeg (0 : Int32).toNatClampNeg (7 : Int32).toNatClampNeg) a51 a53 (0 : Int32).toNatClampNeg (0 : Int32).toNatClampNeg (4 : Int32).toNatClampNeg) a57 a59 (0 : Int32).toNatClampNeg (0 : Int32).toNatClampNeg (4 : Int32).toNatClampNeg).1 x1 10)).1 x1 11)).1 x1 12)) x0 13 ((bm_sI (bm_sI (bm_sI (bm_cI (bm_cI (bm_cI (bm_cI (bm_cL (bm_cI (bm_cI (bm_cI (bm_cI (bm_cL M a2 a5 (0 : Int32).toNatClampNeg (0 : Int32).toNatClampNeg (8 : Int32).toNatClampNeg) a9 a11 (0 : Int32).toNatClampNeg (0 : Int32).toNatClampNeg (8 : Int32).toNatClampNeg) a15 a17 (0 : Int32).toNatClampNeg (0 : Int32).toNatClampNeg (8 : Int32).toNatClampNeg) a21 a23 (0 : Int32).toNatClampNeg (0 : Int32).toNatClampNeg (8 : Int32).toNatClampNeg) a27 a29 (0 : Int32).toNatClampNeg (0 : Int32).toNatClampNeg (8 : Int32).toNatClampNeg) a33 a35 (0 : Int32).toNatClampNeg (0 : Int32).toNatClampNeg (7 : Int32).toNatClampNeg) a39 a41 (0 : Int32).toNatClampNeg (0 : Int32).toNatClampNeg (7 : Int32).toNatClampNeg) a45 a47 (0 : Int32).toNatClampNeg (0 : Int32).toNatClampNeg (7 : Int32).toNatClampNeg) a51 a53 (0 : Int32).toNatClampNeg (0 : Int32).toNatClampNeg (4 : Int32).toNatClampNeg) a57 a59 (0 : Int32).toNatClampNeg (0 : Int32).toNatClampNeg (4 : Int32).toNatClampNeg) x0 10 ((bm_cI (bm_cI (bm_cI (bm_cI (bm_cL (bm_cI (bm_cI (bm_cI (bm_cI (bm_cL M a2 a5 (0 : Int32).toNatClampNeg (0 : Int32).toNatClampNeg (8 : Int32).toNatClampNeg) a9 a11 (0 : Int32).toNatClampNeg (0 : Int32).toNatClampNeg (8 : Int32).toNatClampNeg) a15 a17 (0 : Int32).toNatClampNeg (0 : Int32).toNatClampNeg (8 : Int32).toNatClampNeg) a21 a23 (0 : Int32).toNatClampNeg (0 : Int32).toNatClampNeg (8 : Int32).toNatClampNeg) a27 a29 (0 : Int32).toNatClampNeg (0 : Int32).toNatClampNeg (8 : Int32).toNatClampNeg) a33 a35 (0 : Int32).toNatClampNeg (0 : Int32).toNatClampNeg (7 : Int32).toNatClampNeg) a39 a41 (0 : Int32).toNatClampNeg (0 : Int32).toNatClampNeg (7 : Int32).toNatClampNeg) a45 a47 (0 : Int32).toNatClampNeg (0 : Int32).toNatClampNeg (7 : Int32).toNatClampNeg) a51 a53 (0 : Int32).toNatClampNeg (0 : Int32).toNatClampNeg (4 : Int32).toNatClampNeg) a57 a59 (0 : Int32).toNatClampNeg (0 : Int32).toNatClampNeg (4 : Int32).toNatClampNeg).1 x1 10)) x0 11 ((bm_sI (bm_cI (bm_cI (bm_cI (bm_cI (bm_cL (bm_cI (bm_cI (bm_cI (bm_cI (bm_cL M a2 a5 (0 : Int32).toNatClampNeg (0 : Int32).toNatClampNeg (8 : Int32).toNatClampNeg) a9 a11 (0 : Int32).toNatClampNeg (0 : Int32).toNatClampNeg (8 : Int32).toNatClampNeg) a15 a17 (0 : Int32).toNatClampNeg (0 : Int32).toNatClampNeg (8 : Int32).toNatClampNeg) a21 a23 (0 : Int32).toNatClampNeg (0 : Int32).toNatClampNeg (8 : Int32).toNatClampNeg) a27 a29 (0 : Int32).toNatClampNeg (0 : Int32).toNatClampNeg (8 : Int32).toNatClampNeg) a33 a35 (0 : Int32).toNatClampNeg (0 : Int32).toNatClampNeg (7 : Int32).toNatClampNeg) a39 a41 (0 : Int32).toNatClampNeg (0 : Int32).toNatClampNeg (7 : Int32).toNatClampNeg) a45 a47 (0 : Int32).toNatClampNeg (0 : Int32).toNatClampNeg (7 : Int32).toNatClampNeg) a51 a53 (0 : Int32).toNatClampNeg (0 : Int32).toNatClampNeg (4 : Int32).toNatClampNeg) a57 a59 (0 : Int32).toNatClampNeg (0 : Int32).toNatClampNeg (4 : Int32).toNatClampNeg) x0 10 ((bm_cI (bm_cI (bm_cI (bm_cI (bm_cL (bm_cI (bm_cI (bm_cI (bm_cI (bm_cL M a2 a5 (0 : Int32).toNatClampNeg (0 : Int32).toNatClampNeg (8 : Int32).toNatClampNeg) a9 a11 (0 : Int32).toNatClampNeg (0 : Int32).toNatClampNeg (8 : Int32).toNatClampNeg) a15 a17 (0 : Int32).toNatClampNeg (0 : Int32).toNatClampNeg (8 : Int32).toNatClampNeg) a21 a23 (0 : Int32).toNatClampNeg (0 : Int32).toNatClampNeg (8 : Int32).toNatClampNeg) a27 a29 (0 : Int32).toNatClampNeg (0 : Int32).toNatClampNeg (8 : Int32).toNatClampNeg) a33 a35 (0 : Int32).toNatClampNeg (0 : Int32).toNatClampNeg (7 : Int32).toNatClampNeg) a39 a41 (0 : Int32).toNatClampNeg (0 : Int32).toNatClampNeg (7 : Int32).toNatClampNeg) a45 a47 (0 : Int32).toNatClampNeg (0 : Int32).toNatClampNeg (7 : Int32).toNatClampNeg) a51 a53 (0 : Int32).toNatClampNeg (0 : Int32).toNatClampNeg (4 : Int32).toNatClampNeg) a57 a59 (0 : Int32).toNatClampNeg (0 : Int32).toNatClampNeg (4 : Int32).toNatClampNeg).1 x1 10)).1 x1 11)) x0 12 ((bm_sI (bm_sI (bm_cI (bm_cI (bm_cI (bm_cI (bm_cL (bm_cI (bm_cI (bm_cI (bm_cI (bm_cL M a2 a5 (0 : Int32).toNatClampNeg (0 : Int32).toNatClampNeg (8 : Int32).toNatClampNeg) a9 a11 (0 : Int32).toNatClampNeg (0 : Int32).toNatClampNeg (8 : Int32).toNatClampNeg) a15 a17 (0 : Int32).toNatClampNeg (0 : Int32).toNatClampNeg (8 : Int32).toNatClampNeg) a21 a23 (0 : Int32).toNatClampNeg (0 : Int32).toNatClampNeg (8 : Int32).toNatClampNeg) a27 a29 (0 : Int32).toNatClampNeg (0 : Int32).toNatClampNeg (8 : Int32).toNatClampNeg) a33 a35 (0 : Int32).toNatClampNeg (0 : Int32).toNatClampNeg (7 : Int32).toNatClampNeg) a39 a41 (0 : Int32).toNatClampNeg (0 : Int32).toNatClampNeg (7 : Int32).toNatClampNeg) a45 a47 (0 : Int32).toNatClampNeg (0 : Int32).toNatClampNeg (7 : Int32).toNatClampNeg) a51 a53 (0 : Int32).toNatClampNeg (0 : Int32).toNatClampNeg (4 : Int32).toNatClampNeg) a57 a59 (0 : Int32).toNatClampNeg (0 : Int32).toNatClampNeg (4 : Int32).toNatClampNeg) x0 10 ((bm_cI (bm_cI (bm_cI (bm_cI (bm_cL (bm_cI (bm_cI (bm_cI (bm_cI (bm_cL M a2 a5 (0 : Int32).toNatClampNeg (0 : Int32).toNatClampNeg (8 : Int32).toNatClampNeg) a9 a11 (0 : Int32).toNatClampNeg (0 : Int32).toNatClampNeg (8 : Int32).toNatClampNeg) a15 a17 (0 : Int32).toNatClampNeg (0 : Int32).toNatClampNeg (8 : Int32).toNatClampNeg) a21 a23 (0 : Int32).toNatClampNeg (0 : Int32).toNatClampNeg (8 : Int32).toNatClampNeg) a27 a29 (0 : Int32).toNatClampNeg (0 : Int32).toNatClampNeg (8 : Int32).toNatClampNeg) a33 a35 (0 : Int32).toNatClampNeg (0 : Int32).toNatClampNeg (7 : Int32).toNatClampNeg) a39 a41 (0 : Int32).toNatClampNeg (0 : Int32).toNatClampNeg (7 : Int32).toNatClampNeg) a45 a47 (0 : Int32).toNatClampNeg (0 : Int32).toNatClampNeg (7 : Int32).toNatClampNeg) a51 a53 (0 : Int32).toNatClampNeg (0 : Int32).toNatClampNeg (4 : Int32).toNatClampNeg) a57 a59 (0 : Int32).toNatClampNeg (0 : Int32).toNatClampNeg (4 : Int32).toNatClampNeg).1 x1 10)) x0 11 ((bm_sI (bm_cI (bm_cI (bm_cI (bm_cI (bm_cL (bm_cI (bm_cI (bm_cI (bm_cI (bm_cL M a2 a5 (0 : Int32).toNatClampNeg (0 : Int32).toNatClampNeg (8 : Int32).toNatClampNeg) a9 a11 (0 : Int32).toNatClampNeg (0 : Int32).toNatClampNeg (8 : Int32).toNatClampNeg) a15 a17 (0 : Int32).toNatClampNeg (0 : Int32).toNatClampNeg (8 : Int32).toNatClampNeg) a21 a23 (0 : Int32).toNatClampNeg (0 : Int32).toNatClampNeg (8 : Int32).toNatClampNeg) a27 a29 (0 : Int32).toNatClampNeg (0 : Int32).toNatClampNeg (8 : Int32).toNatClampNeg) a33 a35 (0 : Int32).toNatClampNeg (0 : Int32).toNatClampNeg (7 : Int32).toNatClampNeg) a39 a41 (0 : Int32).toNatClampNeg (0 : Int32).toNatClampNeg (7 : Int32).toNatClampNeg) a45 a47 (0 : Int32).toNatClampNeg (0 : Int32).toNatClampNeg (7 : Int32).toNatClampNeg) a51 a53 (0 : Int32).toNatClampNeg (0 : Int32).toNatClampNeg (4 : Int32).toNatClampNeg) a57 a59 (0 : Int32).toNatClampNeg (0 : Int32).toNatClampNeg (4 : Int32).toNatClampNeg) x0 10 ((bm_cI (bm_cI (bm_cI (bm_cI (bm_cL (bm_cI (bm_cI (bm_cI (bm_cI (bm_cL M a2 a5 (0 : Int32).toNatClampNeg (0 : Int32).toNatClampNeg (8 : Int32).toNatClampNeg) a9 a11 (0 : Int32).toNatClampNeg (0 : Int32).toNatClampNeg (8 : Int32).toNatClampNeg) a15 a17 (0 : Int32).toNatClampNeg (0 : Int32).toNatClampNeg (8 : Int32).toNatClampNeg) a21 a23 (0 : Int32).toNatClampNeg (0 : Int32).toNatClampNeg (8 : Int32).toNatClampNeg) a27 a29 (0 : Int32).toNatClampNeg (0 : Int32).toNatClampNeg (8 : Int32).toNatClampNeg) a33 a35 (0 : Int32).toNatClampNeg (0 : Int32).toNatClampNeg (7 : Int32).toNatClampNeg) a39 a41 (0 : Int32).toNatClampNeg (0 : Int32).toNatClampNeg (7 : Int32).toNatClampNeg) a45 a47 (0 : Int32).toNatClampNeg (0 : Int32).toNatClampNeg (7 : Int32).toNatClampNeg) a51 a53 (0 : Int32).toNatClampNeg (0 : Int32).toNatClampNeg (4 : Int32).toNatClampNeg) a57 a59 (0 : Int32).toNatClampNeg (0 : Int32).toNatClampNeg (4 : Int32).toNatClampNeg).1 x1 10)).1 x1 11)).1 x1 12)).1 x1 13)) x0 14 ((bm_sI (bm_sI (bm_sI (bm_sI (bm_cI (bm_cI (bm_cI (bm_cI (bm_cL (bm_cI (bm_cI (bm_cI (bm_cI (bm_cL M a2 a5 (0 : Int32).toNatClampNeg (0 : Int32).toNatClampNeg (8 : Int32).toNatClampNeg) a9 a11 (0 : Int32).toNatClampNeg (0 : Int32).toNatClampNeg (8 : Int32).toNatClampNeg) a15 a17 (0 : Int32).toNatClampNeg (0 : Int32).toNatClampNeg (8 : Int32).toNatClampNeg) a21 a23 (0 : Int32).toNatClampNeg (0 : Int32).toNatClampNeg (8 : Int32).toNatClampNeg) a27 a29 (0 : Int32).toNatClampNeg (0 : Int32).toNatClampNeg (8 : Int32).toNatClampNeg) a33 a35 (0 : Int32).toNatClampNeg (0 : Int32).toNatClampNeg (7 : Int32).toNatClampNeg) a39 a41 (0 : Int32).toNatClampNeg (0 : Int32).toNatClampNeg (7 : Int32).toNatClampNeg) a45 a47 (0 : Int32).toNatClampNeg (0 : Int32).toNatClampNeg (7 : Int32).toNatClampNeg) a51 a53 (0 : Int32).toNatClampNeg (0 : Int32).toNatClampNeg (4 : Int32).toNatClampNeg) a57 a59 (0 : Int32).toNatClampNeg (0 : Int32).toNatClampNeg (4 : Int32).toNatClampNeg) x0 10 ((bm_cI (bm_cI (bm_cI (bm_cI (bm_cL (bm_cI (bm_cI (bm_cI (bm_cI (bm_cL M a2 a5 (0 : Int32).toNatClampNeg (0 : Int32).toNatClampNeg (8 : Int32).toNatClampNeg) a9 a11 (0 : Int32).toNatClampNeg (0 : Int32).toNatClampNeg (8 : Int32).toNatClampNeg) a15 a17 (0 : Int32).toNatClampNeg (0 : Int32).toNatClampNeg (8 : Int32).toNatClampNeg) a21 a23 (0 : Int32).toNatClampNeg (0 : Int32).toNatClampNeg (8 : Int32).toNatClampNeg) a27 a29 (0 : Int32).toNatClampNeg (0 : Int32).toNatClampNeg (8 : Int32).toNatClampNeg) a33 a35 (0 : Int32).toNatClampNeg (0 : Int32).toNatClampNeg (7 : Int32).toNatClampNeg) a39 a41 (0 : Int32).toNatClampNeg (0 : Int32).toNatClampNeg (7 : Int32).toNatClampNeg) a45 a47 (0 : Int32).toNatClampNeg (0 : Int32).toNatClampNeg (7 : Int32).toNatClampNeg) a51 a53 (0 : Int32).toNatClampNeg (0 : Int32).toNatClampNeg (4 : Int32).toNatClampNeg) a57 a59 (0 : Int32).toNatClampNeg (0 : Int32).toNatClampNeg (4 : Int32).toNatClampNeg).1 x1 10)) x0 11 ((bm_sI (bm_cI (bm_cI (bm_cI (bm_cI (bm_cL (bm_cI (bm_cI (bm_cI (bm_cI (bm_cL M a2 a5 (0 : Int32).toNatClampNeg (0 : Int32).toNatClampNeg (8 : Int32).toNatClampNeg) a9 a11 (0 : Int32).toNatClampNeg (0 : Int32).toNatClampNeg (8 : Int32).toNatClampNeg) a15 a17 (0 : Int32).toNatClampNeg (0 : Int32).toNatClampNeg (8 : Int32).toNatClampNeg) a21 a23 (0 : Int32).toNatClampNeg (0 : Int32).toNatClampNeg (8 : Int32).toNatClampNeg) a27 a29 (0 : Int32).toNatClampNeg (0 : Int32).toNatClampNeg (8 : Int32).toNatClampNeg) a33 a35 (0 : Int32).toNatClampNeg (0 : Int32).toNatClampNeg (7 : Int32).toNatClampNeg) a39 a41 (0 : Int32).toNatClampNeg (0 : Int32).toNatClampNeg (7 : Int32).toNatClampNeg) a45 a47 (0 : Int32).toNatClampNeg (0 : Int32).toNatClampNeg (7 : Int32).toNatClampNeg) a51 a53 (0 : Int32).toNatClampNeg (0 : Int32).toNatClampNeg (4 : Int32).toNatClampNeg) a57 a59 (0 : Int32).toNatClampNeg (0 : Int32).toNatClampNeg (4 : Int32).toNatClampNeg) x0 10 ((bm_cI (bm_cI (bm_cI (bm_cI (bm_cL (bm_cI (bm_cI (bm_cI (bm_cI (bm_cL M a2 a5 (0 : Int32).toNatClampNeg (0 : Int32).toNatClampNeg (8 : Int32).toNatClampNeg) a9 a11 (0 : Int32).toNatClampNeg (0 : Int32).toNatClampNeg (8 : Int32).toNatClampNeg) a15 a17 (0 : Int32).toNatClampNeg (0 : Int32).toNatClampNeg (8 : Int32).toNatClampNeg) a21 a23 (0 : Int32).toNatClampNeg (0 : Int32).toNatClampNeg (8 : Int32).toNatClampNeg) a27 a29 (0 : Int32).toNatClampNeg (0 : Int32).toNatClampNeg (8 : Int32).toNatClampNeg) a33 a35 (0 : Int32).toNatClampNeg (0 : Int32).toNatClampNeg (7 : Int32).toNatClampNeg) a39 a41 (0 : Int32).toNatClampNeg (0 : Int32).toNatClampNeg (7 : Int32).toNatClampNeg) a45 a47 (0 : Int32).toNatClampNeg (0 : Int32).toNatClampNeg (7 : Int32).toNatClampNeg) a51 a53 (0 : Int32).toNatClampNeg (0 : Int32).toNatClampNeg (4 : Int32).toNatClampNeg) a57 a59 (0 : Int32).toNatClampNeg (0 : Int32).toNatClampNeg (4 : Int32).toNatClampNeg).1 x1 10)).1 x1 11)) x0 12 ((bm_sI (bm_sI (bm_cI (bm_cI (bm_cI (bm_cI (bm_cL (bm_cI (bm_cI (bm_cI (bm_cI (bm_cL M a2 a5 (0 : Int32).toNatClampNeg (0 : Int32).toNatClampNeg (8 : Int32).toNatClampNeg) a9 a11 (0 : Int32).toNatClampNeg (0 : Int32).toNatClampNeg (8 : Int32).toNatClampNeg) a15 a17 (0 : Int32).toNatClampNeg (0 : Int32).toNatClampNeg (8 : Int32).toNatClampNeg) a21 a23 (0 : Int32).toNatClampNeg (0 : Int32).toNatClampNeg (8 : Int32).toNatClampNeg) a27 a29 (0 : Int32).toNatClampNeg (0 : Int32).toNatClampNeg (8 : Int32).toNatClampNeg) a33 a35 (0 : Int32).toNatClampNeg (0 : Int32).toNatClampNeg (7 : Int32).toNatClampNeg) a39 a41 (0 : Int32).toNatClampNeg (0 : Int32).toNatClampNeg (7 : Int32).toNatClampNeg) a45 a47 (0 : Int32).toNatClampNeg (0 : Int32).toNatClampNeg (7 : Int32).toNatClampNeg) a51 a53 (0 : Int32).toNatClampNeg (0 : Int32).toNatClampNeg (4 : Int32).toNatClampNeg) a57 a59 (0 : Int32).toNatClampNeg (0 : Int32).toNatClampNeg (4 : Int32).toNatClampNeg) x0 10 ((bm_cI (bm_cI (bm_cI (bm_cI (bm_cL (bm_cI (bm_cI (bm_cI (bm_cI (bm_cL M a2 a5 (0 : Int32).toNatClampNeg (0 : Int32).toNatClampNeg (8 : Int32).toNatClampNeg) a9 a11 (0 : Int32).toNatClampNeg (0 : Int32).toNatClampNeg (8 : Int32).toNatClampNeg) a15 a17 (0 : Int32).toNatClampNeg (0 : Int32).toNatClampNeg (8 : Int32).toNatClampNeg) a21 a23 (0 : Int32).toNatClampNeg (0 : Int32).toNatClampNeg (8 : Int32).toNatClampNeg) a27 a29 (0 : Int32).toNatClampNeg (0 : Int32).toNatClampNeg (8 : Int32).toNatClampNeg) a33 a35 (0 : Int32).toNatClampNeg (0 : Int32).toNatClampNeg (7 : Int32).toNatClampNeg) a39 a41 (0 : Int32).toNatClampNeg (0 : Int32).toNatClampNeg (7 : Int32).toNatClampNeg) a45 a47 (0 : Int32).toNatClampNeg (0 : Int32).toNatClampNeg (7 : Int32).toNatClampNeg) a51 a53 (0 : Int32).toNatClampNeg (0 : Int32).toNatClampNeg (4 : Int32).toNatClampNeg) a57 a59 (0 : Int32).toNatClampNeg (0 : Int32).toNatClampNeg (4 : Int32).toNatClampNeg).1 x1 10)) x0 11 ((bm_sI (bm_cI (bm_cI (bm_cI (bm_cI (bm_cL (bm_cI (bm_cI (bm_cI (bm_cI (bm_cL M a2 a5 (0 : Int32).toNatClampNeg (0 : Int32).toNatClampNeg (8 : Int32).toNatClampNeg) a9 a11 (0 : Int32).toNatClampNeg (0 : Int32).toNatClampNeg (8 : Int32).toNatClampNeg) a15 a17 (0 : Int32).toNatClampNeg (0 : Int32).toNatClampNeg (8 : Int32).toNatClampNeg) a21 a23 (0 : Int32).toNatClampNeg (0 : Int32).toNatClampNeg (8 : Int32).toNatClampNeg) a27 a29 (0 : Int32).toNatClampNeg (0 : Int32).toNatClampNeg (8 : Int32).toNatClampNeg) a33 a35 (0 : Int32).toNatClampNeg (0 : Int32).toNatClampNeg (7 : Int32).toNatClampNeg) a39 a41 (0 : Int32).toNatClampNeg (0 : Int32).toNatClampNeg (7 : Int32).toNatClampNeg) a45 a47 (0 : Int32).toNatClampNeg (0 : Int32).toNatClampNeg (7 : Int32).toNatClampNeg) a51 a53 (0 : Int32).toNatClampNeg (0 : Int32).toNatClampNeg (4 : Int32).toNatClampNeg) a57 a59 (0 : Int32).toNatClampNeg (0 : Int32).toNatClampNeg (4 : Int32).toNatClampNeg) x0 10 ((bm_cI (bm_cI (bm_cI (bm_cI (bm_cL (bm_cI (bm_cI (bm_cI (bm_cI (bm_cL M a2 a5 (0 : Int32).toNatClampNeg (0 : Int32).toNatClampNeg (8 : Int32).toNatClampNeg) a9 a11 (0 : Int32).toNatClampNeg (0 : Int32).toNatClampNeg (8 : Int32).toNatClampNeg) a15 a17 (0 : Int32).toNatClampNeg (0 : Int32).toNatClampNeg (8 : Int32).toNatClampNeg) a21 a23 (0 : Int32).toNatClampNeg (0 : Int32).toNatClampNeg (8 : Int32).toNatClampNeg) a27 a29 (0 : Int32).toNatClampNeg (0 : Int32).toNatClampNeg (8 : Int32).toNatClampNeg) a33 a35 (0 : Int32).toNatClampNeg (0 : Int32).toNatClampNeg (7 : Int32).toNatClampNeg) a39 a41 (0 : Int32).toNatClampNeg (0 : Int32).toNatClampNeg (7 : Int32).toNatClampNeg) a45 a47 (0 : Int32).toNatClampNeg (0 : Int32).toNatClampNeg (7 : Int32).toNatClampNeg) a51 a53 (0 : Int32).toNatClampNeg (0 : Int32).toNatClampNeg (4 : Int32).toNatClampNeg) a57 a59 (0 : Int32).toNatClampNeg (0 : Int32).toNatClampNeg (4 : Int32).toNatClampNeg).1 x1 10)).1 x1 11)).1 x1 12)) x0 13 ((bm_sI (bm_sI (bm_sI (bm_cI (bm_cI (bm_cI (bm_cI (bm_cL (bm_cI (bm_cI (bm_cI (bm_cI (bm_cL M a2 a5 (0 : Int32).toNatClampNeg (0 : Int32).toNatClampNeg (8 : Int32).toNatClampNeg) a9 a11 (0 : Int32).toNatClampNeg (0 : Int32).toNatClampNeg (8 : Int32).toNatClampNeg) a15 a17 (0 : Int32).toNatClampNeg (0 : Int32).toNatClampNeg (8 : Int32).toNatClampNeg) a21 a23 (0 : Int32).toNatClampNeg (0 : Int32).toNatClampNeg (8 : Int32).toNatClampNeg) a27 a29 (0 : Int32).toNatClampNeg (0 : Int32).toNatClampNeg (8 : Int32).toNatClampNeg) a33 a35 (0 : Int32).toNatClampNeg (0 : Int32).toNatClampNeg (7 : Int32).toNatClampNeg) a39 a41 (0 : Int32).toNatClampNeg (0 : Int32).toNatClampNeg (7 : Int32).toNatClampNeg) a45 a47 (0 : Int32).toNatClampNeg (0 : Int32).toNatClampNeg (7 : Int32).toNatClampNeg) a51 a53 (0 : Int32).toNatClampNeg (0 : Int32).toNatClampNeg (4 : Int32).toNatClampNeg) a57 a59 (0 : Int32).toNatClampNeg (0 : Int32).toNatClampNeg (4 : Int32).toNatClampNeg) x0 10 ((bm_cI (bm_cI (bm_cI (bm_cI (bm_cL (bm_cI (bm_cI (bm_cI (bm_cI (bm_cL M a2 a5 (0 : Int32).toNatClampNeg (0 : Int32).toNatClampNeg (8 : Int32).toNatClampNeg) a9 a11 (0 : Int32).toNatClampNeg (0 : Int32).toNatClampNeg (8 : Int32).toNatClampNeg) a15 a17 (0 : Int32).toNatClampNeg (0 : Int32).toNatClampNeg (8 : Int32).toNatClampNeg) a21 a23 (0 : Int32).toNatClampNeg (0 : Int32).toNatClampNeg (8 : Int32).toNatClampNeg) a27 a29 (0 : Int32).toNatClampNeg (0 : Int32).toNatClampNeg (8 : Int32).toNatClampNeg) a33 a35 (0 : Int32).toNatClampNeg (0 : Int32).toNatClampNeg (7 : Int32).toNatClampNeg) a39 a41 (0 : Int32).toNatClampNeg (0 : Int32).toNatClampNeg (7 : Int32).toNatClampNeg) a45 a47 (0 : Int32).toNatClampNeg (0 : Int32).toNatClampNeg (7 : Int32).toNatClampNeg) a51 a53 (0 : Int32).toNatClampNeg (0 : Int32).toNatClampNeg (4 : Int32).toNatClampNeg) a57 a59 (0 : Int32).toNatClampNeg (0 : Int32).toNatClampNeg (4 : Int32).toNatClampNeg).1 x1 10)) x0 11 ((bm_sI (bm_cI (bm_cI (bm_cI (bm_cI (bm_cL (bm_cI (bm_cI (bm_cI (bm_cI (bm_cL M a2 a5 (0 : Int32).toNatClampNeg (0 : Int32).toNatClampNeg (8 : Int32).toNatClampNeg) a9 a11 (0 : Int32).toNatClampNeg (0 : Int32).toNatClampNeg (8 : Int32).toNatClampNeg) a15 a17 (0 : Int32).toNatClampNeg (0 : Int32).toNatClampNeg (8 : Int32).toNatClampNeg) a21 a23 (0 : Int32).toNatClampNeg (0 : Int32).toNatClampNeg (8 : Int32).toNatClampNeg) a27 a29 (0 : Int32).toNatClampNeg (0 : Int32).toNatClampNeg (8 : Int32).toNatClampNeg) a33 a35 (0 : Int32).toNatClampNeg (0 : Int32).toNatClampNeg (7 : Int32).toNatClampNeg) a39 a41 (0 : Int32).toNatClampNeg (0 : Int32).toNatClampNeg (7 : Int32).toNatClampNeg) a45 a47 (0 : Int32).toNatClampNeg (0 : Int32).toNatClampNeg (7 : Int32).toNatClampNeg) a51 a53 (0 : Int32).toNatClampNeg (0 : Int32).toNatClampNeg (4 : Int32).toNatClampNeg) a57 a59 (0 : Int32).toNatClampNeg (0 : Int32).toNatClampNeg (4 : Int32).toNatClampNeg) x0 10 ((bm_cI (bm_cI (bm_cI (bm_cI (bm_cL (bm_cI (bm_cI (bm_cI (bm_cI (bm_cL M a2 a5 (0 : Int32).toNatClampNeg (0 : Int32).toNatClampNeg (8 : Int32).toNatClampNeg) a9 a11 (0 : Int32).toNatClampNeg (0 : Int32).toNatClampNeg (8 : Int32).toNatClampNeg) a15 a17 (0 : Int32).toNatClampNeg (0 : Int32).toNatClampNeg (8 : Int32).toNatClampNeg) a21 a23 (0 : Int32).toNatClampNeg (0 : Int32).toNatClampNeg (8 : Int32).toNatClampNeg) a27 a29 (0 : Int32).toNatClampNeg (0 : Int32).toNatClampNeg (8 : Int32).toNatClampNeg) a33 a35 (0 : Int32).toNatClampNeg (0 : Int32).toNatClampNeg (7 : Int32).toNatClampNeg) a39 a41 (0 : Int32).toNatClampNeg (0 : Int32).toNatClampNeg (7 : Int32).toNatClampNeg) a45 a47 (0 : Int32).toNatClampNeg (0 : Int32).toNatClampNeg (7 : Int32).toNatClampNeg) a51 a53 (0 : Int32).toNatClampNeg (0 : Int32).toNatClampNeg (4 : Int32).toNatClampNeg) a57 a59 (0 : Int32).toNatClampNeg (0 : Int32).toNatClampNeg (4 : Int32).toNatClampNeg).1 x1 10)).1 x1 11)) x0 12 ((bm_sI (bm_sI (bm_cI (bm_cI (bm_cI (bm_cI (bm_cL (bm_cI (bm_cI (bm_cI (bm_cI (bm_cL M a2 a5 (0 : Int32).toNatClampNeg (0 : Int32).toNatClampNeg (8 : Int32).toNatClampNeg) a9 a11 (0 : Int32).toNatClampNeg (0 : Int32).toNatClampNeg (8 : Int32).toNatClampNeg) a15 a17 (0 : Int32).toNatClampNeg (0 : Int32).toNatClampNeg (8 : Int32).toNatClampNeg) a21 a23 (0 : Int32).toNatClampNeg (0 : Int32).toNatClampNeg (8 : Int32).toNatClampNeg) a27 a29 (0 : Int32).toNatClampNeg (0 : Int32).toNatClampNeg (8 : Int32).toNatClampNeg) a33 a35 (0 : Int32).toNatClampNeg (0 : Int32).toNatClampNeg (7 : Int32).toNatClampNeg) a39 a41 (0 : Int32).toNatClampNeg (0 : Int32).toNatClampNeg (7 : Int32).toNatClampNeg) a45 a47 (0 : Int32).toNatClampNeg (0 : Int32).toNatClampNeg (7 : Int32).toNatClampNeg) a51 a53 (0 : Int32).toNatClampNeg (0 : Int32).toNatClampNeg (4 : Int32).toNatClampNeg) a57 a59 (0 : Int32).toNatClampNeg (0 : Int32).toNatClampNeg (4 : Int32).toNatClampNeg) x0 10 ((bm_cI (bm_cI (bm_cI (bm_cI (bm_cL (bm_cI (bm_cI (bm_cI (bm_cI (bm_cL M a2 a5 (0 : Int32).toNatClampNeg (0 : Int32).toNatClampNeg (8 : Int32).toNatClampNeg) a9 a11 (0 : Int32).toNatClampNeg (0 : Int32).toNatClampNeg (8 : Int32).toNatClampNeg) a15 a17 (0 : Int32).toNatClampNeg (0 : Int32).toNatClampNeg (8 : Int32).toNatClampNeg) a21 a23 (0 : Int32).toNatClampNeg (0 : Int32).toNatClampNeg (8 : Int32).toNatClampNeg) a27 a29 (0 : Int32).toNatClampNeg (0 : Int32).toNatClampNeg (8 : Int32).toNatClampNeg) a33 a35 (0 : Int32).toNatClampNeg (0 : Int32).toNatClampNeg (7 : Int32).toNatClampNeg) a39 a41 (0 : Int32).toNatClampNeg (0 : Int32).toNatClampNeg (7 : Int32).toNatClampNeg) a45 a47 (0 : Int32).toNatClampNeg (0 : Int32).toNatClampNeg (7 : Int32).toNatClampNeg) a51 a53 (0 : Int32).toNatClampNeg (0 : Int32).toNatClampNeg (4 : Int32).toNatClampNeg) a57 a59 (0 : Int32).toNatClampNeg (0 : Int32).toNatClampNeg (4 : Int32).toNatClampNeg).1 x1 10)) x0 11 ((bm_sI (bm_cI (bm_cI (bm_cI (bm_cI (bm_cL (bm_cI (bm_cI (bm_cI (bm_cI (bm_cL M a2 a5 (0 : Int32).toNatClampNeg (0 : Int32).toNatClampNeg (8 : Int32).toNatClampNeg) a9 a11 (0 : Int32).toNatClampNeg (0 : Int32).toNatClampNeg (8 : Int32).toNatClampNeg) a15 a17 (0 : Int32).toNatClampNeg (0 : Int32).toNatClampNeg (8 : Int32).toNatClampNeg) a21 a23 (0 : Int32).toNatClampNeg (0 : Int32).toNatClampNeg (8 : Int32).toNatClampNeg) a27 a29 (0 : Int32).toNatClampNeg (0 : Int32).toNatClampNeg (8 : Int32).toNatClampNeg) a33 a35 (0 : Int32).toNatClampNeg (0 : Int32).toNatClampNeg (7 : Int32).toNatClampNeg) a39 a41 (0 : Int32).toNatClampNeg (0 : Int32).toNatClampNeg (7 : Int32).toNatClampNeg) a45 a47 (0 : Int32).toNatClampNeg (0 : Int32).toNatClampNeg (7 : Int32).toNatClampNeg) a51 a53 (0 : Int32).toNatClampNeg (0 : Int32).toNatClampNeg (4 : Int32).toNatClampNeg) a57 a59 (0 : Int32).toNatClampNeg (0 : Int32).toNatClampNeg (4 : Int32).toNatClampNeg) x0 10 ((bm_cI (bm_cI (bm_cI (bm_cI (bm_cL (bm_cI (bm_cI (bm_cI (bm_cI (bm_cL M a2 a5 (0 : Int32).toNatClampNeg (0 : Int32).toNatClampNeg (8 : Int32).toNatClampNeg) a9 a11 (0 : Int32).toNatClampNeg (0 : Int32).toNatClampNeg (8 : Int32).toNatClampNeg) a15 a17 (0 : Int32).toNatClampNeg (0 : Int32).toNatClampNeg (8 : Int32).toNatClampNeg) a21 a23 (0 : Int32).toNatClampNeg (0 : Int32).toNatClampNeg (8 : Int32).toNatClampNeg) a27 a29 (0 : Int32).toNatClampNeg (0 : Int32).toNatClampNeg (8 : Int32).toNatClampNeg) a33 a35 (0 : Int32).toNatClampNeg (0 : Int32).toNatClampNeg (7 : Int32).toNatClampNeg) a39 a41 (0 : Int32).toNatClampNeg (0 : Int32).toNatClampNeg (7 : Int32).toNatClampNeg) a45 a47 (0 : Int32).toNatClampNeg (0 : Int32).toNatClampNeg (7 : Int32).toNatClampNeg) a51 a53 (0 : Int32).toNatClampNeg (0 : Int32).toNatClampNeg (4 : Int32).toNatClampNeg) a57 a59 (0 : Int32).toNatClampNeg (0 : Int32).toNatClampNeg (4 : Int32).toNatClampNeg).1 x1 10)).1 x1 11)).1 x1 12)).1 x1 13)).1 x1 14)) x0 15 ((bm_sI (bm_sI (bm_sI (bm_sI (bm_sI (bm_cI (bm_cI (bm_cI (bm_cI (bm_cL (bm_cI (bm_cI (bm_cI (bm_cI (bm_cL M a2 a5 (0 : Int32).toNatClampNeg (0 : Int32).toNatClampNeg (8 : Int32).toNatClampNeg) a9 a11 (0 : Int32).toNatClampNeg (0 : Int32).toNatClampNeg (8 : Int32).toNatClampNeg) a15 a17 (0 : Int32).toNatClampNeg (0 : Int32).toNatClampNeg (8 : Int32).toNatClampNeg) a21 a23 (0 : Int32).toNatClampNeg (0 : Int32).toNatClampNeg (8 : Int32).toNatClampNeg) a27 a29 (0 : Int32).toNatClampNeg (0 : Int32).toNatClampNeg (8 : Int32).toNatClampNeg) a33 a35 (0 : Int32).toNatClampNeg (0 : Int32).toNatClampNeg (7 : Int32).toNatClampNeg) a39 a41 (0 : Int32).toNatClampNeg (0 : Int32).toNatClampNeg (7 : Int32).toNatClampNeg) a45 a47 (0 : Int32).toNatClampNeg (0 : Int32).toNatClampNeg (7 : Int32).toNatClampNeg) a51 a53 (0 : Int32).toNatClampNeg (0 : Int32).toNatClampNeg (4 : Int32).toNatClampNeg) a57 a59 (0 : Int32).toNatClampNeg (0 : Int32).toNatClampNeg (4 : Int32).toNatClampNeg) x0 10 ((bm_cI (bm_cI (bm_cI (bm_cI (bm_cL (bm_cI (bm_cI (bm_cI (bm_cI (bm_cL M a2 a5 (0 : Int32).toNatClampNeg (0 : Int32).toNatClampNeg (8 : Int32).toNatClampNeg) a9 a11 (0 : Int32).toNatClampNeg (0 : Int32).toNatClampNeg (8 : Int32).toNatClampNeg) a15 a17 (0 : Int32).toNatClampNeg (0 : Int32).toNatClampNeg (8 : Int32).toNatClampNeg) a21 a23 (0 : Int32).toNatClampNeg (0 : Int32).toNatClampNeg (8 : Int32).toNatClampNeg) a27 a29 (0 : Int32).toNatClampNeg (0 : Int32).toNatClampNeg (8 : Int32).toNatClampNeg) a33 a35 (0 : Int32).toNatClampNeg (0 : Int32).toNatClampNeg (7 : Int32).toNatClampNeg) a39 a41 (0 : Int32).toNatClampNeg (0 : Int32).toNatClampNeg (7 : Int32).toNatClampNeg) a45 a47 (0 : Int32).toNatClampNeg (0 : Int32).toNatClampNeg (7 : Int32).toNatClampNeg) a51 a53 (0 : Int32).toNatClampNeg (0 : Int32).toNatClampNeg (4 : Int32).toNatClampNeg) a57 a59 (0 : Int32).toNatClampNeg (0 : Int32).toNatClampNeg (4 : Int32).toNatClampNeg).1 x1 10)) x0 11 ((bm_sI (bm_cI (bm_cI (bm_cI (bm_cI (bm_cL (bm_cI (bm_cI (bm_cI (bm_cI (bm_cL M a2 a5 (0 : Int32).toNatClampNeg (0 : Int32).toNatClampNeg (8 : Int32).toNatClampNeg) a9 a11 (0 : Int32).toNatClampNeg (0 : Int32).toNatClampNeg (8 : Int32).toNatClampNeg) a15 a17 (0 : Int32).toNatClampNeg (0 : Int32).toNatClampNeg (8 : Int32).toNatClampNeg) a21 a23 (0 : Int32).toNatClampNeg (0 : Int32).toNatClampNeg (8 : Int32).toNatClampNeg) a27 a29 (0 : Int32).toNatClampNeg (0 : Int32).toNatClampNeg (8 : Int32).toNatClampNeg) a33 a35 (0 : Int32).toNatClampNeg (0 : Int32).toNatClampNeg (7 : Int32).toNatClampNeg) a39 a41 (0 : Int32).toNatClampNeg (0 : Int32).toNatClampNeg (7 : Int32).toNatClampNeg) a45 a47 (0 : Int32).toNatClampNeg (0 : Int32).toNatClampNeg (7 : Int32).toNatClampNeg) a51 a53 (0 : Int32).toNatClampNeg (0 : Int32).toNatClampNeg (4 : Int32).toNatClampNeg) a57 a59 (0 : Int32).toNatClampNeg (0 : Int32).toNatClampNeg (4 : Int32).toNatClampNeg) x0 10 ((bm_cI (bm_cI (bm_cI (bm_cI (bm_cL (bm_cI (bm_cI (bm_cI (bm_cI (bm_cL M a2 a5 (0 : Int32).toNatClampNeg (0 : Int32).toNatClampNeg (8 : Int32).toNatClampNeg) a9 a11 (0 : Int32).toNatClampNeg (0 : Int32).toNatClampNeg (8 : Int32).toNatClampNeg) a15 a17 (0 : Int32).toNatClampNeg (0 : Int32).toNatClampNeg (8 : Int32).toNatClampNeg) a21 a23 (0 : Int32).toNatClampNeg (0 : Int32).toNatClampNeg (8 : Int32).toNatClampNeg) a27 a29 (0 : Int32).toNatClampNeg (0 : Int32).toNatClampNeg (8 : Int32).toNatClampNeg) a33 a35 (0 : Int32).toNatClampNeg (0 : Int32).toNatClampNeg (7 : Int32).toNatClampNeg) a39 a41 (0 : Int32).toNatClampNeg (0 : Int32).toNatClampNeg (7 : Int32).toNatClampNeg) a45 a47 (0 : Int32).toNatClampNeg (0 : Int32).toNatClampNeg (7 : Int32).toNatClampNeg) a51 a53 (0 : Int32).toNatClampNeg (0 : Int32).toNatClampNeg (4 : Int32).toNatClampNeg) a57 a59 (0 : Int32).toNatClampNeg (0 : Int32).toNatClampNeg (4 : Int32).toNatClampNeg).1 x1 10)).1 x1 11)) x0 12 ((bm_sI (bm_sI (bm_cI (bm_cI (bm_cI (bm_cI (bm_cL (bm_cI (bm_cI (bm_cI (bm_cI (bm_cL M a2 a5 (0 : Int32).toNatClampNeg (0 : Int32).toNatClampNeg (8 : Int32).toNatClampNeg) a9 a11 (0 : Int32).toNatClampNeg (0 : Int32).toNatClampNeg (8 : Int32).toNatClampNeg) a15 a17 (0 : Int32).toNatClampNeg (0 : Int32).toNatClampNeg (8 : Int32).toNatClampNeg) a21 a23 (0 : Int32).toNatClampNeg (0 : Int32).toNatClampNeg (8 : Int32).toNatClampNeg) a27 a29 (0 : Int32).toNatClampNeg (0 : Int32).toNatClampNeg (8 : Int32).toNatClampNeg) a33 a35 (0 : Int32).toNatClampNeg (0 : Int32).toNatClampNeg (7 : Int32).toNatClampNeg) a39 a41 (0 : Int32).toNatClampNeg (0 : Int32).toNatClampNeg (7 : Int32).toNatClampNeg) a45 a47 (0 : Int32).toNatClampNeg (0 : Int32).toNatClampNeg (7 : Int32).toNatClampNeg) a51 a53 (0 : Int32).toNatClampNeg (0 : Int32).toNatClampNeg (4 : Int32).toNatClampNeg) a57 a59 (0 : Int32).toNatClampNeg (0 : Int32).toNatClampNeg (4 : Int32).toNatClampNeg) x0 10 ((bm_cI (bm_cI (bm_cI (bm_cI (bm_cL (bm_cI (bm_cI (bm_cI (bm_cI (bm_cL M a2 a5 (0 : Int32).toNatClampNeg (0 : Int32).toNatClampNeg (8 : Int32).toNatClampNeg) a9 a11 (0 : Int32).toNatClampNeg (0 : Int32).toNatClampNeg (8 : Int32).toNatClampNeg) a15 a17 (0 : Int32).toNatClampNeg (0 : Int32).toNatClampNeg (8 : Int32).toNatClampNeg) a21 a23 (0 : Int32).toNatClampNeg (0 : Int32).toNatClampNeg (8 : Int32).toNatClampNeg) a27 a29 (0 : Int32).toNatClampNeg (0 : Int32).toNatClampNeg (8 : Int32).toNatClampNeg) a33 a35 (0 : Int32).toNatClampNeg (0 : Int32).toNatClampNeg (7 : Int32).toNatClampNeg) a39 a41 (0 : Int32).toNatClampNeg (0 : Int32).toNatClampNeg (7 : Int32).toNatClampNeg) a45 a47 (0 : Int32).toNatClampNeg (0 : Int32).toNatClampNeg (7 : Int32).toNatClampNeg) a51 a53 (0 : Int32).toNatClampNeg (0 : Int32).toNatClampNeg (4 : Int32).toNatClampNeg) a57 a59 (0 : Int32).toNatClampNeg (0 : Int32).toNatClampNeg (4 : Int32).toNatClampNeg).1 x1 10)) x0 11 ((bm_sI (bm_cI (bm_cI (bm_cI (bm_cI (bm_cL (bm_cI (bm_cI (bm_cI (bm_cI (bm_cL M a2 a5 (0 : Int32).toNatClampNeg (0 : Int32).toNatClampNeg (8 : Int32).toNatClampNeg) a9 a11 (0 : Int32).toNatClampNeg (0 : Int32).toNatClampNeg (8 : Int32).toNatClampNeg) a15 a17 (0 : Int32).toNatClampNeg (0 : Int32).toNatClampNeg (8 : Int32).toNatClampNeg) a21 a23 (0 : Int32).toNatClampNeg (0 : Int32).toNatClampNeg (8 : Int32).toNatClampNeg) a27 a29 (0 : Int32).toNatClampNeg (0 : Int32).toNatClampNeg (8 : Int32).toNatClampNeg) a33 a35 (0 : Int32).toNatClampNeg (0 : Int32).toNatClampNeg (7 : Int32).toNatClampNeg) a39 a41 (0 : Int32).toNatClampNeg (0 : Int32).toNatClampNeg (7 : Int32).toNatClampNeg) a45 a47 (0 : Int32).toNatClampNeg (0 : Int32).toNatClampNeg (7 : Int32).toNatClampNeg) a51 a53 (0 : Int32).toNatClampNeg (0 : Int32).toNatClampNeg (4 : Int32).toNatClampNeg) a57 a59 (0 : Int32).toNatClampNeg (0 : Int32).toNatClampNeg (4 : Int32).toNatClampNeg) x0 10 ((bm_cI (bm_cI (bm_cI (bm_cI (bm_cL (bm_cI (bm_cI (bm_cI (bm_cI (bm_cL M a2 a5 (0 : Int32).toNatClampNeg (0 : Int32).toNatClampNeg (8 : Int32).toNatClampNeg) a9 a11 (0 : Int32).toNatClampNeg (0 : Int32).toNatClampNeg (8 : Int32).toNatClampNeg) a15 a17 (0 : Int32).toNatClampNeg (0 : Int32).toNatClampNeg (8 : Int32).toNatClampNeg) a21 a23 (0 : Int32).toNatClampNeg (0 : Int32).toNatClampNeg (8 : Int32).toNatClampNeg) a27 a29 (0 : Int32).toNatClampNeg (0 : Int32).toNatClampNeg (8 : Int32).toNatClampNeg) a33 a35 (0 : Int32).toNatClampNeg (0 : Int32).toNatClampNeg (7 : Int32).toNatClampNeg) a39 a41 (0 : Int32).toNatClampNeg (0 : Int32).toNatClampNeg (7 : Int32).toNatClampNeg) a45 a47 (0 : Int32).toNatClampNeg (0 : Int32).toNatClampNeg (7 : Int32).toNatClampNeg) a51 a53 (0 : Int32).toNatClampNeg (0 : Int32).toNatClampNeg (4 : Int32).toNatClampNeg) a57 a59 (0 : Int32).toNatClampNeg (0 : Int32).toNatClampNeg (4 : Int32).toNatClampNeg).1 x1 10)).1 x1 11)).1 x1 12)) x0 13 ((bm_sI (bm_sI (bm_sI (bm_cI (bm_cI (bm_cI (bm_cI (bm_cL (bm_cI (bm_cI (bm_cI (bm_cI (bm_cL M a2 a5 (0 : Int32).toNatClampNeg (0 : Int32).toNatClampNeg (8 : Int32).toNatClampNeg) a9 a11 (0 : Int32).toNatClampNeg (0 : Int32).toNatClampNeg (8 : Int32).toNatClampNeg) a15 a17 (0 : Int32).toNatClampNeg (0 : Int32).toNatClampNeg (8 : Int32).toNatClampNeg) a21 a23 (0 : Int32).toNatClampNeg (0 : Int32).toNatClampNeg (8 : Int32).toNatClampNeg) a27 a29 (0 : Int32).toNatClampNeg (0 : Int32).toNatClampNeg (8 : Int32).toNatClampNeg) a33 a35 (0 : Int32).toNatClampNeg (0 : Int32).toNatClampNeg (7 : Int32).toNatClampNeg) a39 a41 (0 : Int32).toNatClampNeg (0 : Int32).toNatClampNeg (7 : Int32).toNatClampNeg) a45 a47 (0 : Int32).toNatClampNeg (0 : Int32).toNatClampNeg (7 : Int32).toNatClampNeg) a51 a53 (0 : Int32).toNatClampNeg (0 : Int32).toNatClampNeg (4 : Int32).toNatClampNeg) a57 a59 (0 : Int32).toNatClampNeg (0 : Int32).toNatClampNeg (4 : Int32).toNatClampNeg) x0 10 ((bm_cI (bm_cI (bm_cI (bm_cI (bm_cL (bm_cI (bm_cI (bm_cI (bm_cI (bm_cL M a2 a5 (0 : Int32).toNatClampNeg (0 : Int32).toNatClampNeg (8 : Int32).toNatClampNeg) a9 a11 (0 : Int32).toNatClampNeg (0 : Int32).toNatClampNeg (8 : Int32).toNatClampNeg) a15 a17 (0 : Int32).toNatClampNeg (0 : Int32).toNatClampNeg (8 : Int32).toNatClampNeg) a21 a23 (0 : Int32).toNatClampNeg (0 : Int32).toNatClampNeg (8 : Int32).toNatClampNeg) a27 a29 (0 : Int32).toNatClampNeg (0 : Int32).toNatClampNeg (8 : Int32).toNatClampNeg) a33 a35 (0 : Int32).toNatClampNeg (0 : Int32).toNatClampNeg (7 : Int32).toNatClampNeg) a39 a41 (0 : Int32).toNatClampNeg (0 : Int32).toNatClampNeg (7 : Int32).toNatClampNeg) a45 a47 (0 : Int32).toNatClampNeg (0 : Int32).toNatClampNeg (7 : Int32).toNatClampNeg) a51 a53 (0 : Int32).toNatClampNeg (0 : Int32).toNatClampNeg (4 : Int32).toNatClampNeg) a57 a59 (0 : Int32).toNatClampNeg (0 : Int32).toNatClampNeg (4 : Int32).toNatClampNeg).1 x1 10)) x0 11 ((bm_sI (bm_cI (bm_cI (bm_cI (bm_cI (bm_cL (bm_cI (bm_cI (bm_cI (bm_cI (bm_cL M a2 a5 (0 : Int32).toNatClampNeg (0 : Int32).toNatClampNeg (8 : Int32).toNatClampNeg) a9 a11 (0 : Int32).toNatClampNeg (0 : Int32).toNatClampNeg (8 : Int32).toNatClampNeg) a15 a17 (0 : Int32).toNatClampNeg (0 : Int32).toNatClampNeg (8 : Int32).toNatClampNeg) a21 a23 (0 : Int32).toNatClampNeg (0 : Int32).toNatClampNeg (8 : Int32).toNatClampNeg) a27 a29 (0 : Int32).toNatClampNeg (0 : Int32).toNatClampNeg (8 : Int32).toNatClampNeg) a33 a35 (0 : Int32).toNatClampNeg (0 : Int32).toNatClampNeg (7 : Int32).toNatClampNeg) a39 a41 (0 : Int32).toNatClampNeg (0 : Int32).toNatClampNeg (7 : Int32).toNatClampNeg) a45 a47 (0 : Int32).toNatClampNeg (0 : Int32).toNatClampNeg (7 : Int32).toNatClampNeg) a51 a53 (0 : Int32).toNatClampNeg (0 : Int32).toNatClampNeg (4 : Int32).toNatClampNeg) a57 a59 (0 : Int32).toNatClampNeg (0 : Int32).toNatClampNeg (4 : Int32).toNatClampNeg) x0 10 ((bm_cI (bm_cI (bm_cI (bm_cI (bm_cL (bm_cI (bm_cI (bm_cI (bm_cI (bm_cL M a2 a5 (0 : Int32).toNatClampNeg (0 : Int32).toNatClampNeg (8 : Int32).toNatClampNeg) a9 a11 (0 : Int32).toNatClampNeg (0 : Int32).toNatClampNeg (8 : Int32).toNatClampNeg) a15 a17 (0 : Int32).toNatClampNeg (0 : Int32).toNatClampNeg (8 : Int32).toNatClampNeg) a21 a23 (0 : Int32).toNatClampNeg (0 : Int32).toNatClampNeg (8 : Int32).toNatClampNeg) a27 a29 (0 : Int32).toNatClampNeg (0 : Int32).toNatClampNeg (8 : Int32).toNatClampNeg) a33 a35 (0 : Int32).toNatClampNeg (0 : Int32).toNatClampNeg (7 : Int32).toNatClampNeg) a39 a41 (0 : Int32).toNatClampNeg (0 : Int32).toNatClampNeg (7 : Int32).toNatClampNeg) a45 a47 (0 : Int32).toNatClampNeg (0 : Int32).toNatClampNeg (7 : Int32).toNatClampNeg) a51 a53 (0 : Int32).toNatClampNeg (0 : Int32).toNatClampNeg (4 : Int32).toNatClampNeg) a57 a59 (0 : Int32).toNatClampNeg (0 : Int32).toNatClampNeg (4 : Int32).toNatClampNeg).1 x1 10)).1 x1 11)) x0 12 ((bm_sI (bm_sI (bm_cI (bm_cI (bm_cI (bm_cI (bm_cL (bm_cI (bm_cI (bm_cI (bm_cI (bm_cL M a2 a5 (0 : Int32).toNatClampNeg (0 : Int32).toNatClampNeg (8 : Int32).toNatClampNeg) a9 a11 (0 : Int32).toNatClampNeg (0 : Int32).toNatClampNeg (8 : Int32).toNatClampNeg) a15 a17 (0 : Int32).toNatClampNeg (0 : Int32).toNatClampNeg (8 : Int32).toNatClampNeg) a21 a23 (0 : Int32).toNatClampNeg (0 : Int32).toNatClampNeg (8 : Int32).toNatClampNeg) a27 a29 (0 : Int32).toNatClampNeg (0 : Int32).toNatClampNeg (8 : Int32).toNatClampNeg) a33 a35 (0 : Int32).toNatClampNeg (0 : Int32).toNatClampNeg (7 : Int32).toNatClampNeg) a39 a41 (0 : Int32).toNatClampNeg (0 : Int32).toNatClampNeg (7 : Int32).toNatClampNeg) a45 a47 (0 : Int32).toNatClampNeg (0 : Int32).toNatClampNeg (7 : Int32).toNatClampNeg) a51 a53 (0 : Int32).toNatClampNeg (0 : Int32).toNatClampNeg (4 : Int32).toNatClampNeg) a57 a59 (0 : Int32).toNatClampNeg (0 : Int32).toNatClampNeg (4 : Int32).toNatClampNeg) x0 10 ((bm_cI (bm_cI (bm_cI (bm_cI (bm_cL (bm_cI (bm_cI (bm_cI (bm_cI (bm_cL M a2 a5 (0 : Int32).toNatClampNeg (0 : Int32).toNatClampNeg (8 : Int32).toNatClampNeg) a9 a11 (0 : Int32).toNatClampNeg (0 : Int32).toNatClampNeg (8 : Int32).toNatClampNeg) a15 a17 (0 : Int32).toNatClampNeg (0 : Int32).toNatClampNeg (8 : Int32).toNatClampNeg) a21 a23 (0 : Int32).toNatClampNeg (0 : Int32).toNatClampNeg (8 : Int32).toNatClampNeg) a27 a29 (0 : Int32).toNatClampNeg (0 : Int32).toNatClampNeg (8 : Int32).toNatClampNeg) a33 a35 (0 : Int32).toNatClampNeg (0 : Int32).toNatClampNeg (7 : Int32).toNatClampNeg) a39 a41 (0 : Int32).toNatClampNeg (0 : Int32).toNatClampNeg (7 : Int32).toNatClampNeg) a45 a47 (0 : Int32).toNatClampNeg (0 : Int32).toNatClampNeg (7 : Int32).toNatClampNeg) a51 a53 (0 : Int32).toNatClampNeg (0 : Int32).toNatClampNeg (4 : Int32).toNatClampNeg) a57 a59 (0 : Int32).toNatClampNeg (0 : Int32).toNatClampNeg (4 : Int32).toNatClampNeg).1 x1 10)) x0 11 ((bm_sI (bm_cI (bm_cI (bm_cI (bm_cI (bm_cL (bm_cI (bm_cI (bm_cI (bm_cI (bm_cL M a2 a5 (0 : Int32).toNatClampNeg (0 : Int32).toNatClampNeg (8 : Int32).toNatClampNeg) a9 a11 (0 : Int32).toNatClampNeg (0 : Int32).toNatClampNeg (8 : Int32).toNatClampNeg) a15 a17 (0 : Int32).toNatClampNeg (0 : Int32).toNatClampNeg (8 : Int32).toNatClampNeg) a21 a23 (0 : Int32).toNatClampNeg (0 : Int32).toNatClampNeg (8 : Int32).toNatClampNeg) a27 a29 (0 : Int32).toNatClampNeg (0 : Int32).toNatClampNeg (8 : Int32).toNatClampNeg) a33 a35 (0 : Int32).toNatClampNeg (0 : Int32).toNatClampNeg (7 : Int32).toNatClampNeg) a39 a41 (0 : Int32).toNatClampNeg (0 : Int32).toNatClampNeg (7 : Int32).toNatClampNeg) a45 a47 (0 : Int32).toNatClampNeg (0 : Int32).toNatClampNeg (7 : Int32).toNatClampNeg) a51 a53 (0 : Int32).toNatClampNeg (0 : Int32).toNatClampNeg (4 : Int32).toNatClampNeg) a57 a59 (0 : Int32).toNatClampNeg (0 : Int32).toNatClampNeg (4 : Int32).toNatClampNeg) x0 10 ((bm_cI (bm_cI (bm_cI (bm_cI (bm_cL (bm_cI (bm_cI (bm_cI (bm_cI (bm_cL M a2 a5 (0 : Int32).toNatClampNeg (0 : Int32).toNatClampNeg (8 : Int32).toNatClampNeg) a9 a11 (0 : Int32).toNatClampNeg (0 : Int32).toNatClampNeg (8 : Int32).toNatClampNeg) a15 a17 (0 : Int32).toNatClampNeg (0 : Int32).toNatClampNeg (8 : Int32).toNatClampNeg) a21 a23 (0 : Int32).toNatClampNeg (0 : Int32).toNatClampNeg (8 : Int32).toNatClampNeg) a27 a29 (0 : Int32).toNatClampNeg (0 : Int32).toNatClampNeg (8 : Int32).toNatClampNeg) a33 a35 (0 : Int32).toNatClampNeg (0 : Int32).toNatClampNeg (7 : Int32).toNatClampNeg) a39 a41 (0 : Int32).toNatClampNeg (0 : Int32).toNatClampNeg (7 : Int32).toNatClampNeg) a45 a47 (0 : Int32).toNatClampNeg (0 : Int32).toNatClampNeg (7 : Int32).toNatClampNeg) a51 a53 (0 : Int32).toNatClampNeg (0 : Int32).toNatClampNeg (4 : Int32).toNatClampNeg) a57 a59 (0 : Int32).toNatClampNeg (0 : Int32).toNatClampNeg (4 : Int32).toNatClampNeg).1 x1 10)).1 x1 11)).1 x1 12)).1 x1 13)) x0 14 ((bm_sI (bm_sI (bm_sI (bm_sI (bm_cI (bm_cI (bm_cI (bm_cI (bm_cL (bm_cI (bm_cI (bm_cI (bm_cI (bm_cL M a2 a5 (0 : Int32).toNatClampNeg (0 : Int32).toNatClampNeg (8 : Int32).toNatClampNeg) a9 a11 (0 : Int32).toNatClampNeg (0 : Int32).toNatClampNeg (8 : Int32).toNatClampNeg) a15 a17 (0 : Int32).toNatClampNeg (0 : Int32).toNatClampNeg (8 : Int32).toNatClampNeg) a21 a23 (0 : Int32).toNatClampNeg (0 : Int32).toNatClampNeg (8 : Int32).toNatClampNeg) a27 a29 (0 : Int32).toNatClampNeg (0 : Int32).toNatClampNeg (8 : Int32).toNatClampNeg) a33 a35 (0 : Int32).toNatClampNeg (0 : Int32).toNatClampNeg (7 : Int32).toNatClampNeg) a39 a41 (0 : Int32).toNatClampNeg (0 : Int32).toNatClampNeg (7 : Int32).toNatClampNeg) a45 a47 (0 : Int32).toNatClampNeg (0 : Int32).toNatClampNeg (7 : Int32).toNatClampNeg) a51 a53 (0 : Int32).toNatClampNeg (0 : Int32).toNatClampNeg (4 : Int32).toNatClampNeg) a57 a59 (0 : Int32).toNatClampNeg (0 : Int32).toNatClampNeg (4 : Int32).toNatClampNeg) x0 10 ((bm_cI (bm_cI (bm_cI (bm_cI (bm_cL (bm_cI (bm_cI (bm_cI (bm_cI (bm_cL M a2 a5 (0 : Int32).toNatClampNeg (0 : Int32).toNatClampNeg (8 : Int32).toNatClampNeg) a9 a11 (0 : Int32).toNatClampNeg (0 : Int32).toNatClampNeg (8 : Int32).toNatClampNeg) a15 a17 (0 : Int32).toNatClampNeg (0 : Int32).toNatClampNeg (8 : Int32).toNatClampNeg) a21 a23 (0 : Int32).toNatClampNeg (0 : Int32).toNatClampNeg (8 : Int32).toNatClampNeg) a27 a29 (0 : Int32).toNatClampNeg (0 : Int32).toNatClampNeg (8 : Int32).toNatClampNeg) a33 a35 (0 : Int32).toNatClampNeg (0 : Int32).toNatClampNeg (7 : Int32).toNatClampNeg) a39 a41 (0 : Int32).toNatClampNeg (0 : Int32).toNatClampNeg (7 : Int32).toNatClampNeg) a45 a47 (0 : Int32).toNatClampNeg (0 : Int32).toNatClampNeg (7 : Int32).toNatClampNeg) a51 a53 (0 : Int32).toNatClampNeg (0 : Int32).toNatClampNeg (4 : Int32).toNatClampNeg) a57 a59 (0 : Int32).toNatClampNeg (0 : Int32).toNatClampNeg (4 : Int32).toNatClampNeg).1 x1 10)) x0 11 ((bm_sI (bm_cI (bm_cI (bm_cI (bm_cI (bm_cL (bm_cI (bm_cI (bm_cI (bm_cI (bm_cL M a2 a5 (0 : Int32).toNatClampNeg (0 : Int32).toNatClampNeg (8 : Int32).toNatClampNeg) a9 a11 (0 : Int32).toNatClampNeg (0 : Int32).toNatClampNeg (8 : Int32).toNatClampNeg) a15 a17 (0 : Int32).toNatClampNeg (0 : Int32).toNatClampNeg (8 : Int32).toNatClampNeg) a21 a23 (0 : Int32).toNatClampNeg (0 : Int32).toNatClampNeg (8 : Int32).toNatClampNeg) a27 a29 (0 : Int32).toNatClampNeg (0 : Int32).toNatClampNeg (8 : Int32).toNatClampNeg) a33 a35 (0 : Int32).toNatClampNeg (0 : Int32).toNatClampNeg (7 : Int32).toNatClampNeg) a39 a41 (0 : Int32).toNatClampNeg (0 : Int32).toNatClampNeg (7 : Int32).toNatClampNeg) a45 a47 (0 : Int32).toNatClampNeg (0 : Int32).toNatClampNeg (7 : Int32).toNatClampNeg) a51 a53 (0 : Int32).toNatClampNeg (0 : Int32).toNatClampNeg (4 : Int32).toNatClampNeg) a57 a59 (0 : Int32).toNatClampNeg (0 : Int32).toNatClampNeg (4 : Int32).toNatClampNeg) x0 10 ((bm_cI (bm_cI (bm_cI (bm_cI (bm_cL (bm_cI (bm_cI (bm_cI (bm_cI (bm_cL M a2 a5 (0 : Int32).toNatClampNeg (0 : Int32).toNatClampNeg (8 : Int32).toNatClampNeg) a9 a11 (0 : Int32).toNatClampNeg (0 : Int32).toNatClampNeg (8 : Int32).toNatClampNeg) a15 a17 (0 : Int32).toNatClampNeg (0 : Int32).toNatClampNeg (8 : Int32).toNatClampNeg) a21 a23 (0 : Int32).toNatClampNeg (0 : Int32).toNatClampNeg (8 : Int32).toNatClampNeg) a27 a29 (0 : Int32).toNatClampNeg (0 : Int32).toNatClampNeg (8 : Int32).toNatClampNeg) a33 a35 (0 : Int32).toNatClampNeg (0 : Int32).toNatClampNeg (7 : Int32).toNatClampNeg) a39 a41 (0 : Int32).toNatClampNeg (0 : Int32).toNatClampNeg (7 : Int32).toNatClampNeg) a45 a47 (0 : Int32).toNatClampNeg (0 : Int32).toNatClampNeg (7 : Int32).toNatClampNeg) a51 a53 (0 : Int32).toNatClampNeg (0 : Int32).toNatClampNeg (4 : Int32).toNatClampNeg) a57 a59 (0 : Int32).toNatClampNeg (0 : Int32).toNatClampNeg (4 : Int32).toNatClampNeg).1 x1 10)).1 x1 11)) x0 12 ((bm_sI (bm_sI (bm_cI (bm_cI (bm_cI (bm_cI (bm_cL (bm_cI (bm_cI (bm_cI (bm_cI (bm_cL M a2 a5 (0 : Int32).toNatClampNeg (0 : Int32).toNatClampNeg (8 : Int32).toNatClampNeg) a9 a11 (0 : Int32).toNatClampNeg (0 : Int32).toNatClampNeg (8 : Int32).toNatClampNeg) a15 a17 (0 : Int32).toNatClampNeg (0 : Int32).toNatClampNeg (8 : Int32).toNatClampNeg) a21 a23 (0 : Int32).toNatClampNeg (0 : Int32).toNatClampNeg (8 : Int32).toNatClampNeg) a27 a29 (0 : Int32).toNatClampNeg (0 : Int32).toNatClampNeg (8 : Int32).toNatClampNeg) a33 a35 (0 : Int32).toNatClampNeg (0 : Int32).toNatClampNeg (7 : Int32).toNatClampNeg) a39 a41 (0 : Int32).toNatClampNeg (0 : Int32).toNatClampNeg (7 : Int32).toNatClampNeg) a45 a47 (0 : Int32).toNatClampNeg (0 : Int32).toNatClampNeg (7 : Int32).toNatClampNeg) a51 a53 (0 : Int32).toNatClampNeg (0 : Int32).toNatClampNeg (4 : Int32).toNatClampNeg) a57 a59 (0 : Int32).toNatClampNeg (0 : Int32).toNatClampNeg (4 : Int32).toNatClampNeg) x0 10 ((bm_cI (bm_cI (bm_cI (bm_cI (bm_cL (bm_cI (bm_cI (bm_cI (bm_cI (bm_cL M a2 a5 (0 : Int32).toNatClampNeg (0 : Int32).toNatClampNeg (8 : Int32).toNatClampNeg) a9 a11 (0 : Int32).toNatClampNeg (0 : Int32).toNatClampNeg (8 : Int32).toNatClampNeg) a15 a17 (0 : Int32).toNatClampNeg (0 : Int32).toNatClampNeg (8 : Int32).toNatClampNeg) a21 a23 (0 : Int32).toNatClampNeg (0 : Int32).toNatClampNeg (8 : Int32).toNatClampNeg) a27 a29 (0 : Int32).toNatClampNeg (0 : Int32).toNatClampNeg (8 : Int32).toNatClampNeg) a33 a35 (0 : Int32).toNatClampNeg (0 : Int32).toNatClampNeg (7 : Int32).toNatClampNeg) a39 a41 (0 : Int32).toNatClampNeg (0 : Int32).toNatClampNeg (7 : Int32).toNatClampNeg) a45 a47 (0 : Int32).toNatClampNeg (0 : Int32).toNatClampNeg (7 : Int32).toNatClampNeg) a51 a53 (0 : Int32).toNatClampNeg (0 : Int32).toNatClampNeg (4 : Int32).toNatClampNeg) a57 a59 (0 : Int32).toNatClampNeg (0 : Int32).toNatClampNeg (4 : Int32).toNatClampNeg).1 x1 10)) x0 11 ((bm_sI (bm_cI (bm_cI (bm_cI (bm_cI (bm_cL (bm_cI (bm_cI (bm_cI (bm_cI (bm_cL M a2 a5 (0 : Int32).toNatClampNeg (0 : Int32).toNatClampNeg (8 : Int32).toNatClampNeg) a9 a11 (0 : Int32).toNatClampNeg (0 : Int32).toNatClampNeg (8 : Int32).toNatClampNeg) a15 a17 (0 : Int32).toNatClampNeg (0 : Int32).toNatClampNeg (8 : Int32).toNatClampNeg) a21 a23 (0 : Int32).toNatClampNeg (0 : Int32).toNatClampNeg (8 : Int32).toNatClampNeg) a27 a29 (0 : Int32).toNatClampNeg (0 : Int32).toNatClampNeg (8 : Int32).toNatClampNeg) a33 a35 (0 : Int32).toNatClampNeg (0 : Int32).toNatClampNeg (7 : Int32).toNatClampNeg) a39 a41 (0 : Int32).toNatClampNeg (0 : Int32).toNatClampNeg (7 : Int32).toNatClampNeg) a45 a47 (0 : Int32).toNatClampNeg (0 : Int32).toNatClampNeg (7 : Int32).toNatClampNeg) a51 a53 (0 : Int32).toNatClampNeg (0 : Int32).toNatClampNeg (4 : Int32).toNatClampNeg) a57 a59 (0 : Int32).toNatClampNeg (0 : Int32).toNatClampNeg (4 : Int32).toNatClampNeg) x0 10 ((bm_cI (bm_cI (bm_cI (bm_cI (bm_cL (bm_cI (bm_cI (bm_cI (bm_cI (bm_cL M a2 a5 (0 : Int32).toNatClampNeg (0 : Int32).toNatClampNeg (8 : Int32).toNatClampNeg) a9 a11 (0 : Int32).toNatClampNeg (0 : Int32).toNatClampNeg (8 : Int32).toNatClampNeg) a15 a17 (0 : Int32).toNatClampNeg (0 : Int32).toNatClampNeg (8 : Int32).toNatClampNeg) a21 a23 (0 : Int32).toNatClampNeg (0 : Int32).toNatClampNeg (8 : Int32).toNatClampNeg) a27 a29 (0 : Int32).toNatClampNeg (0 : Int32).toNatClampNeg (8 : Int32).toNatClampNeg) a33 a35 (0 : Int32).toNatClampNeg (0 : Int32).toNatClampNeg (7 : Int32).toNatClampNeg) a39 a41 (0 : Int32).toNatClampNeg (0 : Int32).toNatClampNeg (7 : Int32).toNatClampNeg) a45 a47 (0 : Int32).toNatClampNeg (0 : Int32).toNatClampNeg (7 : Int32).toNatClampNeg) a51 a53 (0 : Int32).toNatClampNeg (0 : Int32).toNatClampNeg (4 : Int32).toNatClampNeg) a57 a59 (0 : Int32).toNatClampNeg (0 : Int32).toNatClampNeg (4 : Int32).toNatClampNeg).1 x1 10)).1 x1 11)).1 x1 12)) x0 13 ((bm_sI (bm_sI (bm_sI (bm_cI (bm_cI (bm_cI (bm_cI (bm_cL (bm_cI (bm_cI (bm_cI (bm_cI (bm_cL M a2 a5 (0 : Int32).toNatClampNeg (0 : Int32).toNatClampNeg (8 : Int32).toNatClampNeg) a9 a11 (0 : Int32).toNatClampNeg (0 : Int32).toNatClampNeg (8 : Int32).toNatClampNeg) a15 a17 (0 : Int32).toNatClampNeg (0 : Int32).toNatClampNeg (8 : Int32).toNatClampNeg) a21 a23 (0 : Int32).toNatClampNeg (0 : Int32).toNatClampNeg (8 : Int32).toNatClampNeg) a27 a29 (0 : Int32).toNatClampNeg (0 : Int32).toNatClampNeg (8 : Int32).toNatClampNeg) a33 a35 (0 : Int32).toNatClampNeg (0 : Int32).toNatClampNeg (7 : Int32).toNatClampNeg) a39 a41 (0 : Int32).toNatClampNeg (0 : Int32).toNatClampNeg (7 : Int32).toNatClampNeg) a45 a47 (0 : Int32).toNatClampNeg (0 : Int32).toNatClampNeg (7 : Int32).toNatClampNeg) a51 a53 (0 : Int32).toNatClampNeg (0 : Int32).toNatClampNeg (4 : Int32).toNatClampNeg) a57 a59 (0 : Int32).toNatClampNeg (0 : Int32).toNatClampNeg (4 : Int32).toNatClampNeg) x0 10 ((bm_cI (bm_cI (bm_cI (bm_cI (bm_cL (bm_cI (bm_cI (bm_cI (bm_cI (bm_cL M a2 a5 (0 : Int32).toNatClampNeg (0 : Int32).toNatClampNeg (8 : Int32).toNatClampNeg) a9 a11 (0 : Int32).toNatClampNeg (0 : Int32).toNatClampNeg (8 : Int32).toNatClampNeg) a15 a17 (0 : Int32).toNatClampNeg (0 : Int32).toNatClampNeg (8 : Int32).toNatClampNeg) a21 a23 (0 : Int32).toNatClampNeg (0 : Int32).toNatClampNeg (8 : Int32).toNatClampNeg) a27 a29 (0 : Int32).toNatClampNeg (0 : Int32).toNatClampNeg (8 : Int32).toNatClampNeg) a33 a35 (0 : Int32).toNatClampNeg (0 : Int32).toNatClampNeg (7 : Int32).toNatClampNeg) a39 a41 (0 : Int32).toNatClampNeg (0 : Int32).toNatClampNeg (7 : Int32).toNatClampNeg) a45 a47 (0 : Int32).toNatClampNeg (0 : Int32).toNatClampNeg (7 : Int32).toNatClampNeg) a51 a53 (0 : Int32).toNatClampNeg (0 : Int32).toNatClampNeg (4 : Int32).toNatClampNeg) a57 a59 (0 : Int32).toNatClampNeg (0 : Int32).toNatClampNeg (4 : Int32).toNatClampNeg).1 x1 10)) x0 11 ((bm_sI (bm_cI (bm_cI (bm_cI (bm_cI (bm_cL (bm_cI (bm_cI (bm_cI (bm_cI (bm_cL M a2 a5 (0 : Int32).toNatClampNeg (0 : Int32).toNatClampNeg (8 : Int32).toNatClampNeg) a9 a11 (0 : Int32).toNatClampNeg (0 : Int32).toNatClampNeg (8 : Int32).toNatClampNeg) a15 a17 (0 : Int32).toNatClampNeg (0 : Int32).toNatClampNeg (8 : Int32).toNatClampNeg) a21 a23 (0 : Int32).toNatClampNeg (0 : Int32).toNatClampNeg (8 : Int32).toNatClampNeg) a27 a29 (0 : Int32).toNatClampNeg (0 : Int32).toNatClampNeg (8 : Int32).toNatClampNeg) a33 a35 (0 : Int32).toNatClampNeg (0 : Int32).toNatClampNeg (7 : Int32).toNatClampNeg) a39 a41 (0 : Int32).toNatClampNeg (0 : Int32).toNatClampNeg (7 : Int32).toNatClampNeg) a45 a47 (0 : Int32).toNatClampNeg (0 : Int32).toNatClampNeg (7 : Int32).toNatClampNeg) a51 a53 (0 : Int32).toNatClampNeg (0 : Int32).toNatClampNeg (4 : Int32).toNatClampNeg) a57 a59 (0 : Int32).toNatClampNeg (0 : Int32).toNatClampNeg (4 : Int32).toNatClampNeg) x0 10 ((bm_cI (bm_cI (bm_cI (bm_cI (bm_cL (bm_cI (bm_cI (bm_cI (bm_cI (bm_cL M a2 a5 (0 : Int32).toNatClampNeg (0 : Int32).toNatClampNeg (8 : Int32).toNatClampNeg) a9 a11 (0 : Int32).toNatClampNeg (0 : Int32).toNatClampNeg (8 : Int32).toNatClampNeg) a15 a17 (0 : Int32).toNatClampNeg (0 : Int32).toNatClampNeg (8 : Int32).toNatClampNeg) a21 a23 (0 : Int32).toNatClampNeg (0 : Int32).toNatClampNeg (8 : Int32).toNatClampNeg) a27 a29 (0 : Int32).toNatClampNeg (0 : Int32).toNatClampNeg (8 : Int32).toNatClampNeg) a33 a35 (0 : Int32).toNatClampNeg (0 : Int32).toNatClampNeg (7 : Int32).toNatClampNeg) a39 a41 (0 : Int32).toNatClampNeg (0 : Int32).toNatClampNeg (7 : Int32).toNatClampNeg) a45 a47 (0 : Int32).toNatClampNeg (0 : Int32).toNatClampNeg (7 : Int32).toNatClampNeg) a51 a53 (0 : Int32).toNatClampNeg (0 : Int32).toNatClampNeg (4 : Int32).toNatClampNeg) a57 a59 (0 : Int32).toNatClampNeg (0 : Int32).toNatClampNeg (4 : Int32).toNatClampNeg).1 x1 10)).1 x1 11)) x0 12 ((bm_sI (bm_sI (bm_cI (bm_cI (bm_cI (bm_cI (bm_cL (bm_cI (bm_cI (bm_cI (bm_cI (bm_cL M a2 a5 (0 : Int32).toNatClampNeg (0 : Int32).toNatClampNeg (8 : Int32).toNatClampNeg) a9 a11 (0 : Int32).toNatClampNeg (0 : Int32).toNatClampNeg (8 : Int32).toNatClampNeg) a15 a17 (0 : Int32).toNatClampNeg (0 : Int32).toNatClampNeg (8 : Int32).toNatClampNeg) a21 a23 (0 : Int32).toNatClampNeg (0 : Int32).toNatClampNeg (8 : Int32).toNatClampNeg) a27 a29 (0 : Int32).toNatClampNeg (0 : Int32).toNatClampNeg (8 : Int32).toNatClampNeg) a33 a35 (0 : Int32).toNatClampNeg (0 : Int32).toNatClampNeg (7 : Int32).toNatClampNeg) a39 a41 (0 : Int32).toNatClampNeg (0 : Int32).toNatClampNeg (7 : Int32).toNatClampNeg) a45 a47 (0 : Int32).toNatClampNeg (0 : Int32).toNatClampNeg (7 : Int32).toNatClampNeg) a51 a53 (0 : Int32).toNatClampNeg (0 : Int32).toNatClampNeg (4 : Int32).toNatClampNeg) a57 a59 (0 : Int32).toNatClampNeg (0 : Int32).toNatClampNeg (4 : Int32).toNatClampNeg) x0 10 ((bm_cI (bm_cI (bm_cI (bm_cI (bm_cL (bm_cI (bm_cI (bm_cI (bm_cI (bm_cL M a2 a5 (0 : Int32).toNatClampNeg (0 : Int32).toNatClampNeg (8 : Int32).toNatClampNeg) a9 a11 (0 : Int32).toNatClampNeg (0 : Int32).toNatClampNeg (8 : Int32).toNatClampNeg) a15 a17 (0 : Int32).toNatClampNeg (0 : Int32).toNatClampNeg (8 : Int32).toNatClampNeg) a21 a23 (0 : Int32).toNatClampNeg (0 : Int32).toNatClampNeg (8 : Int32).toNatClampNeg) a27 a29 (0 : Int32).toNatClampNeg (0 : Int32).toNatClampNeg (8 : Int32).toNatClampNeg) a33 a35 (0 : Int32).toNatClampNeg (0 : Int32).toNatClampNeg (7 : Int32).toNatClampNeg) a39 a41 (0 : Int32).toNatClampNeg (0 : Int32).toNatClampNeg (7 : Int32).toNatClampNeg) a45 a47 (0 : Int32).toNatClampNeg (0 : Int32).toNatClampNeg (7 : Int32).toNatClampNeg) a51 a53 (0 : Int32).toNatClampNeg (0 : Int32).toNatClampNeg (4 : Int32).toNatClampNeg) a57 a59 (0 : Int32).toNatClampNeg (0 : Int32).toNatClampNeg (4 : Int32).toNatClampNeg).1 x1 10)) x0 11 ((bm_sI (bm_cI (bm_cI (bm_cI (bm_cI (bm_cL (bm_cI (bm_cI (bm_cI (bm_cI (bm_cL M a2 a5 (0 : Int32).toNatClampNeg (0 : Int32).toNatClampNeg (8 : Int32).toNatClampNeg) a9 a11 (0 : Int32).toNatClampNeg (0 : Int32).toNatClampNeg (8 : Int32).toNatClampNeg) a15 a17 (0 : Int32).toNatClampNeg (0 : Int32).toNatClampNeg (8 : Int32).toNatClampNeg) a21 a23 (0 : Int32).toNatClampNeg (0 : Int32).toNatClampNeg (8 : Int32).toNatClampNeg) a27 a29 (0 : Int32).toNatClampNeg (0 : Int32).toNatClampNeg (8 : Int32).toNatClampNeg) a33 a35 (0 : Int32).toNatClampNeg (0 : Int32).toNatClampNeg (7 : Int32).toNatClampNeg) a39 a41 (0 : Int32).toNatClampNeg (0 : Int32).toNatClampNeg (7 : Int32).toNatClampNeg) a45 a47 (0 : Int32).toNatClampNeg (0 : Int32).toNatClampNeg (7 : Int32).toNatClampNeg) a51 a53 (0 : Int32).toNatClampNeg (0 : Int32).toNatClampNeg (4 : Int32).toNatClampNeg) a57 a59 (0 : Int32).toNatClampNeg (0 : Int32).toNatClampNeg (4 : Int32).toNatClampNeg) x0 10 ((bm_cI (bm_cI (bm_cI (bm_cI (bm_cL (bm_cI (bm_cI (bm_cI (bm_cI (bm_cL M a2 a5 (0 : Int32).toNatClampNeg (0 : Int32).toNatClampNeg (8 : Int32).toNatClampNeg) a9 a11 (0 : Int32).toNatClampNeg (0 : Int32).toNatClampNeg (8 : Int32).toNatClampNeg) a15 a17 (0 : Int32).toNatClampNeg (0 : Int32).toNatClampNeg (8 : Int32).toNatClampNeg) a21 a23 (0 : Int32).toNatClampNeg (0 : Int32).toNatClampNeg (8 : Int32).toNatClampNeg) a27 a29 (0 : Int32).toNatClampNeg (0 : Int32).toNatClampNeg (8 : Int32).toNatClampNeg) a33 a35 (0 : Int32).toNatClampNeg (0 : Int32).toNatClampNeg (7 : Int32).toNatClampNeg) a39 a41 (0 : Int32).toNatClampNeg (0 : Int32).toNatClampNeg (7 : Int32).toNatClampNeg) a45 a47 (0 : Int32).toNatClampNeg (0 : Int32).toNatClampNeg (7 : Int32).toNatClampNeg) a51 a53 (0 : Int32).toNatClampNeg (0 : Int32).toNatClampNeg (4 : Int32).toNatClampNeg) a57 a59 (0 : Int32).toNatClampNeg (0 : Int32).toNatClampNeg (4 : Int32).toNatClampNeg).1 x1 10)).1 x1 11)).1 x1 12)).1 x1 13)).1 x1 14)).1 x1 15)).1 x1 16)) else none) else none))) else none) else none))) else none) else none))) else none) else none))) else none) else none))) else none) else none))) else none) else none))) else none) else none))) else none) else none))) else none) else none)) else none)) else none)
set_option maxHeartbeats 4000000 in
set_option maxRecDepth 100000 in
theorem c_X0_copyFrom {L : bm_L} {d n : Nat} {M : bm_M} {x0 : Nat} {x1 : Nat} {v : bm_M} (hN : 181 ≤ n) (h : f_X0_copyFrom M x0 x1 = some v) : bm_C L m_X0_copyFrom (d + 1) n n [.ref x0, .ref x1] M (fun r M' => r = none ∧ M' = v) := by
  refine bm_C.ofV (by decide) (Nat.le_of_ble_eq_true rfl) ?_
  show bm_V L m_X0_copyFrom (d + 1) n n n 0 [(0, .ref x0), (1, .ref x1)] [] M _
  unfold f_X0_copyFrom at h
  refine bv_aload_n dX0_copyFrom_0 1 rfl ?_
  obtain ⟨q1, h⟩ := bu_io h
  obtain ⟨a2, e3, h⟩ := bu_bd h
  refine bw_getA (a := a2) hN q1 e3 dX0_copyFrom_1 fl_0_9 rfl ?_
  refine bv_iconst (v := 0) dX0_copyFrom_4 (by decide) ?_
  refine bv_aload_n dX0_copyFrom_5 0 rfl ?_
  obtain ⟨q4, h⟩ := bu_io h
  obtain ⟨a5, e6, h⟩ := bu_bd h
  refine bw_getA (a := a5) hN q4 e6 dX0_copyFrom_6 fl_0_9 rfl ?_
  refine bv_iconst (v := 0) dX0_copyFrom_9 (by decide) ?_
  refine bv_bipush (v := 8) dX0_copyFrom_10 (by decide) ?_
  obtain ⟨r7, h⟩ := bu_ic h
  obtain ⟨r8, h⟩ := bu_ic h
  refine bw_copyL hN r7 r8 dX0_copyFrom_12 mw_0_50 (by decide) ?_
  refine bv_aload_n dX0_copyFrom_15 1 rfl ?_
  obtain ⟨a9, e10, h⟩ := bu_bd h
  refine bw_getA (a := a9) hN q1 e10 dX0_copyFrom_16 fl_0_15 rfl ?_
  refine bv_iconst (v := 0) dX0_copyFrom_19 (by decide) ?_
  refine bv_aload_n dX0_copyFrom_20 0 rfl ?_
  obtain ⟨a11, e12, h⟩ := bu_bd h
  refine bw_getA (a := a11) hN q4 e12 dX0_copyFrom_21 fl_0_15 rfl ?_
  refine bv_iconst (v := 0) dX0_copyFrom_24 (by decide) ?_
  refine bv_bipush (v := 8) dX0_copyFrom_25 (by decide) ?_
  obtain ⟨r13, h⟩ := bu_ic h
  obtain ⟨r14, h⟩ := bu_ic h
  refine bw_copyI hN r13 r14 dX0_copyFrom_27 mw_0_50 (by decide) ?_
  refine bv_aload_n dX0_copyFrom_30 1 rfl ?_
  obtain ⟨a15, e16, h⟩ := bu_bd h
  refine bw_getA (a := a15) hN q1 e16 dX0_copyFrom_31 fl_0_19 rfl ?_
  refine bv_iconst (v := 0) dX0_copyFrom_34 (by decide) ?_
  refine bv_aload_n dX0_copyFrom_35 0 rfl ?_
  obtain ⟨a17, e18, h⟩ := bu_bd h
  refine bw_getA (a := a17) hN q4 e18 dX0_copyFrom_36 fl_0_19 rfl ?_
  refine bv_iconst (v := 0) dX0_copyFrom_39 (by decide) ?_
  refine bv_bipush (v := 8) dX0_copyFrom_40 (by decide) ?_
  obtain ⟨r19, h⟩ := bu_ic h
  obtain ⟨r20, h⟩ := bu_ic h
  refine bw_copyI hN r19 r20 dX0_copyFrom_42 mw_0_50 (by decide) ?_
  refine bv_aload_n dX0_copyFrom_45 1 rfl ?_
  obtain ⟨a21, e22, h⟩ := bu_bd h
  refine bw_getA (a := a21) hN q1 e22 dX0_copyFrom_46 fl_0_22 rfl ?_
  refine bv_iconst (v := 0) dX0_copyFrom_49 (by decide) ?_
  refine bv_aload_n dX0_copyFrom_50 0 rfl ?_
  obtain ⟨a23, e24, h⟩ := bu_bd h
  refine bw_getA (a := a23) hN q4 e24 dX0_copyFrom_51 fl_0_22 rfl ?_
  refine bv_iconst (v := 0) dX0_copyFrom_54 (by decide) ?_
  refine bv_bipush (v := 8) dX0_copyFrom_55 (by decide) ?_
  obtain ⟨r25, h⟩ := bu_ic h
  obtain ⟨r26, h⟩ := bu_ic h
  refine bw_copyI hN r25 r26 dX0_copyFrom_57 mw_0_50 (by decide) ?_
  refine bv_aload_n dX0_copyFrom_60 1 rfl ?_
  obtain ⟨a27, e28, h⟩ := bu_bd h
  refine bw_getA (a := a27) hN q1 e28 dX0_copyFrom_61 fl_0_25 rfl ?_
  refine bv_iconst (v := 0) dX0_copyFrom_64 (by decide) ?_
  refine bv_aload_n dX0_copyFrom_65 0 rfl ?_
  obtain ⟨a29, e30, h⟩ := bu_bd h
  refine bw_getA (a := a29) hN q4 e30 dX0_copyFrom_66 fl_0_25 rfl ?_
  refine bv_iconst (v := 0) dX0_copyFrom_69 (by decide) ?_
  refine bv_bipush (v := 8) dX0_copyFrom_70 (by decide) ?_
  obtain ⟨r31, h⟩ := bu_ic h
  obtain ⟨r32, h⟩ := bu_ic h
  refine bw_copyI hN r31 r32 dX0_copyFrom_72 mw_0_50 (by decide) ?_
  refine bv_aload_n dX0_copyFrom_75 1 rfl ?_
  obtain ⟨a33, e34, h⟩ := bu_bd h
  refine bw_getA (a := a33) hN q1 e34 dX0_copyFrom_76 fl_0_28 rfl ?_
  refine bv_iconst (v := 0) dX0_copyFrom_79 (by decide) ?_
  refine bv_aload_n dX0_copyFrom_80 0 rfl ?_
  obtain ⟨a35, e36, h⟩ := bu_bd h
  refine bw_getA (a := a35) hN q4 e36 dX0_copyFrom_81 fl_0_28 rfl ?_
  refine bv_iconst (v := 0) dX0_copyFrom_84 (by decide) ?_
  refine bv_bipush (v := 7) dX0_copyFrom_85 (by decide) ?_
  obtain ⟨r37, h⟩ := bu_ic h
  obtain ⟨r38, h⟩ := bu_ic h
  refine bw_copyL hN r37 r38 dX0_copyFrom_87 mw_0_50 (by decide) ?_
  refine bv_aload_n dX0_copyFrom_90 1 rfl ?_
  obtain ⟨a39, e40, h⟩ := bu_bd h
  refine bw_getA (a := a39) hN q1 e40 dX0_copyFrom_91 fl_0_31 rfl ?_
  refine bv_iconst (v := 0) dX0_copyFrom_94 (by decide) ?_
  refine bv_aload_n dX0_copyFrom_95 0 rfl ?_
  obtain ⟨a41, e42, h⟩ := bu_bd h
  refine bw_getA (a := a41) hN q4 e42 dX0_copyFrom_96 fl_0_31 rfl ?_
  refine bv_iconst (v := 0) dX0_copyFrom_99 (by decide) ?_
  refine bv_bipush (v := 7) dX0_copyFrom_100 (by decide) ?_
  obtain ⟨r43, h⟩ := bu_ic h
  obtain ⟨r44, h⟩ := bu_ic h
  refine bw_copyI hN r43 r44 dX0_copyFrom_102 mw_0_50 (by decide) ?_
  refine bv_aload_n dX0_copyFrom_105 1 rfl ?_
  obtain ⟨a45, e46, h⟩ := bu_bd h
  refine bw_getA (a := a45) hN q1 e46 dX0_copyFrom_106 fl_0_34 rfl ?_
  refine bv_iconst (v := 0) dX0_copyFrom_109 (by decide) ?_
  refine bv_aload_n dX0_copyFrom_110 0 rfl ?_
  obtain ⟨a47, e48, h⟩ := bu_bd h
  refine bw_getA (a := a47) hN q4 e48 dX0_copyFrom_111 fl_0_34 rfl ?_
  refine bv_iconst (v := 0) dX0_copyFrom_114 (by decide) ?_
  refine bv_bipush (v := 7) dX0_copyFrom_115 (by decide) ?_
  obtain ⟨r49, h⟩ := bu_ic h
  obtain ⟨r50, h⟩ := bu_ic h
  refine bw_copyI hN r49 r50 dX0_copyFrom_117 mw_0_50 (by decide) ?_
  refine bv_aload_n dX0_copyFrom_120 1 rfl ?_
  obtain ⟨a51, e52, h⟩ := bu_bd h
  refine bw_getA (a := a51) hN q1 e52 dX0_copyFrom_121 fl_0_37 rfl ?_
  refine bv_iconst (v := 0) dX0_copyFrom_124 (by decide) ?_
  refine bv_aload_n dX0_copyFrom_125 0 rfl ?_
  obtain ⟨a53, e54, h⟩ := bu_bd h
  refine bw_getA (a := a53) hN q4 e54 dX0_copyFrom_126 fl_0_37 rfl ?_
  refine bv_iconst (v := 0) dX0_copyFrom_129 (by decide) ?_
  refine bv_iconst (v := 4) dX0_copyFrom_130 (by decide) ?_
  obtain ⟨r55, h⟩ := bu_ic h
  obtain ⟨r56, h⟩ := bu_ic h
  refine bw_copyI hN r55 r56 dX0_copyFrom_131 mw_0_50 (by decide) ?_
  refine bv_aload_n dX0_copyFrom_134 1 rfl ?_
  obtain ⟨a57, e58, h⟩ := bu_bd h
  refine bw_getA (a := a57) hN q1 e58 dX0_copyFrom_135 fl_0_40 rfl ?_
  refine bv_iconst (v := 0) dX0_copyFrom_138 (by decide) ?_
  refine bv_aload_n dX0_copyFrom_139 0 rfl ?_
  obtain ⟨a59, e60, h⟩ := bu_bd h
  refine bw_getA (a := a59) hN q4 e60 dX0_copyFrom_140 fl_0_40 rfl ?_
  refine bv_iconst (v := 0) dX0_copyFrom_143 (by decide) ?_
  refine bv_iconst (v := 4) dX0_copyFrom_144 (by decide) ?_
  obtain ⟨r61, h⟩ := bu_ic h
  obtain ⟨r62, h⟩ := bu_ic h
  refine bw_copyI hN r61 r62 dX0_copyFrom_145 mw_0_50 (by decide) ?_
  refine bv_aload_n dX0_copyFrom_148 0 rfl ?_
  refine bv_aload_n dX0_copyFrom_149 1 rfl ?_
  refine bw_getI hN q1 dX0_copyFrom_150 fl_0_56 rfl ?_
  refine bw_putI hN q4 dX0_copyFrom_153 fl_0_56 rfl ?_
  refine bv_aload_n dX0_copyFrom_156 0 rfl ?_
  refine bv_aload_n dX0_copyFrom_157 1 rfl ?_
  refine bw_getI hN q1 dX0_copyFrom_158 fl_0_59 rfl ?_
  refine bw_putI hN q4 dX0_copyFrom_161 fl_0_59 rfl ?_
  refine bv_aload_n dX0_copyFrom_164 0 rfl ?_
  refine bv_aload_n dX0_copyFrom_165 1 rfl ?_
  refine bw_getI hN q1 dX0_copyFrom_166 fl_0_62 rfl ?_
  refine bw_putI hN q4 dX0_copyFrom_169 fl_0_62 rfl ?_
  refine bv_aload_n dX0_copyFrom_172 0 rfl ?_
  refine bv_aload_n dX0_copyFrom_173 1 rfl ?_
  refine bw_getI hN q1 dX0_copyFrom_174 fl_0_65 rfl ?_
  refine bw_putI hN q4 dX0_copyFrom_177 fl_0_65 rfl ?_
  refine bv_aload_n dX0_copyFrom_180 0 rfl ?_
  refine bv_aload_n dX0_copyFrom_181 1 rfl ?_
  refine bw_getI hN q1 dX0_copyFrom_182 fl_0_68 rfl ?_
  refine bw_putI hN q4 dX0_copyFrom_185 fl_0_68 rfl ?_
  refine bv_aload_n dX0_copyFrom_188 0 rfl ?_
  refine bv_aload_n dX0_copyFrom_189 1 rfl ?_
  refine bw_getI hN q1 dX0_copyFrom_190 fl_0_43 rfl ?_
  refine bw_putI hN q4 dX0_copyFrom_193 fl_0_43 rfl ?_
  refine bv_aload_n dX0_copyFrom_196 0 rfl ?_
  refine bv_aload_n dX0_copyFrom_197 1 rfl ?_
  refine bw_getI hN q1 dX0_copyFrom_198 fl_0_47 rfl ?_
  refine bw_putI hN q4 dX0_copyFrom_201 fl_0_47 rfl ?_
  obtain rfl := Option.some.inj h
  exact bv_vret dX0_copyFrom_204 rfl ⟨rfl, rfl⟩
def f_X5_isBlank (x0 : Int32) : Bool := (if x0 = 32 then true else (if x0 = 10 then true else false))
set_option maxHeartbeats 4000000 in
set_option maxRecDepth 100000 in
theorem c_X5_isBlank {L : bm_L} {d n : Nat} {M : bm_M} {x0 : Int32} {v : Bool} (hN : 181 ≤ n) (h : f_X5_isBlank x0 = v) : bm_C L m_X5_isBlank d n n [.int x0] M (fun r M' => r = some (.int (bm_bi v)) ∧ M' = M) := by
  refine bm_C.ofV (by decide) (Nat.le_of_ble_eq_true rfl) ?_
  show bm_V L m_X5_isBlank d n n n 0 [(0, .int x0)] [] M _
  unfold f_X5_isBlank at h
  refine bv_iload_n dX5_isBlank_0 0 rfl ?_
  refine bv_bipush (v := 32) dX5_isBlank_1 (by decide) ?_
  refine bv_icmp_eq (tgt := 12) dX5_isBlank_3 (by decide) (fun cc => ?_) (fun cc => ?_)
  · replace h := bu_t h cc
    refine bv_iconst (v := 1) dX5_isBlank_12 (by decide) ?_
    refine bv_goto (tgt := 17) dX5_isBlank_13 (by decide) ?_
    subst h
    exact bw_bret (b := true) dX5_isBlank_17 rfl ⟨rfl, rfl⟩
  · replace h := bu_f h cc
    refine bv_iload_n dX5_isBlank_6 0 rfl ?_
    refine bv_bipush (v := 10) dX5_isBlank_7 (by decide) ?_
    refine bv_icmp_ne (tgt := 16) dX5_isBlank_9 (by decide) (fun cc => ?_) (fun cc => ?_)
    · replace h := bu_f h cc
      refine bv_iconst (v := 0) dX5_isBlank_16 (by decide) ?_
      subst h
      exact bw_bret (b := false) dX5_isBlank_17 rfl ⟨rfl, rfl⟩
    · replace h := bu_t h cc
      refine bv_iconst (v := 1) dX5_isBlank_12 (by decide) ?_
      refine bv_goto (tgt := 17) dX5_isBlank_13 (by decide) ?_
      subst h
      exact bw_bret (b := true) dX5_isBlank_17 rfl ⟨rfl, rfl⟩
def f_X5_isDigit (x0 : Int32) : Bool := (if x0 < 48 then false else (if 57 < x0 then false else true))
set_option maxHeartbeats 4000000 in
set_option maxRecDepth 100000 in
theorem c_X5_isDigit {L : bm_L} {d n : Nat} {M : bm_M} {x0 : Int32} {v : Bool} (hN : 181 ≤ n) (h : f_X5_isDigit x0 = v) : bm_C L m_X5_isDigit d n n [.int x0] M (fun r M' => r = some (.int (bm_bi v)) ∧ M' = M) := by
  refine bm_C.ofV (by decide) (Nat.le_of_ble_eq_true rfl) ?_
  show bm_V L m_X5_isDigit d n n n 0 [(0, .int x0)] [] M _
  unfold f_X5_isDigit at h
  refine bv_iload_n dX5_isDigit_0 0 rfl ?_
  refine bv_bipush (v := 48) dX5_isDigit_1 (by decide) ?_
  refine bv_icmp_lt (tgt := 16) dX5_isDigit_3 (by decide) (fun cc => ?_) (fun cc => ?_)
  · replace h := bu_t h cc
    refine bv_iconst (v := 0) dX5_isDigit_16 (by decide) ?_
    subst h
    exact bw_bret (b := false) dX5_isDigit_17 rfl ⟨rfl, rfl⟩
  · replace h := bu_f h cc
    refine bv_iload_n dX5_isDigit_6 0 rfl ?_
    refine bv_bipush (v := 57) dX5_isDigit_7 (by decide) ?_
    refine bv_icmp_gt (tgt := 16) dX5_isDigit_9 (by decide) (fun cc => ?_) (fun cc => ?_)
    · replace h := bu_t h cc
      refine bv_iconst (v := 0) dX5_isDigit_16 (by decide) ?_
      subst h
      exact bw_bret (b := false) dX5_isDigit_17 rfl ⟨rfl, rfl⟩
    · replace h := bu_f h cc
      refine bv_iconst (v := 1) dX5_isDigit_12 (by decide) ?_
      refine bv_goto (tgt := 17) dX5_isDigit_13 (by decide) ?_
      subst h
      exact bw_bret (b := true) dX5_isDigit_17 rfl ⟨rfl, rfl⟩
def f_X5_isLetter (x0 : Int32) : Bool := (if x0 < 97 then false else (if 122 < x0 then false else true))
set_option maxHeartbeats 4000000 in
set_option maxRecDepth 100000 in
theorem c_X5_isLetter {L : bm_L} {d n : Nat} {M : bm_M} {x0 : Int32} {v : Bool} (hN : 181 ≤ n) (h : f_X5_isLetter x0 = v) : bm_C L m_X5_isLetter d n n [.int x0] M (fun r M' => r = some (.int (bm_bi v)) ∧ M' = M) := by
  refine bm_C.ofV (by decide) (Nat.le_of_ble_eq_true rfl) ?_
  show bm_V L m_X5_isLetter d n n n 0 [(0, .int x0)] [] M _
  unfold f_X5_isLetter at h
  refine bv_iload_n dX5_isLetter_0 0 rfl ?_
  refine bv_bipush (v := 97) dX5_isLetter_1 (by decide) ?_
  refine bv_icmp_lt (tgt := 16) dX5_isLetter_3 (by decide) (fun cc => ?_) (fun cc => ?_)
  · replace h := bu_t h cc
    refine bv_iconst (v := 0) dX5_isLetter_16 (by decide) ?_
    subst h
    exact bw_bret (b := false) dX5_isLetter_17 rfl ⟨rfl, rfl⟩
  · replace h := bu_f h cc
    refine bv_iload_n dX5_isLetter_6 0 rfl ?_
    refine bv_bipush (v := 122) dX5_isLetter_7 (by decide) ?_
    refine bv_icmp_gt (tgt := 16) dX5_isLetter_9 (by decide) (fun cc => ?_) (fun cc => ?_)
    · replace h := bu_t h cc
      refine bv_iconst (v := 0) dX5_isLetter_16 (by decide) ?_
      subst h
      exact bw_bret (b := false) dX5_isLetter_17 rfl ⟨rfl, rfl⟩
    · replace h := bu_f h cc
      refine bv_iconst (v := 1) dX5_isLetter_12 (by decide) ?_
      refine bv_goto (tgt := 17) dX5_isLetter_13 (by decide) ?_
      subst h
      exact bw_bret (b := true) dX5_isLetter_17 rfl ⟨rfl, rfl⟩
def f_X10_named_l2 (M : bm_M) (x0 : Int64) : Nat → Int32 → Option (((Int32) ⊕ (Unit)))
  | 0, _ => none
  | k + 1, x2 => (if 34 ≤ x2 then some (Sum.inr ()) else (if bm_iALL x2 = true then (if (lg_cmp (bm_wpa (1000 + x2.toNatClampNeg)) x0) = 0 then some (Sum.inl x2) else f_X10_named_l2 M x0 k (x2 + 1)) else none))
set_option maxHeartbeats 4000000 in
set_option maxRecDepth 100000 in
theorem v_X10_named_l2 {L : bm_L} {d n : Nat} {Q : Option Value → bm_M → Prop} {M : bm_M} {x0 : Int64} (hN : 181 ≤ n) : ∀ (k : Nat) (x2 : Int32) (r : ((Int32) ⊕ (Unit))), f_X10_named_l2 M x0 k x2 = some r → (∀ yy, (Sum.inl yy) = r → bm_V L m_X10_named d n n n 23 [(2, .int yy)] [] M Q) → (∀ yy, (Sum.inr yy) = r → bm_V L m_X10_named d n n n 35 [] [] M Q) → bm_V L m_X10_named d n n n 2 [(0, .long x0), (2, .int x2)] [] M Q := by
  intro k
  induction k with
  | zero => intro x2 r h; cases (show (none : Option (((Int32) ⊕ (Unit)))) = some r from h)
  | succ k ih =>
    intro x2 r h K0 K1
    unfold f_X10_named_l2 at h
    refine bv_iload_n dX10_named_2 1 rfl ?_
    refine bw_getALL dX10_named_3 fw_10_160 ?_
    refine bw_ALLlen dX10_named_6 ?_
    refine bv_icmp_ge (tgt := 35) dX10_named_7 (by decide) (fun cc => ?_) (fun cc => ?_)
    · replace h := bu_t h cc
      refine bw_ls (ls1 := []) [] rfl ?_
      obtain rfl := Option.some.inj h
      exact K1 _ rfl
    · replace h := bu_f h cc
      refine bw_getALL dX10_named_10 fw_10_160 ?_
      refine bv_iload_n dX10_named_13 1 rfl ?_
      obtain ⟨i1, h⟩ := bu_g h
      refine bw_ALLat i1 dX10_named_14 ?_
      have wi1 : bm_iw (1000 + x2.toNatClampNeg) = true := bm_ALLiw i1
      refine bw_wpa wi1 dX10_named_15 fw_10_135 ?_
      refine bv_lload_n dX10_named_18 0 rfl ?_
      refine bv_lcmp dX10_named_19 ?_
      refine bv_if_ne (tgt := 29) dX10_named_20 (by decide) (fun cc => ?_) (fun cc => ?_)
      · replace h := bu_f h cc
        refine bv_iinc (j := 1) (v := (x2 + 1)) (ls1 := [(0, .long x0), (2, .int (x2 + 1))]) dX10_named_29 rfl rfl (by decide) rfl rfl ?_
        refine bv_goto (tgt := 2) dX10_named_32 (by decide) ?_
        exact ih _ _ h K0 K1
      · replace h := bu_t h cc
        refine bw_ls (ls1 := [(2, .int x2)]) [1] rfl ?_
        obtain rfl := Option.some.inj h
        exact K0 _ rfl
def f_X10_named (M : bm_M) (x0 : Int64) : Option (Option Nat) := ((f_X10_named_l2 M x0 1000 0).bind fun rr => match rr with | (Sum.inl y3) => (if bm_iALL y3 = true then some (some (1000 + y3.toNatClampNeg)) else none) | (Sum.inr y3) => some none)
set_option maxHeartbeats 4000000 in
set_option maxRecDepth 100000 in
theorem c_X10_named {L : bm_L} {d n : Nat} {M : bm_M} {x0 : Int64} {v : Option Nat} (hN : 181 ≤ n) (h : f_X10_named M x0 = some v) : bm_C L m_X10_named d n n [.long x0] M (fun r M' => r = some (va_rf v) ∧ M' = M) := by
  refine bm_C.ofV (by decide) (Nat.le_of_ble_eq_true rfl) ?_
  show bm_V L m_X10_named d n n n 0 [(0, .long x0)] [] M _
  unfold f_X10_named at h
  refine bv_iconst (v := 0) dX10_named_0 (by decide) ?_
  refine bv_istore_n (ls1 := [(0, .long x0), (2, .int 0)]) dX10_named_1 (by decide) rfl rfl ?_
  obtain ⟨r1, p2, h⟩ := bu_bd h
  refine v_X10_named_l2 hN 1000 _ _ p2 (fun y3 hy => ?_) (fun y3 hy => ?_)
  · subst hy
    refine bw_getALL dX10_named_23 fw_10_160 ?_
    refine bv_iload_n dX10_named_26 0 rfl ?_
    obtain ⟨i4, h⟩ := bu_g h
    refine bw_ALLat i4 dX10_named_27 ?_
    have wi4 : bm_iw (1000 + y3.toNatClampNeg) = true := bm_ALLiw i4
    obtain rfl := Option.some.inj h
    exact bv_aret (x := (some (1000 + y3.toNatClampNeg))) dX10_named_28 rfl (Or.inl ⟨_, rfl⟩) ⟨rfl, rfl⟩
  · subst hy
    refine bv_null dX10_named_35 ?_
    obtain rfl := Option.some.inj h
    exact bv_aret (x := none) dX10_named_36 rfl (Or.inl ⟨_, rfl⟩) ⟨rfl, rfl⟩
def f_X10_packLetter (x0 : Int64) (x2 : Int32) : Int64 := ((bm_lshl x0 5) ||| (((x2 - 97) + 1).toInt64))
set_option maxHeartbeats 4000000 in
set_option maxRecDepth 100000 in
theorem c_X10_packLetter {L : bm_L} {d n : Nat} {M : bm_M} {x0 : Int64} {x2 : Int32} {v : Int64} (hN : 181 ≤ n) (h : f_X10_packLetter x0 x2 = v) : bm_C L m_X10_packLetter d n n [.long x0, .int x2] M (fun r M' => r = some (.long v) ∧ M' = M) := by
  refine bm_C.ofV (by decide) (Nat.le_of_ble_eq_true rfl) ?_
  show bm_V L m_X10_packLetter d n n n 0 [(0, .long x0), (2, .int x2)] [] M _
  unfold f_X10_packLetter at h
  refine bv_lload_n dX10_packLetter_0 0 rfl ?_
  refine bv_iconst (v := 5) dX10_packLetter_1 (by decide) ?_
  refine bv_lshl dX10_packLetter_2 ?_
  refine bv_iload_n dX10_packLetter_3 1 rfl ?_
  refine bv_bipush (v := 97) dX10_packLetter_4 (by decide) ?_
  refine bv_isub dX10_packLetter_6 ?_
  refine bv_iconst (v := 1) dX10_packLetter_7 (by decide) ?_
  refine bv_iadd dX10_packLetter_8 ?_
  refine bv_i2l dX10_packLetter_9 ?_
  refine bv_lor dX10_packLetter_10 ?_
  subst h
  exact bv_lret dX10_packLetter_11 rfl ⟨rfl, rfl⟩
def f_X5_readRun_l17 (x0 : Nat) (x1 : Int32) : Nat → Int32 → bm_M → Option (Int32 × bm_M)
  | 0, _, _ => none
  | k + 1, x2, M => ((M.2.2 x0 0).bind fun a1 => (if bm_io a1 9 then (if (M.1 a1 1) ≤ (M.1 x0 2) then some (x2, M) else ((M.2.2 a1 0).bind fun a4 => (if bm_ia a4 0 (M.1 x0 2) = true then (if (f_X5_isLetter (M.1 a4 (M.1 x0 2).toNatClampNeg)) = true then (if (f_X5_isLetter (M.1 a4 (M.1 x0 2).toNatClampNeg)) = true then f_X5_readRun_l17 x0 x1 k (x2 + 1) (bm_sI (bm_sL M x0 7 (f_X10_packLetter (M.2.1 x0 7) (M.1 a4 (M.1 x0 2).toNatClampNeg))) x0 2 (((bm_sL M x0 7 (f_X10_packLetter (M.2.1 x0 7) (M.1 a4 (M.1 x0 2).toNatClampNeg))).1 x0 2) + 1)) else f_X5_readRun_l17 x0 x1 k x2 (bm_sI (bm_sI M x0 5 (((10 * (M.1 x0 5)) + (M.1 a4 (M.1 x0 2).toNatClampNeg)) - 48)) x0 2 (((bm_sI M x0 5 (((10 * (M.1 x0 5)) + (M.1 a4 (M.1 x0 2).toNatClampNeg)) - 48)).1 x0 2) + 1))) else (if (f_X5_isDigit (M.1 a4 (M.1 x0 2).toNatClampNeg)) = true then (if (f_X5_isLetter (M.1 a4 (M.1 x0 2).toNatClampNeg)) = true then f_X5_readRun_l17 x0 x1 k (x2 + 1) (bm_sI (bm_sL M x0 7 (f_X10_packLetter (M.2.1 x0 7) (M.1 a4 (M.1 x0 2).toNatClampNeg))) x0 2 (((bm_sL M x0 7 (f_X10_packLetter (M.2.1 x0 7) (M.1 a4 (M.1 x0 2).toNatClampNeg))).1 x0 2) + 1)) else f_X5_readRun_l17 x0 x1 k x2 (bm_sI (bm_sI M x0 5 (((10 * (M.1 x0 5)) + (M.1 a4 (M.1 x0 2).toNatClampNeg)) - 48)) x0 2 (((bm_sI M x0 5 (((10 * (M.1 x0 5)) + (M.1 a4 (M.1 x0 2).toNatClampNeg)) - 48)).1 x0 2) + 1))) else some (x2, M))) else none))) else none))
set_option maxHeartbeats 4000000 in
set_option maxRecDepth 100000 in
theorem v_X5_readRun_l17 {L : bm_L} {d n : Nat} {Q : Option Value → bm_M → Prop} {x0 : Nat} {x1 : Int32} (hN : 181 ≤ n) (q_0 : bm_OK x0 5) : ∀ (k : Nat) (x2 : Int32) (M : bm_M) (r : Int32 × bm_M), f_X5_readRun_l17 x0 x1 k x2 M = some r → (∀ yy, yy = r → bm_V L m_X5_readRun (d + 1) n n n 134 [(0, .ref x0), (1, .int x1), (2, .int yy.1)] [] yy.2 Q) → bm_V L m_X5_readRun (d + 1) n n n 17 [(0, .ref x0), (1, .int x1), (2, .int x2)] [] M Q := by
  intro k
  induction k with
  | zero => intro x2 M r h; cases (show (none : Option (Int32 × bm_M)) = some r from h)
  | succ k ih =>
    intro x2 M r h K0
    unfold f_X5_readRun_l17 at h
    refine bv_aload_n dX5_readRun_17 0 rfl ?_
    refine bw_getI hN q_0 dX5_readRun_18 fl_5_19 rfl ?_
    refine bv_aload_n dX5_readRun_21 0 rfl ?_
    obtain ⟨a1, e2, h⟩ := bu_bd h
    refine bw_getA (a := a1) hN q_0 e2 dX5_readRun_22 fl_5_9 rfl ?_
    obtain ⟨q3, h⟩ := bu_io h
    refine bw_getI hN q3 dX5_readRun_25 fl_5_31 rfl ?_
    refine bv_icmp_ge (tgt := 134) dX5_readRun_28 (by decide) (fun cc => ?_) (fun cc => ?_)
    · replace h := bu_t h cc
      obtain rfl := Option.some.inj h
      exact K0 _ rfl
    · replace h := bu_f h cc
      refine bv_aload_n dX5_readRun_31 0 rfl ?_
      refine bw_getA (a := a1) hN q_0 e2 dX5_readRun_32 fl_5_9 rfl ?_
      obtain ⟨a4, e5, h⟩ := bu_bd h
      refine bw_getA (a := a4) hN q3 e5 dX5_readRun_35 fl_5_36 rfl ?_
      refine bv_aload_n dX5_readRun_38 0 rfl ?_
      refine bw_getI hN q_0 dX5_readRun_39 fl_5_19 rfl ?_
      obtain ⟨r6, h⟩ := bu_ia h
      refine bw_iald hN r6 dX5_readRun_42 ?_
      refine bw_callS (As := [.int (M.1 a4 (M.1 x0 2).toNatClampNeg)]) dX5_readRun_43 mc_5_57 (c_X5_isLetter (d := d + 0) hN rfl) rfl rfl (by decide) ?_
      refine bw_ifB_ne (b := (f_X5_isLetter (M.1 a4 (M.1 x0 2).toNatClampNeg))) (tgt := 67) dX5_readRun_46 (by decide) (fun cc => ?_) (fun cc => ?_)
      · replace h := bu_bt h cc
        refine bv_aload_n dX5_readRun_67 0 rfl ?_
        refine bw_getA (a := a1) hN q_0 e2 dX5_readRun_68 fl_5_9 rfl ?_
        refine bw_getA (a := a4) hN q3 e5 dX5_readRun_71 fl_5_36 rfl ?_
        refine bv_aload_n dX5_readRun_74 0 rfl ?_
        refine bw_getI hN q_0 dX5_readRun_75 fl_5_19 rfl ?_
        refine bw_iald hN r6 dX5_readRun_78 ?_
        refine bv_istore_n (ls1 := [(0, .ref x0), (1, .int x1), (2, .int x2), (3, .int (M.1 a4 (M.1 x0 2).toNatClampNeg))]) dX5_readRun_79 (by decide) rfl rfl ?_
        refine bv_iload_n dX5_readRun_80 3 rfl ?_
        refine bw_callS (As := [.int (M.1 a4 (M.1 x0 2).toNatClampNeg)]) dX5_readRun_81 mc_5_57 (c_X5_isLetter (d := d + 0) hN rfl) rfl rfl (by decide) ?_
        refine bw_ifB_eq (b := (f_X5_isLetter (M.1 a4 (M.1 x0 2).toNatClampNeg))) (tgt := 105) dX5_readRun_84 (by decide) (fun cc => ?_) (fun cc => ?_)
        · replace h := bu_bf h cc
          refine bv_aload_n dX5_readRun_105 0 rfl ?_
          refine bv_bipush (v := 10) dX5_readRun_106 (by decide) ?_
          refine bv_aload_n dX5_readRun_108 0 rfl ?_
          refine bw_getI hN q_0 dX5_readRun_109 fl_5_70 rfl ?_
          refine bv_imul dX5_readRun_112 ?_
          refine bv_iload_n dX5_readRun_113 3 rfl ?_
          refine bv_iadd dX5_readRun_114 ?_
          refine bv_bipush (v := 48) dX5_readRun_115 (by decide) ?_
          refine bv_isub dX5_readRun_117 ?_
          refine bw_putI hN q_0 dX5_readRun_118 fl_5_70 rfl ?_
          refine bv_aload_n dX5_readRun_121 0 rfl ?_
          refine bv_dup dX5_readRun_122 rfl ?_
          refine bw_getI hN q_0 dX5_readRun_123 fl_5_19 rfl ?_
          refine bv_iconst (v := 1) dX5_readRun_126 (by decide) ?_
          refine bv_iadd dX5_readRun_127 ?_
          refine bw_putI hN q_0 dX5_readRun_128 fl_5_19 rfl ?_
          refine bv_goto (tgt := 17) dX5_readRun_131 (by decide) ?_
          refine bw_ls (ls1 := [(0, .ref x0), (1, .int x1), (2, .int x2)]) [0, 1, 2] rfl ?_
          exact ih _ _ _ h K0
        · replace h := bu_bt h cc
          refine bv_iinc (j := 2) (v := (x2 + 1)) (ls1 := [(0, .ref x0), (1, .int x1), (2, .int (x2 + 1)), (3, .int (M.1 a4 (M.1 x0 2).toNatClampNeg))]) dX5_readRun_87 rfl rfl (by decide) rfl rfl ?_
          refine bv_aload_n dX5_readRun_90 0 rfl ?_
          refine bv_aload_n dX5_readRun_91 0 rfl ?_
          refine bw_getL hN q_0 dX5_readRun_92 fl_5_66 rfl ?_
          refine bv_iload_n dX5_readRun_95 3 rfl ?_
          refine bw_callS (As := [.long (M.2.1 x0 7), .int (M.1 a4 (M.1 x0 2).toNatClampNeg)]) dX5_readRun_96 mc_5_73 (c_X10_packLetter (d := d + 0) hN rfl) rfl rfl (Nat.le_of_ble_eq_true rfl) ?_
          refine bw_putL hN q_0 dX5_readRun_99 fl_5_66 rfl ?_
          refine bv_goto (tgt := 121) dX5_readRun_102 (by decide) ?_
          refine bv_aload_n dX5_readRun_121 0 rfl ?_
          refine bv_dup dX5_readRun_122 rfl ?_
          refine bw_getI hN q_0 dX5_readRun_123 fl_5_19 rfl ?_
          refine bv_iconst (v := 1) dX5_readRun_126 (by decide) ?_
          refine bv_iadd dX5_readRun_127 ?_
          refine bw_putI hN q_0 dX5_readRun_128 fl_5_19 rfl ?_
          refine bv_goto (tgt := 17) dX5_readRun_131 (by decide) ?_
          refine bw_ls (ls1 := [(0, .ref x0), (1, .int x1), (2, .int (x2 + 1))]) [0, 1, 2] rfl ?_
          exact ih _ _ _ h K0
      · replace h := bu_bf h cc
        refine bv_aload_n dX5_readRun_49 0 rfl ?_
        refine bw_getA (a := a1) hN q_0 e2 dX5_readRun_50 fl_5_9 rfl ?_
        refine bw_getA (a := a4) hN q3 e5 dX5_readRun_53 fl_5_36 rfl ?_
        refine bv_aload_n dX5_readRun_56 0 rfl ?_
        refine bw_getI hN q_0 dX5_readRun_57 fl_5_19 rfl ?_
        refine bw_iald hN r6 dX5_readRun_60 ?_
        refine bw_callS (As := [.int (M.1 a4 (M.1 x0 2).toNatClampNeg)]) dX5_readRun_61 mc_5_60 (c_X5_isDigit (d := d + 0) hN rfl) rfl rfl (by decide) ?_
        refine bw_ifB_eq (b := (f_X5_isDigit (M.1 a4 (M.1 x0 2).toNatClampNeg))) (tgt := 134) dX5_readRun_64 (by decide) (fun cc => ?_) (fun cc => ?_)
        · replace h := bu_bf h cc
          obtain rfl := Option.some.inj h
          exact K0 _ rfl
        · replace h := bu_bt h cc
          refine bv_aload_n dX5_readRun_67 0 rfl ?_
          refine bw_getA (a := a1) hN q_0 e2 dX5_readRun_68 fl_5_9 rfl ?_
          refine bw_getA (a := a4) hN q3 e5 dX5_readRun_71 fl_5_36 rfl ?_
          refine bv_aload_n dX5_readRun_74 0 rfl ?_
          refine bw_getI hN q_0 dX5_readRun_75 fl_5_19 rfl ?_
          refine bw_iald hN r6 dX5_readRun_78 ?_
          refine bv_istore_n (ls1 := [(0, .ref x0), (1, .int x1), (2, .int x2), (3, .int (M.1 a4 (M.1 x0 2).toNatClampNeg))]) dX5_readRun_79 (by decide) rfl rfl ?_
          refine bv_iload_n dX5_readRun_80 3 rfl ?_
          refine bw_callS (As := [.int (M.1 a4 (M.1 x0 2).toNatClampNeg)]) dX5_readRun_81 mc_5_57 (c_X5_isLetter (d := d + 0) hN rfl) rfl rfl (by decide) ?_
          refine bw_ifB_eq (b := (f_X5_isLetter (M.1 a4 (M.1 x0 2).toNatClampNeg))) (tgt := 105) dX5_readRun_84 (by decide) (fun cc => ?_) (fun cc => ?_)
          · replace h := bu_bf h cc
            refine bv_aload_n dX5_readRun_105 0 rfl ?_
            refine bv_bipush (v := 10) dX5_readRun_106 (by decide) ?_
            refine bv_aload_n dX5_readRun_108 0 rfl ?_
            refine bw_getI hN q_0 dX5_readRun_109 fl_5_70 rfl ?_
            refine bv_imul dX5_readRun_112 ?_
            refine bv_iload_n dX5_readRun_113 3 rfl ?_
            refine bv_iadd dX5_readRun_114 ?_
            refine bv_bipush (v := 48) dX5_readRun_115 (by decide) ?_
            refine bv_isub dX5_readRun_117 ?_
            refine bw_putI hN q_0 dX5_readRun_118 fl_5_70 rfl ?_
            refine bv_aload_n dX5_readRun_121 0 rfl ?_
            refine bv_dup dX5_readRun_122 rfl ?_
            refine bw_getI hN q_0 dX5_readRun_123 fl_5_19 rfl ?_
            refine bv_iconst (v := 1) dX5_readRun_126 (by decide) ?_
            refine bv_iadd dX5_readRun_127 ?_
            refine bw_putI hN q_0 dX5_readRun_128 fl_5_19 rfl ?_
            refine bv_goto (tgt := 17) dX5_readRun_131 (by decide) ?_
            refine bw_ls (ls1 := [(0, .ref x0), (1, .int x1), (2, .int x2)]) [0, 1, 2] rfl ?_
            exact ih _ _ _ h K0
          · replace h := bu_bt h cc
            refine bv_iinc (j := 2) (v := (x2 + 1)) (ls1 := [(0, .ref x0), (1, .int x1), (2, .int (x2 + 1)), (3, .int (M.1 a4 (M.1 x0 2).toNatClampNeg))]) dX5_readRun_87 rfl rfl (by decide) rfl rfl ?_
            refine bv_aload_n dX5_readRun_90 0 rfl ?_
            refine bv_aload_n dX5_readRun_91 0 rfl ?_
            refine bw_getL hN q_0 dX5_readRun_92 fl_5_66 rfl ?_
            refine bv_iload_n dX5_readRun_95 3 rfl ?_
            refine bw_callS (As := [.long (M.2.1 x0 7), .int (M.1 a4 (M.1 x0 2).toNatClampNeg)]) dX5_readRun_96 mc_5_73 (c_X10_packLetter (d := d + 0) hN rfl) rfl rfl (Nat.le_of_ble_eq_true rfl) ?_
            refine bw_putL hN q_0 dX5_readRun_99 fl_5_66 rfl ?_
            refine bv_goto (tgt := 121) dX5_readRun_102 (by decide) ?_
            refine bv_aload_n dX5_readRun_121 0 rfl ?_
            refine bv_dup dX5_readRun_122 rfl ?_
            refine bw_getI hN q_0 dX5_readRun_123 fl_5_19 rfl ?_
            refine bv_iconst (v := 1) dX5_readRun_126 (by decide) ?_
            refine bv_iadd dX5_readRun_127 ?_
            refine bw_putI hN q_0 dX5_readRun_128 fl_5_19 rfl ?_
            refine bv_goto (tgt := 17) dX5_readRun_131 (by decide) ?_
            refine bw_ls (ls1 := [(0, .ref x0), (1, .int x1), (2, .int (x2 + 1))]) [0, 1, 2] rfl ?_
            exact ih _ _ _ h K0
def f_X5_readRun (M : bm_M) (x0 : Nat) : Option (bm_M) := (if bm_io x0 5 then ((f_X5_readRun_l17 x0 (M.1 x0 2) 1000 0 (bm_sI (bm_sL M x0 7 0) x0 5 0)).bind fun y4 => (if y4.1 = ((y4.2.1 x0 2) - (M.1 x0 2)) then (if 7 < ((y4.2.1 x0 2) - (M.1 x0 2)) then (if y4.1 = 0 then (if 3 < ((y4.2.1 x0 2) - (M.1 x0 2)) then some (bm_sI y4.2 x0 3 1) else some (bm_sI y4.2 x0 3 3)) else some (bm_sI y4.2 x0 3 1)) else ((f_X10_named y4.2 (y4.2.2.1 x0 7)).bind fun v5 => (if ((bm_sR y4.2 x0 8 v5).2.2 x0 8) = none then some (bm_sI (bm_sR y4.2 x0 8 v5) x0 3 5) else some (bm_sI (bm_sR y4.2 x0 8 v5) x0 3 4)))) else (if y4.1 = 0 then (if 3 < ((y4.2.1 x0 2) - (M.1 x0 2)) then some (bm_sI y4.2 x0 3 1) else some (bm_sI y4.2 x0 3 3)) else some (bm_sI y4.2 x0 3 1)))) else none)
set_option maxHeartbeats 4000000 in
set_option maxRecDepth 100000 in
theorem c_X5_readRun {L : bm_L} {d n : Nat} {M : bm_M} {x0 : Nat} {v : bm_M} (hN : 181 ≤ n) (h : f_X5_readRun M x0 = some v) : bm_C L m_X5_readRun (d + 1) n n [.ref x0] M (fun r M' => r = none ∧ M' = v) := by
  refine bm_C.ofV (by decide) (Nat.le_of_ble_eq_true rfl) ?_
  show bm_V L m_X5_readRun (d + 1) n n n 0 [(0, .ref x0)] [] M _
  unfold f_X5_readRun at h
  refine bv_aload_n dX5_readRun_0 0 rfl ?_
  obtain ⟨q1, h⟩ := bu_io h
  refine bw_getI hN q1 dX5_readRun_1 fl_5_19 rfl ?_
  refine bv_istore_n (ls1 := [(0, .ref x0), (1, .int (M.1 x0 2))]) dX5_readRun_4 (by decide) rfl rfl ?_
  refine bv_iconst (v := 0) dX5_readRun_5 (by decide) ?_
  refine bv_istore_n (ls1 := [(0, .ref x0), (1, .int (M.1 x0 2)), (2, .int 0)]) dX5_readRun_6 (by decide) rfl rfl ?_
  refine bv_aload_n dX5_readRun_7 0 rfl ?_
  refine bv_lconst (v := 0) dX5_readRun_8 (by decide) ?_
  refine bw_putL hN q1 dX5_readRun_9 fl_5_66 rfl ?_
  refine bv_aload_n dX5_readRun_12 0 rfl ?_
  refine bv_iconst (v := 0) dX5_readRun_13 (by decide) ?_
  refine bw_putI hN q1 dX5_readRun_14 fl_5_70 rfl ?_
  obtain ⟨r2, p3, h⟩ := bu_bd h
  refine v_X5_readRun_l17 hN q1 1000 _ _ _ p3 (fun y4 hy => ?_)
  · subst hy
    refine bv_aload_n dX5_readRun_134 0 rfl ?_
    refine bw_getI hN q1 dX5_readRun_135 fl_5_19 rfl ?_
    refine bv_iload_n dX5_readRun_138 1 rfl ?_
    refine bv_isub dX5_readRun_139 ?_
    refine bv_istore_n (ls1 := [(0, .ref x0), (1, .int (M.1 x0 2)), (2, .int y4.1), (3, .int ((y4.2.1 x0 2) - (M.1 x0 2)))]) dX5_readRun_140 (by decide) rfl rfl ?_
    refine bv_iload_n dX5_readRun_141 2 rfl ?_
    refine bv_iload_n dX5_readRun_142 3 rfl ?_
    refine bv_icmp_ne (tgt := 182) dX5_readRun_143 (by decide) (fun cc => ?_) (fun cc => ?_)
    · replace h := bu_f h cc
      refine bv_aload_n dX5_readRun_182 0 rfl ?_
      refine bv_iload_n dX5_readRun_183 2 rfl ?_
      refine bv_if_ne (tgt := 196) dX5_readRun_184 (by decide) (fun cc => ?_) (fun cc => ?_)
      · replace h := bu_f h cc
        refine bv_iconst (v := 1) dX5_readRun_196 (by decide) ?_
        refine bw_putI hN q1 dX5_readRun_197 fl_5_54 rfl ?_
        obtain rfl := Option.some.inj h
        exact bv_vret dX5_readRun_200 rfl ⟨rfl, rfl⟩
      · replace h := bu_t h cc
        refine bv_iload_n dX5_readRun_187 3 rfl ?_
        refine bv_iconst (v := 3) dX5_readRun_188 (by decide) ?_
        refine bv_icmp_gt (tgt := 196) dX5_readRun_189 (by decide) (fun cc => ?_) (fun cc => ?_)
        · replace h := bu_t h cc
          refine bv_iconst (v := 1) dX5_readRun_196 (by decide) ?_
          refine bw_putI hN q1 dX5_readRun_197 fl_5_54 rfl ?_
          obtain rfl := Option.some.inj h
          exact bv_vret dX5_readRun_200 rfl ⟨rfl, rfl⟩
        · replace h := bu_f h cc
          refine bv_iconst (v := 3) dX5_readRun_192 (by decide) ?_
          refine bv_goto (tgt := 197) dX5_readRun_193 (by decide) ?_
          refine bw_putI hN q1 dX5_readRun_197 fl_5_54 rfl ?_
          obtain rfl := Option.some.inj h
          exact bv_vret dX5_readRun_200 rfl ⟨rfl, rfl⟩
    · replace h := bu_t h cc
      refine bv_iload_n dX5_readRun_146 3 rfl ?_
      refine bv_bipush (v := 7) dX5_readRun_147 (by decide) ?_
      refine bv_icmp_gt (tgt := 182) dX5_readRun_149 (by decide) (fun cc => ?_) (fun cc => ?_)
      · replace h := bu_t h cc
        refine bv_aload_n dX5_readRun_182 0 rfl ?_
        refine bv_iload_n dX5_readRun_183 2 rfl ?_
        refine bv_if_ne (tgt := 196) dX5_readRun_184 (by decide) (fun cc => ?_) (fun cc => ?_)
        · replace h := bu_f h cc
          refine bv_iconst (v := 1) dX5_readRun_196 (by decide) ?_
          refine bw_putI hN q1 dX5_readRun_197 fl_5_54 rfl ?_
          obtain rfl := Option.some.inj h
          exact bv_vret dX5_readRun_200 rfl ⟨rfl, rfl⟩
        · replace h := bu_t h cc
          refine bv_iload_n dX5_readRun_187 3 rfl ?_
          refine bv_iconst (v := 3) dX5_readRun_188 (by decide) ?_
          refine bv_icmp_gt (tgt := 196) dX5_readRun_189 (by decide) (fun cc => ?_) (fun cc => ?_)
          · replace h := bu_t h cc
            refine bv_iconst (v := 1) dX5_readRun_196 (by decide) ?_
            refine bw_putI hN q1 dX5_readRun_197 fl_5_54 rfl ?_
            obtain rfl := Option.some.inj h
            exact bv_vret dX5_readRun_200 rfl ⟨rfl, rfl⟩
          · replace h := bu_f h cc
            refine bv_iconst (v := 3) dX5_readRun_192 (by decide) ?_
            refine bv_goto (tgt := 197) dX5_readRun_193 (by decide) ?_
            refine bw_putI hN q1 dX5_readRun_197 fl_5_54 rfl ?_
            obtain rfl := Option.some.inj h
            exact bv_vret dX5_readRun_200 rfl ⟨rfl, rfl⟩
      · replace h := bu_f h cc
        refine bv_aload_n dX5_readRun_152 0 rfl ?_
        refine bv_aload_n dX5_readRun_153 0 rfl ?_
        refine bw_getL hN q1 dX5_readRun_154 fl_5_66 rfl ?_
        obtain ⟨v5, p6, h⟩ := bu_bd h
        refine bw_callS (As := [.long (y4.2.2.1 x0 7)]) dX5_readRun_157 mc_5_79 (c_X10_named (d := d + 0) hN p6) rfl rfl (Nat.le_of_ble_eq_true rfl) ?_
        refine bw_putR (v := v5) hN q1 dX5_readRun_160 fl_5_44 rfl ?_
        refine bv_aload_n dX5_readRun_163 0 rfl ?_
        refine bv_aload_n dX5_readRun_164 0 rfl ?_
        refine bw_getR hN q1 dX5_readRun_165 fl_5_44 rfl ?_
        refine bv_ifnonnull (x := ((bm_sR y4.2 x0 8 v5).2.2 x0 8)) (tgt := 175) dX5_readRun_168 (by decide) (fun cc => ?_) (fun cc => ?_)
        · replace h := bu_f h cc
          refine bv_iconst (v := 4) dX5_readRun_175 (by decide) ?_
          refine bw_putI hN q1 dX5_readRun_176 fl_5_54 rfl ?_
          refine bv_goto (tgt := 200) dX5_readRun_179 (by decide) ?_
          obtain rfl := Option.some.inj h
          exact bv_vret dX5_readRun_200 rfl ⟨rfl, rfl⟩
        · replace h := bu_t h cc
          refine bv_iconst (v := 5) dX5_readRun_171 (by decide) ?_
          refine bv_goto (tgt := 176) dX5_readRun_172 (by decide) ?_
          refine bw_putI hN q1 dX5_readRun_176 fl_5_54 rfl ?_
          refine bv_goto (tgt := 200) dX5_readRun_179 (by decide) ?_
          obtain rfl := Option.some.inj h
          exact bv_vret dX5_readRun_200 rfl ⟨rfl, rfl⟩
def f_X5_advance_l0 (x0 : Nat) : Nat → bm_M → Option (bm_M)
  | 0, _ => none
  | k + 1, M => (if bm_io x0 5 then ((M.2.2 x0 0).bind fun a2 => (if bm_io a2 9 then (if (M.1 a2 1) ≤ (M.1 x0 2) then some M else ((M.2.2 a2 0).bind fun a5 => (if bm_ia a5 0 (M.1 x0 2) = true then (if (f_X5_isBlank (M.1 a5 (M.1 x0 2).toNatClampNeg)) = true then f_X5_advance_l0 x0 k (bm_sI M x0 2 ((M.1 x0 2) + 1)) else some M) else none))) else none)) else none)
set_option maxHeartbeats 4000000 in
set_option maxRecDepth 100000 in
theorem v_X5_advance_l0 {L : bm_L} {d n : Nat} {Q : Option Value → bm_M → Prop} {x0 : Nat} (hN : 181 ≤ n) : ∀ (k : Nat) (M : bm_M) (r : bm_M), f_X5_advance_l0 x0 k M = some r → (∀ yy, yy = r → bm_V L m_X5_advance (d + 2) n n n 45 [(0, .ref x0)] [] yy Q) → bm_V L m_X5_advance (d + 2) n n n 0 [(0, .ref x0)] [] M Q := by
  intro k
  induction k with
  | zero => intro M r h; cases (show (none : Option (bm_M)) = some r from h)
  | succ k ih =>
    intro M r h K0
    unfold f_X5_advance_l0 at h
    refine bv_aload_n dX5_advance_0 0 rfl ?_
    obtain ⟨q1, h⟩ := bu_io h
    refine bw_getI hN q1 dX5_advance_1 fl_5_19 rfl ?_
    refine bv_aload_n dX5_advance_4 0 rfl ?_
    obtain ⟨a2, e3, h⟩ := bu_bd h
    refine bw_getA (a := a2) hN q1 e3 dX5_advance_5 fl_5_9 rfl ?_
    obtain ⟨q4, h⟩ := bu_io h
    refine bw_getI hN q4 dX5_advance_8 fl_5_31 rfl ?_
    refine bv_icmp_ge (tgt := 45) dX5_advance_11 (by decide) (fun cc => ?_) (fun cc => ?_)
    · replace h := bu_t h cc
      obtain rfl := Option.some.inj h
      exact K0 _ rfl
    · replace h := bu_f h cc
      refine bv_aload_n dX5_advance_14 0 rfl ?_
      refine bw_getA (a := a2) hN q1 e3 dX5_advance_15 fl_5_9 rfl ?_
      obtain ⟨a5, e6, h⟩ := bu_bd h
      refine bw_getA (a := a5) hN q4 e6 dX5_advance_18 fl_5_36 rfl ?_
      refine bv_aload_n dX5_advance_21 0 rfl ?_
      refine bw_getI hN q1 dX5_advance_22 fl_5_19 rfl ?_
      obtain ⟨r7, h⟩ := bu_ia h
      refine bw_iald hN r7 dX5_advance_25 ?_
      refine bw_callS (As := [.int (M.1 a5 (M.1 x0 2).toNatClampNeg)]) dX5_advance_26 mc_5_40 (c_X5_isBlank (d := d + 1) hN rfl) rfl rfl (by decide) ?_
      refine bw_ifB_eq (b := (f_X5_isBlank (M.1 a5 (M.1 x0 2).toNatClampNeg))) (tgt := 45) dX5_advance_29 (by decide) (fun cc => ?_) (fun cc => ?_)
      · replace h := bu_bf h cc
        obtain rfl := Option.some.inj h
        exact K0 _ rfl
      · replace h := bu_bt h cc
        refine bv_aload_n dX5_advance_32 0 rfl ?_
        refine bv_dup dX5_advance_33 rfl ?_
        refine bw_getI hN q1 dX5_advance_34 fl_5_19 rfl ?_
        refine bv_iconst (v := 1) dX5_advance_37 (by decide) ?_
        refine bv_iadd dX5_advance_38 ?_
        refine bw_putI hN q1 dX5_advance_39 fl_5_19 rfl ?_
        refine bv_goto (tgt := 0) dX5_advance_42 (by decide) ?_
        exact ih _ _ h K0
def f_X5_advance (M : bm_M) (x0 : Nat) : Option (bm_M) := ((f_X5_advance_l0 x0 1000 M).bind fun y3 => (if bm_io x0 5 then (((bm_sR y3 x0 8 none).2.2 x0 0).bind fun a5 => (if bm_io a5 9 then (if ((bm_sI (bm_sI (bm_sR y3 x0 8 none) x0 6 0) x0 4 ((bm_sI (bm_sR y3 x0 8 none) x0 6 0).1 x0 2)).1 a5 1) ≤ ((bm_sI (bm_sI (bm_sR y3 x0 8 none) x0 6 0) x0 4 ((bm_sI (bm_sR y3 x0 8 none) x0 6 0).1 x0 2)).1 x0 1) then (if ((bm_sI (bm_sI (bm_sR y3 x0 8 none) x0 6 0) x0 4 ((bm_sI (bm_sR y3 x0 8 none) x0 6 0).1 x0 2)).1 x0 2) < ((bm_sI (bm_sI (bm_sR y3 x0 8 none) x0 6 0) x0 4 ((bm_sI (bm_sR y3 x0 8 none) x0 6 0).1 x0 2)).1 a5 1) then (((bm_sR y3 x0 8 none).2.2 a5 0).bind fun a8 => (if bm_ia a8 0 ((bm_sI (bm_sI (bm_sR y3 x0 8 none) x0 6 0) x0 4 ((bm_sI (bm_sR y3 x0 8 none) x0 6 0).1 x0 2)).1 x0 2) = true then (if (f_X5_isLetter ((bm_sI (bm_sI (bm_sR y3 x0 8 none) x0 6 0) x0 4 ((bm_sI (bm_sR y3 x0 8 none) x0 6 0).1 x0 2)).1 a8 ((bm_sI (bm_sI (bm_sR y3 x0 8 none) x0 6 0) x0 4 ((bm_sI (bm_sR y3 x0 8 none) x0 6 0).1 x0 2)).1 x0 2).toNatClampNeg)) = true then ((f_X5_readRun (bm_sI (bm_sI (bm_sR y3 x0 8 none) x0 6 0) x0 4 ((bm_sI (bm_sR y3 x0 8 none) x0 6 0).1 x0 2)) x0).bind fun v11 => some v11) else (if (f_X5_isDigit ((bm_sI (bm_sI (bm_sR y3 x0 8 none) x0 6 0) x0 4 ((bm_sI (bm_sR y3 x0 8 none) x0 6 0).1 x0 2)).1 a8 ((bm_sI (bm_sI (bm_sR y3 x0 8 none) x0 6 0) x0 4 ((bm_sI (bm_sR y3 x0 8 none) x0 6 0).1 x0 2)).1 x0 2).toNatClampNeg)) = true then ((f_X5_readRun (bm_sI (bm_sI (bm_sR y3 x0 8 none) x0 6 0) x0 4 ((bm_sI (bm_sR y3 x0 8 none) x0 6 0).1 x0 2)) x0).bind fun v14 => some v14) else (if bm_ia a8 0 ((bm_sI (bm_sI (bm_sI (bm_sR y3 x0 8 none) x0 6 0) x0 4 ((bm_sI (bm_sR y3 x0 8 none) x0 6 0).1 x0 2)) x0 3 2).1 x0 2) = true then some (bm_sI (bm_sI (bm_sI (bm_sI (bm_sI (bm_sR y3 x0 8 none) x0 6 0) x0 4 ((bm_sI (bm_sR y3 x0 8 none) x0 6 0).1 x0 2)) x0 3 2) x0 6 ((bm_sI (bm_sI (bm_sI (bm_sR y3 x0 8 none) x0 6 0) x0 4 ((bm_sI (bm_sR y3 x0 8 none) x0 6 0).1 x0 2)) x0 3 2).1 a8 ((bm_sI (bm_sI (bm_sI (bm_sR y3 x0 8 none) x0 6 0) x0 4 ((bm_sI (bm_sR y3 x0 8 none) x0 6 0).1 x0 2)) x0 3 2).1 x0 2).toNatClampNeg)) x0 2 (((bm_sI (bm_sI (bm_sI (bm_sI (bm_sR y3 x0 8 none) x0 6 0) x0 4 ((bm_sI (bm_sR y3 x0 8 none) x0 6 0).1 x0 2)) x0 3 2) x0 6 ((bm_sI (bm_sI (bm_sI (bm_sR y3 x0 8 none) x0 6 0) x0 4 ((bm_sI (bm_sR y3 x0 8 none) x0 6 0).1 x0 2)) x0 3 2).1 a8 ((bm_sI (bm_sI (bm_sI (bm_sR y3 x0 8 none) x0 6 0) x0 4 ((bm_sI (bm_sR y3 x0 8 none) x0 6 0).1 x0 2)) x0 3 2).1 x0 2).toNatClampNeg)).1 x0 2) + 1)) else none))) else none)) else some (bm_sI (bm_sI (bm_sI (bm_sR y3 x0 8 none) x0 6 0) x0 4 ((bm_sI (bm_sR y3 x0 8 none) x0 6 0).1 x0 2)) x0 3 0)) else (if ((bm_sI (bm_sI (bm_sR y3 x0 8 none) x0 6 0) x0 4 ((bm_sI (bm_sR y3 x0 8 none) x0 6 0).1 x0 2)).1 x0 2) < ((bm_sI (bm_sI (bm_sR y3 x0 8 none) x0 6 0) x0 4 ((bm_sI (bm_sR y3 x0 8 none) x0 6 0).1 x0 2)).1 x0 1) then (if ((bm_sI (bm_sI (bm_sR y3 x0 8 none) x0 6 0) x0 4 ((bm_sI (bm_sR y3 x0 8 none) x0 6 0).1 x0 2)).1 x0 2) < ((bm_sI (bm_sI (bm_sR y3 x0 8 none) x0 6 0) x0 4 ((bm_sI (bm_sR y3 x0 8 none) x0 6 0).1 x0 2)).1 a5 1) then (((bm_sR y3 x0 8 none).2.2 a5 0).bind fun a16 => (if bm_ia a16 0 ((bm_sI (bm_sI (bm_sR y3 x0 8 none) x0 6 0) x0 4 ((bm_sI (bm_sR y3 x0 8 none) x0 6 0).1 x0 2)).1 x0 2) = true then (if (f_X5_isLetter ((bm_sI (bm_sI (bm_sR y3 x0 8 none) x0 6 0) x0 4 ((bm_sI (bm_sR y3 x0 8 none) x0 6 0).1 x0 2)).1 a16 ((bm_sI (bm_sI (bm_sR y3 x0 8 none) x0 6 0) x0 4 ((bm_sI (bm_sR y3 x0 8 none) x0 6 0).1 x0 2)).1 x0 2).toNatClampNeg)) = true then ((f_X5_readRun (bm_sI (bm_sI (bm_sR y3 x0 8 none) x0 6 0) x0 4 ((bm_sI (bm_sR y3 x0 8 none) x0 6 0).1 x0 2)) x0).bind fun v19 => some v19) else (if (f_X5_isDigit ((bm_sI (bm_sI (bm_sR y3 x0 8 none) x0 6 0) x0 4 ((bm_sI (bm_sR y3 x0 8 none) x0 6 0).1 x0 2)).1 a16 ((bm_sI (bm_sI (bm_sR y3 x0 8 none) x0 6 0) x0 4 ((bm_sI (bm_sR y3 x0 8 none) x0 6 0).1 x0 2)).1 x0 2).toNatClampNeg)) = true then ((f_X5_readRun (bm_sI (bm_sI (bm_sR y3 x0 8 none) x0 6 0) x0 4 ((bm_sI (bm_sR y3 x0 8 none) x0 6 0).1 x0 2)) x0).bind fun v22 => some v22) else (if bm_ia a16 0 ((bm_sI (bm_sI (bm_sI (bm_sR y3 x0 8 none) x0 6 0) x0 4 ((bm_sI (bm_sR y3 x0 8 none) x0 6 0).1 x0 2)) x0 3 2).1 x0 2) = true then some (bm_sI (bm_sI (bm_sI (bm_sI (bm_sI (bm_sR y3 x0 8 none) x0 6 0) x0 4 ((bm_sI (bm_sR y3 x0 8 none) x0 6 0).1 x0 2)) x0 3 2) x0 6 ((bm_sI (bm_sI (bm_sI (bm_sR y3 x0 8 none) x0 6 0) x0 4 ((bm_sI (bm_sR y3 x0 8 none) x0 6 0).1 x0 2)) x0 3 2).1 a16 ((bm_sI (bm_sI (bm_sI (bm_sR y3 x0 8 none) x0 6 0) x0 4 ((bm_sI (bm_sR y3 x0 8 none) x0 6 0).1 x0 2)) x0 3 2).1 x0 2).toNatClampNeg)) x0 2 (((bm_sI (bm_sI (bm_sI (bm_sI (bm_sR y3 x0 8 none) x0 6 0) x0 4 ((bm_sI (bm_sR y3 x0 8 none) x0 6 0).1 x0 2)) x0 3 2) x0 6 ((bm_sI (bm_sI (bm_sI (bm_sR y3 x0 8 none) x0 6 0) x0 4 ((bm_sI (bm_sR y3 x0 8 none) x0 6 0).1 x0 2)) x0 3 2).1 a16 ((bm_sI (bm_sI (bm_sI (bm_sR y3 x0 8 none) x0 6 0) x0 4 ((bm_sI (bm_sR y3 x0 8 none) x0 6 0).1 x0 2)) x0 3 2).1 x0 2).toNatClampNeg)).1 x0 2) + 1)) else none))) else none)) else some (bm_sI (bm_sI (bm_sI (bm_sR y3 x0 8 none) x0 6 0) x0 4 ((bm_sI (bm_sR y3 x0 8 none) x0 6 0).1 x0 2)) x0 3 0)) else some (bm_sI (bm_sI (bm_sI (bm_sI (bm_sR y3 x0 8 none) x0 6 0) x0 4 ((bm_sI (bm_sR y3 x0 8 none) x0 6 0).1 x0 2)) x0 3 1) x0 4 ((bm_sI (bm_sI (bm_sI (bm_sR y3 x0 8 none) x0 6 0) x0 4 ((bm_sI (bm_sR y3 x0 8 none) x0 6 0).1 x0 2)) x0 3 1).1 x0 1)))) else none)) else none))
set_option maxHeartbeats 4000000 in
set_option maxRecDepth 100000 in
theorem c_X5_advance {L : bm_L} {d n : Nat} {M : bm_M} {x0 : Nat} {v : bm_M} (hN : 181 ≤ n) (h : f_X5_advance M x0 = some v) : bm_C L m_X5_advance (d + 2) n n [.ref x0] M (fun r M' => r = none ∧ M' = v) := by
  refine bm_C.ofV (by decide) (Nat.le_of_ble_eq_true rfl) ?_
  show bm_V L m_X5_advance (d + 2) n n n 0 [(0, .ref x0)] [] M _
  unfold f_X5_advance at h
  obtain ⟨r1, p2, h⟩ := bu_bd h
  refine v_X5_advance_l0 hN 1000 _ _ p2 (fun y3 hy => ?_)
  · subst hy
    refine bv_aload_n dX5_advance_45 0 rfl ?_
    refine bv_null dX5_advance_46 ?_
    obtain ⟨q4, h⟩ := bu_io h
    refine bw_putR (v := none) hN q4 dX5_advance_47 fl_5_44 rfl ?_
    refine bv_aload_n dX5_advance_50 0 rfl ?_
    refine bv_iconst (v := 0) dX5_advance_51 (by decide) ?_
    refine bw_putI hN q4 dX5_advance_52 fl_5_48 rfl ?_
    refine bv_aload_n dX5_advance_55 0 rfl ?_
    refine bv_aload_n dX5_advance_56 0 rfl ?_
    refine bw_getI hN q4 dX5_advance_57 fl_5_19 rfl ?_
    refine bw_putI hN q4 dX5_advance_60 fl_5_51 rfl ?_
    refine bv_aload_n dX5_advance_63 0 rfl ?_
    obtain ⟨a5, e6, h⟩ := bu_bd h
    refine bw_getA (a := a5) hN q4 e6 dX5_advance_64 fl_5_9 rfl ?_
    obtain ⟨q7, h⟩ := bu_io h
    refine bw_getI hN q7 dX5_advance_67 fl_5_31 rfl ?_
    refine bv_aload_n dX5_advance_70 0 rfl ?_
    refine bw_getI hN q4 dX5_advance_71 fl_5_15 rfl ?_
    refine bv_icmp_le (tgt := 104) dX5_advance_74 (by decide) (fun cc => ?_) (fun cc => ?_)
    · replace h := bu_t h cc
      refine bv_aload_n dX5_advance_104 0 rfl ?_
      refine bw_getI hN q4 dX5_advance_105 fl_5_19 rfl ?_
      refine bv_aload_n dX5_advance_108 0 rfl ?_
      refine bw_getA (a := a5) hN q4 e6 dX5_advance_109 fl_5_9 rfl ?_
      refine bw_getI hN q7 dX5_advance_112 fl_5_31 rfl ?_
      refine bv_icmp_lt (tgt := 126) dX5_advance_115 (by decide) (fun cc => ?_) (fun cc => ?_)
      · replace h := bu_t h cc
        refine bv_aload_n dX5_advance_126 0 rfl ?_
        refine bw_getA (a := a5) hN q4 e6 dX5_advance_127 fl_5_9 rfl ?_
        obtain ⟨a8, e9, h⟩ := bu_bd h
        refine bw_getA (a := a8) hN q7 e9 dX5_advance_130 fl_5_36 rfl ?_
        refine bv_aload_n dX5_advance_133 0 rfl ?_
        refine bw_getI hN q4 dX5_advance_134 fl_5_19 rfl ?_
        obtain ⟨r10, h⟩ := bu_ia h
        refine bw_iald hN r10 dX5_advance_137 ?_
        refine bw_callS (As := [.int ((bm_sI (bm_sI (bm_sR y3 x0 8 none) x0 6 0) x0 4 ((bm_sI (bm_sR y3 x0 8 none) x0 6 0).1 x0 2)).1 a8 ((bm_sI (bm_sI (bm_sR y3 x0 8 none) x0 6 0) x0 4 ((bm_sI (bm_sR y3 x0 8 none) x0 6 0).1 x0 2)).1 x0 2).toNatClampNeg)]) dX5_advance_138 mc_5_57 (c_X5_isLetter (d := d + 1) hN rfl) rfl rfl (by decide) ?_
        refine bw_ifB_ne (b := (f_X5_isLetter ((bm_sI (bm_sI (bm_sR y3 x0 8 none) x0 6 0) x0 4 ((bm_sI (bm_sR y3 x0 8 none) x0 6 0).1 x0 2)).1 a8 ((bm_sI (bm_sI (bm_sR y3 x0 8 none) x0 6 0) x0 4 ((bm_sI (bm_sR y3 x0 8 none) x0 6 0).1 x0 2)).1 x0 2).toNatClampNeg))) (tgt := 162) dX5_advance_141 (by decide) (fun cc => ?_) (fun cc => ?_)
        · replace h := bu_bt h cc
          refine bv_aload_n dX5_advance_162 0 rfl ?_
          obtain ⟨v11, p12, h⟩ := bu_bd h
          refine bw_callVv (As := []) hN q4 ⟨_, _, rfl⟩ dX5_advance_163 mc_5_63 (c_X5_readRun (d := d + 0) hN p12) rfl rfl (by decide) ?_
          refine bv_goto (tgt := 200) dX5_advance_166 (by decide) ?_
          obtain rfl := Option.some.inj h
          exact bv_vret dX5_advance_200 rfl ⟨rfl, rfl⟩
        · replace h := bu_bf h cc
          refine bv_aload_n dX5_advance_144 0 rfl ?_
          refine bw_getA (a := a5) hN q4 e6 dX5_advance_145 fl_5_9 rfl ?_
          refine bw_getA (a := a8) hN q7 e9 dX5_advance_148 fl_5_36 rfl ?_
          refine bv_aload_n dX5_advance_151 0 rfl ?_
          refine bw_getI hN q4 dX5_advance_152 fl_5_19 rfl ?_
          refine bw_iald hN r10 dX5_advance_155 ?_
          refine bw_callS (As := [.int ((bm_sI (bm_sI (bm_sR y3 x0 8 none) x0 6 0) x0 4 ((bm_sI (bm_sR y3 x0 8 none) x0 6 0).1 x0 2)).1 a8 ((bm_sI (bm_sI (bm_sR y3 x0 8 none) x0 6 0) x0 4 ((bm_sI (bm_sR y3 x0 8 none) x0 6 0).1 x0 2)).1 x0 2).toNatClampNeg)]) dX5_advance_156 mc_5_60 (c_X5_isDigit (d := d + 1) hN rfl) rfl rfl (by decide) ?_
          refine bw_ifB_eq (b := (f_X5_isDigit ((bm_sI (bm_sI (bm_sR y3 x0 8 none) x0 6 0) x0 4 ((bm_sI (bm_sR y3 x0 8 none) x0 6 0).1 x0 2)).1 a8 ((bm_sI (bm_sI (bm_sR y3 x0 8 none) x0 6 0) x0 4 ((bm_sI (bm_sR y3 x0 8 none) x0 6 0).1 x0 2)).1 x0 2).toNatClampNeg))) (tgt := 169) dX5_advance_159 (by decide) (fun cc => ?_) (fun cc => ?_)
          · replace h := bu_bf h cc
            refine bv_aload_n dX5_advance_169 0 rfl ?_
            refine bv_iconst (v := 2) dX5_advance_170 (by decide) ?_
            refine bw_putI hN q4 dX5_advance_171 fl_5_54 rfl ?_
            refine bv_aload_n dX5_advance_174 0 rfl ?_
            refine bv_aload_n dX5_advance_175 0 rfl ?_
            refine bw_getA (a := a5) hN q4 e6 dX5_advance_176 fl_5_9 rfl ?_
            refine bw_getA (a := a8) hN q7 e9 dX5_advance_179 fl_5_36 rfl ?_
            refine bv_aload_n dX5_advance_182 0 rfl ?_
            refine bw_getI hN q4 dX5_advance_183 fl_5_19 rfl ?_
            obtain ⟨r13, h⟩ := bu_ia h
            refine bw_iald hN r13 dX5_advance_186 ?_
            refine bw_putI hN q4 dX5_advance_187 fl_5_48 rfl ?_
            refine bv_aload_n dX5_advance_190 0 rfl ?_
            refine bv_dup dX5_advance_191 rfl ?_
            refine bw_getI hN q4 dX5_advance_192 fl_5_19 rfl ?_
            refine bv_iconst (v := 1) dX5_advance_195 (by decide) ?_
            refine bv_iadd dX5_advance_196 ?_
            refine bw_putI hN q4 dX5_advance_197 fl_5_19 rfl ?_
            obtain rfl := Option.some.inj h
            exact bv_vret dX5_advance_200 rfl ⟨rfl, rfl⟩
          · replace h := bu_bt h cc
            refine bv_aload_n dX5_advance_162 0 rfl ?_
            obtain ⟨v14, p15, h⟩ := bu_bd h
            refine bw_callVv (As := []) hN q4 ⟨_, _, rfl⟩ dX5_advance_163 mc_5_63 (c_X5_readRun (d := d + 0) hN p15) rfl rfl (by decide) ?_
            refine bv_goto (tgt := 200) dX5_advance_166 (by decide) ?_
            obtain rfl := Option.some.inj h
            exact bv_vret dX5_advance_200 rfl ⟨rfl, rfl⟩
      · replace h := bu_f h cc
        refine bv_aload_n dX5_advance_118 0 rfl ?_
        refine bv_iconst (v := 0) dX5_advance_119 (by decide) ?_
        refine bw_putI hN q4 dX5_advance_120 fl_5_54 rfl ?_
        refine bv_goto (tgt := 200) dX5_advance_123 (by decide) ?_
        obtain rfl := Option.some.inj h
        exact bv_vret dX5_advance_200 rfl ⟨rfl, rfl⟩
    · replace h := bu_f h cc
      refine bv_aload_n dX5_advance_77 0 rfl ?_
      refine bw_getI hN q4 dX5_advance_78 fl_5_19 rfl ?_
      refine bv_aload_n dX5_advance_81 0 rfl ?_
      refine bw_getI hN q4 dX5_advance_82 fl_5_15 rfl ?_
      refine bv_icmp_lt (tgt := 104) dX5_advance_85 (by decide) (fun cc => ?_) (fun cc => ?_)
      · replace h := bu_t h cc
        refine bv_aload_n dX5_advance_104 0 rfl ?_
        refine bw_getI hN q4 dX5_advance_105 fl_5_19 rfl ?_
        refine bv_aload_n dX5_advance_108 0 rfl ?_
        refine bw_getA (a := a5) hN q4 e6 dX5_advance_109 fl_5_9 rfl ?_
        refine bw_getI hN q7 dX5_advance_112 fl_5_31 rfl ?_
        refine bv_icmp_lt (tgt := 126) dX5_advance_115 (by decide) (fun cc => ?_) (fun cc => ?_)
        · replace h := bu_t h cc
          refine bv_aload_n dX5_advance_126 0 rfl ?_
          refine bw_getA (a := a5) hN q4 e6 dX5_advance_127 fl_5_9 rfl ?_
          obtain ⟨a16, e17, h⟩ := bu_bd h
          refine bw_getA (a := a16) hN q7 e17 dX5_advance_130 fl_5_36 rfl ?_
          refine bv_aload_n dX5_advance_133 0 rfl ?_
          refine bw_getI hN q4 dX5_advance_134 fl_5_19 rfl ?_
          obtain ⟨r18, h⟩ := bu_ia h
          refine bw_iald hN r18 dX5_advance_137 ?_
          refine bw_callS (As := [.int ((bm_sI (bm_sI (bm_sR y3 x0 8 none) x0 6 0) x0 4 ((bm_sI (bm_sR y3 x0 8 none) x0 6 0).1 x0 2)).1 a16 ((bm_sI (bm_sI (bm_sR y3 x0 8 none) x0 6 0) x0 4 ((bm_sI (bm_sR y3 x0 8 none) x0 6 0).1 x0 2)).1 x0 2).toNatClampNeg)]) dX5_advance_138 mc_5_57 (c_X5_isLetter (d := d + 1) hN rfl) rfl rfl (by decide) ?_
          refine bw_ifB_ne (b := (f_X5_isLetter ((bm_sI (bm_sI (bm_sR y3 x0 8 none) x0 6 0) x0 4 ((bm_sI (bm_sR y3 x0 8 none) x0 6 0).1 x0 2)).1 a16 ((bm_sI (bm_sI (bm_sR y3 x0 8 none) x0 6 0) x0 4 ((bm_sI (bm_sR y3 x0 8 none) x0 6 0).1 x0 2)).1 x0 2).toNatClampNeg))) (tgt := 162) dX5_advance_141 (by decide) (fun cc => ?_) (fun cc => ?_)
          · replace h := bu_bt h cc
            refine bv_aload_n dX5_advance_162 0 rfl ?_
            obtain ⟨v19, p20, h⟩ := bu_bd h
            refine bw_callVv (As := []) hN q4 ⟨_, _, rfl⟩ dX5_advance_163 mc_5_63 (c_X5_readRun (d := d + 0) hN p20) rfl rfl (by decide) ?_
            refine bv_goto (tgt := 200) dX5_advance_166 (by decide) ?_
            obtain rfl := Option.some.inj h
            exact bv_vret dX5_advance_200 rfl ⟨rfl, rfl⟩
          · replace h := bu_bf h cc
            refine bv_aload_n dX5_advance_144 0 rfl ?_
            refine bw_getA (a := a5) hN q4 e6 dX5_advance_145 fl_5_9 rfl ?_
            refine bw_getA (a := a16) hN q7 e17 dX5_advance_148 fl_5_36 rfl ?_
            refine bv_aload_n dX5_advance_151 0 rfl ?_
            refine bw_getI hN q4 dX5_advance_152 fl_5_19 rfl ?_
            refine bw_iald hN r18 dX5_advance_155 ?_
            refine bw_callS (As := [.int ((bm_sI (bm_sI (bm_sR y3 x0 8 none) x0 6 0) x0 4 ((bm_sI (bm_sR y3 x0 8 none) x0 6 0).1 x0 2)).1 a16 ((bm_sI (bm_sI (bm_sR y3 x0 8 none) x0 6 0) x0 4 ((bm_sI (bm_sR y3 x0 8 none) x0 6 0).1 x0 2)).1 x0 2).toNatClampNeg)]) dX5_advance_156 mc_5_60 (c_X5_isDigit (d := d + 1) hN rfl) rfl rfl (by decide) ?_
            refine bw_ifB_eq (b := (f_X5_isDigit ((bm_sI (bm_sI (bm_sR y3 x0 8 none) x0 6 0) x0 4 ((bm_sI (bm_sR y3 x0 8 none) x0 6 0).1 x0 2)).1 a16 ((bm_sI (bm_sI (bm_sR y3 x0 8 none) x0 6 0) x0 4 ((bm_sI (bm_sR y3 x0 8 none) x0 6 0).1 x0 2)).1 x0 2).toNatClampNeg))) (tgt := 169) dX5_advance_159 (by decide) (fun cc => ?_) (fun cc => ?_)
            · replace h := bu_bf h cc
              refine bv_aload_n dX5_advance_169 0 rfl ?_
              refine bv_iconst (v := 2) dX5_advance_170 (by decide) ?_
              refine bw_putI hN q4 dX5_advance_171 fl_5_54 rfl ?_
              refine bv_aload_n dX5_advance_174 0 rfl ?_
              refine bv_aload_n dX5_advance_175 0 rfl ?_
              refine bw_getA (a := a5) hN q4 e6 dX5_advance_176 fl_5_9 rfl ?_
              refine bw_getA (a := a16) hN q7 e17 dX5_advance_179 fl_5_36 rfl ?_
              refine bv_aload_n dX5_advance_182 0 rfl ?_
              refine bw_getI hN q4 dX5_advance_183 fl_5_19 rfl ?_
              obtain ⟨r21, h⟩ := bu_ia h
              refine bw_iald hN r21 dX5_advance_186 ?_
              refine bw_putI hN q4 dX5_advance_187 fl_5_48 rfl ?_
              refine bv_aload_n dX5_advance_190 0 rfl ?_
              refine bv_dup dX5_advance_191 rfl ?_
              refine bw_getI hN q4 dX5_advance_192 fl_5_19 rfl ?_
              refine bv_iconst (v := 1) dX5_advance_195 (by decide) ?_
              refine bv_iadd dX5_advance_196 ?_
              refine bw_putI hN q4 dX5_advance_197 fl_5_19 rfl ?_
              obtain rfl := Option.some.inj h
              exact bv_vret dX5_advance_200 rfl ⟨rfl, rfl⟩
            · replace h := bu_bt h cc
              refine bv_aload_n dX5_advance_162 0 rfl ?_
              obtain ⟨v22, p23, h⟩ := bu_bd h
              refine bw_callVv (As := []) hN q4 ⟨_, _, rfl⟩ dX5_advance_163 mc_5_63 (c_X5_readRun (d := d + 0) hN p23) rfl rfl (by decide) ?_
              refine bv_goto (tgt := 200) dX5_advance_166 (by decide) ?_
              obtain rfl := Option.some.inj h
              exact bv_vret dX5_advance_200 rfl ⟨rfl, rfl⟩
        · replace h := bu_f h cc
          refine bv_aload_n dX5_advance_118 0 rfl ?_
          refine bv_iconst (v := 0) dX5_advance_119 (by decide) ?_
          refine bw_putI hN q4 dX5_advance_120 fl_5_54 rfl ?_
          refine bv_goto (tgt := 200) dX5_advance_123 (by decide) ?_
          obtain rfl := Option.some.inj h
          exact bv_vret dX5_advance_200 rfl ⟨rfl, rfl⟩
      · replace h := bu_f h cc
        refine bv_aload_n dX5_advance_88 0 rfl ?_
        refine bv_iconst (v := 1) dX5_advance_89 (by decide) ?_
        refine bw_putI hN q4 dX5_advance_90 fl_5_54 rfl ?_
        refine bv_aload_n dX5_advance_93 0 rfl ?_
        refine bv_aload_n dX5_advance_94 0 rfl ?_
        refine bw_getI hN q4 dX5_advance_95 fl_5_15 rfl ?_
        refine bw_putI hN q4 dX5_advance_98 fl_5_51 rfl ?_
        refine bv_goto (tgt := 200) dX5_advance_101 (by decide) ?_
        obtain rfl := Option.some.inj h
        exact bv_vret dX5_advance_200 rfl ⟨rfl, rfl⟩
def f_X5_refuse (M : bm_M) (x0 : Nat) (x1 : Int32) : Option (Bool × bm_M) := (if bm_io x0 5 then some (false, (bm_sI (bm_sI M x0 9 x1) x0 10 ((bm_sI M x0 9 x1).1 x0 4))) else none)
set_option maxHeartbeats 4000000 in
set_option maxRecDepth 100000 in
theorem c_X5_refuse {L : bm_L} {d n : Nat} {M : bm_M} {x0 : Nat} {x1 : Int32} {v : Bool × bm_M} (hN : 181 ≤ n) (h : f_X5_refuse M x0 x1 = some v) : bm_C L m_X5_refuse d n n [.ref x0, .int x1] M (fun r M' => r = some (.int (bm_bi v.1)) ∧ M' = v.2) := by
  refine bm_C.ofV (by decide) (Nat.le_of_ble_eq_true rfl) ?_
  show bm_V L m_X5_refuse d n n n 0 [(0, .ref x0), (1, .int x1)] [] M _
  unfold f_X5_refuse at h
  refine bv_aload_n dX5_refuse_0 0 rfl ?_
  refine bv_iload_n dX5_refuse_1 1 rfl ?_
  obtain ⟨q1, h⟩ := bu_io h
  refine bw_putI hN q1 dX5_refuse_2 fl_5_22 rfl ?_
  refine bv_aload_n dX5_refuse_5 0 rfl ?_
  refine bv_aload_n dX5_refuse_6 0 rfl ?_
  refine bw_getI hN q1 dX5_refuse_7 fl_5_51 rfl ?_
  refine bw_putI hN q1 dX5_refuse_10 fl_5_25 rfl ?_
  refine bv_iconst (v := 0) dX5_refuse_13 (by decide) ?_
  obtain rfl := Option.some.inj h
  exact bw_bret (b := false) dX5_refuse_14 rfl ⟨rfl, rfl⟩
def f_X5_refuseNumber (M : bm_M) (x0 : Nat) (x1 : Int32) : Option (Int32 × bm_M) := (if bm_io x0 5 then some ((-1), (bm_sI (bm_sI M x0 9 x1) x0 10 ((bm_sI M x0 9 x1).1 x0 4))) else none)
set_option maxHeartbeats 4000000 in
set_option maxRecDepth 100000 in
theorem c_X5_refuseNumber {L : bm_L} {d n : Nat} {M : bm_M} {x0 : Nat} {x1 : Int32} {v : Int32 × bm_M} (hN : 181 ≤ n) (h : f_X5_refuseNumber M x0 x1 = some v) : bm_C L m_X5_refuseNumber d n n [.ref x0, .int x1] M (fun r M' => r = some (.int v.1) ∧ M' = v.2) := by
  refine bm_C.ofV (by decide) (Nat.le_of_ble_eq_true rfl) ?_
  show bm_V L m_X5_refuseNumber d n n n 0 [(0, .ref x0), (1, .int x1)] [] M _
  unfold f_X5_refuseNumber at h
  refine bv_aload_n dX5_refuseNumber_0 0 rfl ?_
  refine bv_iload_n dX5_refuseNumber_1 1 rfl ?_
  obtain ⟨q1, h⟩ := bu_io h
  refine bw_putI hN q1 dX5_refuseNumber_2 fl_5_22 rfl ?_
  refine bv_aload_n dX5_refuseNumber_5 0 rfl ?_
  refine bv_aload_n dX5_refuseNumber_6 0 rfl ?_
  refine bw_getI hN q1 dX5_refuseNumber_7 fl_5_51 rfl ?_
  refine bw_putI hN q1 dX5_refuseNumber_10 fl_5_25 rfl ?_
  refine bv_iconst (v := (-1)) dX5_refuseNumber_13 (by decide) ?_
  obtain rfl := Option.some.inj h
  exact bv_iret (x := (-1)) dX5_refuseNumber_14 rfl ⟨rfl, rfl⟩
def f_X5_numberHere (M : bm_M) (x0 : Nat) (x1 : Int32) (x2 : Int32) : Option (Int32 × bm_M) := (if bm_io x0 5 then (if (M.1 x0 3) = 3 then (if (M.1 x0 5) < x1 then ((f_X5_refuseNumber M x0 2).bind fun v2 => some (v2.1, v2.2)) else (if (M.1 x0 5) ≤ x2 then some ((M.1 x0 5), M) else ((f_X5_refuseNumber M x0 2).bind fun v4 => some (v4.1, v4.2)))) else ((f_X5_refuseNumber M x0 1).bind fun v6 => some (v6.1, v6.2))) else none)
set_option maxHeartbeats 4000000 in
set_option maxRecDepth 100000 in
theorem c_X5_numberHere {L : bm_L} {d n : Nat} {M : bm_M} {x0 : Nat} {x1 : Int32} {x2 : Int32} {v : Int32 × bm_M} (hN : 181 ≤ n) (h : f_X5_numberHere M x0 x1 x2 = some v) : bm_C L m_X5_numberHere (d + 1) n n [.ref x0, .int x1, .int x2] M (fun r M' => r = some (.int v.1) ∧ M' = v.2) := by
  refine bm_C.ofV (by decide) (Nat.le_of_ble_eq_true rfl) ?_
  show bm_V L m_X5_numberHere (d + 1) n n n 0 [(0, .ref x0), (1, .int x1), (2, .int x2)] [] M _
  unfold f_X5_numberHere at h
  refine bv_aload_n dX5_numberHere_0 0 rfl ?_
  obtain ⟨q1, h⟩ := bu_io h
  refine bw_getI hN q1 dX5_numberHere_1 fl_5_54 rfl ?_
  refine bv_iconst (v := 3) dX5_numberHere_4 (by decide) ?_
  refine bv_icmp_eq (tgt := 14) dX5_numberHere_5 (by decide) (fun cc => ?_) (fun cc => ?_)
  · replace h := bu_t h cc
    refine bv_aload_n dX5_numberHere_14 0 rfl ?_
    refine bw_getI hN q1 dX5_numberHere_15 fl_5_70 rfl ?_
    refine bv_iload_n dX5_numberHere_18 1 rfl ?_
    refine bv_icmp_lt (tgt := 30) dX5_numberHere_19 (by decide) (fun cc => ?_) (fun cc => ?_)
    · replace h := bu_t h cc
      refine bv_aload_n dX5_numberHere_30 0 rfl ?_
      refine bv_iconst (v := 2) dX5_numberHere_31 (by decide) ?_
      obtain ⟨v2, p3, h⟩ := bu_bd h
      refine bw_callV (As := [.int 2]) hN q1 ⟨_, _, rfl⟩ dX5_numberHere_32 mc_5_86 (c_X5_refuseNumber (d := d + 0) hN p3) rfl rfl (by decide) ?_
      refine bv_goto (tgt := 42) dX5_numberHere_35 (by decide) ?_
      obtain rfl := Option.some.inj h
      exact bv_iret (x := v2.1) dX5_numberHere_42 rfl ⟨rfl, rfl⟩
    · replace h := bu_f h cc
      refine bv_aload_n dX5_numberHere_22 0 rfl ?_
      refine bw_getI hN q1 dX5_numberHere_23 fl_5_70 rfl ?_
      refine bv_iload_n dX5_numberHere_26 2 rfl ?_
      refine bv_icmp_le (tgt := 38) dX5_numberHere_27 (by decide) (fun cc => ?_) (fun cc => ?_)
      · replace h := bu_t h cc
        refine bv_aload_n dX5_numberHere_38 0 rfl ?_
        refine bw_getI hN q1 dX5_numberHere_39 fl_5_70 rfl ?_
        obtain rfl := Option.some.inj h
        exact bv_iret (x := (M.1 x0 5)) dX5_numberHere_42 rfl ⟨rfl, rfl⟩
      · replace h := bu_f h cc
        refine bv_aload_n dX5_numberHere_30 0 rfl ?_
        refine bv_iconst (v := 2) dX5_numberHere_31 (by decide) ?_
        obtain ⟨v4, p5, h⟩ := bu_bd h
        refine bw_callV (As := [.int 2]) hN q1 ⟨_, _, rfl⟩ dX5_numberHere_32 mc_5_86 (c_X5_refuseNumber (d := d + 0) hN p5) rfl rfl (by decide) ?_
        refine bv_goto (tgt := 42) dX5_numberHere_35 (by decide) ?_
        obtain rfl := Option.some.inj h
        exact bv_iret (x := v4.1) dX5_numberHere_42 rfl ⟨rfl, rfl⟩
  · replace h := bu_f h cc
    refine bv_aload_n dX5_numberHere_8 0 rfl ?_
    refine bv_iconst (v := 1) dX5_numberHere_9 (by decide) ?_
    obtain ⟨v6, p7, h⟩ := bu_bd h
    refine bw_callV (As := [.int 1]) hN q1 ⟨_, _, rfl⟩ dX5_numberHere_10 mc_5_86 (c_X5_refuseNumber (d := d + 0) hN p7) rfl rfl (by decide) ?_
    obtain rfl := Option.some.inj h
    exact bv_iret (x := v6.1) dX5_numberHere_13 rfl ⟨rfl, rfl⟩
def f_X5_takeNumber (M : bm_M) (x0 : Nat) (x1 : Int32) (x2 : Int32) : Option (Int32 × bm_M) := (if bm_io x0 5 then ((f_X5_numberHere M x0 x1 x2).bind fun v2 => (if v2.1 = (-1) then some (v2.1, v2.2) else ((f_X5_advance v2.2 x0).bind fun v4 => some (v2.1, v4)))) else none)
set_option maxHeartbeats 4000000 in
set_option maxRecDepth 100000 in
theorem c_X5_takeNumber {L : bm_L} {d n : Nat} {M : bm_M} {x0 : Nat} {x1 : Int32} {x2 : Int32} {v : Int32 × bm_M} (hN : 181 ≤ n) (h : f_X5_takeNumber M x0 x1 x2 = some v) : bm_C L m_X5_takeNumber (d + 3) n n [.ref x0, .int x1, .int x2] M (fun r M' => r = some (.int v.1) ∧ M' = v.2) := by
  refine bm_C.ofV (by decide) (Nat.le_of_ble_eq_true rfl) ?_
  show bm_V L m_X5_takeNumber (d + 3) n n n 0 [(0, .ref x0), (1, .int x1), (2, .int x2)] [] M _
  unfold f_X5_takeNumber at h
  refine bv_aload_n dX5_takeNumber_0 0 rfl ?_
  refine bv_iload_n dX5_takeNumber_1 1 rfl ?_
  refine bv_iload_n dX5_takeNumber_2 2 rfl ?_
  obtain ⟨q1, h⟩ := bu_io h
  obtain ⟨v2, p3, h⟩ := bu_bd h
  refine bw_callV (As := [.int x1, .int x2]) hN q1 ⟨_, _, rfl⟩ dX5_takeNumber_3 mc_5_90 (c_X5_numberHere (d := d + 1) hN p3) rfl rfl (by decide) ?_
  refine bv_istore_n (ls1 := [(0, .ref x0), (1, .int x1), (2, .int x2), (3, .int v2.1)]) dX5_takeNumber_6 (by decide) rfl rfl ?_
  refine bv_iload_n dX5_takeNumber_7 3 rfl ?_
  refine bv_iconst (v := (-1)) dX5_takeNumber_8 (by decide) ?_
  refine bv_icmp_eq (tgt := 16) dX5_takeNumber_9 (by decide) (fun cc => ?_) (fun cc => ?_)
  · replace h := bu_t h cc
    refine bv_iload_n dX5_takeNumber_16 3 rfl ?_
    obtain rfl := Option.some.inj h
    exact bv_iret (x := v2.1) dX5_takeNumber_17 rfl ⟨rfl, rfl⟩
  · replace h := bu_f h cc
    refine bv_aload_n dX5_takeNumber_12 0 rfl ?_
    obtain ⟨v4, p5, h⟩ := bu_bd h
    refine bw_callVv (As := []) hN q1 ⟨_, _, rfl⟩ dX5_takeNumber_13 mc_5_28 (c_X5_advance (d := d + 0) hN p5) rfl rfl (by decide) ?_
    refine bv_iload_n dX5_takeNumber_16 3 rfl ?_
    obtain rfl := Option.some.inj h
    exact bv_iret (x := v2.1) dX5_takeNumber_17 rfl ⟨rfl, rfl⟩
def f_X0_readFoe (M : bm_M) (x0 : Nat) (x1 : Nat) : Option (Bool × bm_M) := (if bm_io x0 0 then (if (M.1 x0 14) < 4 then (if bm_io x1 5 then ((f_X5_advance M x1).bind fun v3 => ((v3.2.2 x0 8).bind fun a5 => ((f_X5_takeNumber v3 x1 0 30).bind fun v7 => (if bm_ia a5 0 (v3.1 x0 14) = true then ((v7.2.2.2 x0 8).bind fun a10 => (if bm_ia a10 0 ((bm_sI v7.2 a5 (v3.1 x0 14).toNatClampNeg v7.1).1 x0 14) = true then (if ((bm_sI v7.2 a5 (v3.1 x0 14).toNatClampNeg v7.1).1 a10 ((bm_sI v7.2 a5 (v3.1 x0 14).toNatClampNeg v7.1).1 x0 14).toNatClampNeg) = (-1) then some (false, (bm_sI v7.2 a5 (v3.1 x0 14).toNatClampNeg v7.1)) else ((v7.2.2.2 x0 9).bind fun a13 => ((f_X5_takeNumber (bm_sI v7.2 a5 (v3.1 x0 14).toNatClampNeg v7.1) x1 0 30).bind fun v15 => (if bm_ia a13 0 ((bm_sI v7.2 a5 (v3.1 x0 14).toNatClampNeg v7.1).1 x0 14) = true then ((v15.2.2.2 x0 9).bind fun a18 => (if bm_ia a18 0 ((bm_sI v15.2 a13 ((bm_sI v7.2 a5 (v3.1 x0 14).toNatClampNeg v7.1).1 x0 14).toNatClampNeg v15.1).1 x0 14) = true then (if ((bm_sI v15.2 a13 ((bm_sI v7.2 a5 (v3.1 x0 14).toNatClampNeg v7.1).1 x0 14).toNatClampNeg v15.1).1 a18 ((bm_sI v15.2 a13 ((bm_sI v7.2 a5 (v3.1 x0 14).toNatClampNeg v7.1).1 x0 14).toNatClampNeg v15.1).1 x0 14).toNatClampNeg) = (-1) then some (false, (bm_sI v15.2 a13 ((bm_sI v7.2 a5 (v3.1 x0 14).toNatClampNeg v7.1).1 x0 14).toNatClampNeg v15.1)) else some (true, (bm_sI (bm_sI v15.2 a13 ((bm_sI v7.2 a5 (v3.1 x0 14).toNatClampNeg v7.1).1 x0 14).toNatClampNeg v15.1) x0 14 (((bm_sI v15.2 a13 ((bm_sI v7.2 a5 (v3.1 x0 14).toNatClampNeg v7.1).1 x0 14).toNatClampNeg v15.1).1 x0 14) + 1)))) else none)) else none)))) else none)) else none)))) else none) else (if bm_io x1 5 then ((f_X5_refuse M x1 4).bind fun v22 => some (v22.1, v22.2)) else none)) else none)
set_option maxHeartbeats 4000000 in
set_option maxRecDepth 100000 in
theorem c_X0_readFoe {L : bm_L} {d n : Nat} {M : bm_M} {x0 : Nat} {x1 : Nat} {v : Bool × bm_M} (hN : 181 ≤ n) (h : f_X0_readFoe M x0 x1 = some v) : bm_C L m_X0_readFoe (d + 4) n n [.ref x0, .ref x1] M (fun r M' => r = some (.int (bm_bi v.1)) ∧ M' = v.2) := by
  refine bm_C.ofV (by decide) (Nat.le_of_ble_eq_true rfl) ?_
  show bm_V L m_X0_readFoe (d + 4) n n n 0 [(0, .ref x0), (1, .ref x1)] [] M _
  unfold f_X0_readFoe at h
  refine bv_aload_n dX0_readFoe_0 0 rfl ?_
  obtain ⟨q1, h⟩ := bu_io h
  refine bw_getI hN q1 dX0_readFoe_1 fl_0_68 rfl ?_
  refine bv_iconst (v := 4) dX0_readFoe_4 (by decide) ?_
  refine bv_icmp_lt (tgt := 14) dX0_readFoe_5 (by decide) (fun cc => ?_) (fun cc => ?_)
  · replace h := bu_t h cc
    refine bv_aload_n dX0_readFoe_14 1 rfl ?_
    obtain ⟨q2, h⟩ := bu_io h
    obtain ⟨v3, p4, h⟩ := bu_bd h
    refine bw_callVv (As := []) hN q2 ⟨_, _, rfl⟩ dX0_readFoe_15 mc_0_127 (c_X5_advance (d := d + 1) hN p4) rfl rfl (by decide) ?_
    refine bv_aload_n dX0_readFoe_18 0 rfl ?_
    obtain ⟨a5, e6, h⟩ := bu_bd h
    refine bw_getA (a := a5) hN q1 e6 dX0_readFoe_19 fl_0_37 rfl ?_
    refine bv_aload_n dX0_readFoe_22 0 rfl ?_
    refine bw_getI hN q1 dX0_readFoe_23 fl_0_68 rfl ?_
    refine bv_aload_n dX0_readFoe_26 1 rfl ?_
    refine bv_iconst (v := 0) dX0_readFoe_27 (by decide) ?_
    refine bv_bipush (v := 30) dX0_readFoe_28 (by decide) ?_
    obtain ⟨v7, p8, h⟩ := bu_bd h
    refine bw_callV (As := [.int 0, .int 30]) hN q2 ⟨_, _, rfl⟩ dX0_readFoe_30 mc_0_137 (c_X5_takeNumber (d := d + 0) hN p8) rfl rfl (Nat.le_of_ble_eq_true rfl) ?_
    obtain ⟨r9, h⟩ := bu_ia h
    refine bw_iast hN r9 dX0_readFoe_33 ?_
    refine bv_aload_n dX0_readFoe_34 0 rfl ?_
    obtain ⟨a10, e11, h⟩ := bu_bd h
    refine bw_getA (a := a10) hN q1 e11 dX0_readFoe_35 fl_0_37 rfl ?_
    refine bv_aload_n dX0_readFoe_38 0 rfl ?_
    refine bw_getI hN q1 dX0_readFoe_39 fl_0_68 rfl ?_
    obtain ⟨r12, h⟩ := bu_ia h
    refine bw_iald hN r12 dX0_readFoe_42 ?_
    refine bv_iconst (v := (-1)) dX0_readFoe_43 (by decide) ?_
    refine bv_icmp_ne (tgt := 49) dX0_readFoe_44 (by decide) (fun cc => ?_) (fun cc => ?_)
    · replace h := bu_f h cc
      refine bv_aload_n dX0_readFoe_49 0 rfl ?_
      obtain ⟨a13, e14, h⟩ := bu_bd h
      refine bw_getA (a := a13) hN q1 e14 dX0_readFoe_50 fl_0_40 rfl ?_
      refine bv_aload_n dX0_readFoe_53 0 rfl ?_
      refine bw_getI hN q1 dX0_readFoe_54 fl_0_68 rfl ?_
      refine bv_aload_n dX0_readFoe_57 1 rfl ?_
      refine bv_iconst (v := 0) dX0_readFoe_58 (by decide) ?_
      refine bv_bipush (v := 30) dX0_readFoe_59 (by decide) ?_
      obtain ⟨v15, p16, h⟩ := bu_bd h
      refine bw_callV (As := [.int 0, .int 30]) hN q2 ⟨_, _, rfl⟩ dX0_readFoe_61 mc_0_137 (c_X5_takeNumber (d := d + 0) hN p16) rfl rfl (Nat.le_of_ble_eq_true rfl) ?_
      obtain ⟨r17, h⟩ := bu_ia h
      refine bw_iast hN r17 dX0_readFoe_64 ?_
      refine bv_aload_n dX0_readFoe_65 0 rfl ?_
      obtain ⟨a18, e19, h⟩ := bu_bd h
      refine bw_getA (a := a18) hN q1 e19 dX0_readFoe_66 fl_0_40 rfl ?_
      refine bv_aload_n dX0_readFoe_69 0 rfl ?_
      refine bw_getI hN q1 dX0_readFoe_70 fl_0_68 rfl ?_
      obtain ⟨r20, h⟩ := bu_ia h
      refine bw_iald hN r20 dX0_readFoe_73 ?_
      refine bv_iconst (v := (-1)) dX0_readFoe_74 (by decide) ?_
      refine bv_icmp_ne (tgt := 80) dX0_readFoe_75 (by decide) (fun cc => ?_) (fun cc => ?_)
      · replace h := bu_f h cc
        refine bv_aload_n dX0_readFoe_80 0 rfl ?_
        refine bv_dup dX0_readFoe_81 rfl ?_
        refine bw_getI hN q1 dX0_readFoe_82 fl_0_68 rfl ?_
        refine bv_iconst (v := 1) dX0_readFoe_85 (by decide) ?_
        refine bv_iadd dX0_readFoe_86 ?_
        refine bw_putI hN q1 dX0_readFoe_87 fl_0_68 rfl ?_
        refine bv_iconst (v := 1) dX0_readFoe_90 (by decide) ?_
        obtain rfl := Option.some.inj h
        exact bw_bret (b := true) dX0_readFoe_91 rfl ⟨rfl, rfl⟩
      · replace h := bu_t h cc
        refine bv_iconst (v := 0) dX0_readFoe_78 (by decide) ?_
        obtain rfl := Option.some.inj h
        exact bw_bret (b := false) dX0_readFoe_79 rfl ⟨rfl, rfl⟩
    · replace h := bu_t h cc
      refine bv_iconst (v := 0) dX0_readFoe_47 (by decide) ?_
      obtain rfl := Option.some.inj h
      exact bw_bret (b := false) dX0_readFoe_48 rfl ⟨rfl, rfl⟩
  · replace h := bu_f h cc
    refine bv_aload_n dX0_readFoe_8 1 rfl ?_
    refine bv_iconst (v := 4) dX0_readFoe_9 (by decide) ?_
    obtain ⟨q21, h⟩ := bu_io h
    obtain ⟨v22, p23, h⟩ := bu_bd h
    refine bw_callV (As := [.int 4]) hN q21 ⟨_, _, rfl⟩ dX0_readFoe_10 mc_0_124 (c_X5_refuse (d := d + 3) hN p23) rfl rfl (by decide) ?_
    obtain rfl := Option.some.inj h
    exact bw_bret (b := v22.1) dX0_readFoe_13 rfl ⟨rfl, rfl⟩
def f_X0_manNamed_l2 (M : bm_M) (x0 : Nat) (x1 : Int64) : Nat → Int32 → Option (((Int32) ⊕ (Unit)))
  | 0, _ => none
  | k + 1, x3 => (if bm_io x0 0 then (if (M.1 x0 10) ≤ x3 then some (Sum.inr ()) else ((M.2.2 x0 0).bind fun a2 => (if bm_ia a2 2 x3 = true then (if (lg_cmp (M.2.1 a2 x3.toNatClampNeg) x1) = 0 then some (Sum.inl x3) else f_X0_manNamed_l2 M x0 x1 k (x3 + 1)) else none))) else none)
set_option maxHeartbeats 4000000 in
set_option maxRecDepth 100000 in
theorem v_X0_manNamed_l2 {L : bm_L} {d n : Nat} {Q : Option Value → bm_M → Prop} {M : bm_M} {x0 : Nat} {x1 : Int64} (hN : 181 ≤ n) : ∀ (k : Nat) (x3 : Int32) (r : ((Int32) ⊕ (Unit))), f_X0_manNamed_l2 M x0 x1 k x3 = some r → (∀ yy, (Sum.inl yy) = r → bm_V L m_X0_manNamed d n n n 21 [(3, .int yy)] [] M Q) → (∀ yy, (Sum.inr yy) = r → bm_V L m_X0_manNamed d n n n 29 [] [] M Q) → bm_V L m_X0_manNamed d n n n 2 [(0, .ref x0), (1, .long x1), (3, .int x3)] [] M Q := by
  intro k
  induction k with
  | zero => intro x3 r h; cases (show (none : Option (((Int32) ⊕ (Unit)))) = some r from h)
  | succ k ih =>
    intro x3 r h K0 K1
    unfold f_X0_manNamed_l2 at h
    refine bv_iload_n dX0_manNamed_2 2 rfl ?_
    refine bv_aload_n dX0_manNamed_3 0 rfl ?_
    obtain ⟨q1, h⟩ := bu_io h
    refine bw_getI hN q1 dX0_manNamed_4 fl_0_56 rfl ?_
    refine bv_icmp_ge (tgt := 29) dX0_manNamed_7 (by decide) (fun cc => ?_) (fun cc => ?_)
    · replace h := bu_t h cc
      refine bw_ls (ls1 := []) [] rfl ?_
      obtain rfl := Option.some.inj h
      exact K1 _ rfl
    · replace h := bu_f h cc
      refine bv_aload_n dX0_manNamed_10 0 rfl ?_
      obtain ⟨a2, e3, h⟩ := bu_bd h
      refine bw_getA (a := a2) hN q1 e3 dX0_manNamed_11 fl_0_9 rfl ?_
      refine bv_iload_n dX0_manNamed_14 2 rfl ?_
      obtain ⟨r4, h⟩ := bu_ia h
      refine bw_lald hN r4 dX0_manNamed_15 ?_
      refine bv_lload_n dX0_manNamed_16 1 rfl ?_
      refine bv_lcmp dX0_manNamed_17 ?_
      refine bv_if_ne (tgt := 23) dX0_manNamed_18 (by decide) (fun cc => ?_) (fun cc => ?_)
      · replace h := bu_f h cc
        refine bv_iinc (j := 2) (v := (x3 + 1)) (ls1 := [(0, .ref x0), (1, .long x1), (3, .int (x3 + 1))]) dX0_manNamed_23 rfl rfl (by decide) rfl rfl ?_
        refine bv_goto (tgt := 2) dX0_manNamed_26 (by decide) ?_
        exact ih _ _ h K0 K1
      · replace h := bu_t h cc
        refine bw_ls (ls1 := [(3, .int x3)]) [2] rfl ?_
        obtain rfl := Option.some.inj h
        exact K0 _ rfl
def f_X0_manNamed (M : bm_M) (x0 : Nat) (x1 : Int64) : Option (Int32) := ((f_X0_manNamed_l2 M x0 x1 1000 0).bind fun rr => match rr with | (Sum.inl y3) => some y3 | (Sum.inr y3) => some (-1))
set_option maxHeartbeats 4000000 in
set_option maxRecDepth 100000 in
theorem c_X0_manNamed {L : bm_L} {d n : Nat} {M : bm_M} {x0 : Nat} {x1 : Int64} {v : Int32} (hN : 181 ≤ n) (h : f_X0_manNamed M x0 x1 = some v) : bm_C L m_X0_manNamed d n n [.ref x0, .long x1] M (fun r M' => r = some (.int v) ∧ M' = M) := by
  refine bm_C.ofV (by decide) (Nat.le_of_ble_eq_true rfl) ?_
  show bm_V L m_X0_manNamed d n n n 0 [(0, .ref x0), (1, .long x1)] [] M _
  unfold f_X0_manNamed at h
  refine bv_iconst (v := 0) dX0_manNamed_0 (by decide) ?_
  refine bv_istore_n (ls1 := [(0, .ref x0), (1, .long x1), (3, .int 0)]) dX0_manNamed_1 (by decide) rfl rfl ?_
  obtain ⟨r1, p2, h⟩ := bu_bd h
  refine v_X0_manNamed_l2 hN 1000 _ _ p2 (fun y3 hy => ?_) (fun y3 hy => ?_)
  · subst hy
    refine bv_iload_n dX0_manNamed_21 0 rfl ?_
    obtain rfl := Option.some.inj h
    exact bv_iret (x := y3) dX0_manNamed_22 rfl ⟨rfl, rfl⟩
  · subst hy
    refine bv_iconst (v := (-1)) dX0_manNamed_29 (by decide) ?_
    obtain rfl := Option.some.inj h
    exact bv_iret (x := (-1)) dX0_manNamed_30 rfl ⟨rfl, rfl⟩
def f_X0_orderNamed_l2 (M : bm_M) (x0 : Nat) (x1 : Int64) : Nat → Int32 → Option (((Int32) ⊕ (Unit)))
  | 0, _ => none
  | k + 1, x3 => (if bm_io x0 0 then (if (M.1 x0 13) ≤ x3 then some (Sum.inr ()) else ((M.2.2 x0 5).bind fun a2 => (if bm_ia a2 2 x3 = true then (if (lg_cmp (M.2.1 a2 x3.toNatClampNeg) x1) = 0 then some (Sum.inl x3) else f_X0_orderNamed_l2 M x0 x1 k (x3 + 1)) else none))) else none)
set_option maxHeartbeats 4000000 in
set_option maxRecDepth 100000 in
theorem v_X0_orderNamed_l2 {L : bm_L} {d n : Nat} {Q : Option Value → bm_M → Prop} {M : bm_M} {x0 : Nat} {x1 : Int64} (hN : 181 ≤ n) : ∀ (k : Nat) (x3 : Int32) (r : ((Int32) ⊕ (Unit))), f_X0_orderNamed_l2 M x0 x1 k x3 = some r → (∀ yy, (Sum.inl yy) = r → bm_V L m_X0_orderNamed d n n n 21 [(3, .int yy)] [] M Q) → (∀ yy, (Sum.inr yy) = r → bm_V L m_X0_orderNamed d n n n 29 [] [] M Q) → bm_V L m_X0_orderNamed d n n n 2 [(0, .ref x0), (1, .long x1), (3, .int x3)] [] M Q := by
  intro k
  induction k with
  | zero => intro x3 r h; cases (show (none : Option (((Int32) ⊕ (Unit)))) = some r from h)
  | succ k ih =>
    intro x3 r h K0 K1
    unfold f_X0_orderNamed_l2 at h
    refine bv_iload_n dX0_orderNamed_2 2 rfl ?_
    refine bv_aload_n dX0_orderNamed_3 0 rfl ?_
    obtain ⟨q1, h⟩ := bu_io h
    refine bw_getI hN q1 dX0_orderNamed_4 fl_0_65 rfl ?_
    refine bv_icmp_ge (tgt := 29) dX0_orderNamed_7 (by decide) (fun cc => ?_) (fun cc => ?_)
    · replace h := bu_t h cc
      refine bw_ls (ls1 := []) [] rfl ?_
      obtain rfl := Option.some.inj h
      exact K1 _ rfl
    · replace h := bu_f h cc
      refine bv_aload_n dX0_orderNamed_10 0 rfl ?_
      obtain ⟨a2, e3, h⟩ := bu_bd h
      refine bw_getA (a := a2) hN q1 e3 dX0_orderNamed_11 fl_0_28 rfl ?_
      refine bv_iload_n dX0_orderNamed_14 2 rfl ?_
      obtain ⟨r4, h⟩ := bu_ia h
      refine bw_lald hN r4 dX0_orderNamed_15 ?_
      refine bv_lload_n dX0_orderNamed_16 1 rfl ?_
      refine bv_lcmp dX0_orderNamed_17 ?_
      refine bv_if_ne (tgt := 23) dX0_orderNamed_18 (by decide) (fun cc => ?_) (fun cc => ?_)
      · replace h := bu_f h cc
        refine bv_iinc (j := 2) (v := (x3 + 1)) (ls1 := [(0, .ref x0), (1, .long x1), (3, .int (x3 + 1))]) dX0_orderNamed_23 rfl rfl (by decide) rfl rfl ?_
        refine bv_goto (tgt := 2) dX0_orderNamed_26 (by decide) ?_
        exact ih _ _ h K0 K1
      · replace h := bu_t h cc
        refine bw_ls (ls1 := [(3, .int x3)]) [2] rfl ?_
        obtain rfl := Option.some.inj h
        exact K0 _ rfl
def f_X0_orderNamed (M : bm_M) (x0 : Nat) (x1 : Int64) : Option (Int32) := ((f_X0_orderNamed_l2 M x0 x1 1000 0).bind fun rr => match rr with | (Sum.inl y3) => some y3 | (Sum.inr y3) => some (-1))
set_option maxHeartbeats 4000000 in
set_option maxRecDepth 100000 in
theorem c_X0_orderNamed {L : bm_L} {d n : Nat} {M : bm_M} {x0 : Nat} {x1 : Int64} {v : Int32} (hN : 181 ≤ n) (h : f_X0_orderNamed M x0 x1 = some v) : bm_C L m_X0_orderNamed d n n [.ref x0, .long x1] M (fun r M' => r = some (.int v) ∧ M' = M) := by
  refine bm_C.ofV (by decide) (Nat.le_of_ble_eq_true rfl) ?_
  show bm_V L m_X0_orderNamed d n n n 0 [(0, .ref x0), (1, .long x1)] [] M _
  unfold f_X0_orderNamed at h
  refine bv_iconst (v := 0) dX0_orderNamed_0 (by decide) ?_
  refine bv_istore_n (ls1 := [(0, .ref x0), (1, .long x1), (3, .int 0)]) dX0_orderNamed_1 (by decide) rfl rfl ?_
  obtain ⟨r1, p2, h⟩ := bu_bd h
  refine v_X0_orderNamed_l2 hN 1000 _ _ p2 (fun y3 hy => ?_) (fun y3 hy => ?_)
  · subst hy
    refine bv_iload_n dX0_orderNamed_21 0 rfl ?_
    obtain rfl := Option.some.inj h
    exact bv_iret (x := y3) dX0_orderNamed_22 rfl ⟨rfl, rfl⟩
  · subst hy
    refine bv_iconst (v := (-1)) dX0_orderNamed_29 (by decide) ?_
    obtain rfl := Option.some.inj h
    exact bv_iret (x := (-1)) dX0_orderNamed_30 rfl ⟨rfl, rfl⟩
def f_X0_isNewName (M : bm_M) (x0 : Nat) (x1 : Nat) : Option (Bool × bm_M) := (if bm_io x1 5 then (if (M.1 x1 3) = 5 then (if bm_io x0 0 then ((f_X0_manNamed M x0 (M.2.1 x1 7)).bind fun v3 => (if v3 = (-1) then ((f_X0_orderNamed M x0 (M.2.1 x1 7)).bind fun v7 => (if v7 = (-1) then some (true, M) else ((f_X5_refuse M x1 3).bind fun v9 => some (v9.1, v9.2)))) else ((f_X5_refuse M x1 3).bind fun v5 => some (v5.1, v5.2)))) else none) else ((f_X5_refuse M x1 1).bind fun v11 => some (v11.1, v11.2))) else none)
set_option maxHeartbeats 4000000 in
set_option maxRecDepth 100000 in
theorem c_X0_isNewName {L : bm_L} {d n : Nat} {M : bm_M} {x0 : Nat} {x1 : Nat} {v : Bool × bm_M} (hN : 181 ≤ n) (h : f_X0_isNewName M x0 x1 = some v) : bm_C L m_X0_isNewName (d + 1) n n [.ref x0, .ref x1] M (fun r M' => r = some (.int (bm_bi v.1)) ∧ M' = v.2) := by
  refine bm_C.ofV (by decide) (Nat.le_of_ble_eq_true rfl) ?_
  show bm_V L m_X0_isNewName (d + 1) n n n 0 [(0, .ref x0), (1, .ref x1)] [] M _
  unfold f_X0_isNewName at h
  refine bv_aload_n dX0_isNewName_0 1 rfl ?_
  obtain ⟨q1, h⟩ := bu_io h
  refine bw_getI hN q1 dX0_isNewName_1 fl_0_71 rfl ?_
  refine bv_iconst (v := 5) dX0_isNewName_4 (by decide) ?_
  refine bv_icmp_eq (tgt := 14) dX0_isNewName_5 (by decide) (fun cc => ?_) (fun cc => ?_)
  · replace h := bu_t h cc
    refine bv_aload_n dX0_isNewName_14 0 rfl ?_
    refine bv_aload_n dX0_isNewName_15 1 rfl ?_
    refine bw_getL hN q1 dX0_isNewName_16 fl_0_133 rfl ?_
    obtain ⟨q2, h⟩ := bu_io h
    obtain ⟨v3, p4, h⟩ := bu_bd h
    refine bw_callV (As := [.long (M.2.1 x1 7)]) hN q2 ⟨_, _, rfl⟩ dX0_isNewName_19 mc_0_168 (c_X0_manNamed (d := d + 0) hN p4) rfl rfl (by decide) ?_
    refine bv_iconst (v := (-1)) dX0_isNewName_22 (by decide) ?_
    refine bv_icmp_ne (tgt := 38) dX0_isNewName_23 (by decide) (fun cc => ?_) (fun cc => ?_)
    · replace h := bu_f h cc
      refine bv_aload_n dX0_isNewName_38 1 rfl ?_
      refine bv_iconst (v := 3) dX0_isNewName_39 (by decide) ?_
      obtain ⟨v5, p6, h⟩ := bu_bd h
      refine bw_callV (As := [.int 3]) hN q1 ⟨_, _, rfl⟩ dX0_isNewName_40 mc_0_124 (c_X5_refuse (d := d + 0) hN p6) rfl rfl (by decide) ?_
      obtain rfl := Option.some.inj h
      exact bw_bret (b := v5.1) dX0_isNewName_43 rfl ⟨rfl, rfl⟩
    · replace h := bu_t h cc
      refine bv_aload_n dX0_isNewName_26 0 rfl ?_
      refine bv_aload_n dX0_isNewName_27 1 rfl ?_
      refine bw_getL hN q1 dX0_isNewName_28 fl_0_133 rfl ?_
      obtain ⟨v7, p8, h⟩ := bu_bd h
      refine bw_callV (As := [.long (M.2.1 x1 7)]) hN q2 ⟨_, _, rfl⟩ dX0_isNewName_31 mc_0_172 (c_X0_orderNamed (d := d + 0) hN p8) rfl rfl (by decide) ?_
      refine bv_iconst (v := (-1)) dX0_isNewName_34 (by decide) ?_
      refine bv_icmp_eq (tgt := 44) dX0_isNewName_35 (by decide) (fun cc => ?_) (fun cc => ?_)
      · replace h := bu_t h cc
        refine bv_iconst (v := 1) dX0_isNewName_44 (by decide) ?_
        obtain rfl := Option.some.inj h
        exact bw_bret (b := true) dX0_isNewName_45 rfl ⟨rfl, rfl⟩
      · replace h := bu_f h cc
        refine bv_aload_n dX0_isNewName_38 1 rfl ?_
        refine bv_iconst (v := 3) dX0_isNewName_39 (by decide) ?_
        obtain ⟨v9, p10, h⟩ := bu_bd h
        refine bw_callV (As := [.int 3]) hN q1 ⟨_, _, rfl⟩ dX0_isNewName_40 mc_0_124 (c_X5_refuse (d := d + 0) hN p10) rfl rfl (by decide) ?_
        obtain rfl := Option.some.inj h
        exact bw_bret (b := v9.1) dX0_isNewName_43 rfl ⟨rfl, rfl⟩
  · replace h := bu_f h cc
    refine bv_aload_n dX0_isNewName_8 1 rfl ?_
    refine bv_iconst (v := 1) dX0_isNewName_9 (by decide) ?_
    obtain ⟨v11, p12, h⟩ := bu_bd h
    refine bw_callV (As := [.int 1]) hN q1 ⟨_, _, rfl⟩ dX0_isNewName_10 mc_0_124 (c_X5_refuse (d := d + 0) hN p12) rfl rfl (by decide) ?_
    obtain rfl := Option.some.inj h
    exact bw_bret (b := v11.1) dX0_isNewName_13 rfl ⟨rfl, rfl⟩
def f_X0_readMan (M : bm_M) (x0 : Nat) (x1 : Nat) : Option (Bool × bm_M) := (if bm_io x0 0 then (if (M.1 x0 10) < 8 then (if bm_io x1 5 then ((f_X5_advance M x1).bind fun v3 => ((f_X0_isNewName v3 x0 x1).bind fun v5 => (if v5.1 = true then ((v5.2.2.2 x0 0).bind fun a7 => (if bm_ia a7 2 (v5.2.1 x0 10) = true then ((f_X5_advance (bm_sL v5.2 a7 (v5.2.1 x0 10).toNatClampNeg (v5.2.2.1 x1 7)) x1).bind fun v10 => ((v10.2.2 x0 1).bind fun a12 => ((f_X5_takeNumber v10 x1 0 30).bind fun v14 => (if bm_ia a12 0 (v10.1 x0 10) = true then ((v14.2.2.2 x0 1).bind fun a17 => (if bm_ia a17 0 ((bm_sI v14.2 a12 (v10.1 x0 10).toNatClampNeg v14.1).1 x0 10) = true then (if ((bm_sI v14.2 a12 (v10.1 x0 10).toNatClampNeg v14.1).1 a17 ((bm_sI v14.2 a12 (v10.1 x0 10).toNatClampNeg v14.1).1 x0 10).toNatClampNeg) = (-1) then some (false, (bm_sI v14.2 a12 (v10.1 x0 10).toNatClampNeg v14.1)) else ((v14.2.2.2 x0 2).bind fun a20 => ((f_X5_takeNumber (bm_sI v14.2 a12 (v10.1 x0 10).toNatClampNeg v14.1) x1 0 30).bind fun v22 => (if bm_ia a20 0 ((bm_sI v14.2 a12 (v10.1 x0 10).toNatClampNeg v14.1).1 x0 10) = true then ((v22.2.2.2 x0 2).bind fun a25 => (if bm_ia a25 0 ((bm_sI v22.2 a20 ((bm_sI v14.2 a12 (v10.1 x0 10).toNatClampNeg v14.1).1 x0 10).toNatClampNeg v22.1).1 x0 10) = true then (if ((bm_sI v22.2 a20 ((bm_sI v14.2 a12 (v10.1 x0 10).toNatClampNeg v14.1).1 x0 10).toNatClampNeg v22.1).1 a25 ((bm_sI v22.2 a20 ((bm_sI v14.2 a12 (v10.1 x0 10).toNatClampNeg v14.1).1 x0 10).toNatClampNeg v22.1).1 x0 10).toNatClampNeg) = (-1) then some (false, (bm_sI v22.2 a20 ((bm_sI v14.2 a12 (v10.1 x0 10).toNatClampNeg v14.1).1 x0 10).toNatClampNeg v22.1)) else ((v22.2.2.2 x0 3).bind fun a28 => ((f_X5_takeNumber (bm_sI v22.2 a20 ((bm_sI v14.2 a12 (v10.1 x0 10).toNatClampNeg v14.1).1 x0 10).toNatClampNeg v22.1) x1 0 9).bind fun v30 => (if bm_ia a28 0 ((bm_sI v22.2 a20 ((bm_sI v14.2 a12 (v10.1 x0 10).toNatClampNeg v14.1).1 x0 10).toNatClampNeg v22.1).1 x0 10) = true then ((v30.2.2.2 x0 3).bind fun a33 => (if bm_ia a33 0 ((bm_sI v30.2 a28 ((bm_sI v22.2 a20 ((bm_sI v14.2 a12 (v10.1 x0 10).toNatClampNeg v14.1).1 x0 10).toNatClampNeg v22.1).1 x0 10).toNatClampNeg v30.1).1 x0 10) = true then (if ((bm_sI v30.2 a28 ((bm_sI v22.2 a20 ((bm_sI v14.2 a12 (v10.1 x0 10).toNatClampNeg v14.1).1 x0 10).toNatClampNeg v22.1).1 x0 10).toNatClampNeg v30.1).1 a33 ((bm_sI v30.2 a28 ((bm_sI v22.2 a20 ((bm_sI v14.2 a12 (v10.1 x0 10).toNatClampNeg v14.1).1 x0 10).toNatClampNeg v22.1).1 x0 10).toNatClampNeg v30.1).1 x0 10).toNatClampNeg) = (-1) then some (false, (bm_sI v30.2 a28 ((bm_sI v22.2 a20 ((bm_sI v14.2 a12 (v10.1 x0 10).toNatClampNeg v14.1).1 x0 10).toNatClampNeg v22.1).1 x0 10).toNatClampNeg v30.1)) else (if bm_iwq (v30.2.2.2 x1 8) = true then (if (v30.2.2.2 x1 8) = (some (1000 + 24)) then ((f_X5_advance (bm_sI (bm_sI v30.2 a28 ((bm_sI v22.2 a20 ((bm_sI v14.2 a12 (v10.1 x0 10).toNatClampNeg v14.1).1 x0 10).toNatClampNeg v22.1).1 x0 10).toNatClampNeg v30.1) x0 11 (((bm_sI v30.2 a28 ((bm_sI v22.2 a20 ((bm_sI v14.2 a12 (v10.1 x0 10).toNatClampNeg v14.1).1 x0 10).toNatClampNeg v22.1).1 x0 10).toNatClampNeg v30.1).1 x0 11) ||| (bm_ishl 1 ((bm_sI v30.2 a28 ((bm_sI v22.2 a20 ((bm_sI v14.2 a12 (v10.1 x0 10).toNatClampNeg v14.1).1 x0 10).toNatClampNeg v22.1).1 x0 10).toNatClampNeg v30.1).1 x0 10)))) x1).bind fun v45 => (if bm_iwq (v45.2.2 x1 8) = true then (if (v45.2.2 x1 8) = (some (1000 + 25)) then ((f_X5_advance (bm_sI v45 x0 12 ((v45.1 x0 12) ||| (bm_ishl 1 (v45.1 x0 10)))) x1).bind fun v51 => ((v51.2.2 x0 4).bind fun a53 => (if bm_ia a53 0 (v51.1 x0 10) = true then some (true, (bm_sI (bm_sI v51 a53 (v51.1 x0 10).toNatClampNeg (-1)) x0 10 (((bm_sI v51 a53 (v51.1 x0 10).toNatClampNeg (-1)).1 x0 10) + 1))) else none))) else ((v45.2.2 x0 4).bind fun a48 => (if bm_ia a48 0 (v45.1 x0 10) = true then some (true, (bm_sI (bm_sI v45 a48 (v45.1 x0 10).toNatClampNeg (-1)) x0 10 (((bm_sI v45 a48 (v45.1 x0 10).toNatClampNeg (-1)).1 x0 10) + 1))) else none))) else none)) else (if (v30.2.2.2 x1 8) = (some (1000 + 25)) then ((f_X5_advance (bm_sI (bm_sI v30.2 a28 ((bm_sI v22.2 a20 ((bm_sI v14.2 a12 (v10.1 x0 10).toNatClampNeg v14.1).1 x0 10).toNatClampNeg v22.1).1 x0 10).toNatClampNeg v30.1) x0 12 (((bm_sI v30.2 a28 ((bm_sI v22.2 a20 ((bm_sI v14.2 a12 (v10.1 x0 10).toNatClampNeg v14.1).1 x0 10).toNatClampNeg v22.1).1 x0 10).toNatClampNeg v30.1).1 x0 12) ||| (bm_ishl 1 ((bm_sI v30.2 a28 ((bm_sI v22.2 a20 ((bm_sI v14.2 a12 (v10.1 x0 10).toNatClampNeg v14.1).1 x0 10).toNatClampNeg v22.1).1 x0 10).toNatClampNeg v30.1).1 x0 10)))) x1).bind fun v40 => ((v40.2.2 x0 4).bind fun a42 => (if bm_ia a42 0 (v40.1 x0 10) = true then some (true, (bm_sI (bm_sI v40 a42 (v40.1 x0 10).toNatClampNeg (-1)) x0 10 (((bm_sI v40 a42 (v40.1 x0 10).toNatClampNeg (-1)).1 x0 10) + 1))) else none))) else ((v30.2.2.2 x0 4).bind fun a37 => (if bm_ia a37 0 ((bm_sI v30.2 a28 ((bm_sI v22.2 a20 ((bm_sI v14.2 a12 (v10.1 x0 10).toNatClampNeg v14.1).1 x0 10).toNatClampNeg v22.1).1 x0 10).toNatClampNeg v30.1).1 x0 10) = true then some (true, (bm_sI (bm_sI (bm_sI v30.2 a28 ((bm_sI v22.2 a20 ((bm_sI v14.2 a12 (v10.1 x0 10).toNatClampNeg v14.1).1 x0 10).toNatClampNeg v22.1).1 x0 10).toNatClampNeg v30.1) a37 ((bm_sI v30.2 a28 ((bm_sI v22.2 a20 ((bm_sI v14.2 a12 (v10.1 x0 10).toNatClampNeg v14.1).1 x0 10).toNatClampNeg v22.1).1 x0 10).toNatClampNeg v30.1).1 x0 10).toNatClampNeg (-1)) x0 10 (((bm_sI (bm_sI v30.2 a28 ((bm_sI v22.2 a20 ((bm_sI v14.2 a12 (v10.1 x0 10).toNatClampNeg v14.1).1 x0 10).toNatClampNeg v22.1).1 x0 10).toNatClampNeg v30.1) a37 ((bm_sI v30.2 a28 ((bm_sI v22.2 a20 ((bm_sI v14.2 a12 (v10.1 x0 10).toNatClampNeg v14.1).1 x0 10).toNatClampNeg v22.1).1 x0 10).toNatClampNeg v30.1).1 x0 10).toNatClampNeg (-1)).1 x0 10) + 1))) else none)))) else none)) else none)) else none)))) else none)) else none)))) else none)) else none)))) else none)) else some (false, v5.2)))) else none) else (if bm_io x1 5 then ((f_X5_refuse M x1 4).bind fun v57 => some (v57.1, v57.2)) else none)) else none)
set_option maxHeartbeats 4000000 in
set_option maxRecDepth 100000 in
theorem c_X0_readMan {L : bm_L} {d n : Nat} {M : bm_M} {x0 : Nat} {x1 : Nat} {v : Bool × bm_M} (hN : 181 ≤ n) (h : f_X0_readMan M x0 x1 = some v) : bm_C L m_X0_readMan (d + 4) n n [.ref x0, .ref x1] M (fun r M' => r = some (.int (bm_bi v.1)) ∧ M' = v.2) := by
  refine bm_C.ofV (by decide) (Nat.le_of_ble_eq_true rfl) ?_
  show bm_V L m_X0_readMan (d + 4) n n n 0 [(0, .ref x0), (1, .ref x1)] [] M _
  unfold f_X0_readMan at h
  refine bv_aload_n dX0_readMan_0 0 rfl ?_
  obtain ⟨q1, h⟩ := bu_io h
  refine bw_getI hN q1 dX0_readMan_1 fl_0_56 rfl ?_
  refine bv_bipush (v := 8) dX0_readMan_4 (by decide) ?_
  refine bv_icmp_lt (tgt := 15) dX0_readMan_6 (by decide) (fun cc => ?_) (fun cc => ?_)
  · replace h := bu_t h cc
    refine bv_aload_n dX0_readMan_15 1 rfl ?_
    obtain ⟨q2, h⟩ := bu_io h
    obtain ⟨v3, p4, h⟩ := bu_bd h
    refine bw_callVv (As := []) hN q2 ⟨_, _, rfl⟩ dX0_readMan_16 mc_0_127 (c_X5_advance (d := d + 1) hN p4) rfl rfl (by decide) ?_
    refine bv_aload_n dX0_readMan_19 0 rfl ?_
    refine bv_aload_n dX0_readMan_20 1 rfl ?_
    obtain ⟨v5, p6, h⟩ := bu_bd h
    refine bw_callV (As := [.ref x1]) hN q1 ⟨_, _, rfl⟩ dX0_readMan_21 mc_0_130 (c_X0_isNewName (d := d + 2) hN p6) rfl rfl (by decide) ?_
    refine bw_ifB_ne (b := v5.1) (tgt := 29) dX0_readMan_24 (by decide) (fun cc => ?_) (fun cc => ?_)
    · replace h := bu_bt h cc
      refine bv_aload_n dX0_readMan_29 0 rfl ?_
      obtain ⟨a7, e8, h⟩ := bu_bd h
      refine bw_getA (a := a7) hN q1 e8 dX0_readMan_30 fl_0_9 rfl ?_
      refine bv_aload_n dX0_readMan_33 0 rfl ?_
      refine bw_getI hN q1 dX0_readMan_34 fl_0_56 rfl ?_
      refine bv_aload_n dX0_readMan_37 1 rfl ?_
      refine bw_getL hN q2 dX0_readMan_38 fl_0_133 rfl ?_
      obtain ⟨r9, h⟩ := bu_ia h
      refine bw_last hN r9 dX0_readMan_41 ?_
      refine bv_aload_n dX0_readMan_42 1 rfl ?_
      obtain ⟨v10, p11, h⟩ := bu_bd h
      refine bw_callVv (As := []) hN q2 ⟨_, _, rfl⟩ dX0_readMan_43 mc_0_127 (c_X5_advance (d := d + 1) hN p11) rfl rfl (by decide) ?_
      refine bv_aload_n dX0_readMan_46 0 rfl ?_
      obtain ⟨a12, e13, h⟩ := bu_bd h
      refine bw_getA (a := a12) hN q1 e13 dX0_readMan_47 fl_0_15 rfl ?_
      refine bv_aload_n dX0_readMan_50 0 rfl ?_
      refine bw_getI hN q1 dX0_readMan_51 fl_0_56 rfl ?_
      refine bv_aload_n dX0_readMan_54 1 rfl ?_
      refine bv_iconst (v := 0) dX0_readMan_55 (by decide) ?_
      refine bv_bipush (v := 30) dX0_readMan_56 (by decide) ?_
      obtain ⟨v14, p15, h⟩ := bu_bd h
      refine bw_callV (As := [.int 0, .int 30]) hN q2 ⟨_, _, rfl⟩ dX0_readMan_58 mc_0_137 (c_X5_takeNumber (d := d + 0) hN p15) rfl rfl (Nat.le_of_ble_eq_true rfl) ?_
      obtain ⟨r16, h⟩ := bu_ia h
      refine bw_iast hN r16 dX0_readMan_61 ?_
      refine bv_aload_n dX0_readMan_62 0 rfl ?_
      obtain ⟨a17, e18, h⟩ := bu_bd h
      refine bw_getA (a := a17) hN q1 e18 dX0_readMan_63 fl_0_15 rfl ?_
      refine bv_aload_n dX0_readMan_66 0 rfl ?_
      refine bw_getI hN q1 dX0_readMan_67 fl_0_56 rfl ?_
      obtain ⟨r19, h⟩ := bu_ia h
      refine bw_iald hN r19 dX0_readMan_70 ?_
      refine bv_iconst (v := (-1)) dX0_readMan_71 (by decide) ?_
      refine bv_icmp_ne (tgt := 77) dX0_readMan_72 (by decide) (fun cc => ?_) (fun cc => ?_)
      · replace h := bu_f h cc
        refine bv_aload_n dX0_readMan_77 0 rfl ?_
        obtain ⟨a20, e21, h⟩ := bu_bd h
        refine bw_getA (a := a20) hN q1 e21 dX0_readMan_78 fl_0_19 rfl ?_
        refine bv_aload_n dX0_readMan_81 0 rfl ?_
        refine bw_getI hN q1 dX0_readMan_82 fl_0_56 rfl ?_
        refine bv_aload_n dX0_readMan_85 1 rfl ?_
        refine bv_iconst (v := 0) dX0_readMan_86 (by decide) ?_
        refine bv_bipush (v := 30) dX0_readMan_87 (by decide) ?_
        obtain ⟨v22, p23, h⟩ := bu_bd h
        refine bw_callV (As := [.int 0, .int 30]) hN q2 ⟨_, _, rfl⟩ dX0_readMan_89 mc_0_137 (c_X5_takeNumber (d := d + 0) hN p23) rfl rfl (Nat.le_of_ble_eq_true rfl) ?_
        obtain ⟨r24, h⟩ := bu_ia h
        refine bw_iast hN r24 dX0_readMan_92 ?_
        refine bv_aload_n dX0_readMan_93 0 rfl ?_
        obtain ⟨a25, e26, h⟩ := bu_bd h
        refine bw_getA (a := a25) hN q1 e26 dX0_readMan_94 fl_0_19 rfl ?_
        refine bv_aload_n dX0_readMan_97 0 rfl ?_
        refine bw_getI hN q1 dX0_readMan_98 fl_0_56 rfl ?_
        obtain ⟨r27, h⟩ := bu_ia h
        refine bw_iald hN r27 dX0_readMan_101 ?_
        refine bv_iconst (v := (-1)) dX0_readMan_102 (by decide) ?_
        refine bv_icmp_ne (tgt := 108) dX0_readMan_103 (by decide) (fun cc => ?_) (fun cc => ?_)
        · replace h := bu_f h cc
          refine bv_aload_n dX0_readMan_108 0 rfl ?_
          obtain ⟨a28, e29, h⟩ := bu_bd h
          refine bw_getA (a := a28) hN q1 e29 dX0_readMan_109 fl_0_22 rfl ?_
          refine bv_aload_n dX0_readMan_112 0 rfl ?_
          refine bw_getI hN q1 dX0_readMan_113 fl_0_56 rfl ?_
          refine bv_aload_n dX0_readMan_116 1 rfl ?_
          refine bv_iconst (v := 0) dX0_readMan_117 (by decide) ?_
          refine bv_bipush (v := 9) dX0_readMan_118 (by decide) ?_
          obtain ⟨v30, p31, h⟩ := bu_bd h
          refine bw_callV (As := [.int 0, .int 9]) hN q2 ⟨_, _, rfl⟩ dX0_readMan_120 mc_0_137 (c_X5_takeNumber (d := d + 0) hN p31) rfl rfl (Nat.le_of_ble_eq_true rfl) ?_
          obtain ⟨r32, h⟩ := bu_ia h
          refine bw_iast hN r32 dX0_readMan_123 ?_
          refine bv_aload_n dX0_readMan_124 0 rfl ?_
          obtain ⟨a33, e34, h⟩ := bu_bd h
          refine bw_getA (a := a33) hN q1 e34 dX0_readMan_125 fl_0_22 rfl ?_
          refine bv_aload_n dX0_readMan_128 0 rfl ?_
          refine bw_getI hN q1 dX0_readMan_129 fl_0_56 rfl ?_
          obtain ⟨r35, h⟩ := bu_ia h
          refine bw_iald hN r35 dX0_readMan_132 ?_
          refine bv_iconst (v := (-1)) dX0_readMan_133 (by decide) ?_
          refine bv_icmp_ne (tgt := 139) dX0_readMan_134 (by decide) (fun cc => ?_) (fun cc => ?_)
          · replace h := bu_f h cc
            refine bv_aload_n dX0_readMan_139 1 rfl ?_
            refine bw_getR hN q2 dX0_readMan_140 fl_0_84 rfl ?_
            refine bw_getW (j := 24) dX0_readMan_143 fw_0_141 rfl ?_
            obtain ⟨w36, h⟩ := bu_g h
            refine bv_acmp_ne (x := (v30.2.2.2 x1 8)) (y := (some (1000 + 24))) (tgt := 168) dX0_readMan_146 (by decide) (bm_wq_of w36) (bm_wq_of rfl) (fun cc => ?_) (fun cc => ?_)
            · replace h := bu_f h cc
              refine bv_aload_n dX0_readMan_168 1 rfl ?_
              refine bw_getR hN q2 dX0_readMan_169 fl_0_84 rfl ?_
              refine bw_getW (j := 25) dX0_readMan_172 fw_0_144 rfl ?_
              refine bv_acmp_ne (x := (v30.2.2.2 x1 8)) (y := (some (1000 + 25))) (tgt := 197) dX0_readMan_175 (by decide) (bm_wq_of w36) (bm_wq_of rfl) (fun cc => ?_) (fun cc => ?_)
              · replace h := bu_f h cc
                refine bv_aload_n dX0_readMan_197 0 rfl ?_
                obtain ⟨a37, e38, h⟩ := bu_bd h
                refine bw_getA (a := a37) hN q1 e38 dX0_readMan_198 fl_0_25 rfl ?_
                refine bv_aload_n dX0_readMan_201 0 rfl ?_
                refine bw_getI hN q1 dX0_readMan_202 fl_0_56 rfl ?_
                refine bv_iconst (v := (-1)) dX0_readMan_205 (by decide) ?_
                obtain ⟨r39, h⟩ := bu_ia h
                refine bw_iast hN r39 dX0_readMan_206 ?_
                refine bv_aload_n dX0_readMan_207 0 rfl ?_
                refine bv_dup dX0_readMan_208 rfl ?_
                refine bw_getI hN q1 dX0_readMan_209 fl_0_56 rfl ?_
                refine bv_iconst (v := 1) dX0_readMan_212 (by decide) ?_
                refine bv_iadd dX0_readMan_213 ?_
                refine bw_putI hN q1 dX0_readMan_214 fl_0_56 rfl ?_
                refine bv_iconst (v := 1) dX0_readMan_217 (by decide) ?_
                obtain rfl := Option.some.inj h
                exact bw_bret (b := true) dX0_readMan_218 rfl ⟨rfl, rfl⟩
              · replace h := bu_t h cc
                refine bv_aload_n dX0_readMan_178 0 rfl ?_
                refine bv_dup dX0_readMan_179 rfl ?_
                refine bw_getI hN q1 dX0_readMan_180 fl_0_62 rfl ?_
                refine bv_iconst (v := 1) dX0_readMan_183 (by decide) ?_
                refine bv_aload_n dX0_readMan_184 0 rfl ?_
                refine bw_getI hN q1 dX0_readMan_185 fl_0_56 rfl ?_
                refine bv_ishl dX0_readMan_188 ?_
                refine bv_ior dX0_readMan_189 ?_
                refine bw_putI hN q1 dX0_readMan_190 fl_0_62 rfl ?_
                refine bv_aload_n dX0_readMan_193 1 rfl ?_
                obtain ⟨v40, p41, h⟩ := bu_bd h
                refine bw_callVv (As := []) hN q2 ⟨_, _, rfl⟩ dX0_readMan_194 mc_0_127 (c_X5_advance (d := d + 1) hN p41) rfl rfl (by decide) ?_
                refine bv_aload_n dX0_readMan_197 0 rfl ?_
                obtain ⟨a42, e43, h⟩ := bu_bd h
                refine bw_getA (a := a42) hN q1 e43 dX0_readMan_198 fl_0_25 rfl ?_
                refine bv_aload_n dX0_readMan_201 0 rfl ?_
                refine bw_getI hN q1 dX0_readMan_202 fl_0_56 rfl ?_
                refine bv_iconst (v := (-1)) dX0_readMan_205 (by decide) ?_
                obtain ⟨r44, h⟩ := bu_ia h
                refine bw_iast hN r44 dX0_readMan_206 ?_
                refine bv_aload_n dX0_readMan_207 0 rfl ?_
                refine bv_dup dX0_readMan_208 rfl ?_
                refine bw_getI hN q1 dX0_readMan_209 fl_0_56 rfl ?_
                refine bv_iconst (v := 1) dX0_readMan_212 (by decide) ?_
                refine bv_iadd dX0_readMan_213 ?_
                refine bw_putI hN q1 dX0_readMan_214 fl_0_56 rfl ?_
                refine bv_iconst (v := 1) dX0_readMan_217 (by decide) ?_
                obtain rfl := Option.some.inj h
                exact bw_bret (b := true) dX0_readMan_218 rfl ⟨rfl, rfl⟩
            · replace h := bu_t h cc
              refine bv_aload_n dX0_readMan_149 0 rfl ?_
              refine bv_dup dX0_readMan_150 rfl ?_
              refine bw_getI hN q1 dX0_readMan_151 fl_0_59 rfl ?_
              refine bv_iconst (v := 1) dX0_readMan_154 (by decide) ?_
              refine bv_aload_n dX0_readMan_155 0 rfl ?_
              refine bw_getI hN q1 dX0_readMan_156 fl_0_56 rfl ?_
              refine bv_ishl dX0_readMan_159 ?_
              refine bv_ior dX0_readMan_160 ?_
              refine bw_putI hN q1 dX0_readMan_161 fl_0_59 rfl ?_
              refine bv_aload_n dX0_readMan_164 1 rfl ?_
              obtain ⟨v45, p46, h⟩ := bu_bd h
              refine bw_callVv (As := []) hN q2 ⟨_, _, rfl⟩ dX0_readMan_165 mc_0_127 (c_X5_advance (d := d + 1) hN p46) rfl rfl (by decide) ?_
              refine bv_aload_n dX0_readMan_168 1 rfl ?_
              refine bw_getR hN q2 dX0_readMan_169 fl_0_84 rfl ?_
              refine bw_getW (j := 25) dX0_readMan_172 fw_0_144 rfl ?_
              obtain ⟨w47, h⟩ := bu_g h
              refine bv_acmp_ne (x := (v45.2.2 x1 8)) (y := (some (1000 + 25))) (tgt := 197) dX0_readMan_175 (by decide) (bm_wq_of w47) (bm_wq_of rfl) (fun cc => ?_) (fun cc => ?_)
              · replace h := bu_f h cc
                refine bv_aload_n dX0_readMan_197 0 rfl ?_
                obtain ⟨a48, e49, h⟩ := bu_bd h
                refine bw_getA (a := a48) hN q1 e49 dX0_readMan_198 fl_0_25 rfl ?_
                refine bv_aload_n dX0_readMan_201 0 rfl ?_
                refine bw_getI hN q1 dX0_readMan_202 fl_0_56 rfl ?_
                refine bv_iconst (v := (-1)) dX0_readMan_205 (by decide) ?_
                obtain ⟨r50, h⟩ := bu_ia h
                refine bw_iast hN r50 dX0_readMan_206 ?_
                refine bv_aload_n dX0_readMan_207 0 rfl ?_
                refine bv_dup dX0_readMan_208 rfl ?_
                refine bw_getI hN q1 dX0_readMan_209 fl_0_56 rfl ?_
                refine bv_iconst (v := 1) dX0_readMan_212 (by decide) ?_
                refine bv_iadd dX0_readMan_213 ?_
                refine bw_putI hN q1 dX0_readMan_214 fl_0_56 rfl ?_
                refine bv_iconst (v := 1) dX0_readMan_217 (by decide) ?_
                obtain rfl := Option.some.inj h
                exact bw_bret (b := true) dX0_readMan_218 rfl ⟨rfl, rfl⟩
              · replace h := bu_t h cc
                refine bv_aload_n dX0_readMan_178 0 rfl ?_
                refine bv_dup dX0_readMan_179 rfl ?_
                refine bw_getI hN q1 dX0_readMan_180 fl_0_62 rfl ?_
                refine bv_iconst (v := 1) dX0_readMan_183 (by decide) ?_
                refine bv_aload_n dX0_readMan_184 0 rfl ?_
                refine bw_getI hN q1 dX0_readMan_185 fl_0_56 rfl ?_
                refine bv_ishl dX0_readMan_188 ?_
                refine bv_ior dX0_readMan_189 ?_
                refine bw_putI hN q1 dX0_readMan_190 fl_0_62 rfl ?_
                refine bv_aload_n dX0_readMan_193 1 rfl ?_
                obtain ⟨v51, p52, h⟩ := bu_bd h
                refine bw_callVv (As := []) hN q2 ⟨_, _, rfl⟩ dX0_readMan_194 mc_0_127 (c_X5_advance (d := d + 1) hN p52) rfl rfl (by decide) ?_
                refine bv_aload_n dX0_readMan_197 0 rfl ?_
                obtain ⟨a53, e54, h⟩ := bu_bd h
                refine bw_getA (a := a53) hN q1 e54 dX0_readMan_198 fl_0_25 rfl ?_
                refine bv_aload_n dX0_readMan_201 0 rfl ?_
                refine bw_getI hN q1 dX0_readMan_202 fl_0_56 rfl ?_
                refine bv_iconst (v := (-1)) dX0_readMan_205 (by decide) ?_
                obtain ⟨r55, h⟩ := bu_ia h
                refine bw_iast hN r55 dX0_readMan_206 ?_
                refine bv_aload_n dX0_readMan_207 0 rfl ?_
                refine bv_dup dX0_readMan_208 rfl ?_
                refine bw_getI hN q1 dX0_readMan_209 fl_0_56 rfl ?_
                refine bv_iconst (v := 1) dX0_readMan_212 (by decide) ?_
                refine bv_iadd dX0_readMan_213 ?_
                refine bw_putI hN q1 dX0_readMan_214 fl_0_56 rfl ?_
                refine bv_iconst (v := 1) dX0_readMan_217 (by decide) ?_
                obtain rfl := Option.some.inj h
                exact bw_bret (b := true) dX0_readMan_218 rfl ⟨rfl, rfl⟩
          · replace h := bu_t h cc
            refine bv_iconst (v := 0) dX0_readMan_137 (by decide) ?_
            obtain rfl := Option.some.inj h
            exact bw_bret (b := false) dX0_readMan_138 rfl ⟨rfl, rfl⟩
        · replace h := bu_t h cc
          refine bv_iconst (v := 0) dX0_readMan_106 (by decide) ?_
          obtain rfl := Option.some.inj h
          exact bw_bret (b := false) dX0_readMan_107 rfl ⟨rfl, rfl⟩
      · replace h := bu_t h cc
        refine bv_iconst (v := 0) dX0_readMan_75 (by decide) ?_
        obtain rfl := Option.some.inj h
        exact bw_bret (b := false) dX0_readMan_76 rfl ⟨rfl, rfl⟩
    · replace h := bu_bf h cc
      refine bv_iconst (v := 0) dX0_readMan_27 (by decide) ?_
      obtain rfl := Option.some.inj h
      exact bw_bret (b := false) dX0_readMan_28 rfl ⟨rfl, rfl⟩
  · replace h := bu_f h cc
    refine bv_aload_n dX0_readMan_9 1 rfl ?_
    refine bv_iconst (v := 4) dX0_readMan_10 (by decide) ?_
    obtain ⟨q56, h⟩ := bu_io h
    obtain ⟨v57, p58, h⟩ := bu_bd h
    refine bw_callV (As := [.int 4]) hN q56 ⟨_, _, rfl⟩ dX0_readMan_11 mc_0_124 (c_X5_refuse (d := d + 3) hN p58) rfl rfl (by decide) ?_
    obtain rfl := Option.some.inj h
    exact bw_bret (b := v57.1) dX0_readMan_14 rfl ⟨rfl, rfl⟩
def f_X0_readOnce (M : bm_M) (x0 : Nat) (x1 : Int32) (x2 : Int32) : Option (Int32 × bm_M) := (if x1 = (-1) then (if bm_io x0 5 then ((f_X5_advance M x0).bind fun v2 => ((f_X5_takeNumber v2 x0 1 x2).bind fun v4 => some (v4.1, v4.2))) else none) else (if bm_io x0 5 then ((f_X5_refuseNumber M x0 3).bind fun v7 => some (v7.1, v7.2)) else none))
set_option maxHeartbeats 4000000 in
set_option maxRecDepth 100000 in
theorem c_X0_readOnce {L : bm_L} {d n : Nat} {M : bm_M} {x0 : Nat} {x1 : Int32} {x2 : Int32} {v : Int32 × bm_M} (hN : 181 ≤ n) (h : f_X0_readOnce M x0 x1 x2 = some v) : bm_C L m_X0_readOnce (d + 4) n n [.ref x0, .int x1, .int x2] M (fun r M' => r = some (.int v.1) ∧ M' = v.2) := by
  refine bm_C.ofV (by decide) (Nat.le_of_ble_eq_true rfl) ?_
  show bm_V L m_X0_readOnce (d + 4) n n n 0 [(0, .ref x0), (1, .int x1), (2, .int x2)] [] M _
  unfold f_X0_readOnce at h
  refine bv_iload_n dX0_readOnce_0 1 rfl ?_
  refine bv_iconst (v := (-1)) dX0_readOnce_1 (by decide) ?_
  refine bv_icmp_eq (tgt := 11) dX0_readOnce_2 (by decide) (fun cc => ?_) (fun cc => ?_)
  · replace h := bu_t h cc
    refine bv_aload_n dX0_readOnce_11 0 rfl ?_
    obtain ⟨q1, h⟩ := bu_io h
    obtain ⟨v2, p3, h⟩ := bu_bd h
    refine bw_callVv (As := []) hN q1 ⟨_, _, rfl⟩ dX0_readOnce_12 mc_0_127 (c_X5_advance (d := d + 1) hN p3) rfl rfl (by decide) ?_
    refine bv_aload_n dX0_readOnce_15 0 rfl ?_
    refine bv_iconst (v := 1) dX0_readOnce_16 (by decide) ?_
    refine bv_iload_n dX0_readOnce_17 2 rfl ?_
    obtain ⟨v4, p5, h⟩ := bu_bd h
    refine bw_callV (As := [.int 1, .int x2]) hN q1 ⟨_, _, rfl⟩ dX0_readOnce_18 mc_0_137 (c_X5_takeNumber (d := d + 0) hN p5) rfl rfl (by decide) ?_
    obtain rfl := Option.some.inj h
    exact bv_iret (x := v4.1) dX0_readOnce_21 rfl ⟨rfl, rfl⟩
  · replace h := bu_f h cc
    refine bv_aload_n dX0_readOnce_5 0 rfl ?_
    refine bv_iconst (v := 3) dX0_readOnce_6 (by decide) ?_
    obtain ⟨q6, h⟩ := bu_io h
    obtain ⟨v7, p8, h⟩ := bu_bd h
    refine bw_callV (As := [.int 3]) hN q6 ⟨_, _, rfl⟩ dX0_readOnce_7 mc_0_165 (c_X5_refuseNumber (d := d + 3) hN p8) rfl rfl (by decide) ?_
    obtain rfl := Option.some.inj h
    exact bv_iret (x := v7.1) dX0_readOnce_10 rfl ⟨rfl, rfl⟩
def f_X0_orderOf_l2 (M : bm_M) (x0 : Nat) (x1 : Int32) (x2 : Int32) : Nat → Int32 → Option (((Int32) ⊕ (Unit)))
  | 0, _ => none
  | k + 1, x3 => (if bm_io x0 0 then (if (M.1 x0 13) ≤ x3 then some (Sum.inr ()) else ((M.2.2 x0 6).bind fun a2 => (if bm_ia a2 0 x3 = true then (if (M.1 a2 x3.toNatClampNeg) = x1 then ((M.2.2 x0 7).bind fun a5 => (if bm_ia a5 0 x3 = true then (if (M.1 a5 x3.toNatClampNeg) = x2 then some (Sum.inl x3) else f_X0_orderOf_l2 M x0 x1 x2 k (x3 + 1)) else none)) else f_X0_orderOf_l2 M x0 x1 x2 k (x3 + 1)) else none))) else none)
set_option maxHeartbeats 4000000 in
set_option maxRecDepth 100000 in
theorem v_X0_orderOf_l2 {L : bm_L} {d n : Nat} {Q : Option Value → bm_M → Prop} {M : bm_M} {x0 : Nat} {x1 : Int32} {x2 : Int32} (hN : 181 ≤ n) : ∀ (k : Nat) (x3 : Int32) (r : ((Int32) ⊕ (Unit))), f_X0_orderOf_l2 M x0 x1 x2 k x3 = some r → (∀ yy, (Sum.inl yy) = r → bm_V L m_X0_orderOf d n n n 30 [(3, .int yy)] [] M Q) → (∀ yy, (Sum.inr yy) = r → bm_V L m_X0_orderOf d n n n 38 [] [] M Q) → bm_V L m_X0_orderOf d n n n 2 [(0, .ref x0), (1, .int x1), (2, .int x2), (3, .int x3)] [] M Q := by
  intro k
  induction k with
  | zero => intro x3 r h; cases (show (none : Option (((Int32) ⊕ (Unit)))) = some r from h)
  | succ k ih =>
    intro x3 r h K0 K1
    unfold f_X0_orderOf_l2 at h
    refine bv_iload_n dX0_orderOf_2 3 rfl ?_
    refine bv_aload_n dX0_orderOf_3 0 rfl ?_
    obtain ⟨q1, h⟩ := bu_io h
    refine bw_getI hN q1 dX0_orderOf_4 fl_0_65 rfl ?_
    refine bv_icmp_ge (tgt := 38) dX0_orderOf_7 (by decide) (fun cc => ?_) (fun cc => ?_)
    · replace h := bu_t h cc
      refine bw_ls (ls1 := []) [] rfl ?_
      obtain rfl := Option.some.inj h
      exact K1 _ rfl
    · replace h := bu_f h cc
      refine bv_aload_n dX0_orderOf_10 0 rfl ?_
      obtain ⟨a2, e3, h⟩ := bu_bd h
      refine bw_getA (a := a2) hN q1 e3 dX0_orderOf_11 fl_0_31 rfl ?_
      refine bv_iload_n dX0_orderOf_14 3 rfl ?_
      obtain ⟨r4, h⟩ := bu_ia h
      refine bw_iald hN r4 dX0_orderOf_15 ?_
      refine bv_iload_n dX0_orderOf_16 1 rfl ?_
      refine bv_icmp_ne (tgt := 32) dX0_orderOf_17 (by decide) (fun cc => ?_) (fun cc => ?_)
      · replace h := bu_f h cc
        refine bv_iinc (j := 3) (v := (x3 + 1)) (ls1 := [(0, .ref x0), (1, .int x1), (2, .int x2), (3, .int (x3 + 1))]) dX0_orderOf_32 rfl rfl (by decide) rfl rfl ?_
        refine bv_goto (tgt := 2) dX0_orderOf_35 (by decide) ?_
        exact ih _ _ h K0 K1
      · replace h := bu_t h cc
        refine bv_aload_n dX0_orderOf_20 0 rfl ?_
        obtain ⟨a5, e6, h⟩ := bu_bd h
        refine bw_getA (a := a5) hN q1 e6 dX0_orderOf_21 fl_0_34 rfl ?_
        refine bv_iload_n dX0_orderOf_24 3 rfl ?_
        obtain ⟨r7, h⟩ := bu_ia h
        refine bw_iald hN r7 dX0_orderOf_25 ?_
        refine bv_iload_n dX0_orderOf_26 2 rfl ?_
        refine bv_icmp_ne (tgt := 32) dX0_orderOf_27 (by decide) (fun cc => ?_) (fun cc => ?_)
        · replace h := bu_f h cc
          refine bv_iinc (j := 3) (v := (x3 + 1)) (ls1 := [(0, .ref x0), (1, .int x1), (2, .int x2), (3, .int (x3 + 1))]) dX0_orderOf_32 rfl rfl (by decide) rfl rfl ?_
          refine bv_goto (tgt := 2) dX0_orderOf_35 (by decide) ?_
          exact ih _ _ h K0 K1
        · replace h := bu_t h cc
          refine bw_ls (ls1 := [(3, .int x3)]) [3] rfl ?_
          obtain rfl := Option.some.inj h
          exact K0 _ rfl
def f_X0_orderOf (M : bm_M) (x0 : Nat) (x1 : Int32) (x2 : Int32) : Option (Int32) := ((f_X0_orderOf_l2 M x0 x1 x2 1000 0).bind fun rr => match rr with | (Sum.inl y3) => some y3 | (Sum.inr y3) => some (-1))
set_option maxHeartbeats 4000000 in
set_option maxRecDepth 100000 in
theorem c_X0_orderOf {L : bm_L} {d n : Nat} {M : bm_M} {x0 : Nat} {x1 : Int32} {x2 : Int32} {v : Int32} (hN : 181 ≤ n) (h : f_X0_orderOf M x0 x1 x2 = some v) : bm_C L m_X0_orderOf d n n [.ref x0, .int x1, .int x2] M (fun r M' => r = some (.int v) ∧ M' = M) := by
  refine bm_C.ofV (by decide) (Nat.le_of_ble_eq_true rfl) ?_
  show bm_V L m_X0_orderOf d n n n 0 [(0, .ref x0), (1, .int x1), (2, .int x2)] [] M _
  unfold f_X0_orderOf at h
  refine bv_iconst (v := 0) dX0_orderOf_0 (by decide) ?_
  refine bv_istore_n (ls1 := [(0, .ref x0), (1, .int x1), (2, .int x2), (3, .int 0)]) dX0_orderOf_1 (by decide) rfl rfl ?_
  obtain ⟨r1, p2, h⟩ := bu_bd h
  refine v_X0_orderOf_l2 hN 1000 _ _ p2 (fun y3 hy => ?_) (fun y3 hy => ?_)
  · subst hy
    refine bv_iload_n dX0_orderOf_30 0 rfl ?_
    obtain rfl := Option.some.inj h
    exact bv_iret (x := y3) dX0_orderOf_31 rfl ⟨rfl, rfl⟩
  · subst hy
    refine bv_iconst (v := (-1)) dX0_orderOf_38 (by decide) ?_
    obtain rfl := Option.some.inj h
    exact bv_iret (x := (-1)) dX0_orderOf_39 rfl ⟨rfl, rfl⟩
def f_X5_wordHere (M : bm_M) (x0 : Nat) (x1 : Int32) : Option (Int32 × bm_M) := (if bm_io x0 5 then (if (M.2.2 x0 8) = none then ((f_X5_refuseNumber M x0 1).bind fun v2 => some (v2.1, v2.2)) else ((M.2.2 x0 8).bind fun a4 => (if bm_iw a4 = true then (if (bm_wso a4) = x1 then ((M.2.2 x0 8).bind fun a9 => (if bm_iw a9 = true then some ((bm_wnu a9), M) else none)) else ((f_X5_refuseNumber M x0 1).bind fun v7 => some (v7.1, v7.2))) else none))) else none)
set_option maxHeartbeats 4000000 in
set_option maxRecDepth 100000 in
theorem c_X5_wordHere {L : bm_L} {d n : Nat} {M : bm_M} {x0 : Nat} {x1 : Int32} {v : Int32 × bm_M} (hN : 181 ≤ n) (h : f_X5_wordHere M x0 x1 = some v) : bm_C L m_X5_wordHere (d + 1) n n [.ref x0, .int x1] M (fun r M' => r = some (.int v.1) ∧ M' = v.2) := by
  refine bm_C.ofV (by decide) (Nat.le_of_ble_eq_true rfl) ?_
  show bm_V L m_X5_wordHere (d + 1) n n n 0 [(0, .ref x0), (1, .int x1)] [] M _
  unfold f_X5_wordHere at h
  refine bv_aload_n dX5_wordHere_0 0 rfl ?_
  obtain ⟨q1, h⟩ := bu_io h
  refine bw_getR hN q1 dX5_wordHere_1 fl_5_44 rfl ?_
  refine bv_ifnull (x := (M.2.2 x0 8)) (tgt := 28) dX5_wordHere_4 (by decide) (fun cc => ?_) (fun cc => ?_)
  · replace h := bu_t h cc
    refine bv_aload_n dX5_wordHere_28 0 rfl ?_
    refine bv_iconst (v := 1) dX5_wordHere_29 (by decide) ?_
    obtain ⟨v2, p3, h⟩ := bu_bd h
    refine bw_callV (As := [.int 1]) hN q1 ⟨_, _, rfl⟩ dX5_wordHere_30 mc_5_86 (c_X5_refuseNumber (d := d + 0) hN p3) rfl rfl (by decide) ?_
    obtain rfl := Option.some.inj h
    exact bv_iret (x := v2.1) dX5_wordHere_33 rfl ⟨rfl, rfl⟩
  · replace h := bu_f h cc
    refine bv_aload_n dX5_wordHere_7 0 rfl ?_
    refine bw_getR hN q1 dX5_wordHere_8 fl_5_44 rfl ?_
    obtain ⟨a4, e5, h⟩ := bu_bd h
    refine bw_some e5 ?_
    obtain ⟨w6, h⟩ := bu_g h
    refine bw_wso w6 dX5_wordHere_11 fw_5_94 ?_
    refine bv_iload_n dX5_wordHere_14 1 rfl ?_
    refine bv_icmp_ne (tgt := 28) dX5_wordHere_15 (by decide) (fun cc => ?_) (fun cc => ?_)
    · replace h := bu_f h cc
      refine bv_aload_n dX5_wordHere_28 0 rfl ?_
      refine bv_iconst (v := 1) dX5_wordHere_29 (by decide) ?_
      obtain ⟨v7, p8, h⟩ := bu_bd h
      refine bw_callV (As := [.int 1]) hN q1 ⟨_, _, rfl⟩ dX5_wordHere_30 mc_5_86 (c_X5_refuseNumber (d := d + 0) hN p8) rfl rfl (by decide) ?_
      obtain rfl := Option.some.inj h
      exact bv_iret (x := v7.1) dX5_wordHere_33 rfl ⟨rfl, rfl⟩
    · replace h := bu_t h cc
      refine bv_aload_n dX5_wordHere_18 0 rfl ?_
      refine bw_getR hN q1 dX5_wordHere_19 fl_5_44 rfl ?_
      obtain ⟨a9, e10, h⟩ := bu_bd h
      refine bw_some e10 ?_
      obtain ⟨w11, h⟩ := bu_g h
      refine bw_wnu w11 dX5_wordHere_22 fw_5_97 ?_
      refine bv_goto (tgt := 33) dX5_wordHere_25 (by decide) ?_
      obtain rfl := Option.some.inj h
      exact bv_iret (x := (bm_wnu a9)) dX5_wordHere_33 rfl ⟨rfl, rfl⟩
def f_X5_takeWord (M : bm_M) (x0 : Nat) (x1 : Int32) : Option (Int32 × bm_M) := (if bm_io x0 5 then ((f_X5_wordHere M x0 x1).bind fun v2 => (if v2.1 = (-1) then some (v2.1, v2.2) else ((f_X5_advance v2.2 x0).bind fun v4 => some (v2.1, v4)))) else none)
set_option maxHeartbeats 4000000 in
set_option maxRecDepth 100000 in
theorem c_X5_takeWord {L : bm_L} {d n : Nat} {M : bm_M} {x0 : Nat} {x1 : Int32} {v : Int32 × bm_M} (hN : 181 ≤ n) (h : f_X5_takeWord M x0 x1 = some v) : bm_C L m_X5_takeWord (d + 3) n n [.ref x0, .int x1] M (fun r M' => r = some (.int v.1) ∧ M' = v.2) := by
  refine bm_C.ofV (by decide) (Nat.le_of_ble_eq_true rfl) ?_
  show bm_V L m_X5_takeWord (d + 3) n n n 0 [(0, .ref x0), (1, .int x1)] [] M _
  unfold f_X5_takeWord at h
  refine bv_aload_n dX5_takeWord_0 0 rfl ?_
  refine bv_iload_n dX5_takeWord_1 1 rfl ?_
  obtain ⟨q1, h⟩ := bu_io h
  obtain ⟨v2, p3, h⟩ := bu_bd h
  refine bw_callV (As := [.int x1]) hN q1 ⟨_, _, rfl⟩ dX5_takeWord_2 mc_5_98 (c_X5_wordHere (d := d + 1) hN p3) rfl rfl (by decide) ?_
  refine bv_istore_n (ls1 := [(0, .ref x0), (1, .int x1), (2, .int v2.1)]) dX5_takeWord_5 (by decide) rfl rfl ?_
  refine bv_iload_n dX5_takeWord_6 2 rfl ?_
  refine bv_iconst (v := (-1)) dX5_takeWord_7 (by decide) ?_
  refine bv_icmp_eq (tgt := 15) dX5_takeWord_8 (by decide) (fun cc => ?_) (fun cc => ?_)
  · replace h := bu_t h cc
    refine bv_iload_n dX5_takeWord_15 2 rfl ?_
    obtain rfl := Option.some.inj h
    exact bv_iret (x := v2.1) dX5_takeWord_16 rfl ⟨rfl, rfl⟩
  · replace h := bu_f h cc
    refine bv_aload_n dX5_takeWord_11 0 rfl ?_
    obtain ⟨v4, p5, h⟩ := bu_bd h
    refine bw_callVv (As := []) hN q1 ⟨_, _, rfl⟩ dX5_takeWord_12 mc_5_28 (c_X5_advance (d := d + 0) hN p5) rfl rfl (by decide) ?_
    refine bv_iload_n dX5_takeWord_15 2 rfl ?_
    obtain rfl := Option.some.inj h
    exact bv_iret (x := v2.1) dX5_takeWord_16 rfl ⟨rfl, rfl⟩
def f_X0_readOrder (M : bm_M) (x0 : Nat) (x1 : Nat) : Option (Bool × bm_M) := (if bm_io x0 0 then (if (M.1 x0 13) < 7 then (if bm_io x1 5 then ((f_X5_advance M x1).bind fun v3 => ((f_X0_isNewName v3 x0 x1).bind fun v5 => (if v5.1 = true then ((v5.2.2.2 x0 5).bind fun a7 => (if bm_ia a7 2 (v5.2.1 x0 13) = true then ((f_X5_advance (bm_sL v5.2 a7 (v5.2.1 x0 13).toNatClampNeg (v5.2.2.1 x1 7)) x1).bind fun v10 => ((v10.2.2 x0 6).bind fun a12 => ((f_X5_takeWord v10 x1 1).bind fun v14 => (if bm_ia a12 0 (v10.1 x0 13) = true then ((v14.2.2.2 x0 6).bind fun a17 => (if bm_ia a17 0 ((bm_sI v14.2 a12 (v10.1 x0 13).toNatClampNeg v14.1).1 x0 13) = true then (if ((bm_sI v14.2 a12 (v10.1 x0 13).toNatClampNeg v14.1).1 a17 ((bm_sI v14.2 a12 (v10.1 x0 13).toNatClampNeg v14.1).1 x0 13).toNatClampNeg) = (-1) then some (false, (bm_sI v14.2 a12 (v10.1 x0 13).toNatClampNeg v14.1)) else ((v14.2.2.2 x0 7).bind fun a20 => ((f_X5_wordHere (bm_sI v14.2 a12 (v10.1 x0 13).toNatClampNeg v14.1) x1 1).bind fun v22 => (if bm_ia a20 0 ((bm_sI v14.2 a12 (v10.1 x0 13).toNatClampNeg v14.1).1 x0 13) = true then ((v22.2.2.2 x0 7).bind fun a25 => (if bm_ia a25 0 ((bm_sI v22.2 a20 ((bm_sI v14.2 a12 (v10.1 x0 13).toNatClampNeg v14.1).1 x0 13).toNatClampNeg v22.1).1 x0 13) = true then (if ((bm_sI v22.2 a20 ((bm_sI v14.2 a12 (v10.1 x0 13).toNatClampNeg v14.1).1 x0 13).toNatClampNeg v22.1).1 a25 ((bm_sI v22.2 a20 ((bm_sI v14.2 a12 (v10.1 x0 13).toNatClampNeg v14.1).1 x0 13).toNatClampNeg v22.1).1 x0 13).toNatClampNeg) = (-1) then some (false, (bm_sI v22.2 a20 ((bm_sI v14.2 a12 (v10.1 x0 13).toNatClampNeg v14.1).1 x0 13).toNatClampNeg v22.1)) else ((v22.2.2.2 x0 6).bind fun a28 => (if bm_ia a28 0 ((bm_sI v22.2 a20 ((bm_sI v14.2 a12 (v10.1 x0 13).toNatClampNeg v14.1).1 x0 13).toNatClampNeg v22.1).1 x0 13) = true then ((f_X0_orderOf (bm_sI v22.2 a20 ((bm_sI v14.2 a12 (v10.1 x0 13).toNatClampNeg v14.1).1 x0 13).toNatClampNeg v22.1) x0 ((bm_sI v22.2 a20 ((bm_sI v14.2 a12 (v10.1 x0 13).toNatClampNeg v14.1).1 x0 13).toNatClampNeg v22.1).1 a28 ((bm_sI v22.2 a20 ((bm_sI v14.2 a12 (v10.1 x0 13).toNatClampNeg v14.1).1 x0 13).toNatClampNeg v22.1).1 x0 13).toNatClampNeg) ((bm_sI v22.2 a20 ((bm_sI v14.2 a12 (v10.1 x0 13).toNatClampNeg v14.1).1 x0 13).toNatClampNeg v22.1).1 a25 ((bm_sI v22.2 a20 ((bm_sI v14.2 a12 (v10.1 x0 13).toNatClampNeg v14.1).1 x0 13).toNatClampNeg v22.1).1 x0 13).toNatClampNeg)).bind fun v31 => (if v31 = (-1) then ((f_X5_advance (bm_sI (bm_sI v22.2 a20 ((bm_sI v14.2 a12 (v10.1 x0 13).toNatClampNeg v14.1).1 x0 13).toNatClampNeg v22.1) x0 13 (((bm_sI v22.2 a20 ((bm_sI v14.2 a12 (v10.1 x0 13).toNatClampNeg v14.1).1 x0 13).toNatClampNeg v22.1).1 x0 13) + 1)) x1).bind fun v33 => some (true, v33)) else ((f_X5_refuse (bm_sI v22.2 a20 ((bm_sI v14.2 a12 (v10.1 x0 13).toNatClampNeg v14.1).1 x0 13).toNatClampNeg v22.1) x1 3).bind fun v35 => some (v35.1, v35.2)))) else none))) else none)) else none)))) else none)) else none)))) else none)) else some (false, v5.2)))) else none) else (if bm_io x1 5 then ((f_X5_refuse M x1 4).bind fun v38 => some (v38.1, v38.2)) else none)) else none)
set_option maxHeartbeats 4000000 in
set_option maxRecDepth 100000 in
theorem c_X0_readOrder {L : bm_L} {d n : Nat} {M : bm_M} {x0 : Nat} {x1 : Nat} {v : Bool × bm_M} (hN : 181 ≤ n) (h : f_X0_readOrder M x0 x1 = some v) : bm_C L m_X0_readOrder (d + 4) n n [.ref x0, .ref x1] M (fun r M' => r = some (.int (bm_bi v.1)) ∧ M' = v.2) := by
  refine bm_C.ofV (by decide) (Nat.le_of_ble_eq_true rfl) ?_
  show bm_V L m_X0_readOrder (d + 4) n n n 0 [(0, .ref x0), (1, .ref x1)] [] M _
  unfold f_X0_readOrder at h
  refine bv_aload_n dX0_readOrder_0 0 rfl ?_
  obtain ⟨q1, h⟩ := bu_io h
  refine bw_getI hN q1 dX0_readOrder_1 fl_0_65 rfl ?_
  refine bv_bipush (v := 7) dX0_readOrder_4 (by decide) ?_
  refine bv_icmp_lt (tgt := 15) dX0_readOrder_6 (by decide) (fun cc => ?_) (fun cc => ?_)
  · replace h := bu_t h cc
    refine bv_aload_n dX0_readOrder_15 1 rfl ?_
    obtain ⟨q2, h⟩ := bu_io h
    obtain ⟨v3, p4, h⟩ := bu_bd h
    refine bw_callVv (As := []) hN q2 ⟨_, _, rfl⟩ dX0_readOrder_16 mc_0_127 (c_X5_advance (d := d + 1) hN p4) rfl rfl (by decide) ?_
    refine bv_aload_n dX0_readOrder_19 0 rfl ?_
    refine bv_aload_n dX0_readOrder_20 1 rfl ?_
    obtain ⟨v5, p6, h⟩ := bu_bd h
    refine bw_callV (As := [.ref x1]) hN q1 ⟨_, _, rfl⟩ dX0_readOrder_21 mc_0_130 (c_X0_isNewName (d := d + 2) hN p6) rfl rfl (by decide) ?_
    refine bw_ifB_ne (b := v5.1) (tgt := 29) dX0_readOrder_24 (by decide) (fun cc => ?_) (fun cc => ?_)
    · replace h := bu_bt h cc
      refine bv_aload_n dX0_readOrder_29 0 rfl ?_
      obtain ⟨a7, e8, h⟩ := bu_bd h
      refine bw_getA (a := a7) hN q1 e8 dX0_readOrder_30 fl_0_28 rfl ?_
      refine bv_aload_n dX0_readOrder_33 0 rfl ?_
      refine bw_getI hN q1 dX0_readOrder_34 fl_0_65 rfl ?_
      refine bv_aload_n dX0_readOrder_37 1 rfl ?_
      refine bw_getL hN q2 dX0_readOrder_38 fl_0_133 rfl ?_
      obtain ⟨r9, h⟩ := bu_ia h
      refine bw_last hN r9 dX0_readOrder_41 ?_
      refine bv_aload_n dX0_readOrder_42 1 rfl ?_
      obtain ⟨v10, p11, h⟩ := bu_bd h
      refine bw_callVv (As := []) hN q2 ⟨_, _, rfl⟩ dX0_readOrder_43 mc_0_127 (c_X5_advance (d := d + 1) hN p11) rfl rfl (by decide) ?_
      refine bv_aload_n dX0_readOrder_46 0 rfl ?_
      obtain ⟨a12, e13, h⟩ := bu_bd h
      refine bw_getA (a := a12) hN q1 e13 dX0_readOrder_47 fl_0_31 rfl ?_
      refine bv_aload_n dX0_readOrder_50 0 rfl ?_
      refine bw_getI hN q1 dX0_readOrder_51 fl_0_65 rfl ?_
      refine bv_aload_n dX0_readOrder_54 1 rfl ?_
      refine bv_iconst (v := 1) dX0_readOrder_55 (by decide) ?_
      obtain ⟨v14, p15, h⟩ := bu_bd h
      refine bw_callV (As := [.int 1]) hN q2 ⟨_, _, rfl⟩ dX0_readOrder_56 mc_0_155 (c_X5_takeWord (d := d + 0) hN p15) rfl rfl (Nat.le_of_ble_eq_true rfl) ?_
      obtain ⟨r16, h⟩ := bu_ia h
      refine bw_iast hN r16 dX0_readOrder_59 ?_
      refine bv_aload_n dX0_readOrder_60 0 rfl ?_
      obtain ⟨a17, e18, h⟩ := bu_bd h
      refine bw_getA (a := a17) hN q1 e18 dX0_readOrder_61 fl_0_31 rfl ?_
      refine bv_aload_n dX0_readOrder_64 0 rfl ?_
      refine bw_getI hN q1 dX0_readOrder_65 fl_0_65 rfl ?_
      obtain ⟨r19, h⟩ := bu_ia h
      refine bw_iald hN r19 dX0_readOrder_68 ?_
      refine bv_iconst (v := (-1)) dX0_readOrder_69 (by decide) ?_
      refine bv_icmp_ne (tgt := 75) dX0_readOrder_70 (by decide) (fun cc => ?_) (fun cc => ?_)
      · replace h := bu_f h cc
        refine bv_aload_n dX0_readOrder_75 0 rfl ?_
        obtain ⟨a20, e21, h⟩ := bu_bd h
        refine bw_getA (a := a20) hN q1 e21 dX0_readOrder_76 fl_0_34 rfl ?_
        refine bv_aload_n dX0_readOrder_79 0 rfl ?_
        refine bw_getI hN q1 dX0_readOrder_80 fl_0_65 rfl ?_
        refine bv_aload_n dX0_readOrder_83 1 rfl ?_
        refine bv_iconst (v := 1) dX0_readOrder_84 (by decide) ?_
        obtain ⟨v22, p23, h⟩ := bu_bd h
        refine bw_callV (As := [.int 1]) hN q2 ⟨_, _, rfl⟩ dX0_readOrder_85 mc_0_159 (c_X5_wordHere (d := d + 2) hN p23) rfl rfl (Nat.le_of_ble_eq_true rfl) ?_
        obtain ⟨r24, h⟩ := bu_ia h
        refine bw_iast hN r24 dX0_readOrder_88 ?_
        refine bv_aload_n dX0_readOrder_89 0 rfl ?_
        obtain ⟨a25, e26, h⟩ := bu_bd h
        refine bw_getA (a := a25) hN q1 e26 dX0_readOrder_90 fl_0_34 rfl ?_
        refine bv_aload_n dX0_readOrder_93 0 rfl ?_
        refine bw_getI hN q1 dX0_readOrder_94 fl_0_65 rfl ?_
        obtain ⟨r27, h⟩ := bu_ia h
        refine bw_iald hN r27 dX0_readOrder_97 ?_
        refine bv_iconst (v := (-1)) dX0_readOrder_98 (by decide) ?_
        refine bv_icmp_ne (tgt := 104) dX0_readOrder_99 (by decide) (fun cc => ?_) (fun cc => ?_)
        · replace h := bu_f h cc
          refine bv_aload_n dX0_readOrder_104 0 rfl ?_
          refine bv_aload_n dX0_readOrder_105 0 rfl ?_
          obtain ⟨a28, e29, h⟩ := bu_bd h
          refine bw_getA (a := a28) hN q1 e29 dX0_readOrder_106 fl_0_31 rfl ?_
          refine bv_aload_n dX0_readOrder_109 0 rfl ?_
          refine bw_getI hN q1 dX0_readOrder_110 fl_0_65 rfl ?_
          obtain ⟨r30, h⟩ := bu_ia h
          refine bw_iald hN r30 dX0_readOrder_113 ?_
          refine bv_aload_n dX0_readOrder_114 0 rfl ?_
          refine bw_getA (a := a25) hN q1 e26 dX0_readOrder_115 fl_0_34 rfl ?_
          refine bv_aload_n dX0_readOrder_118 0 rfl ?_
          refine bw_getI hN q1 dX0_readOrder_119 fl_0_65 rfl ?_
          refine bw_iald hN r27 dX0_readOrder_122 ?_
          obtain ⟨v31, p32, h⟩ := bu_bd h
          refine bw_callV (As := [.int ((bm_sI v22.2 a20 ((bm_sI v14.2 a12 (v10.1 x0 13).toNatClampNeg v14.1).1 x0 13).toNatClampNeg v22.1).1 a28 ((bm_sI v22.2 a20 ((bm_sI v14.2 a12 (v10.1 x0 13).toNatClampNeg v14.1).1 x0 13).toNatClampNeg v22.1).1 x0 13).toNatClampNeg), .int ((bm_sI v22.2 a20 ((bm_sI v14.2 a12 (v10.1 x0 13).toNatClampNeg v14.1).1 x0 13).toNatClampNeg v22.1).1 a25 ((bm_sI v22.2 a20 ((bm_sI v14.2 a12 (v10.1 x0 13).toNatClampNeg v14.1).1 x0 13).toNatClampNeg v22.1).1 x0 13).toNatClampNeg)]) hN q1 ⟨_, _, rfl⟩ dX0_readOrder_123 mc_0_162 (c_X0_orderOf (d := d + 3) hN p32) rfl rfl (by decide) ?_
          refine bv_iconst (v := (-1)) dX0_readOrder_126 (by decide) ?_
          refine bv_icmp_eq (tgt := 136) dX0_readOrder_127 (by decide) (fun cc => ?_) (fun cc => ?_)
          · replace h := bu_t h cc
            refine bv_aload_n dX0_readOrder_136 0 rfl ?_
            refine bv_dup dX0_readOrder_137 rfl ?_
            refine bw_getI hN q1 dX0_readOrder_138 fl_0_65 rfl ?_
            refine bv_iconst (v := 1) dX0_readOrder_141 (by decide) ?_
            refine bv_iadd dX0_readOrder_142 ?_
            refine bw_putI hN q1 dX0_readOrder_143 fl_0_65 rfl ?_
            refine bv_aload_n dX0_readOrder_146 1 rfl ?_
            obtain ⟨v33, p34, h⟩ := bu_bd h
            refine bw_callVv (As := []) hN q2 ⟨_, _, rfl⟩ dX0_readOrder_147 mc_0_127 (c_X5_advance (d := d + 1) hN p34) rfl rfl (by decide) ?_
            refine bv_iconst (v := 1) dX0_readOrder_150 (by decide) ?_
            obtain rfl := Option.some.inj h
            exact bw_bret (b := true) dX0_readOrder_151 rfl ⟨rfl, rfl⟩
          · replace h := bu_f h cc
            refine bv_aload_n dX0_readOrder_130 1 rfl ?_
            refine bv_iconst (v := 3) dX0_readOrder_131 (by decide) ?_
            obtain ⟨v35, p36, h⟩ := bu_bd h
            refine bw_callV (As := [.int 3]) hN q2 ⟨_, _, rfl⟩ dX0_readOrder_132 mc_0_124 (c_X5_refuse (d := d + 3) hN p36) rfl rfl (by decide) ?_
            obtain rfl := Option.some.inj h
            exact bw_bret (b := v35.1) dX0_readOrder_135 rfl ⟨rfl, rfl⟩
        · replace h := bu_t h cc
          refine bv_iconst (v := 0) dX0_readOrder_102 (by decide) ?_
          obtain rfl := Option.some.inj h
          exact bw_bret (b := false) dX0_readOrder_103 rfl ⟨rfl, rfl⟩
      · replace h := bu_t h cc
        refine bv_iconst (v := 0) dX0_readOrder_73 (by decide) ?_
        obtain rfl := Option.some.inj h
        exact bw_bret (b := false) dX0_readOrder_74 rfl ⟨rfl, rfl⟩
    · replace h := bu_bf h cc
      refine bv_iconst (v := 0) dX0_readOrder_27 (by decide) ?_
      obtain rfl := Option.some.inj h
      exact bw_bret (b := false) dX0_readOrder_28 rfl ⟨rfl, rfl⟩
  · replace h := bu_f h cc
    refine bv_aload_n dX0_readOrder_9 1 rfl ?_
    refine bv_iconst (v := 4) dX0_readOrder_10 (by decide) ?_
    obtain ⟨q37, h⟩ := bu_io h
    obtain ⟨v38, p39, h⟩ := bu_bd h
    refine bw_callV (As := [.int 4]) hN q37 ⟨_, _, rfl⟩ dX0_readOrder_11 mc_0_124 (c_X5_refuse (d := d + 3) hN p39) rfl rfl (by decide) ?_
    obtain rfl := Option.some.inj h
    exact bw_bret (b := v38.1) dX0_readOrder_14 rfl ⟨rfl, rfl⟩
def f_X0_isUnder_l10 (M : bm_M) (x0 : Nat) (x2 : Int32) : Nat → Int32 → Int32 → Option (((Unit) ⊕ (Unit)))
  | 0, _, _ => none
  | k + 1, x3, x4 => (if 8 ≤ x4 then some (Sum.inr ()) else (if x3 = (-1) then some (Sum.inr ()) else (if x3 = x2 then some (Sum.inl ()) else ((M.2.2 x0 4).bind fun a1 => (if bm_ia a1 0 x3 = true then f_X0_isUnder_l10 M x0 x2 k (M.1 a1 x3.toNatClampNeg) (x4 + 1) else none)))))
set_option maxHeartbeats 4000000 in
set_option maxRecDepth 100000 in
theorem v_X0_isUnder_l10 {L : bm_L} {d n : Nat} {Q : Option Value → bm_M → Prop} {M : bm_M} {x0 : Nat} {x2 : Int32} (hN : 181 ≤ n) (q_0 : bm_OK x0 0) : ∀ (k : Nat) (x3 : Int32) (x4 : Int32) (r : ((Unit) ⊕ (Unit))), f_X0_isUnder_l10 M x0 x2 k x3 x4 = some r → (∀ yy, (Sum.inl yy) = r → bm_V L m_X0_isUnder d n n n 27 [] [] M Q) → (∀ yy, (Sum.inr yy) = r → bm_V L m_X0_isUnder d n n n 42 [] [] M Q) → bm_V L m_X0_isUnder d n n n 10 [(0, .ref x0), (2, .int x2), (3, .int x3), (4, .int x4)] [] M Q := by
  intro k
  induction k with
  | zero => intro x3 x4 r h; cases (show (none : Option (((Unit) ⊕ (Unit)))) = some r from h)
  | succ k ih =>
    intro x3 x4 r h K0 K1
    unfold f_X0_isUnder_l10 at h
    refine bv_iload dX0_isUnder_10 3 rfl ?_
    refine bv_bipush (v := 8) dX0_isUnder_12 (by decide) ?_
    refine bv_icmp_ge (tgt := 42) dX0_isUnder_14 (by decide) (fun cc => ?_) (fun cc => ?_)
    · replace h := bu_t h cc
      refine bw_ls (ls1 := []) [] rfl ?_
      obtain rfl := Option.some.inj h
      exact K1 _ rfl
    · replace h := bu_f h cc
      refine bv_iload_n dX0_isUnder_17 2 rfl ?_
      refine bv_iconst (v := (-1)) dX0_isUnder_18 (by decide) ?_
      refine bv_icmp_eq (tgt := 42) dX0_isUnder_19 (by decide) (fun cc => ?_) (fun cc => ?_)
      · replace h := bu_t h cc
        refine bw_ls (ls1 := []) [] rfl ?_
        obtain rfl := Option.some.inj h
        exact K1 _ rfl
      · replace h := bu_f h cc
        refine bv_iload_n dX0_isUnder_22 2 rfl ?_
        refine bv_iload_n dX0_isUnder_23 1 rfl ?_
        refine bv_icmp_ne (tgt := 29) dX0_isUnder_24 (by decide) (fun cc => ?_) (fun cc => ?_)
        · replace h := bu_f h cc
          refine bv_aload_n dX0_isUnder_29 0 rfl ?_
          obtain ⟨a1, e2, h⟩ := bu_bd h
          refine bw_getA (a := a1) hN q_0 e2 dX0_isUnder_30 fl_0_25 rfl ?_
          refine bv_iload_n dX0_isUnder_33 2 rfl ?_
          obtain ⟨r3, h⟩ := bu_ia h
          refine bw_iald hN r3 dX0_isUnder_34 ?_
          refine bv_istore_n (ls1 := [(0, .ref x0), (2, .int x2), (3, .int (M.1 a1 x3.toNatClampNeg)), (4, .int x4)]) dX0_isUnder_35 (by decide) rfl rfl ?_
          refine bv_iinc (j := 3) (v := (x4 + 1)) (ls1 := [(0, .ref x0), (2, .int x2), (3, .int (M.1 a1 x3.toNatClampNeg)), (4, .int (x4 + 1))]) dX0_isUnder_36 rfl rfl (by decide) rfl rfl ?_
          refine bv_goto (tgt := 10) dX0_isUnder_39 (by decide) ?_
          exact ih _ _ _ h K0 K1
        · replace h := bu_t h cc
          refine bw_ls (ls1 := []) [] rfl ?_
          obtain rfl := Option.some.inj h
          exact K0 _ rfl
def f_X0_isUnder (M : bm_M) (x0 : Nat) (x1 : Int32) (x2 : Int32) : Option (Bool) := (if bm_io x0 0 then ((M.2.2 x0 4).bind fun a2 => (if bm_ia a2 0 x1 = true then ((f_X0_isUnder_l10 M x0 x2 1000 (M.1 a2 x1.toNatClampNeg) 0).bind fun rr => match rr with | (Sum.inl y7) => some true | (Sum.inr y7) => some false) else none)) else none)
set_option maxHeartbeats 4000000 in
set_option maxRecDepth 100000 in
theorem c_X0_isUnder {L : bm_L} {d n : Nat} {M : bm_M} {x0 : Nat} {x1 : Int32} {x2 : Int32} {v : Bool} (hN : 181 ≤ n) (h : f_X0_isUnder M x0 x1 x2 = some v) : bm_C L m_X0_isUnder d n n [.ref x0, .int x1, .int x2] M (fun r M' => r = some (.int (bm_bi v)) ∧ M' = M) := by
  refine bm_C.ofV (by decide) (Nat.le_of_ble_eq_true rfl) ?_
  show bm_V L m_X0_isUnder d n n n 0 [(0, .ref x0), (1, .int x1), (2, .int x2)] [] M _
  unfold f_X0_isUnder at h
  refine bv_aload_n dX0_isUnder_0 0 rfl ?_
  obtain ⟨q1, h⟩ := bu_io h
  obtain ⟨a2, e3, h⟩ := bu_bd h
  refine bw_getA (a := a2) hN q1 e3 dX0_isUnder_1 fl_0_25 rfl ?_
  refine bv_iload_n dX0_isUnder_4 1 rfl ?_
  obtain ⟨r4, h⟩ := bu_ia h
  refine bw_iald hN r4 dX0_isUnder_5 ?_
  refine bv_istore_n (ls1 := [(0, .ref x0), (1, .int x1), (2, .int x2), (3, .int (M.1 a2 x1.toNatClampNeg))]) dX0_isUnder_6 (by decide) rfl rfl ?_
  refine bv_iconst (v := 0) dX0_isUnder_7 (by decide) ?_
  refine bv_istore (ls1 := [(0, .ref x0), (1, .int x1), (2, .int x2), (3, .int (M.1 a2 x1.toNatClampNeg)), (4, .int 0)]) dX0_isUnder_8 (by decide) rfl rfl ?_
  refine bw_ls (ls1 := [(0, .ref x0), (2, .int x2), (3, .int (M.1 a2 x1.toNatClampNeg)), (4, .int 0)]) [0, 2, 3, 4] rfl ?_
  obtain ⟨r5, p6, h⟩ := bu_bd h
  refine v_X0_isUnder_l10 hN q1 1000 _ _ _ p6 (fun y7 hy => ?_) (fun y7 hy => ?_)
  · subst hy
    refine bv_iconst (v := 1) dX0_isUnder_27 (by decide) ?_
    obtain rfl := Option.some.inj h
    exact bw_bret (b := true) dX0_isUnder_28 rfl ⟨rfl, rfl⟩
  · subst hy
    refine bv_iconst (v := 0) dX0_isUnder_42 (by decide) ?_
    obtain rfl := Option.some.inj h
    exact bw_bret (b := false) dX0_isUnder_43 rfl ⟨rfl, rfl⟩
def f_X5_manHere (M : bm_M) (x0 : Nat) (x1 : Nat) : Option (Int32 × bm_M) := (if bm_io x0 5 then (if (M.1 x0 3) = 5 then (if bm_io x1 0 then ((f_X0_manNamed M x1 (M.2.1 x0 7)).bind fun v3 => (if v3 = (-1) then ((f_X5_refuseNumber M x0 3).bind fun v5 => some (v5.1, v5.2)) else some (v3, M))) else none) else ((f_X5_refuseNumber M x0 1).bind fun v7 => some (v7.1, v7.2))) else none)
set_option maxHeartbeats 4000000 in
set_option maxRecDepth 100000 in
theorem c_X5_manHere {L : bm_L} {d n : Nat} {M : bm_M} {x0 : Nat} {x1 : Nat} {v : Int32 × bm_M} (hN : 181 ≤ n) (h : f_X5_manHere M x0 x1 = some v) : bm_C L m_X5_manHere (d + 1) n n [.ref x0, .ref x1] M (fun r M' => r = some (.int v.1) ∧ M' = v.2) := by
  refine bm_C.ofV (by decide) (Nat.le_of_ble_eq_true rfl) ?_
  show bm_V L m_X5_manHere (d + 1) n n n 0 [(0, .ref x0), (1, .ref x1)] [] M _
  unfold f_X5_manHere at h
  refine bv_aload_n dX5_manHere_0 0 rfl ?_
  obtain ⟨q1, h⟩ := bu_io h
  refine bw_getI hN q1 dX5_manHere_1 fl_5_54 rfl ?_
  refine bv_iconst (v := 5) dX5_manHere_4 (by decide) ?_
  refine bv_icmp_eq (tgt := 14) dX5_manHere_5 (by decide) (fun cc => ?_) (fun cc => ?_)
  · replace h := bu_t h cc
    refine bv_aload_n dX5_manHere_14 1 rfl ?_
    refine bv_aload_n dX5_manHere_15 0 rfl ?_
    refine bw_getL hN q1 dX5_manHere_16 fl_5_66 rfl ?_
    obtain ⟨q2, h⟩ := bu_io h
    obtain ⟨v3, p4, h⟩ := bu_bd h
    refine bw_callV (As := [.long (M.2.1 x0 7)]) hN q2 ⟨_, _, rfl⟩ dX5_manHere_19 mc_5_101 (c_X0_manNamed (d := d + 0) hN p4) rfl rfl (by decide) ?_
    refine bv_istore_n (ls1 := [(0, .ref x0), (1, .ref x1), (2, .int v3)]) dX5_manHere_22 (by decide) rfl rfl ?_
    refine bv_iload_n dX5_manHere_23 2 rfl ?_
    refine bv_iconst (v := (-1)) dX5_manHere_24 (by decide) ?_
    refine bv_icmp_ne (tgt := 36) dX5_manHere_25 (by decide) (fun cc => ?_) (fun cc => ?_)
    · replace h := bu_f h cc
      refine bv_iload_n dX5_manHere_36 2 rfl ?_
      obtain rfl := Option.some.inj h
      exact bv_iret (x := v3) dX5_manHere_37 rfl ⟨rfl, rfl⟩
    · replace h := bu_t h cc
      refine bv_aload_n dX5_manHere_28 0 rfl ?_
      refine bv_iconst (v := 3) dX5_manHere_29 (by decide) ?_
      obtain ⟨v5, p6, h⟩ := bu_bd h
      refine bw_callV (As := [.int 3]) hN q1 ⟨_, _, rfl⟩ dX5_manHere_30 mc_5_86 (c_X5_refuseNumber (d := d + 0) hN p6) rfl rfl (by decide) ?_
      refine bv_goto (tgt := 37) dX5_manHere_33 (by decide) ?_
      obtain rfl := Option.some.inj h
      exact bv_iret (x := v5.1) dX5_manHere_37 rfl ⟨rfl, rfl⟩
  · replace h := bu_f h cc
    refine bv_aload_n dX5_manHere_8 0 rfl ?_
    refine bv_iconst (v := 1) dX5_manHere_9 (by decide) ?_
    obtain ⟨v7, p8, h⟩ := bu_bd h
    refine bw_callV (As := [.int 1]) hN q1 ⟨_, _, rfl⟩ dX5_manHere_10 mc_5_86 (c_X5_refuseNumber (d := d + 0) hN p8) rfl rfl (by decide) ?_
    obtain rfl := Option.some.inj h
    exact bv_iret (x := v7.1) dX5_manHere_13 rfl ⟨rfl, rfl⟩
def f_X0_readUnder (M : bm_M) (x0 : Nat) (x1 : Nat) : Option (Bool × bm_M) := (if bm_io x1 5 then ((f_X5_advance M x1).bind fun v2 => ((f_X5_manHere v2 x1 x0).bind fun v4 => (if v4.1 = (-1) then some (false, v4.2) else (if bm_io x0 0 then ((v4.2.2.2 x0 4).bind fun a7 => (if bm_ia a7 0 v4.1 = true then (if (v4.2.1 a7 v4.1.toNatClampNeg) = (-1) then ((f_X5_advance v4.2 x1).bind fun v10 => ((f_X5_manHere v10 x1 x0).bind fun v12 => (if v12.1 = (-1) then some (false, v12.2) else (if v12.1 = v4.1 then ((f_X5_refuse v12.2 x1 3).bind fun v14 => some (v14.1, v14.2)) else ((f_X0_isUnder v12.2 x0 v12.1 v4.1).bind fun v16 => (if v16 = true then ((f_X5_refuse v12.2 x1 3).bind fun v23 => some (v23.1, v23.2)) else ((v12.2.2.2 x0 4).bind fun a18 => (if bm_ia a18 0 v4.1 = true then ((f_X5_advance (bm_sI v12.2 a18 v4.1.toNatClampNeg v12.1) x1).bind fun v21 => some (true, v21)) else none)))))))) else ((f_X5_refuse v4.2 x1 3).bind fun v25 => some (v25.1, v25.2))) else none)) else none)))) else none)
set_option maxHeartbeats 4000000 in
set_option maxRecDepth 100000 in
theorem c_X0_readUnder {L : bm_L} {d n : Nat} {M : bm_M} {x0 : Nat} {x1 : Nat} {v : Bool × bm_M} (hN : 181 ≤ n) (h : f_X0_readUnder M x0 x1 = some v) : bm_C L m_X0_readUnder (d + 3) n n [.ref x0, .ref x1] M (fun r M' => r = some (.int (bm_bi v.1)) ∧ M' = v.2) := by
  refine bm_C.ofV (by decide) (Nat.le_of_ble_eq_true rfl) ?_
  show bm_V L m_X0_readUnder (d + 3) n n n 0 [(0, .ref x0), (1, .ref x1)] [] M _
  unfold f_X0_readUnder at h
  refine bv_aload_n dX0_readUnder_0 1 rfl ?_
  obtain ⟨q1, h⟩ := bu_io h
  obtain ⟨v2, p3, h⟩ := bu_bd h
  refine bw_callVv (As := []) hN q1 ⟨_, _, rfl⟩ dX0_readUnder_1 mc_0_127 (c_X5_advance (d := d + 0) hN p3) rfl rfl (by decide) ?_
  refine bv_aload_n dX0_readUnder_4 1 rfl ?_
  refine bv_aload_n dX0_readUnder_5 0 rfl ?_
  obtain ⟨v4, p5, h⟩ := bu_bd h
  refine bw_callV (As := [.ref x0]) hN q1 ⟨_, _, rfl⟩ dX0_readUnder_6 mc_0_147 (c_X5_manHere (d := d + 1) hN p5) rfl rfl (by decide) ?_
  refine bv_istore_n (ls1 := [(0, .ref x0), (1, .ref x1), (2, .int v4.1)]) dX0_readUnder_9 (by decide) rfl rfl ?_
  refine bv_iload_n dX0_readUnder_10 2 rfl ?_
  refine bv_iconst (v := (-1)) dX0_readUnder_11 (by decide) ?_
  refine bv_icmp_ne (tgt := 17) dX0_readUnder_12 (by decide) (fun cc => ?_) (fun cc => ?_)
  · replace h := bu_f h cc
    refine bv_aload_n dX0_readUnder_17 0 rfl ?_
    obtain ⟨q6, h⟩ := bu_io h
    obtain ⟨a7, e8, h⟩ := bu_bd h
    refine bw_getA (a := a7) hN q6 e8 dX0_readUnder_18 fl_0_25 rfl ?_
    refine bv_iload_n dX0_readUnder_21 2 rfl ?_
    obtain ⟨r9, h⟩ := bu_ia h
    refine bw_iald hN r9 dX0_readUnder_22 ?_
    refine bv_iconst (v := (-1)) dX0_readUnder_23 (by decide) ?_
    refine bv_icmp_eq (tgt := 33) dX0_readUnder_24 (by decide) (fun cc => ?_) (fun cc => ?_)
    · replace h := bu_t h cc
      refine bv_aload_n dX0_readUnder_33 1 rfl ?_
      obtain ⟨v10, p11, h⟩ := bu_bd h
      refine bw_callVv (As := []) hN q1 ⟨_, _, rfl⟩ dX0_readUnder_34 mc_0_127 (c_X5_advance (d := d + 0) hN p11) rfl rfl (by decide) ?_
      refine bv_aload_n dX0_readUnder_37 1 rfl ?_
      refine bv_aload_n dX0_readUnder_38 0 rfl ?_
      obtain ⟨v12, p13, h⟩ := bu_bd h
      refine bw_callV (As := [.ref x0]) hN q1 ⟨_, _, rfl⟩ dX0_readUnder_39 mc_0_147 (c_X5_manHere (d := d + 1) hN p13) rfl rfl (by decide) ?_
      refine bv_istore_n (ls1 := [(0, .ref x0), (1, .ref x1), (2, .int v4.1), (3, .int v12.1)]) dX0_readUnder_42 (by decide) rfl rfl ?_
      refine bv_iload_n dX0_readUnder_43 3 rfl ?_
      refine bv_iconst (v := (-1)) dX0_readUnder_44 (by decide) ?_
      refine bv_icmp_ne (tgt := 50) dX0_readUnder_45 (by decide) (fun cc => ?_) (fun cc => ?_)
      · replace h := bu_f h cc
        refine bv_iload_n dX0_readUnder_50 3 rfl ?_
        refine bv_iload_n dX0_readUnder_51 2 rfl ?_
        refine bv_icmp_eq (tgt := 64) dX0_readUnder_52 (by decide) (fun cc => ?_) (fun cc => ?_)
        · replace h := bu_t h cc
          refine bv_aload_n dX0_readUnder_64 1 rfl ?_
          refine bv_iconst (v := 3) dX0_readUnder_65 (by decide) ?_
          obtain ⟨v14, p15, h⟩ := bu_bd h
          refine bw_callV (As := [.int 3]) hN q1 ⟨_, _, rfl⟩ dX0_readUnder_66 mc_0_124 (c_X5_refuse (d := d + 2) hN p15) rfl rfl (by decide) ?_
          obtain rfl := Option.some.inj h
          exact bw_bret (b := v14.1) dX0_readUnder_69 rfl ⟨rfl, rfl⟩
        · replace h := bu_f h cc
          refine bv_aload_n dX0_readUnder_55 0 rfl ?_
          refine bv_iload_n dX0_readUnder_56 3 rfl ?_
          refine bv_iload_n dX0_readUnder_57 2 rfl ?_
          obtain ⟨v16, p17, h⟩ := bu_bd h
          refine bw_callV (As := [.int v12.1, .int v4.1]) hN q6 ⟨_, _, rfl⟩ dX0_readUnder_58 mc_0_151 (c_X0_isUnder (d := d + 2) hN p17) rfl rfl (by decide) ?_
          refine bw_ifB_eq (b := v16) (tgt := 70) dX0_readUnder_61 (by decide) (fun cc => ?_) (fun cc => ?_)
          · replace h := bu_bf h cc
            refine bv_aload_n dX0_readUnder_70 0 rfl ?_
            obtain ⟨a18, e19, h⟩ := bu_bd h
            refine bw_getA (a := a18) hN q6 e19 dX0_readUnder_71 fl_0_25 rfl ?_
            refine bv_iload_n dX0_readUnder_74 2 rfl ?_
            refine bv_iload_n dX0_readUnder_75 3 rfl ?_
            obtain ⟨r20, h⟩ := bu_ia h
            refine bw_iast hN r20 dX0_readUnder_76 ?_
            refine bv_aload_n dX0_readUnder_77 1 rfl ?_
            obtain ⟨v21, p22, h⟩ := bu_bd h
            refine bw_callVv (As := []) hN q1 ⟨_, _, rfl⟩ dX0_readUnder_78 mc_0_127 (c_X5_advance (d := d + 0) hN p22) rfl rfl (by decide) ?_
            refine bv_iconst (v := 1) dX0_readUnder_81 (by decide) ?_
            obtain rfl := Option.some.inj h
            exact bw_bret (b := true) dX0_readUnder_82 rfl ⟨rfl, rfl⟩
          · replace h := bu_bt h cc
            refine bv_aload_n dX0_readUnder_64 1 rfl ?_
            refine bv_iconst (v := 3) dX0_readUnder_65 (by decide) ?_
            obtain ⟨v23, p24, h⟩ := bu_bd h
            refine bw_callV (As := [.int 3]) hN q1 ⟨_, _, rfl⟩ dX0_readUnder_66 mc_0_124 (c_X5_refuse (d := d + 2) hN p24) rfl rfl (by decide) ?_
            obtain rfl := Option.some.inj h
            exact bw_bret (b := v23.1) dX0_readUnder_69 rfl ⟨rfl, rfl⟩
      · replace h := bu_t h cc
        refine bv_iconst (v := 0) dX0_readUnder_48 (by decide) ?_
        obtain rfl := Option.some.inj h
        exact bw_bret (b := false) dX0_readUnder_49 rfl ⟨rfl, rfl⟩
    · replace h := bu_f h cc
      refine bv_aload_n dX0_readUnder_27 1 rfl ?_
      refine bv_iconst (v := 3) dX0_readUnder_28 (by decide) ?_
      obtain ⟨v25, p26, h⟩ := bu_bd h
      refine bw_callV (As := [.int 3]) hN q1 ⟨_, _, rfl⟩ dX0_readUnder_29 mc_0_124 (c_X5_refuse (d := d + 2) hN p26) rfl rfl (by decide) ?_
      obtain rfl := Option.some.inj h
      exact bw_bret (b := v25.1) dX0_readUnder_32 rfl ⟨rfl, rfl⟩
  · replace h := bu_t h cc
    refine bv_iconst (v := 0) dX0_readUnder_15 (by decide) ?_
    obtain rfl := Option.some.inj h
    exact bw_bret (b := false) dX0_readUnder_16 rfl ⟨rfl, rfl⟩
def f_X0_readLine (M : bm_M) (x0 : Nat) (x1 : Nat) : Option (Bool × bm_M) := (if bm_io x1 5 then (if bm_iwq (M.2.2 x1 8) = true then (if (M.2.2 x1 8) = (some (1000 + 0)) then (if bm_io x0 0 then ((f_X0_readMan M x0 x1).bind fun v21 => some (v21.1, v21.2)) else none) else (if (M.2.2 x1 8) = (some (1000 + 27)) then (if bm_io x0 0 then ((f_X0_readUnder M x0 x1).bind fun v18 => some (v18.1, v18.2)) else none) else (if (M.2.2 x1 8) = (some (1000 + 1)) then (if bm_io x0 0 then ((f_X0_readOrder M x0 x1).bind fun v15 => some (v15.1, v15.2)) else none) else (if (M.2.2 x1 8) = (some (1000 + 2)) then (if bm_io x0 0 then ((f_X0_readFoe M x0 x1).bind fun v12 => some (v12.1, v12.2)) else none) else (if (M.2.2 x1 8) = (some (1000 + 3)) then (if bm_io x0 0 then ((f_X0_readOnce M x1 (M.1 x0 15) 5).bind fun v9 => (if ((bm_sI v9.2 x0 15 v9.1).1 x0 15) = (-1) then some (false, (bm_sI v9.2 x0 15 v9.1)) else some (true, (bm_sI v9.2 x0 15 v9.1)))) else none) else (if (M.2.2 x1 8) = (some (1000 + 4)) then (if bm_io x0 0 then ((f_X0_readOnce M x1 (M.1 x0 16) 30).bind fun v6 => (if ((bm_sI v6.2 x0 16 v6.1).1 x0 16) = (-1) then some (false, (bm_sI v6.2 x0 16 v6.1)) else some (true, (bm_sI v6.2 x0 16 v6.1)))) else none) else ((f_X5_refuse M x1 1).bind fun v3 => some (v3.1, v3.2)))))))) else none) else none)
set_option maxHeartbeats 4000000 in
set_option maxRecDepth 100000 in
theorem c_X0_readLine {L : bm_L} {d n : Nat} {M : bm_M} {x0 : Nat} {x1 : Nat} {v : Bool × bm_M} (hN : 181 ≤ n) (h : f_X0_readLine M x0 x1 = some v) : bm_C L m_X0_readLine (d + 5) n n [.ref x0, .ref x1] M (fun r M' => r = some (.int (bm_bi v.1)) ∧ M' = v.2) := by
  refine bm_C.ofV (by decide) (Nat.le_of_ble_eq_true rfl) ?_
  show bm_V L m_X0_readLine (d + 5) n n n 0 [(0, .ref x0), (1, .ref x1)] [] M _
  unfold f_X0_readLine at h
  refine bv_aload_n dX0_readLine_0 1 rfl ?_
  obtain ⟨q1, h⟩ := bu_io h
  refine bw_getR hN q1 dX0_readLine_1 fl_0_84 rfl ?_
  refine bv_astoreq_n (x := (M.2.2 x1 8)) (ls1 := [(0, .ref x0), (1, .ref x1), (2, va_rf (M.2.2 x1 8))]) dX0_readLine_4 (by decide) rfl rfl ?_
  refine bv_aloadq_n (x := (M.2.2 x1 8)) dX0_readLine_5 2 rfl ?_
  refine bw_getW (j := 0) dX0_readLine_6 fw_0_88 rfl ?_
  obtain ⟨w2, h⟩ := bu_g h
  refine bv_acmp_ne (x := (M.2.2 x1 8)) (y := (some (1000 + 0))) (tgt := 18) dX0_readLine_9 (by decide) (bm_wq_of w2) (bm_wq_of rfl) (fun cc => ?_) (fun cc => ?_)
  · replace h := bu_f h cc
    refine bv_aloadq_n (x := (M.2.2 x1 8)) dX0_readLine_18 2 rfl ?_
    refine bw_getW (j := 27) dX0_readLine_19 fw_0_96 rfl ?_
    refine bv_acmp_ne (x := (M.2.2 x1 8)) (y := (some (1000 + 27))) (tgt := 31) dX0_readLine_22 (by decide) (bm_wq_of w2) (bm_wq_of rfl) (fun cc => ?_) (fun cc => ?_)
    · replace h := bu_f h cc
      refine bv_aloadq_n (x := (M.2.2 x1 8)) dX0_readLine_31 2 rfl ?_
      refine bw_getW (j := 1) dX0_readLine_32 fw_0_102 rfl ?_
      refine bv_acmp_ne (x := (M.2.2 x1 8)) (y := (some (1000 + 1))) (tgt := 44) dX0_readLine_35 (by decide) (bm_wq_of w2) (bm_wq_of rfl) (fun cc => ?_) (fun cc => ?_)
      · replace h := bu_f h cc
        refine bv_aloadq_n (x := (M.2.2 x1 8)) dX0_readLine_44 2 rfl ?_
        refine bw_getW (j := 2) dX0_readLine_45 fw_0_108 rfl ?_
        refine bv_acmp_ne (x := (M.2.2 x1 8)) (y := (some (1000 + 2))) (tgt := 57) dX0_readLine_48 (by decide) (bm_wq_of w2) (bm_wq_of rfl) (fun cc => ?_) (fun cc => ?_)
        · replace h := bu_f h cc
          refine bv_aloadq_n (x := (M.2.2 x1 8)) dX0_readLine_57 2 rfl ?_
          refine bw_getW (j := 3) dX0_readLine_58 fw_0_114 rfl ?_
          refine bv_acmp_ne (x := (M.2.2 x1 8)) (y := (some (1000 + 3))) (tgt := 91) dX0_readLine_61 (by decide) (bm_wq_of w2) (bm_wq_of rfl) (fun cc => ?_) (fun cc => ?_)
          · replace h := bu_f h cc
            refine bv_aloadq_n (x := (M.2.2 x1 8)) dX0_readLine_91 2 rfl ?_
            refine bw_getW (j := 4) dX0_readLine_92 fw_0_121 rfl ?_
            refine bv_acmp_ne (x := (M.2.2 x1 8)) (y := (some (1000 + 4))) (tgt := 126) dX0_readLine_95 (by decide) (bm_wq_of w2) (bm_wq_of rfl) (fun cc => ?_) (fun cc => ?_)
            · replace h := bu_f h cc
              refine bv_aload_n dX0_readLine_126 1 rfl ?_
              refine bv_iconst (v := 1) dX0_readLine_127 (by decide) ?_
              obtain ⟨v3, p4, h⟩ := bu_bd h
              refine bw_callV (As := [.int 1]) hN q1 ⟨_, _, rfl⟩ dX0_readLine_128 mc_0_124 (c_X5_refuse (d := d + 4) hN p4) rfl rfl (by decide) ?_
              obtain rfl := Option.some.inj h
              exact bw_bret (b := v3.1) dX0_readLine_131 rfl ⟨rfl, rfl⟩
            · replace h := bu_t h cc
              refine bv_aload_n dX0_readLine_98 0 rfl ?_
              refine bv_aload_n dX0_readLine_99 1 rfl ?_
              refine bv_aload_n dX0_readLine_100 0 rfl ?_
              obtain ⟨q5, h⟩ := bu_io h
              refine bw_getI hN q5 dX0_readLine_101 fl_0_47 rfl ?_
              refine bv_bipush (v := 30) dX0_readLine_104 (by decide) ?_
              obtain ⟨v6, p7, h⟩ := bu_bd h
              refine bw_callS (As := [.ref x1, .int (M.1 x0 16), .int 30]) dX0_readLine_106 mc_0_117 (c_X0_readOnce (d := d + 0) hN p7) rfl rfl (Nat.le_of_ble_eq_true rfl) ?_
              refine bw_putI hN q5 dX0_readLine_109 fl_0_47 rfl ?_
              refine bv_aload_n dX0_readLine_112 0 rfl ?_
              refine bw_getI hN q5 dX0_readLine_113 fl_0_47 rfl ?_
              refine bv_iconst (v := (-1)) dX0_readLine_116 (by decide) ?_
              refine bv_icmp_eq (tgt := 124) dX0_readLine_117 (by decide) (fun cc => ?_) (fun cc => ?_)
              · replace h := bu_t h cc
                refine bv_iconst (v := 0) dX0_readLine_124 (by decide) ?_
                obtain rfl := Option.some.inj h
                exact bw_bret (b := false) dX0_readLine_125 rfl ⟨rfl, rfl⟩
              · replace h := bu_f h cc
                refine bv_iconst (v := 1) dX0_readLine_120 (by decide) ?_
                refine bv_goto (tgt := 125) dX0_readLine_121 (by decide) ?_
                obtain rfl := Option.some.inj h
                exact bw_bret (b := true) dX0_readLine_125 rfl ⟨rfl, rfl⟩
          · replace h := bu_t h cc
            refine bv_aload_n dX0_readLine_64 0 rfl ?_
            refine bv_aload_n dX0_readLine_65 1 rfl ?_
            refine bv_aload_n dX0_readLine_66 0 rfl ?_
            obtain ⟨q8, h⟩ := bu_io h
            refine bw_getI hN q8 dX0_readLine_67 fl_0_43 rfl ?_
            refine bv_iconst (v := 5) dX0_readLine_70 (by decide) ?_
            obtain ⟨v9, p10, h⟩ := bu_bd h
            refine bw_callS (As := [.ref x1, .int (M.1 x0 15), .int 5]) dX0_readLine_71 mc_0_117 (c_X0_readOnce (d := d + 0) hN p10) rfl rfl (Nat.le_of_ble_eq_true rfl) ?_
            refine bw_putI hN q8 dX0_readLine_74 fl_0_43 rfl ?_
            refine bv_aload_n dX0_readLine_77 0 rfl ?_
            refine bw_getI hN q8 dX0_readLine_78 fl_0_43 rfl ?_
            refine bv_iconst (v := (-1)) dX0_readLine_81 (by decide) ?_
            refine bv_icmp_eq (tgt := 89) dX0_readLine_82 (by decide) (fun cc => ?_) (fun cc => ?_)
            · replace h := bu_t h cc
              refine bv_iconst (v := 0) dX0_readLine_89 (by decide) ?_
              obtain rfl := Option.some.inj h
              exact bw_bret (b := false) dX0_readLine_90 rfl ⟨rfl, rfl⟩
            · replace h := bu_f h cc
              refine bv_iconst (v := 1) dX0_readLine_85 (by decide) ?_
              refine bv_goto (tgt := 90) dX0_readLine_86 (by decide) ?_
              obtain rfl := Option.some.inj h
              exact bw_bret (b := true) dX0_readLine_90 rfl ⟨rfl, rfl⟩
        · replace h := bu_t h cc
          refine bv_aload_n dX0_readLine_51 0 rfl ?_
          refine bv_aload_n dX0_readLine_52 1 rfl ?_
          obtain ⟨q11, h⟩ := bu_io h
          obtain ⟨v12, p13, h⟩ := bu_bd h
          refine bw_callV (As := [.ref x1]) hN q11 ⟨_, _, rfl⟩ dX0_readLine_53 mc_0_111 (c_X0_readFoe (d := d + 0) hN p13) rfl rfl (by decide) ?_
          obtain rfl := Option.some.inj h
          exact bw_bret (b := v12.1) dX0_readLine_56 rfl ⟨rfl, rfl⟩
      · replace h := bu_t h cc
        refine bv_aload_n dX0_readLine_38 0 rfl ?_
        refine bv_aload_n dX0_readLine_39 1 rfl ?_
        obtain ⟨q14, h⟩ := bu_io h
        obtain ⟨v15, p16, h⟩ := bu_bd h
        refine bw_callV (As := [.ref x1]) hN q14 ⟨_, _, rfl⟩ dX0_readLine_40 mc_0_105 (c_X0_readOrder (d := d + 0) hN p16) rfl rfl (by decide) ?_
        obtain rfl := Option.some.inj h
        exact bw_bret (b := v15.1) dX0_readLine_43 rfl ⟨rfl, rfl⟩
    · replace h := bu_t h cc
      refine bv_aload_n dX0_readLine_25 0 rfl ?_
      refine bv_aload_n dX0_readLine_26 1 rfl ?_
      obtain ⟨q17, h⟩ := bu_io h
      obtain ⟨v18, p19, h⟩ := bu_bd h
      refine bw_callV (As := [.ref x1]) hN q17 ⟨_, _, rfl⟩ dX0_readLine_27 mc_0_99 (c_X0_readUnder (d := d + 1) hN p19) rfl rfl (by decide) ?_
      obtain rfl := Option.some.inj h
      exact bw_bret (b := v18.1) dX0_readLine_30 rfl ⟨rfl, rfl⟩
  · replace h := bu_t h cc
    refine bv_aload_n dX0_readLine_12 0 rfl ?_
    refine bv_aload_n dX0_readLine_13 1 rfl ?_
    obtain ⟨q20, h⟩ := bu_io h
    obtain ⟨v21, p22, h⟩ := bu_bd h
    refine bw_callV (As := [.ref x1]) hN q20 ⟨_, _, rfl⟩ dX0_readLine_14 mc_0_93 (c_X0_readMan (d := d + 0) hN p22) rfl rfl (by decide) ?_
    obtain rfl := Option.some.inj h
    exact bw_bret (b := v21.1) dX0_readLine_17 rfl ⟨rfl, rfl⟩
def f_X5_takeSign (M : bm_M) (x0 : Nat) (x1 : Int32) : Option (Bool × bm_M) := (if bm_io x0 5 then (if (M.1 x0 3) = 2 then (if (M.1 x0 6) = x1 then ((f_X5_advance M x0).bind fun v4 => some (true, v4)) else ((f_X5_refuse M x0 1).bind fun v6 => some (v6.1, v6.2))) else ((f_X5_refuse M x0 1).bind fun v2 => some (v2.1, v2.2))) else none)
set_option maxHeartbeats 4000000 in
set_option maxRecDepth 100000 in
theorem c_X5_takeSign {L : bm_L} {d n : Nat} {M : bm_M} {x0 : Nat} {x1 : Int32} {v : Bool × bm_M} (hN : 181 ≤ n) (h : f_X5_takeSign M x0 x1 = some v) : bm_C L m_X5_takeSign (d + 3) n n [.ref x0, .int x1] M (fun r M' => r = some (.int (bm_bi v.1)) ∧ M' = v.2) := by
  refine bm_C.ofV (by decide) (Nat.le_of_ble_eq_true rfl) ?_
  show bm_V L m_X5_takeSign (d + 3) n n n 0 [(0, .ref x0), (1, .int x1)] [] M _
  unfold f_X5_takeSign at h
  refine bv_aload_n dX5_takeSign_0 0 rfl ?_
  obtain ⟨q1, h⟩ := bu_io h
  refine bw_getI hN q1 dX5_takeSign_1 fl_5_54 rfl ?_
  refine bv_iconst (v := 2) dX5_takeSign_4 (by decide) ?_
  refine bv_icmp_ne (tgt := 16) dX5_takeSign_5 (by decide) (fun cc => ?_) (fun cc => ?_)
  · replace h := bu_f h cc
    refine bv_aload_n dX5_takeSign_16 0 rfl ?_
    refine bv_iconst (v := 1) dX5_takeSign_17 (by decide) ?_
    obtain ⟨v2, p3, h⟩ := bu_bd h
    refine bw_callV (As := [.int 1]) hN q1 ⟨_, _, rfl⟩ dX5_takeSign_18 mc_5_83 (c_X5_refuse (d := d + 2) hN p3) rfl rfl (by decide) ?_
    obtain rfl := Option.some.inj h
    exact bw_bret (b := v2.1) dX5_takeSign_21 rfl ⟨rfl, rfl⟩
  · replace h := bu_t h cc
    refine bv_aload_n dX5_takeSign_8 0 rfl ?_
    refine bw_getI hN q1 dX5_takeSign_9 fl_5_48 rfl ?_
    refine bv_iload_n dX5_takeSign_12 1 rfl ?_
    refine bv_icmp_eq (tgt := 22) dX5_takeSign_13 (by decide) (fun cc => ?_) (fun cc => ?_)
    · replace h := bu_t h cc
      refine bv_aload_n dX5_takeSign_22 0 rfl ?_
      obtain ⟨v4, p5, h⟩ := bu_bd h
      refine bw_callVv (As := []) hN q1 ⟨_, _, rfl⟩ dX5_takeSign_23 mc_5_28 (c_X5_advance (d := d + 0) hN p5) rfl rfl (by decide) ?_
      refine bv_iconst (v := 1) dX5_takeSign_26 (by decide) ?_
      obtain rfl := Option.some.inj h
      exact bw_bret (b := true) dX5_takeSign_27 rfl ⟨rfl, rfl⟩
    · replace h := bu_f h cc
      refine bv_aload_n dX5_takeSign_16 0 rfl ?_
      refine bv_iconst (v := 1) dX5_takeSign_17 (by decide) ?_
      obtain ⟨v6, p7, h⟩ := bu_bd h
      refine bw_callV (As := [.int 1]) hN q1 ⟨_, _, rfl⟩ dX5_takeSign_18 mc_5_83 (c_X5_refuse (d := d + 2) hN p7) rfl rfl (by decide) ?_
      obtain rfl := Option.some.inj h
      exact bw_bret (b := v6.1) dX5_takeSign_21 rfl ⟨rfl, rfl⟩
def f_X0_readFrom_l37 (x0 : Nat) (x1 : Nat) : Nat → Int32 → bm_M → Option (((Int32 × bm_M) ⊕ (Int32 × bm_M)))
  | 0, _, _ => none
  | k + 1, x2, M => (if 900 ≤ x2 then some (Sum.inr (x2, M)) else (if bm_io x1 5 then (if (M.1 x1 3) = 0 then some (Sum.inr (x2, M)) else ((f_X0_readLine M x0 x1).bind fun v2 => (if v2.1 = true then ((f_X5_takeSign v2.2 x1 59).bind fun v4 => (if v4.1 = true then f_X0_readFrom_l37 x0 x1 k (x2 + 1) v4.2 else some (Sum.inl (x2, v4.2)))) else some (Sum.inl (x2, v2.2))))) else none))
set_option maxHeartbeats 4000000 in
set_option maxRecDepth 100000 in
theorem v_X0_readFrom_l37 {L : bm_L} {d n : Nat} {Q : Option Value → bm_M → Prop} {x0 : Nat} {x1 : Nat} (hN : 181 ≤ n) (q_0 : bm_OK x0 0) : ∀ (k : Nat) (x2 : Int32) (M : bm_M) (r : ((Int32 × bm_M) ⊕ (Int32 × bm_M))), f_X0_readFrom_l37 x0 x1 k x2 M = some r → (∀ yy, (Sum.inl yy) = r → bm_V L m_X0_readFrom (d + 6) n n n 68 [(2, .int yy.1)] [] yy.2 Q) → (∀ yy, (Sum.inr yy) = r → bm_V L m_X0_readFrom (d + 6) n n n 76 [(0, .ref x0), (2, .int yy.1)] [] yy.2 Q) → bm_V L m_X0_readFrom (d + 6) n n n 37 [(0, .ref x0), (1, .ref x1), (2, .int x2)] [] M Q := by
  intro k
  induction k with
  | zero => intro x2 M r h; cases (show (none : Option (((Int32 × bm_M) ⊕ (Int32 × bm_M)))) = some r from h)
  | succ k ih =>
    intro x2 M r h K0 K1
    unfold f_X0_readFrom_l37 at h
    refine bv_iload_n dX0_readFrom_37 2 rfl ?_
    refine bv_sipush (v := 900) dX0_readFrom_38 (by decide) ?_
    refine bv_icmp_ge (tgt := 76) dX0_readFrom_41 (by decide) (fun cc => ?_) (fun cc => ?_)
    · replace h := bu_t h cc
      refine bw_ls (ls1 := [(0, .ref x0), (2, .int x2)]) [0, 2] rfl ?_
      obtain rfl := Option.some.inj h
      exact K1 _ rfl
    · replace h := bu_f h cc
      refine bv_aload_n dX0_readFrom_44 1 rfl ?_
      obtain ⟨q1, h⟩ := bu_io h
      refine bw_getI hN q1 dX0_readFrom_45 fl_0_71 rfl ?_
      refine bv_if_eq (tgt := 76) dX0_readFrom_48 (by decide) (fun cc => ?_) (fun cc => ?_)
      · replace h := bu_t h cc
        refine bw_ls (ls1 := [(0, .ref x0), (2, .int x2)]) [0, 2] rfl ?_
        obtain rfl := Option.some.inj h
        exact K1 _ rfl
      · replace h := bu_f h cc
        refine bv_aload_n dX0_readFrom_51 0 rfl ?_
        refine bv_aload_n dX0_readFrom_52 1 rfl ?_
        obtain ⟨v2, p3, h⟩ := bu_bd h
        refine bw_callV (As := [.ref x1]) hN q_0 ⟨_, _, rfl⟩ dX0_readFrom_53 mc_0_76 (c_X0_readLine (d := d + 0) hN p3) rfl rfl (by decide) ?_
        refine bw_ifB_eq (b := v2.1) (tgt := 68) dX0_readFrom_56 (by decide) (fun cc => ?_) (fun cc => ?_)
        · replace h := bu_bf h cc
          refine bw_ls (ls1 := [(2, .int x2)]) [2] rfl ?_
          obtain rfl := Option.some.inj h
          exact K0 _ rfl
        · replace h := bu_bt h cc
          refine bv_aload_n dX0_readFrom_59 1 rfl ?_
          refine bv_bipush (v := 59) dX0_readFrom_60 (by decide) ?_
          obtain ⟨v4, p5, h⟩ := bu_bd h
          refine bw_callV (As := [.int 59]) hN q1 ⟨_, _, rfl⟩ dX0_readFrom_62 mc_0_80 (c_X5_takeSign (d := d + 2) hN p5) rfl rfl (by decide) ?_
          refine bw_ifB_ne (b := v4.1) (tgt := 70) dX0_readFrom_65 (by decide) (fun cc => ?_) (fun cc => ?_)
          · replace h := bu_bt h cc
            refine bv_iinc (j := 2) (v := (x2 + 1)) (ls1 := [(0, .ref x0), (1, .ref x1), (2, .int (x2 + 1))]) dX0_readFrom_70 rfl rfl (by decide) rfl rfl ?_
            refine bv_goto (tgt := 37) dX0_readFrom_73 (by decide) ?_
            exact ih _ _ _ h K0 K1
          · replace h := bu_bf h cc
            refine bw_ls (ls1 := [(2, .int x2)]) [2] rfl ?_
            obtain rfl := Option.some.inj h
            exact K0 _ rfl
def f_X0_readFrom (M : bm_M) (x0 : Nat) (x1 : Nat) : Option (Int32 × bm_M) := (if bm_io x0 0 then ((f_X0_readFrom_l37 x0 x1 1000 0 (bm_sI (bm_sI (bm_sI (bm_sI (bm_sI (bm_sI (bm_sI M x0 10 0) x0 11 0) x0 12 0) x0 13 0) x0 14 0) x0 15 (-1)) x0 16 (-1))).bind fun rr => match rr with | (Sum.inl y4) => some (y4.1, y4.2) | (Sum.inr y4) => (if (y4.2.1 x0 15) = (-1) then (if ((bm_sI y4.2 x0 15 2).1 x0 16) = (-1) then some (y4.1, (bm_sI (bm_sI y4.2 x0 15 2) x0 16 6)) else some (y4.1, (bm_sI (bm_sI y4.2 x0 15 2) x0 16 ((bm_sI y4.2 x0 15 2).1 x0 16)))) else (if ((bm_sI y4.2 x0 15 (y4.2.1 x0 15)).1 x0 16) = (-1) then some (y4.1, (bm_sI (bm_sI y4.2 x0 15 (y4.2.1 x0 15)) x0 16 6)) else some (y4.1, (bm_sI (bm_sI y4.2 x0 15 (y4.2.1 x0 15)) x0 16 ((bm_sI y4.2 x0 15 (y4.2.1 x0 15)).1 x0 16)))))) else none)
set_option maxHeartbeats 4000000 in
set_option maxRecDepth 100000 in
theorem c_X0_readFrom {L : bm_L} {d n : Nat} {M : bm_M} {x0 : Nat} {x1 : Nat} {v : Int32 × bm_M} (hN : 181 ≤ n) (h : f_X0_readFrom M x0 x1 = some v) : bm_C L m_X0_readFrom (d + 6) n n [.ref x0, .ref x1] M (fun r M' => r = some (.int v.1) ∧ M' = v.2) := by
  refine bm_C.ofV (by decide) (Nat.le_of_ble_eq_true rfl) ?_
  show bm_V L m_X0_readFrom (d + 6) n n n 0 [(0, .ref x0), (1, .ref x1)] [] M _
  unfold f_X0_readFrom at h
  refine bv_aload_n dX0_readFrom_0 0 rfl ?_
  refine bv_iconst (v := 0) dX0_readFrom_1 (by decide) ?_
  obtain ⟨q1, h⟩ := bu_io h
  refine bw_putI hN q1 dX0_readFrom_2 fl_0_56 rfl ?_
  refine bv_aload_n dX0_readFrom_5 0 rfl ?_
  refine bv_iconst (v := 0) dX0_readFrom_6 (by decide) ?_
  refine bw_putI hN q1 dX0_readFrom_7 fl_0_59 rfl ?_
  refine bv_aload_n dX0_readFrom_10 0 rfl ?_
  refine bv_iconst (v := 0) dX0_readFrom_11 (by decide) ?_
  refine bw_putI hN q1 dX0_readFrom_12 fl_0_62 rfl ?_
  refine bv_aload_n dX0_readFrom_15 0 rfl ?_
  refine bv_iconst (v := 0) dX0_readFrom_16 (by decide) ?_
  refine bw_putI hN q1 dX0_readFrom_17 fl_0_65 rfl ?_
  refine bv_aload_n dX0_readFrom_20 0 rfl ?_
  refine bv_iconst (v := 0) dX0_readFrom_21 (by decide) ?_
  refine bw_putI hN q1 dX0_readFrom_22 fl_0_68 rfl ?_
  refine bv_aload_n dX0_readFrom_25 0 rfl ?_
  refine bv_iconst (v := (-1)) dX0_readFrom_26 (by decide) ?_
  refine bw_putI hN q1 dX0_readFrom_27 fl_0_43 rfl ?_
  refine bv_aload_n dX0_readFrom_30 0 rfl ?_
  refine bv_iconst (v := (-1)) dX0_readFrom_31 (by decide) ?_
  refine bw_putI hN q1 dX0_readFrom_32 fl_0_47 rfl ?_
  refine bv_iconst (v := 0) dX0_readFrom_35 (by decide) ?_
  refine bv_istore_n (ls1 := [(0, .ref x0), (1, .ref x1), (2, .int 0)]) dX0_readFrom_36 (by decide) rfl rfl ?_
  obtain ⟨r2, p3, h⟩ := bu_bd h
  refine v_X0_readFrom_l37 hN q1 1000 _ _ _ p3 (fun y4 hy => ?_) (fun y4 hy => ?_)
  · subst hy
    refine bv_iload_n dX0_readFrom_68 0 rfl ?_
    obtain rfl := Option.some.inj h
    exact bv_iret (x := y4.1) dX0_readFrom_69 rfl ⟨rfl, rfl⟩
  · subst hy
    refine bv_aload_n dX0_readFrom_76 0 rfl ?_
    refine bv_aload_n dX0_readFrom_77 0 rfl ?_
    refine bw_getI hN q1 dX0_readFrom_78 fl_0_43 rfl ?_
    refine bv_iconst (v := (-1)) dX0_readFrom_81 (by decide) ?_
    refine bv_icmp_ne (tgt := 89) dX0_readFrom_82 (by decide) (fun cc => ?_) (fun cc => ?_)
    · replace h := bu_f h cc
      refine bv_aload_n dX0_readFrom_89 0 rfl ?_
      refine bw_getI hN q1 dX0_readFrom_90 fl_0_43 rfl ?_
      refine bw_putI hN q1 dX0_readFrom_93 fl_0_43 rfl ?_
      refine bv_aload_n dX0_readFrom_96 0 rfl ?_
      refine bv_aload_n dX0_readFrom_97 0 rfl ?_
      refine bw_getI hN q1 dX0_readFrom_98 fl_0_47 rfl ?_
      refine bv_iconst (v := (-1)) dX0_readFrom_101 (by decide) ?_
      refine bv_icmp_ne (tgt := 110) dX0_readFrom_102 (by decide) (fun cc => ?_) (fun cc => ?_)
      · replace h := bu_f h cc
        refine bv_aload_n dX0_readFrom_110 0 rfl ?_
        refine bw_getI hN q1 dX0_readFrom_111 fl_0_47 rfl ?_
        refine bw_putI hN q1 dX0_readFrom_114 fl_0_47 rfl ?_
        refine bv_iload_n dX0_readFrom_117 1 rfl ?_
        obtain rfl := Option.some.inj h
        exact bv_iret (x := y4.1) dX0_readFrom_118 rfl ⟨rfl, rfl⟩
      · replace h := bu_t h cc
        refine bv_bipush (v := 6) dX0_readFrom_105 (by decide) ?_
        refine bv_goto (tgt := 114) dX0_readFrom_107 (by decide) ?_
        refine bw_putI hN q1 dX0_readFrom_114 fl_0_47 rfl ?_
        refine bv_iload_n dX0_readFrom_117 1 rfl ?_
        obtain rfl := Option.some.inj h
        exact bv_iret (x := y4.1) dX0_readFrom_118 rfl ⟨rfl, rfl⟩
    · replace h := bu_t h cc
      refine bv_iconst (v := 2) dX0_readFrom_85 (by decide) ?_
      refine bv_goto (tgt := 93) dX0_readFrom_86 (by decide) ?_
      refine bw_putI hN q1 dX0_readFrom_93 fl_0_43 rfl ?_
      refine bv_aload_n dX0_readFrom_96 0 rfl ?_
      refine bv_aload_n dX0_readFrom_97 0 rfl ?_
      refine bw_getI hN q1 dX0_readFrom_98 fl_0_47 rfl ?_
      refine bv_iconst (v := (-1)) dX0_readFrom_101 (by decide) ?_
      refine bv_icmp_ne (tgt := 110) dX0_readFrom_102 (by decide) (fun cc => ?_) (fun cc => ?_)
      · replace h := bu_f h cc
        refine bv_aload_n dX0_readFrom_110 0 rfl ?_
        refine bw_getI hN q1 dX0_readFrom_111 fl_0_47 rfl ?_
        refine bw_putI hN q1 dX0_readFrom_114 fl_0_47 rfl ?_
        refine bv_iload_n dX0_readFrom_117 1 rfl ?_
        obtain rfl := Option.some.inj h
        exact bv_iret (x := y4.1) dX0_readFrom_118 rfl ⟨rfl, rfl⟩
      · replace h := bu_t h cc
        refine bv_bipush (v := 6) dX0_readFrom_105 (by decide) ?_
        refine bv_goto (tgt := 114) dX0_readFrom_107 (by decide) ?_
        refine bw_putI hN q1 dX0_readFrom_114 fl_0_47 rfl ?_
        refine bv_iload_n dX0_readFrom_117 1 rfl ?_
        obtain rfl := Option.some.inj h
        exact bv_iret (x := y4.1) dX0_readFrom_118 rfl ⟨rfl, rfl⟩
def f_X0_allMen (M : bm_M) (x0 : Nat) : Option (Int32) := (if bm_io x0 0 then some ((bm_ishl 1 (M.1 x0 10)) - 1) else none)
set_option maxHeartbeats 4000000 in
set_option maxRecDepth 100000 in
theorem c_X0_allMen {L : bm_L} {d n : Nat} {M : bm_M} {x0 : Nat} {v : Int32} (hN : 181 ≤ n) (h : f_X0_allMen M x0 = some v) : bm_C L m_X0_allMen d n n [.ref x0] M (fun r M' => r = some (.int v) ∧ M' = M) := by
  refine bm_C.ofV (by decide) (Nat.le_of_ble_eq_true rfl) ?_
  show bm_V L m_X0_allMen d n n n 0 [(0, .ref x0)] [] M _
  unfold f_X0_allMen at h
  refine bv_iconst (v := 1) dX0_allMen_0 (by decide) ?_
  refine bv_aload_n dX0_allMen_1 0 rfl ?_
  obtain ⟨q1, h⟩ := bu_io h
  refine bw_getI hN q1 dX0_allMen_2 fl_0_56 rfl ?_
  refine bv_ishl dX0_allMen_5 ?_
  refine bv_iconst (v := 1) dX0_allMen_6 (by decide) ?_
  refine bv_isub dX0_allMen_7 ?_
  obtain rfl := Option.some.inj h
  exact bv_iret (x := ((bm_ishl 1 (M.1 x0 10)) - 1)) dX0_allMen_8 rfl ⟨rfl, rfl⟩
def f_X0_allUnder_l4 (M : bm_M) (x0 : Nat) (x1 : Int32) : Nat → Int32 → Int32 → Option (Int32)
  | 0, _, _ => none
  | k + 1, x2, x3 => (if bm_io x0 0 then (if (M.1 x0 10) ≤ x3 then some x2 else ((f_X0_isUnder M x0 x3 x1).bind fun v2 => (if v2 = true then f_X0_allUnder_l4 M x0 x1 k (x2 ||| (bm_ishl 1 x3)) (x3 + 1) else f_X0_allUnder_l4 M x0 x1 k x2 (x3 + 1)))) else none)
set_option maxHeartbeats 4000000 in
set_option maxRecDepth 100000 in
theorem v_X0_allUnder_l4 {L : bm_L} {d n : Nat} {Q : Option Value → bm_M → Prop} {M : bm_M} {x0 : Nat} {x1 : Int32} (hN : 181 ≤ n) : ∀ (k : Nat) (x2 : Int32) (x3 : Int32) (r : Int32), f_X0_allUnder_l4 M x0 x1 k x2 x3 = some r → (∀ yy, yy = r → bm_V L m_X0_allUnder (d + 1) n n n 33 [(2, .int yy)] [] M Q) → bm_V L m_X0_allUnder (d + 1) n n n 4 [(0, .ref x0), (1, .int x1), (2, .int x2), (3, .int x3)] [] M Q := by
  intro k
  induction k with
  | zero => intro x2 x3 r h; cases (show (none : Option (Int32)) = some r from h)
  | succ k ih =>
    intro x2 x3 r h K0
    unfold f_X0_allUnder_l4 at h
    refine bv_iload_n dX0_allUnder_4 3 rfl ?_
    refine bv_aload_n dX0_allUnder_5 0 rfl ?_
    obtain ⟨q1, h⟩ := bu_io h
    refine bw_getI hN q1 dX0_allUnder_6 fl_0_56 rfl ?_
    refine bv_icmp_ge (tgt := 33) dX0_allUnder_9 (by decide) (fun cc => ?_) (fun cc => ?_)
    · replace h := bu_t h cc
      refine bw_ls (ls1 := [(2, .int x2)]) [2] rfl ?_
      obtain rfl := Option.some.inj h
      exact K0 _ rfl
    · replace h := bu_f h cc
      refine bv_aload_n dX0_allUnder_12 0 rfl ?_
      refine bv_iload_n dX0_allUnder_13 3 rfl ?_
      refine bv_iload_n dX0_allUnder_14 1 rfl ?_
      obtain ⟨v2, p3, h⟩ := bu_bd h
      refine bw_callV (As := [.int x3, .int x1]) hN q1 ⟨_, _, rfl⟩ dX0_allUnder_15 mc_0_151 (c_X0_isUnder (d := d + 0) hN p3) rfl rfl (by decide) ?_
      refine bw_ifB_eq (b := v2) (tgt := 27) dX0_allUnder_18 (by decide) (fun cc => ?_) (fun cc => ?_)
      · replace h := bu_bf h cc
        refine bv_iinc (j := 3) (v := (x3 + 1)) (ls1 := [(0, .ref x0), (1, .int x1), (2, .int x2), (3, .int (x3 + 1))]) dX0_allUnder_27 rfl rfl (by decide) rfl rfl ?_
        refine bv_goto (tgt := 4) dX0_allUnder_30 (by decide) ?_
        exact ih _ _ _ h K0
      · replace h := bu_bt h cc
        refine bv_iload_n dX0_allUnder_21 2 rfl ?_
        refine bv_iconst (v := 1) dX0_allUnder_22 (by decide) ?_
        refine bv_iload_n dX0_allUnder_23 3 rfl ?_
        refine bv_ishl dX0_allUnder_24 ?_
        refine bv_ior dX0_allUnder_25 ?_
        refine bv_istore_n (ls1 := [(0, .ref x0), (1, .int x1), (2, .int (x2 ||| (bm_ishl 1 x3))), (3, .int x3)]) dX0_allUnder_26 (by decide) rfl rfl ?_
        refine bv_iinc (j := 3) (v := (x3 + 1)) (ls1 := [(0, .ref x0), (1, .int x1), (2, .int (x2 ||| (bm_ishl 1 x3))), (3, .int (x3 + 1))]) dX0_allUnder_27 rfl rfl (by decide) rfl rfl ?_
        refine bv_goto (tgt := 4) dX0_allUnder_30 (by decide) ?_
        exact ih _ _ _ h K0
def f_X0_allUnder (M : bm_M) (x0 : Nat) (x1 : Int32) : Option (Int32) := ((f_X0_allUnder_l4 M x0 x1 1000 0 0).bind fun y3 => some y3)
set_option maxHeartbeats 4000000 in
set_option maxRecDepth 100000 in
theorem c_X0_allUnder {L : bm_L} {d n : Nat} {M : bm_M} {x0 : Nat} {x1 : Int32} {v : Int32} (hN : 181 ≤ n) (h : f_X0_allUnder M x0 x1 = some v) : bm_C L m_X0_allUnder (d + 1) n n [.ref x0, .int x1] M (fun r M' => r = some (.int v) ∧ M' = M) := by
  refine bm_C.ofV (by decide) (Nat.le_of_ble_eq_true rfl) ?_
  show bm_V L m_X0_allUnder (d + 1) n n n 0 [(0, .ref x0), (1, .int x1)] [] M _
  unfold f_X0_allUnder at h
  refine bv_iconst (v := 0) dX0_allUnder_0 (by decide) ?_
  refine bv_istore_n (ls1 := [(0, .ref x0), (1, .int x1), (2, .int 0)]) dX0_allUnder_1 (by decide) rfl rfl ?_
  refine bv_iconst (v := 0) dX0_allUnder_2 (by decide) ?_
  refine bv_istore_n (ls1 := [(0, .ref x0), (1, .int x1), (2, .int 0), (3, .int 0)]) dX0_allUnder_3 (by decide) rfl rfl ?_
  obtain ⟨r1, p2, h⟩ := bu_bd h
  refine v_X0_allUnder_l4 hN 1000 _ _ _ p2 (fun y3 hy => ?_)
  · subst hy
    refine bv_iload_n dX0_allUnder_33 0 rfl ?_
    obtain rfl := Option.some.inj h
    exact bv_iret (x := y3) dX0_allUnder_34 rfl ⟨rfl, rfl⟩
def f_X0_straightUnder_l4 (M : bm_M) (x0 : Nat) (x1 : Int32) : Nat → Int32 → Int32 → Option (Int32)
  | 0, _, _ => none
  | k + 1, x2, x3 => (if bm_io x0 0 then (if (M.1 x0 10) ≤ x3 then some x2 else ((M.2.2 x0 4).bind fun a2 => (if bm_ia a2 0 x3 = true then (if (M.1 a2 x3.toNatClampNeg) = x1 then f_X0_straightUnder_l4 M x0 x1 k (x2 ||| (bm_ishl 1 x3)) (x3 + 1) else f_X0_straightUnder_l4 M x0 x1 k x2 (x3 + 1)) else none))) else none)
set_option maxHeartbeats 4000000 in
set_option maxRecDepth 100000 in
theorem v_X0_straightUnder_l4 {L : bm_L} {d n : Nat} {Q : Option Value → bm_M → Prop} {M : bm_M} {x0 : Nat} {x1 : Int32} (hN : 181 ≤ n) : ∀ (k : Nat) (x2 : Int32) (x3 : Int32) (r : Int32), f_X0_straightUnder_l4 M x0 x1 k x2 x3 = some r → (∀ yy, yy = r → bm_V L m_X0_straightUnder d n n n 34 [(2, .int yy)] [] M Q) → bm_V L m_X0_straightUnder d n n n 4 [(0, .ref x0), (1, .int x1), (2, .int x2), (3, .int x3)] [] M Q := by
  intro k
  induction k with
  | zero => intro x2 x3 r h; cases (show (none : Option (Int32)) = some r from h)
  | succ k ih =>
    intro x2 x3 r h K0
    unfold f_X0_straightUnder_l4 at h
    refine bv_iload_n dX0_straightUnder_4 3 rfl ?_
    refine bv_aload_n dX0_straightUnder_5 0 rfl ?_
    obtain ⟨q1, h⟩ := bu_io h
    refine bw_getI hN q1 dX0_straightUnder_6 fl_0_56 rfl ?_
    refine bv_icmp_ge (tgt := 34) dX0_straightUnder_9 (by decide) (fun cc => ?_) (fun cc => ?_)
    · replace h := bu_t h cc
      refine bw_ls (ls1 := [(2, .int x2)]) [2] rfl ?_
      obtain rfl := Option.some.inj h
      exact K0 _ rfl
    · replace h := bu_f h cc
      refine bv_aload_n dX0_straightUnder_12 0 rfl ?_
      obtain ⟨a2, e3, h⟩ := bu_bd h
      refine bw_getA (a := a2) hN q1 e3 dX0_straightUnder_13 fl_0_25 rfl ?_
      refine bv_iload_n dX0_straightUnder_16 3 rfl ?_
      obtain ⟨r4, h⟩ := bu_ia h
      refine bw_iald hN r4 dX0_straightUnder_17 ?_
      refine bv_iload_n dX0_straightUnder_18 1 rfl ?_
      refine bv_icmp_ne (tgt := 28) dX0_straightUnder_19 (by decide) (fun cc => ?_) (fun cc => ?_)
      · replace h := bu_f h cc
        refine bv_iinc (j := 3) (v := (x3 + 1)) (ls1 := [(0, .ref x0), (1, .int x1), (2, .int x2), (3, .int (x3 + 1))]) dX0_straightUnder_28 rfl rfl (by decide) rfl rfl ?_
        refine bv_goto (tgt := 4) dX0_straightUnder_31 (by decide) ?_
        exact ih _ _ _ h K0
      · replace h := bu_t h cc
        refine bv_iload_n dX0_straightUnder_22 2 rfl ?_
        refine bv_iconst (v := 1) dX0_straightUnder_23 (by decide) ?_
        refine bv_iload_n dX0_straightUnder_24 3 rfl ?_
        refine bv_ishl dX0_straightUnder_25 ?_
        refine bv_ior dX0_straightUnder_26 ?_
        refine bv_istore_n (ls1 := [(0, .ref x0), (1, .int x1), (2, .int (x2 ||| (bm_ishl 1 x3))), (3, .int x3)]) dX0_straightUnder_27 (by decide) rfl rfl ?_
        refine bv_iinc (j := 3) (v := (x3 + 1)) (ls1 := [(0, .ref x0), (1, .int x1), (2, .int (x2 ||| (bm_ishl 1 x3))), (3, .int (x3 + 1))]) dX0_straightUnder_28 rfl rfl (by decide) rfl rfl ?_
        refine bv_goto (tgt := 4) dX0_straightUnder_31 (by decide) ?_
        exact ih _ _ _ h K0
def f_X0_straightUnder (M : bm_M) (x0 : Nat) (x1 : Int32) : Option (Int32) := ((f_X0_straightUnder_l4 M x0 x1 1000 0 0).bind fun y3 => some y3)
set_option maxHeartbeats 4000000 in
set_option maxRecDepth 100000 in
theorem c_X0_straightUnder {L : bm_L} {d n : Nat} {M : bm_M} {x0 : Nat} {x1 : Int32} {v : Int32} (hN : 181 ≤ n) (h : f_X0_straightUnder M x0 x1 = some v) : bm_C L m_X0_straightUnder d n n [.ref x0, .int x1] M (fun r M' => r = some (.int v) ∧ M' = M) := by
  refine bm_C.ofV (by decide) (Nat.le_of_ble_eq_true rfl) ?_
  show bm_V L m_X0_straightUnder d n n n 0 [(0, .ref x0), (1, .int x1)] [] M _
  unfold f_X0_straightUnder at h
  refine bv_iconst (v := 0) dX0_straightUnder_0 (by decide) ?_
  refine bv_istore_n (ls1 := [(0, .ref x0), (1, .int x1), (2, .int 0)]) dX0_straightUnder_1 (by decide) rfl rfl ?_
  refine bv_iconst (v := 0) dX0_straightUnder_2 (by decide) ?_
  refine bv_istore_n (ls1 := [(0, .ref x0), (1, .int x1), (2, .int 0), (3, .int 0)]) dX0_straightUnder_3 (by decide) rfl rfl ?_
  obtain ⟨r1, p2, h⟩ := bu_bd h
  refine v_X0_straightUnder_l4 hN 1000 _ _ _ p2 (fun y3 hy => ?_)
  · subst hy
    refine bv_iload_n dX0_straightUnder_34 0 rfl ?_
    obtain rfl := Option.some.inj h
    exact bv_iret (x := y3) dX0_straightUnder_35 rfl ⟨rfl, rfl⟩
def f_X0_unlike (M : bm_M) (x0 : Nat) (x1 : Int32) (x2 : Int32) (x3 : Int32) : Option (Int32) := (if bm_io x0 0 then ((M.2.2 x0 6).bind fun a2 => (if bm_ia a2 0 x1 = true then (if (M.1 a2 x1.toNatClampNeg) = x2 then ((M.2.2 x0 7).bind fun a8 => (if bm_ia a8 0 x1 = true then (if (M.1 a8 x1.toNatClampNeg) = x3 then some (0 + 0) else some (0 + 1)) else none)) else ((M.2.2 x0 7).bind fun a5 => (if bm_ia a5 0 x1 = true then (if (M.1 a5 x1.toNatClampNeg) = x3 then some (1 + 0) else some (1 + 1)) else none))) else none)) else none)
set_option maxHeartbeats 4000000 in
set_option maxRecDepth 100000 in
theorem c_X0_unlike {L : bm_L} {d n : Nat} {M : bm_M} {x0 : Nat} {x1 : Int32} {x2 : Int32} {x3 : Int32} {v : Int32} (hN : 181 ≤ n) (h : f_X0_unlike M x0 x1 x2 x3 = some v) : bm_C L m_X0_unlike d n n [.ref x0, .int x1, .int x2, .int x3] M (fun r M' => r = some (.int v) ∧ M' = M) := by
  refine bm_C.ofV (by decide) (Nat.le_of_ble_eq_true rfl) ?_
  show bm_V L m_X0_unlike d n n n 0 [(0, .ref x0), (1, .int x1), (2, .int x2), (3, .int x3)] [] M _
  unfold f_X0_unlike at h
  refine bv_aload_n dX0_unlike_0 0 rfl ?_
  obtain ⟨q1, h⟩ := bu_io h
  obtain ⟨a2, e3, h⟩ := bu_bd h
  refine bw_getA (a := a2) hN q1 e3 dX0_unlike_1 fl_0_31 rfl ?_
  refine bv_iload_n dX0_unlike_4 1 rfl ?_
  obtain ⟨r4, h⟩ := bu_ia h
  refine bw_iald hN r4 dX0_unlike_5 ?_
  refine bv_iload_n dX0_unlike_6 2 rfl ?_
  refine bv_icmp_ne (tgt := 14) dX0_unlike_7 (by decide) (fun cc => ?_) (fun cc => ?_)
  · replace h := bu_f h cc
    refine bv_iconst (v := 1) dX0_unlike_14 (by decide) ?_
    refine bv_aload_n dX0_unlike_15 0 rfl ?_
    obtain ⟨a5, e6, h⟩ := bu_bd h
    refine bw_getA (a := a5) hN q1 e6 dX0_unlike_16 fl_0_34 rfl ?_
    refine bv_iload_n dX0_unlike_19 1 rfl ?_
    obtain ⟨r7, h⟩ := bu_ia h
    refine bw_iald hN r7 dX0_unlike_20 ?_
    refine bv_iload_n dX0_unlike_21 3 rfl ?_
    refine bv_icmp_ne (tgt := 29) dX0_unlike_22 (by decide) (fun cc => ?_) (fun cc => ?_)
    · replace h := bu_f h cc
      refine bv_iconst (v := 1) dX0_unlike_29 (by decide) ?_
      refine bv_iadd dX0_unlike_30 ?_
      obtain rfl := Option.some.inj h
      exact bv_iret (x := (1 + 1)) dX0_unlike_31 rfl ⟨rfl, rfl⟩
    · replace h := bu_t h cc
      refine bv_iconst (v := 0) dX0_unlike_25 (by decide) ?_
      refine bv_goto (tgt := 30) dX0_unlike_26 (by decide) ?_
      refine bv_iadd dX0_unlike_30 ?_
      obtain rfl := Option.some.inj h
      exact bv_iret (x := (1 + 0)) dX0_unlike_31 rfl ⟨rfl, rfl⟩
  · replace h := bu_t h cc
    refine bv_iconst (v := 0) dX0_unlike_10 (by decide) ?_
    refine bv_goto (tgt := 15) dX0_unlike_11 (by decide) ?_
    refine bv_aload_n dX0_unlike_15 0 rfl ?_
    obtain ⟨a8, e9, h⟩ := bu_bd h
    refine bw_getA (a := a8) hN q1 e9 dX0_unlike_16 fl_0_34 rfl ?_
    refine bv_iload_n dX0_unlike_19 1 rfl ?_
    obtain ⟨r10, h⟩ := bu_ia h
    refine bw_iald hN r10 dX0_unlike_20 ?_
    refine bv_iload_n dX0_unlike_21 3 rfl ?_
    refine bv_icmp_ne (tgt := 29) dX0_unlike_22 (by decide) (fun cc => ?_) (fun cc => ?_)
    · replace h := bu_f h cc
      refine bv_iconst (v := 1) dX0_unlike_29 (by decide) ?_
      refine bv_iadd dX0_unlike_30 ?_
      obtain rfl := Option.some.inj h
      exact bv_iret (x := (0 + 1)) dX0_unlike_31 rfl ⟨rfl, rfl⟩
    · replace h := bu_t h cc
      refine bv_iconst (v := 0) dX0_unlike_25 (by decide) ?_
      refine bv_goto (tgt := 30) dX0_unlike_26 (by decide) ?_
      refine bv_iadd dX0_unlike_30 ?_
      obtain rfl := Option.some.inj h
      exact bv_iret (x := (0 + 0)) dX0_unlike_31 rfl ⟨rfl, rfl⟩
def f_X0_fewestUnlike_l5 (M : bm_M) (x0 : Nat) (x1 : Int32) (x2 : Int32) : Nat → Int32 → Int32 → Option (Int32)
  | 0, _, _ => none
  | k + 1, x3, x4 => (if bm_io x0 0 then (if (M.1 x0 13) ≤ x4 then some x3 else ((f_X0_unlike M x0 x4 x1 x2).bind fun v2 => f_X0_fewestUnlike_l5 M x0 x1 x2 k (bm_min x3 v2) (x4 + 1))) else none)
set_option maxHeartbeats 4000000 in
set_option maxRecDepth 100000 in
theorem v_X0_fewestUnlike_l5 {L : bm_L} {d n : Nat} {Q : Option Value → bm_M → Prop} {M : bm_M} {x0 : Nat} {x1 : Int32} {x2 : Int32} (hN : 181 ≤ n) : ∀ (k : Nat) (x3 : Int32) (x4 : Int32) (r : Int32), f_X0_fewestUnlike_l5 M x0 x1 x2 k x3 x4 = some r → (∀ yy, yy = r → bm_V L m_X0_fewestUnlike (d + 1) n n n 33 [(3, .int yy)] [] M Q) → bm_V L m_X0_fewestUnlike (d + 1) n n n 5 [(0, .ref x0), (1, .int x1), (2, .int x2), (3, .int x3), (4, .int x4)] [] M Q := by
  intro k
  induction k with
  | zero => intro x3 x4 r h; cases (show (none : Option (Int32)) = some r from h)
  | succ k ih =>
    intro x3 x4 r h K0
    unfold f_X0_fewestUnlike_l5 at h
    refine bv_iload dX0_fewestUnlike_5 4 rfl ?_
    refine bv_aload_n dX0_fewestUnlike_7 0 rfl ?_
    obtain ⟨q1, h⟩ := bu_io h
    refine bw_getI hN q1 dX0_fewestUnlike_8 fl_0_65 rfl ?_
    refine bv_icmp_ge (tgt := 33) dX0_fewestUnlike_11 (by decide) (fun cc => ?_) (fun cc => ?_)
    · replace h := bu_t h cc
      refine bw_ls (ls1 := [(3, .int x3)]) [3] rfl ?_
      obtain rfl := Option.some.inj h
      exact K0 _ rfl
    · replace h := bu_f h cc
      refine bv_iload_n dX0_fewestUnlike_14 3 rfl ?_
      refine bv_aload_n dX0_fewestUnlike_15 0 rfl ?_
      refine bv_iload dX0_fewestUnlike_16 4 rfl ?_
      refine bv_iload_n dX0_fewestUnlike_18 1 rfl ?_
      refine bv_iload_n dX0_fewestUnlike_19 2 rfl ?_
      obtain ⟨v2, p3, h⟩ := bu_bd h
      refine bw_callV (As := [.int x4, .int x1, .int x2]) hN q1 ⟨_, _, rfl⟩ dX0_fewestUnlike_20 mc_0_178 (c_X0_unlike (d := d + 0) hN p3) rfl rfl (Nat.le_of_ble_eq_true rfl) ?_
      refine bv_mmin dX0_fewestUnlike_23 mw_0_182 (by decide) (Nat.le_refl n) ?_
      refine bv_istore_n (ls1 := [(0, .ref x0), (1, .int x1), (2, .int x2), (3, .int (bm_min x3 v2)), (4, .int x4)]) dX0_fewestUnlike_26 (by decide) rfl rfl ?_
      refine bv_iinc (j := 4) (v := (x4 + 1)) (ls1 := [(0, .ref x0), (1, .int x1), (2, .int x2), (3, .int (bm_min x3 v2)), (4, .int (x4 + 1))]) dX0_fewestUnlike_27 rfl rfl (by decide) rfl rfl ?_
      refine bv_goto (tgt := 5) dX0_fewestUnlike_30 (by decide) ?_
      exact ih _ _ _ h K0
def f_X0_fewestUnlike (M : bm_M) (x0 : Nat) (x1 : Int32) (x2 : Int32) : Option (Int32) := ((f_X0_fewestUnlike_l5 M x0 x1 x2 1000 2 0).bind fun y3 => some y3)
set_option maxHeartbeats 4000000 in
set_option maxRecDepth 100000 in
theorem c_X0_fewestUnlike {L : bm_L} {d n : Nat} {M : bm_M} {x0 : Nat} {x1 : Int32} {x2 : Int32} {v : Int32} (hN : 181 ≤ n) (h : f_X0_fewestUnlike M x0 x1 x2 = some v) : bm_C L m_X0_fewestUnlike (d + 1) n n [.ref x0, .int x1, .int x2] M (fun r M' => r = some (.int v) ∧ M' = M) := by
  refine bm_C.ofV (by decide) (Nat.le_of_ble_eq_true rfl) ?_
  show bm_V L m_X0_fewestUnlike (d + 1) n n n 0 [(0, .ref x0), (1, .int x1), (2, .int x2)] [] M _
  unfold f_X0_fewestUnlike at h
  refine bv_iconst (v := 2) dX0_fewestUnlike_0 (by decide) ?_
  refine bv_istore_n (ls1 := [(0, .ref x0), (1, .int x1), (2, .int x2), (3, .int 2)]) dX0_fewestUnlike_1 (by decide) rfl rfl ?_
  refine bv_iconst (v := 0) dX0_fewestUnlike_2 (by decide) ?_
  refine bv_istore (ls1 := [(0, .ref x0), (1, .int x1), (2, .int x2), (3, .int 2), (4, .int 0)]) dX0_fewestUnlike_3 (by decide) rfl rfl ?_
  obtain ⟨r1, p2, h⟩ := bu_bd h
  refine v_X0_fewestUnlike_l5 hN 1000 _ _ _ p2 (fun y3 hy => ?_)
  · subst hy
    refine bv_iload_n dX0_fewestUnlike_33 0 rfl ?_
    obtain rfl := Option.some.inj h
    exact bv_iret (x := y3) dX0_fewestUnlike_34 rfl ⟨rfl, rfl⟩
def f_X0_newLifts_l14 (M : bm_M) (x0 : Nat) (x3 : Int32) : Nat → Int32 → Int32 → Int32 → Option (Int32 × Int32)
  | 0, _, _, _ => none
  | k + 1, x1, x2, x4 => (if 3 < x4 then some (x1, x2) else (if bm_io x0 0 then ((f_X0_fewestUnlike M x0 x3 x4).bind fun v2 => (if v2 ≤ 0 then f_X0_newLifts_l14 M x0 x3 k x1 x2 (x4 + 1) else (if v2 ≤ x2 then f_X0_newLifts_l14 M x0 x3 k x1 x2 (x4 + 1) else f_X0_newLifts_l14 M x0 x3 k ((4 * x3) + x4) v2 (x4 + 1)))) else none))
set_option maxHeartbeats 4000000 in
set_option maxRecDepth 100000 in
theorem v_X0_newLifts_l14 {L : bm_L} {d n : Nat} {Q : Option Value → bm_M → Prop} {M : bm_M} {x0 : Nat} {x3 : Int32} (hN : 181 ≤ n) : ∀ (k : Nat) (x1 : Int32) (x2 : Int32) (x4 : Int32) (r : Int32 × Int32), f_X0_newLifts_l14 M x0 x3 k x1 x2 x4 = some r → (∀ yy, yy = r → bm_V L m_X0_newLifts (d + 2) n n n 56 [(0, .ref x0), (1, .int yy.1), (2, .int yy.2), (3, .int x3)] [] M Q) → bm_V L m_X0_newLifts (d + 2) n n n 14 [(0, .ref x0), (1, .int x1), (2, .int x2), (3, .int x3), (4, .int x4)] [] M Q := by
  intro k
  induction k with
  | zero => intro x1 x2 x4 r h; cases (show (none : Option (Int32 × Int32)) = some r from h)
  | succ k ih =>
    intro x1 x2 x4 r h K0
    unfold f_X0_newLifts_l14 at h
    refine bv_iload dX0_newLifts_14 4 rfl ?_
    refine bv_iconst (v := 3) dX0_newLifts_16 (by decide) ?_
    refine bv_icmp_gt (tgt := 56) dX0_newLifts_17 (by decide) (fun cc => ?_) (fun cc => ?_)
    · replace h := bu_t h cc
      refine bw_ls (ls1 := [(0, .ref x0), (1, .int x1), (2, .int x2), (3, .int x3)]) [0, 1, 2, 3] rfl ?_
      obtain rfl := Option.some.inj h
      exact K0 _ rfl
    · replace h := bu_f h cc
      refine bv_aload_n dX0_newLifts_20 0 rfl ?_
      refine bv_iload_n dX0_newLifts_21 3 rfl ?_
      refine bv_iload dX0_newLifts_22 4 rfl ?_
      obtain ⟨q1, h⟩ := bu_io h
      obtain ⟨v2, p3, h⟩ := bu_bd h
      refine bw_callV (As := [.int x3, .int x4]) hN q1 ⟨_, _, rfl⟩ dX0_newLifts_24 mc_0_175 (c_X0_fewestUnlike (d := d + 0) hN p3) rfl rfl (by decide) ?_
      refine bv_istore (ls1 := [(0, .ref x0), (1, .int x1), (2, .int x2), (3, .int x3), (4, .int x4), (5, .int v2)]) dX0_newLifts_27 (by decide) rfl rfl ?_
      refine bv_iload dX0_newLifts_29 5 rfl ?_
      refine bv_if_le (tgt := 50) dX0_newLifts_31 (by decide) (fun cc => ?_) (fun cc => ?_)
      · replace h := bu_t h cc
        refine bv_iinc (j := 4) (v := (x4 + 1)) (ls1 := [(0, .ref x0), (1, .int x1), (2, .int x2), (3, .int x3), (4, .int (x4 + 1)), (5, .int v2)]) dX0_newLifts_50 rfl rfl (by decide) rfl rfl ?_
        refine bv_goto (tgt := 14) dX0_newLifts_53 (by decide) ?_
        refine bw_ls (ls1 := [(0, .ref x0), (1, .int x1), (2, .int x2), (3, .int x3), (4, .int (x4 + 1))]) [0, 1, 2, 3, 4] rfl ?_
        exact ih _ _ _ _ h K0
      · replace h := bu_f h cc
        refine bv_iload dX0_newLifts_34 5 rfl ?_
        refine bv_iload_n dX0_newLifts_36 2 rfl ?_
        refine bv_icmp_le (tgt := 50) dX0_newLifts_37 (by decide) (fun cc => ?_) (fun cc => ?_)
        · replace h := bu_t h cc
          refine bv_iinc (j := 4) (v := (x4 + 1)) (ls1 := [(0, .ref x0), (1, .int x1), (2, .int x2), (3, .int x3), (4, .int (x4 + 1)), (5, .int v2)]) dX0_newLifts_50 rfl rfl (by decide) rfl rfl ?_
          refine bv_goto (tgt := 14) dX0_newLifts_53 (by decide) ?_
          refine bw_ls (ls1 := [(0, .ref x0), (1, .int x1), (2, .int x2), (3, .int x3), (4, .int (x4 + 1))]) [0, 1, 2, 3, 4] rfl ?_
          exact ih _ _ _ _ h K0
        · replace h := bu_f h cc
          refine bv_iload dX0_newLifts_40 5 rfl ?_
          refine bv_istore_n (ls1 := [(0, .ref x0), (1, .int x1), (2, .int v2), (3, .int x3), (4, .int x4), (5, .int v2)]) dX0_newLifts_42 (by decide) rfl rfl ?_
          refine bv_iconst (v := 4) dX0_newLifts_43 (by decide) ?_
          refine bv_iload_n dX0_newLifts_44 3 rfl ?_
          refine bv_imul dX0_newLifts_45 ?_
          refine bv_iload dX0_newLifts_46 4 rfl ?_
          refine bv_iadd dX0_newLifts_48 ?_
          refine bv_istore_n (ls1 := [(0, .ref x0), (1, .int ((4 * x3) + x4)), (2, .int v2), (3, .int x3), (4, .int x4), (5, .int v2)]) dX0_newLifts_49 (by decide) rfl rfl ?_
          refine bv_iinc (j := 4) (v := (x4 + 1)) (ls1 := [(0, .ref x0), (1, .int ((4 * x3) + x4)), (2, .int v2), (3, .int x3), (4, .int (x4 + 1)), (5, .int v2)]) dX0_newLifts_50 rfl rfl (by decide) rfl rfl ?_
          refine bv_goto (tgt := 14) dX0_newLifts_53 (by decide) ?_
          refine bw_ls (ls1 := [(0, .ref x0), (1, .int ((4 * x3) + x4)), (2, .int v2), (3, .int x3), (4, .int (x4 + 1))]) [0, 1, 2, 3, 4] rfl ?_
          exact ih _ _ _ _ h K0
def f_X0_newLifts_l6 (M : bm_M) (x0 : Nat) : Nat → Int32 → Int32 → Int32 → Option (Int32)
  | 0, _, _, _ => none
  | k + 1, x1, x2, x3 => (if 3 < x3 then some x1 else ((f_X0_newLifts_l14 M x0 x3 1000 x1 x2 1).bind fun y3 => f_X0_newLifts_l6 M x0 k y3.1 y3.2 (x3 + 1)))
set_option maxHeartbeats 4000000 in
set_option maxRecDepth 100000 in
theorem v_X0_newLifts_l6 {L : bm_L} {d n : Nat} {Q : Option Value → bm_M → Prop} {M : bm_M} {x0 : Nat} (hN : 181 ≤ n) : ∀ (k : Nat) (x1 : Int32) (x2 : Int32) (x3 : Int32) (r : Int32), f_X0_newLifts_l6 M x0 k x1 x2 x3 = some r → (∀ yy, yy = r → bm_V L m_X0_newLifts (d + 2) n n n 62 [(1, .int yy)] [] M Q) → bm_V L m_X0_newLifts (d + 2) n n n 6 [(0, .ref x0), (1, .int x1), (2, .int x2), (3, .int x3)] [] M Q := by
  intro k
  induction k with
  | zero => intro x1 x2 x3 r h; cases (show (none : Option (Int32)) = some r from h)
  | succ k ih =>
    intro x1 x2 x3 r h K0
    unfold f_X0_newLifts_l6 at h
    refine bv_iload_n dX0_newLifts_6 3 rfl ?_
    refine bv_iconst (v := 3) dX0_newLifts_7 (by decide) ?_
    refine bv_icmp_gt (tgt := 62) dX0_newLifts_8 (by decide) (fun cc => ?_) (fun cc => ?_)
    · replace h := bu_t h cc
      refine bw_ls (ls1 := [(1, .int x1)]) [1] rfl ?_
      obtain rfl := Option.some.inj h
      exact K0 _ rfl
    · replace h := bu_f h cc
      refine bv_iconst (v := 1) dX0_newLifts_11 (by decide) ?_
      refine bv_istore (ls1 := [(0, .ref x0), (1, .int x1), (2, .int x2), (3, .int x3), (4, .int 1)]) dX0_newLifts_12 (by decide) rfl rfl ?_
      obtain ⟨r1, p2, h⟩ := bu_bd h
      refine v_X0_newLifts_l14 hN 1000 _ _ _ _ p2 (fun y3 hy => ?_)
      · subst hy
        refine bv_iinc (j := 3) (v := (x3 + 1)) (ls1 := [(0, .ref x0), (1, .int y3.1), (2, .int y3.2), (3, .int (x3 + 1))]) dX0_newLifts_56 rfl rfl (by decide) rfl rfl ?_
        refine bv_goto (tgt := 6) dX0_newLifts_59 (by decide) ?_
        exact ih _ _ _ _ h K0
def f_X0_newLifts (M : bm_M) (x0 : Nat) : Option (Int32) := ((f_X0_newLifts_l6 M x0 1000 (-1) (-1) 1).bind fun y3 => some y3)
set_option maxHeartbeats 4000000 in
set_option maxRecDepth 100000 in
theorem c_X0_newLifts {L : bm_L} {d n : Nat} {M : bm_M} {x0 : Nat} {v : Int32} (hN : 181 ≤ n) (h : f_X0_newLifts M x0 = some v) : bm_C L m_X0_newLifts (d + 2) n n [.ref x0] M (fun r M' => r = some (.int v) ∧ M' = M) := by
  refine bm_C.ofV (by decide) (Nat.le_of_ble_eq_true rfl) ?_
  show bm_V L m_X0_newLifts (d + 2) n n n 0 [(0, .ref x0)] [] M _
  unfold f_X0_newLifts at h
  refine bv_iconst (v := (-1)) dX0_newLifts_0 (by decide) ?_
  refine bv_istore_n (ls1 := [(0, .ref x0), (1, .int (-1))]) dX0_newLifts_1 (by decide) rfl rfl ?_
  refine bv_iconst (v := (-1)) dX0_newLifts_2 (by decide) ?_
  refine bv_istore_n (ls1 := [(0, .ref x0), (1, .int (-1)), (2, .int (-1))]) dX0_newLifts_3 (by decide) rfl rfl ?_
  refine bv_iconst (v := 1) dX0_newLifts_4 (by decide) ?_
  refine bv_istore_n (ls1 := [(0, .ref x0), (1, .int (-1)), (2, .int (-1)), (3, .int 1)]) dX0_newLifts_5 (by decide) rfl rfl ?_
  obtain ⟨r1, p2, h⟩ := bu_bd h
  refine v_X0_newLifts_l6 hN 1000 _ _ _ _ p2 (fun y3 hy => ?_)
  · subst hy
    refine bv_iload_n dX0_newLifts_62 0 rfl ?_
    obtain rfl := Option.some.inj h
    exact bv_iret (x := y3) dX0_newLifts_63 rfl ⟨rfl, rfl⟩
def f_X5_orderHere (M : bm_M) (x0 : Nat) (x1 : Nat) : Option (Int32 × bm_M) := (if bm_io x0 5 then (if (M.1 x0 3) = 5 then (if bm_io x1 0 then ((f_X0_orderNamed M x1 (M.2.1 x0 7)).bind fun v3 => (if v3 = (-1) then ((f_X5_refuseNumber M x0 3).bind fun v5 => some (v5.1, v5.2)) else some (v3, M))) else none) else ((f_X5_refuseNumber M x0 1).bind fun v7 => some (v7.1, v7.2))) else none)
set_option maxHeartbeats 4000000 in
set_option maxRecDepth 100000 in
theorem c_X5_orderHere {L : bm_L} {d n : Nat} {M : bm_M} {x0 : Nat} {x1 : Nat} {v : Int32 × bm_M} (hN : 181 ≤ n) (h : f_X5_orderHere M x0 x1 = some v) : bm_C L m_X5_orderHere (d + 1) n n [.ref x0, .ref x1] M (fun r M' => r = some (.int v.1) ∧ M' = v.2) := by
  refine bm_C.ofV (by decide) (Nat.le_of_ble_eq_true rfl) ?_
  show bm_V L m_X5_orderHere (d + 1) n n n 0 [(0, .ref x0), (1, .ref x1)] [] M _
  unfold f_X5_orderHere at h
  refine bv_aload_n dX5_orderHere_0 0 rfl ?_
  obtain ⟨q1, h⟩ := bu_io h
  refine bw_getI hN q1 dX5_orderHere_1 fl_5_54 rfl ?_
  refine bv_iconst (v := 5) dX5_orderHere_4 (by decide) ?_
  refine bv_icmp_eq (tgt := 14) dX5_orderHere_5 (by decide) (fun cc => ?_) (fun cc => ?_)
  · replace h := bu_t h cc
    refine bv_aload_n dX5_orderHere_14 1 rfl ?_
    refine bv_aload_n dX5_orderHere_15 0 rfl ?_
    refine bw_getL hN q1 dX5_orderHere_16 fl_5_66 rfl ?_
    obtain ⟨q2, h⟩ := bu_io h
    obtain ⟨v3, p4, h⟩ := bu_bd h
    refine bw_callV (As := [.long (M.2.1 x0 7)]) hN q2 ⟨_, _, rfl⟩ dX5_orderHere_19 mc_5_107 (c_X0_orderNamed (d := d + 0) hN p4) rfl rfl (by decide) ?_
    refine bv_istore_n (ls1 := [(0, .ref x0), (1, .ref x1), (2, .int v3)]) dX5_orderHere_22 (by decide) rfl rfl ?_
    refine bv_iload_n dX5_orderHere_23 2 rfl ?_
    refine bv_iconst (v := (-1)) dX5_orderHere_24 (by decide) ?_
    refine bv_icmp_ne (tgt := 36) dX5_orderHere_25 (by decide) (fun cc => ?_) (fun cc => ?_)
    · replace h := bu_f h cc
      refine bv_iload_n dX5_orderHere_36 2 rfl ?_
      obtain rfl := Option.some.inj h
      exact bv_iret (x := v3) dX5_orderHere_37 rfl ⟨rfl, rfl⟩
    · replace h := bu_t h cc
      refine bv_aload_n dX5_orderHere_28 0 rfl ?_
      refine bv_iconst (v := 3) dX5_orderHere_29 (by decide) ?_
      obtain ⟨v5, p6, h⟩ := bu_bd h
      refine bw_callV (As := [.int 3]) hN q1 ⟨_, _, rfl⟩ dX5_orderHere_30 mc_5_86 (c_X5_refuseNumber (d := d + 0) hN p6) rfl rfl (by decide) ?_
      refine bv_goto (tgt := 37) dX5_orderHere_33 (by decide) ?_
      obtain rfl := Option.some.inj h
      exact bv_iret (x := v5.1) dX5_orderHere_37 rfl ⟨rfl, rfl⟩
  · replace h := bu_f h cc
    refine bv_aload_n dX5_orderHere_8 0 rfl ?_
    refine bv_iconst (v := 1) dX5_orderHere_9 (by decide) ?_
    obtain ⟨v7, p8, h⟩ := bu_bd h
    refine bw_callV (As := [.int 1]) hN q1 ⟨_, _, rfl⟩ dX5_orderHere_10 mc_5_86 (c_X5_refuseNumber (d := d + 0) hN p8) rfl rfl (by decide) ?_
    obtain rfl := Option.some.inj h
    exact bv_iret (x := v7.1) dX5_orderHere_13 rfl ⟨rfl, rfl⟩
def f_X5_takeOrder (M : bm_M) (x0 : Nat) (x1 : Nat) : Option (Int32 × bm_M) := (if bm_io x0 5 then ((f_X5_orderHere M x0 x1).bind fun v2 => (if v2.1 = (-1) then some (v2.1, v2.2) else ((f_X5_advance v2.2 x0).bind fun v4 => some (v2.1, v4)))) else none)
set_option maxHeartbeats 4000000 in
set_option maxRecDepth 100000 in
theorem c_X5_takeOrder {L : bm_L} {d n : Nat} {M : bm_M} {x0 : Nat} {x1 : Nat} {v : Int32 × bm_M} (hN : 181 ≤ n) (h : f_X5_takeOrder M x0 x1 = some v) : bm_C L m_X5_takeOrder (d + 3) n n [.ref x0, .ref x1] M (fun r M' => r = some (.int v.1) ∧ M' = v.2) := by
  refine bm_C.ofV (by decide) (Nat.le_of_ble_eq_true rfl) ?_
  show bm_V L m_X5_takeOrder (d + 3) n n n 0 [(0, .ref x0), (1, .ref x1)] [] M _
  unfold f_X5_takeOrder at h
  refine bv_aload_n dX5_takeOrder_0 0 rfl ?_
  refine bv_aload_n dX5_takeOrder_1 1 rfl ?_
  obtain ⟨q1, h⟩ := bu_io h
  obtain ⟨v2, p3, h⟩ := bu_bd h
  refine bw_callV (As := [.ref x1]) hN q1 ⟨_, _, rfl⟩ dX5_takeOrder_2 mc_5_110 (c_X5_orderHere (d := d + 1) hN p3) rfl rfl (by decide) ?_
  refine bv_istore_n (ls1 := [(0, .ref x0), (1, .ref x1), (2, .int v2.1)]) dX5_takeOrder_5 (by decide) rfl rfl ?_
  refine bv_iload_n dX5_takeOrder_6 2 rfl ?_
  refine bv_iconst (v := (-1)) dX5_takeOrder_7 (by decide) ?_
  refine bv_icmp_eq (tgt := 15) dX5_takeOrder_8 (by decide) (fun cc => ?_) (fun cc => ?_)
  · replace h := bu_t h cc
    refine bv_iload_n dX5_takeOrder_15 2 rfl ?_
    obtain rfl := Option.some.inj h
    exact bv_iret (x := v2.1) dX5_takeOrder_16 rfl ⟨rfl, rfl⟩
  · replace h := bu_f h cc
    refine bv_aload_n dX5_takeOrder_11 0 rfl ?_
    obtain ⟨v4, p5, h⟩ := bu_bd h
    refine bw_callVv (As := []) hN q1 ⟨_, _, rfl⟩ dX5_takeOrder_12 mc_5_28 (c_X5_advance (d := d + 0) hN p5) rfl rfl (by decide) ?_
    refine bv_iload_n dX5_takeOrder_15 2 rfl ?_
    obtain rfl := Option.some.inj h
    exact bv_iret (x := v2.1) dX5_takeOrder_16 rfl ⟨rfl, rfl⟩
def f_X1_readObject (M : bm_M) (x0 : Int32) (x1 : Nat) (x2 : Nat) : Option (Int32 × bm_M) := (if x0 = 0 then (if bm_io x1 5 then ((f_X5_takeWord M x1 1).bind fun v3 => some (v3.1, v3.2)) else none) else (if x0 = 1 then (if bm_io x1 5 then ((f_X5_takeOrder M x1 x2).bind fun v7 => some (v7.1, v7.2)) else none) else (if x0 = 2 then some (0, M) else (if x0 = 3 then some (0, M) else (if x0 = 4 then some (0, M) else (if x0 = 5 then (if bm_io x1 5 then ((f_X5_takeWord M x1 2).bind fun v14 => some (v14.1, v14.2)) else none) else (if x0 = 6 then (if bm_io x1 5 then ((f_X5_takeNumber M x1 1 60).bind fun v18 => some (v18.1, v18.2)) else none) else some (0, M))))))))
set_option maxHeartbeats 4000000 in
set_option maxRecDepth 100000 in
theorem c_X1_readObject {L : bm_L} {d n : Nat} {M : bm_M} {x0 : Int32} {x1 : Nat} {x2 : Nat} {v : Int32 × bm_M} (hN : 181 ≤ n) (h : f_X1_readObject M x0 x1 x2 = some v) : bm_C L m_X1_readObject (d + 4) n n [.int x0, .ref x1, .ref x2] M (fun r M' => r = some (.int v.1) ∧ M' = v.2) := by
  refine bm_C.ofV (by decide) (Nat.le_of_ble_eq_true rfl) ?_
  show bm_V L m_X1_readObject (d + 4) n n n 0 [(0, .int x0), (1, .ref x1), (2, .ref x2)] [] M _
  unfold f_X1_readObject at h
  refine bv_iload_n dX1_readObject_0 0 rfl ?_
  by_cases c1 : x0 = 0
  · replace h := bu_t h c1
    refine bv_tableIn (tgt := 44) dX1_readObject_1 (by rw [c1]; decide) (by rw [c1]; decide) (by rw [c1]; rfl) (by decide) ?_
    refine bv_aload_n dX1_readObject_44 1 rfl ?_
    refine bv_iconst (v := 1) dX1_readObject_45 (by decide) ?_
    obtain ⟨q2, h⟩ := bu_io h
    obtain ⟨v3, p4, h⟩ := bu_bd h
    refine bw_callV (As := [.int 1]) hN q2 ⟨_, _, rfl⟩ dX1_readObject_46 mc_1_69 (c_X5_takeWord (d := d + 0) hN p4) rfl rfl (by decide) ?_
    obtain rfl := Option.some.inj h
    exact bv_iret (x := v3.1) dX1_readObject_49 rfl ⟨rfl, rfl⟩
  · replace h := bu_f h c1
    by_cases c5 : x0 = 1
    · replace h := bu_t h c5
      refine bv_tableIn (tgt := 50) dX1_readObject_1 (by rw [c5]; decide) (by rw [c5]; decide) (by rw [c5]; rfl) (by decide) ?_
      refine bv_aload_n dX1_readObject_50 1 rfl ?_
      refine bv_aload_n dX1_readObject_51 2 rfl ?_
      obtain ⟨q6, h⟩ := bu_io h
      obtain ⟨v7, p8, h⟩ := bu_bd h
      refine bw_callV (As := [.ref x2]) hN q6 ⟨_, _, rfl⟩ dX1_readObject_52 mc_1_77 (c_X5_takeOrder (d := d + 0) hN p8) rfl rfl (by decide) ?_
      obtain rfl := Option.some.inj h
      exact bv_iret (x := v7.1) dX1_readObject_55 rfl ⟨rfl, rfl⟩
    · replace h := bu_f h c5
      by_cases c9 : x0 = 2
      · replace h := bu_t h c9
        refine bv_tableIn (tgt := 70) dX1_readObject_1 (by rw [c9]; decide) (by rw [c9]; decide) (by rw [c9]; rfl) (by decide) ?_
        refine bv_iconst (v := 0) dX1_readObject_70 (by decide) ?_
        obtain rfl := Option.some.inj h
        exact bv_iret (x := 0) dX1_readObject_71 rfl ⟨rfl, rfl⟩
      · replace h := bu_f h c9
        by_cases c10 : x0 = 3
        · replace h := bu_t h c10
          refine bv_tableIn (tgt := 70) dX1_readObject_1 (by rw [c10]; decide) (by rw [c10]; decide) (by rw [c10]; rfl) (by decide) ?_
          refine bv_iconst (v := 0) dX1_readObject_70 (by decide) ?_
          obtain rfl := Option.some.inj h
          exact bv_iret (x := 0) dX1_readObject_71 rfl ⟨rfl, rfl⟩
        · replace h := bu_f h c10
          by_cases c11 : x0 = 4
          · replace h := bu_t h c11
            refine bv_tableIn (tgt := 70) dX1_readObject_1 (by rw [c11]; decide) (by rw [c11]; decide) (by rw [c11]; rfl) (by decide) ?_
            refine bv_iconst (v := 0) dX1_readObject_70 (by decide) ?_
            obtain rfl := Option.some.inj h
            exact bv_iret (x := 0) dX1_readObject_71 rfl ⟨rfl, rfl⟩
          · replace h := bu_f h c11
            by_cases c12 : x0 = 5
            · replace h := bu_t h c12
              refine bv_tableIn (tgt := 56) dX1_readObject_1 (by rw [c12]; decide) (by rw [c12]; decide) (by rw [c12]; rfl) (by decide) ?_
              refine bv_aload_n dX1_readObject_56 1 rfl ?_
              refine bv_iconst (v := 2) dX1_readObject_57 (by decide) ?_
              obtain ⟨q13, h⟩ := bu_io h
              obtain ⟨v14, p15, h⟩ := bu_bd h
              refine bw_callV (As := [.int 2]) hN q13 ⟨_, _, rfl⟩ dX1_readObject_58 mc_1_69 (c_X5_takeWord (d := d + 0) hN p15) rfl rfl (by decide) ?_
              obtain rfl := Option.some.inj h
              exact bv_iret (x := v14.1) dX1_readObject_61 rfl ⟨rfl, rfl⟩
            · replace h := bu_f h c12
              by_cases c16 : x0 = 6
              · replace h := bu_t h c16
                refine bv_tableIn (tgt := 62) dX1_readObject_1 (by rw [c16]; decide) (by rw [c16]; decide) (by rw [c16]; rfl) (by decide) ?_
                refine bv_aload_n dX1_readObject_62 1 rfl ?_
                refine bv_iconst (v := 1) dX1_readObject_63 (by decide) ?_
                refine bv_bipush (v := 60) dX1_readObject_64 (by decide) ?_
                obtain ⟨q17, h⟩ := bu_io h
                obtain ⟨v18, p19, h⟩ := bu_bd h
                refine bw_callV (As := [.int 1, .int 60]) hN q17 ⟨_, _, rfl⟩ dX1_readObject_66 mc_1_80 (c_X5_takeNumber (d := d + 0) hN p19) rfl rfl (by decide) ?_
                obtain rfl := Option.some.inj h
                exact bv_iret (x := v18.1) dX1_readObject_69 rfl ⟨rfl, rfl⟩
              · replace h := bu_f h c16
                refine bv_tableOut (tgt := 70) dX1_readObject_1 (bm_sw (k := 7) (by decide) (fun j hj => by match j, hj with | 0, _ => exact c1 | 1, _ => exact c5 | 2, _ => exact c9 | 3, _ => exact c10 | 4, _ => exact c11 | 5, _ => exact c12 | 6, _ => exact c16)) (by decide) ?_
                refine bv_iconst (v := 0) dX1_readObject_70 (by decide) ?_
                obtain rfl := Option.some.inj h
                exact bv_iret (x := 0) dX1_readObject_71 rfl ⟨rfl, rfl⟩
def f_X1_readLine (M : bm_M) (x0 : Nat) (x1 : Nat) (x2 : Nat) : Option (Bool × bm_M) := (if bm_io x1 5 then (if bm_iwq (M.2.2 x1 8) = true then (if (M.2.2 x1 8) = (some (1000 + 14)) then (if bm_io x0 1 then (if (M.1 x0 3) < 40 then ((M.2.2 x0 1).bind fun a30 => (if bm_ia a30 0 (M.1 x0 3) = true then ((f_X5_advance (bm_sI M a30 (M.1 x0 3).toNatClampNeg 0) x1).bind fun v33 => ((v33.2.2 x0 0).bind fun a35 => (if bm_ia a35 0 (v33.1 x0 3) = true then (if bm_ia a35 0 ((bm_sI v33 a35 (v33.1 x0 3).toNatClampNeg 6).1 x0 3) = true then (if ((bm_sI v33 a35 (v33.1 x0 3).toNatClampNeg 6).1 a35 ((bm_sI v33 a35 (v33.1 x0 3).toNatClampNeg 6).1 x0 3).toNatClampNeg) = (-1) then some (false, (bm_sI v33 a35 (v33.1 x0 3).toNatClampNeg 6)) else ((v33.2.2 x0 2).bind fun a39 => ((f_X1_readObject (bm_sI v33 a35 (v33.1 x0 3).toNatClampNeg 6) ((bm_sI v33 a35 (v33.1 x0 3).toNatClampNeg 6).1 a35 ((bm_sI v33 a35 (v33.1 x0 3).toNatClampNeg 6).1 x0 3).toNatClampNeg) x1 x2).bind fun v41 => (if bm_ia a39 0 ((bm_sI v33 a35 (v33.1 x0 3).toNatClampNeg 6).1 x0 3) = true then ((v41.2.2.2 x0 2).bind fun a44 => (if bm_ia a44 0 ((bm_sI v41.2 a39 ((bm_sI v33 a35 (v33.1 x0 3).toNatClampNeg 6).1 x0 3).toNatClampNeg v41.1).1 x0 3) = true then (if ((bm_sI v41.2 a39 ((bm_sI v33 a35 (v33.1 x0 3).toNatClampNeg 6).1 x0 3).toNatClampNeg v41.1).1 a44 ((bm_sI v41.2 a39 ((bm_sI v33 a35 (v33.1 x0 3).toNatClampNeg 6).1 x0 3).toNatClampNeg v41.1).1 x0 3).toNatClampNeg) = (-1) then some (false, (bm_sI v41.2 a39 ((bm_sI v33 a35 (v33.1 x0 3).toNatClampNeg 6).1 x0 3).toNatClampNeg v41.1)) else some (true, (bm_sI v41.2 a39 ((bm_sI v33 a35 (v33.1 x0 3).toNatClampNeg 6).1 x0 3).toNatClampNeg v41.1))) else none)) else none)))) else none) else none))) else none)) else ((f_X5_refuse M x1 4).bind fun v47 => some (v47.1, v47.2))) else none) else ((f_X5_manHere M x1 x2).bind fun v3 => (if v3.1 = (-1) then some (false, v3.2) else (if bm_io x0 1 then (if (v3.2.1 x0 3) < 40 then ((v3.2.2.2 x0 1).bind fun a6 => (if bm_ia a6 0 (v3.2.1 x0 3) = true then ((f_X5_advance (bm_sI v3.2 a6 (v3.2.1 x0 3).toNatClampNeg v3.1) x1).bind fun v9 => ((v9.2.2 x0 0).bind fun a11 => ((f_X5_takeWord v9 x1 3).bind fun v13 => (if bm_ia a11 0 (v9.1 x0 3) = true then ((v13.2.2.2 x0 0).bind fun a16 => (if bm_ia a16 0 ((bm_sI v13.2 a11 (v9.1 x0 3).toNatClampNeg v13.1).1 x0 3) = true then (if ((bm_sI v13.2 a11 (v9.1 x0 3).toNatClampNeg v13.1).1 a16 ((bm_sI v13.2 a11 (v9.1 x0 3).toNatClampNeg v13.1).1 x0 3).toNatClampNeg) = (-1) then some (false, (bm_sI v13.2 a11 (v9.1 x0 3).toNatClampNeg v13.1)) else ((v13.2.2.2 x0 2).bind fun a19 => ((f_X1_readObject (bm_sI v13.2 a11 (v9.1 x0 3).toNatClampNeg v13.1) ((bm_sI v13.2 a11 (v9.1 x0 3).toNatClampNeg v13.1).1 a16 ((bm_sI v13.2 a11 (v9.1 x0 3).toNatClampNeg v13.1).1 x0 3).toNatClampNeg) x1 x2).bind fun v21 => (if bm_ia a19 0 ((bm_sI v13.2 a11 (v9.1 x0 3).toNatClampNeg v13.1).1 x0 3) = true then ((v21.2.2.2 x0 2).bind fun a24 => (if bm_ia a24 0 ((bm_sI v21.2 a19 ((bm_sI v13.2 a11 (v9.1 x0 3).toNatClampNeg v13.1).1 x0 3).toNatClampNeg v21.1).1 x0 3) = true then (if ((bm_sI v21.2 a19 ((bm_sI v13.2 a11 (v9.1 x0 3).toNatClampNeg v13.1).1 x0 3).toNatClampNeg v21.1).1 a24 ((bm_sI v21.2 a19 ((bm_sI v13.2 a11 (v9.1 x0 3).toNatClampNeg v13.1).1 x0 3).toNatClampNeg v21.1).1 x0 3).toNatClampNeg) = (-1) then some (false, (bm_sI v21.2 a19 ((bm_sI v13.2 a11 (v9.1 x0 3).toNatClampNeg v13.1).1 x0 3).toNatClampNeg v21.1)) else some (true, (bm_sI v21.2 a19 ((bm_sI v13.2 a11 (v9.1 x0 3).toNatClampNeg v13.1).1 x0 3).toNatClampNeg v21.1))) else none)) else none)))) else none)) else none)))) else none)) else ((f_X5_refuse v3.2 x1 4).bind fun v27 => some (v27.1, v27.2))) else none)))) else none) else none)
set_option maxHeartbeats 4000000 in
set_option maxRecDepth 100000 in
theorem c_X1_readLine {L : bm_L} {d n : Nat} {M : bm_M} {x0 : Nat} {x1 : Nat} {x2 : Nat} {v : Bool × bm_M} (hN : 181 ≤ n) (h : f_X1_readLine M x0 x1 x2 = some v) : bm_C L m_X1_readLine (d + 5) n n [.ref x0, .ref x1, .ref x2] M (fun r M' => r = some (.int (bm_bi v.1)) ∧ M' = v.2) := by
  refine bm_C.ofV (by decide) (Nat.le_of_ble_eq_true rfl) ?_
  show bm_V L m_X1_readLine (d + 5) n n n 0 [(0, .ref x0), (1, .ref x1), (2, .ref x2)] [] M _
  unfold f_X1_readLine at h
  refine bv_aload_n dX1_readLine_0 1 rfl ?_
  obtain ⟨q1, h⟩ := bu_io h
  refine bw_getR hN q1 dX1_readLine_1 fl_1_50 rfl ?_
  refine bw_getW (j := 14) dX1_readLine_4 fw_1_54 rfl ?_
  obtain ⟨w2, h⟩ := bu_g h
  refine bv_acmp_ne (x := (M.2.2 x1 8)) (y := (some (1000 + 14))) (tgt := 14) dX1_readLine_7 (by decide) (bm_wq_of w2) (bm_wq_of rfl) (fun cc => ?_) (fun cc => ?_)
  · replace h := bu_f h cc
    refine bv_iconst (v := 0) dX1_readLine_14 (by decide) ?_
    refine bv_istore_n (ls1 := [(0, .ref x0), (1, .ref x1), (2, .ref x2), (3, .int 0)]) dX1_readLine_15 (by decide) rfl rfl ?_
    refine bv_iload_n dX1_readLine_16 3 rfl ?_
    refine bv_if_eq (tgt := 24) dX1_readLine_17 (by decide) (fun cc => ?_) (fun cc => ?_)
    rotate_left
    · exact absurd cc (by decide)
    refine bv_aload_n dX1_readLine_24 1 rfl ?_
    refine bv_aload_n dX1_readLine_25 2 rfl ?_
    obtain ⟨v3, p4, h⟩ := bu_bd h
    refine bw_callV (As := [.ref x2]) hN q1 ⟨_, _, rfl⟩ dX1_readLine_26 mc_1_59 (c_X5_manHere (d := d + 3) hN p4) rfl rfl (by decide) ?_
    refine bv_istore (ls1 := [(0, .ref x0), (1, .ref x1), (2, .ref x2), (3, .int 0), (4, .int v3.1)]) dX1_readLine_29 (by decide) rfl rfl ?_
    refine bv_iload dX1_readLine_31 4 rfl ?_
    refine bv_iconst (v := (-1)) dX1_readLine_33 (by decide) ?_
    refine bv_icmp_ne (tgt := 39) dX1_readLine_34 (by decide) (fun cc => ?_) (fun cc => ?_)
    · replace h := bu_f h cc
      refine bv_aload_n dX1_readLine_39 0 rfl ?_
      obtain ⟨q5, h⟩ := bu_io h
      refine bw_getI hN q5 dX1_readLine_40 fl_1_34 rfl ?_
      refine bv_bipush (v := 40) dX1_readLine_43 (by decide) ?_
      refine bv_icmp_lt (tgt := 54) dX1_readLine_45 (by decide) (fun cc => ?_) (fun cc => ?_)
      · replace h := bu_t h cc
        refine bv_aload_n dX1_readLine_54 0 rfl ?_
        obtain ⟨a6, e7, h⟩ := bu_bd h
        refine bw_getA (a := a6) hN q5 e7 dX1_readLine_55 fl_1_15 rfl ?_
        refine bv_aload_n dX1_readLine_58 0 rfl ?_
        refine bw_getI hN q5 dX1_readLine_59 fl_1_34 rfl ?_
        refine bv_iload dX1_readLine_62 4 rfl ?_
        obtain ⟨r8, h⟩ := bu_ia h
        refine bw_iast hN r8 dX1_readLine_64 ?_
        refine bv_aload_n dX1_readLine_65 1 rfl ?_
        obtain ⟨v9, p10, h⟩ := bu_bd h
        refine bw_callVv (As := []) hN q1 ⟨_, _, rfl⟩ dX1_readLine_66 mc_1_66 (c_X5_advance (d := d + 2) hN p10) rfl rfl (by decide) ?_
        refine bv_aload_n dX1_readLine_69 0 rfl ?_
        obtain ⟨a11, e12, h⟩ := bu_bd h
        refine bw_getA (a := a11) hN q5 e12 dX1_readLine_70 fl_1_9 rfl ?_
        refine bv_aload_n dX1_readLine_73 0 rfl ?_
        refine bw_getI hN q5 dX1_readLine_74 fl_1_34 rfl ?_
        refine bv_iload_n dX1_readLine_77 3 rfl ?_
        refine bv_if_eq (tgt := 86) dX1_readLine_78 (by decide) (fun cc => ?_) (fun cc => ?_)
        rotate_left
        · exact absurd cc (by decide)
        refine bv_aload_n dX1_readLine_86 1 rfl ?_
        refine bv_iconst (v := 3) dX1_readLine_87 (by decide) ?_
        obtain ⟨v13, p14, h⟩ := bu_bd h
        refine bw_callV (As := [.int 3]) hN q1 ⟨_, _, rfl⟩ dX1_readLine_88 mc_1_69 (c_X5_takeWord (d := d + 1) hN p14) rfl rfl (Nat.le_of_ble_eq_true rfl) ?_
        obtain ⟨r15, h⟩ := bu_ia h
        refine bw_iast hN r15 dX1_readLine_91 ?_
        refine bv_aload_n dX1_readLine_92 0 rfl ?_
        obtain ⟨a16, e17, h⟩ := bu_bd h
        refine bw_getA (a := a16) hN q5 e17 dX1_readLine_93 fl_1_9 rfl ?_
        refine bv_aload_n dX1_readLine_96 0 rfl ?_
        refine bw_getI hN q5 dX1_readLine_97 fl_1_34 rfl ?_
        obtain ⟨r18, h⟩ := bu_ia h
        refine bw_iald hN r18 dX1_readLine_100 ?_
        refine bv_iconst (v := (-1)) dX1_readLine_101 (by decide) ?_
        refine bv_icmp_ne (tgt := 107) dX1_readLine_102 (by decide) (fun cc => ?_) (fun cc => ?_)
        · replace h := bu_f h cc
          refine bv_aload_n dX1_readLine_107 0 rfl ?_
          obtain ⟨a19, e20, h⟩ := bu_bd h
          refine bw_getA (a := a19) hN q5 e20 dX1_readLine_108 fl_1_18 rfl ?_
          refine bv_aload_n dX1_readLine_111 0 rfl ?_
          refine bw_getI hN q5 dX1_readLine_112 fl_1_34 rfl ?_
          refine bv_aload_n dX1_readLine_115 0 rfl ?_
          refine bw_getA (a := a16) hN q5 e17 dX1_readLine_116 fl_1_9 rfl ?_
          refine bv_aload_n dX1_readLine_119 0 rfl ?_
          refine bw_getI hN q5 dX1_readLine_120 fl_1_34 rfl ?_
          refine bw_iald hN r18 dX1_readLine_123 ?_
          refine bv_aload_n dX1_readLine_124 1 rfl ?_
          refine bv_aload_n dX1_readLine_125 2 rfl ?_
          obtain ⟨v21, p22, h⟩ := bu_bd h
          refine bw_callS (As := [.int ((bm_sI v13.2 a11 (v9.1 x0 3).toNatClampNeg v13.1).1 a16 ((bm_sI v13.2 a11 (v9.1 x0 3).toNatClampNeg v13.1).1 x0 3).toNatClampNeg), .ref x1, .ref x2]) dX1_readLine_126 mc_1_73 (c_X1_readObject (d := d + 0) hN p22) rfl rfl (Nat.le_of_ble_eq_true rfl) ?_
          obtain ⟨r23, h⟩ := bu_ia h
          refine bw_iast hN r23 dX1_readLine_129 ?_
          refine bv_aload_n dX1_readLine_130 0 rfl ?_
          obtain ⟨a24, e25, h⟩ := bu_bd h
          refine bw_getA (a := a24) hN q5 e25 dX1_readLine_131 fl_1_18 rfl ?_
          refine bv_aload_n dX1_readLine_134 0 rfl ?_
          refine bw_getI hN q5 dX1_readLine_135 fl_1_34 rfl ?_
          obtain ⟨r26, h⟩ := bu_ia h
          refine bw_iald hN r26 dX1_readLine_138 ?_
          refine bv_iconst (v := (-1)) dX1_readLine_139 (by decide) ?_
          refine bv_icmp_eq (tgt := 147) dX1_readLine_140 (by decide) (fun cc => ?_) (fun cc => ?_)
          · replace h := bu_t h cc
            refine bv_iconst (v := 0) dX1_readLine_147 (by decide) ?_
            obtain rfl := Option.some.inj h
            exact bw_bret (b := false) dX1_readLine_148 rfl ⟨rfl, rfl⟩
          · replace h := bu_f h cc
            refine bv_iconst (v := 1) dX1_readLine_143 (by decide) ?_
            refine bv_goto (tgt := 148) dX1_readLine_144 (by decide) ?_
            obtain rfl := Option.some.inj h
            exact bw_bret (b := true) dX1_readLine_148 rfl ⟨rfl, rfl⟩
        · replace h := bu_t h cc
          refine bv_iconst (v := 0) dX1_readLine_105 (by decide) ?_
          obtain rfl := Option.some.inj h
          exact bw_bret (b := false) dX1_readLine_106 rfl ⟨rfl, rfl⟩
      · replace h := bu_f h cc
        refine bv_aload_n dX1_readLine_48 1 rfl ?_
        refine bv_iconst (v := 4) dX1_readLine_49 (by decide) ?_
        obtain ⟨v27, p28, h⟩ := bu_bd h
        refine bw_callV (As := [.int 4]) hN q1 ⟨_, _, rfl⟩ dX1_readLine_50 mc_1_63 (c_X5_refuse (d := d + 4) hN p28) rfl rfl (by decide) ?_
        obtain rfl := Option.some.inj h
        exact bw_bret (b := v27.1) dX1_readLine_53 rfl ⟨rfl, rfl⟩
    · replace h := bu_t h cc
      refine bv_iconst (v := 0) dX1_readLine_37 (by decide) ?_
      obtain rfl := Option.some.inj h
      exact bw_bret (b := false) dX1_readLine_38 rfl ⟨rfl, rfl⟩
  · replace h := bu_t h cc
    refine bv_iconst (v := 1) dX1_readLine_10 (by decide) ?_
    refine bv_goto (tgt := 15) dX1_readLine_11 (by decide) ?_
    refine bv_istore_n (ls1 := [(0, .ref x0), (1, .ref x1), (2, .ref x2), (3, .int 1)]) dX1_readLine_15 (by decide) rfl rfl ?_
    refine bv_iload_n dX1_readLine_16 3 rfl ?_
    refine bv_if_eq (tgt := 24) dX1_readLine_17 (by decide) (fun cc => ?_) (fun cc => ?_)
    · exact absurd cc (by decide)
    refine bv_iconst (v := 0) dX1_readLine_20 (by decide) ?_
    refine bv_goto (tgt := 29) dX1_readLine_21 (by decide) ?_
    refine bv_istore (ls1 := [(0, .ref x0), (1, .ref x1), (2, .ref x2), (3, .int 1), (4, .int 0)]) dX1_readLine_29 (by decide) rfl rfl ?_
    refine bv_iload dX1_readLine_31 4 rfl ?_
    refine bv_iconst (v := (-1)) dX1_readLine_33 (by decide) ?_
    refine bv_icmp_ne (tgt := 39) dX1_readLine_34 (by decide) (fun cc => ?_) (fun cc => ?_)
    rotate_left
    · exact absurd cc (by decide)
    refine bv_aload_n dX1_readLine_39 0 rfl ?_
    obtain ⟨q29, h⟩ := bu_io h
    refine bw_getI hN q29 dX1_readLine_40 fl_1_34 rfl ?_
    refine bv_bipush (v := 40) dX1_readLine_43 (by decide) ?_
    refine bv_icmp_lt (tgt := 54) dX1_readLine_45 (by decide) (fun cc => ?_) (fun cc => ?_)
    · replace h := bu_t h cc
      refine bv_aload_n dX1_readLine_54 0 rfl ?_
      obtain ⟨a30, e31, h⟩ := bu_bd h
      refine bw_getA (a := a30) hN q29 e31 dX1_readLine_55 fl_1_15 rfl ?_
      refine bv_aload_n dX1_readLine_58 0 rfl ?_
      refine bw_getI hN q29 dX1_readLine_59 fl_1_34 rfl ?_
      refine bv_iload dX1_readLine_62 4 rfl ?_
      obtain ⟨r32, h⟩ := bu_ia h
      refine bw_iast hN r32 dX1_readLine_64 ?_
      refine bv_aload_n dX1_readLine_65 1 rfl ?_
      obtain ⟨v33, p34, h⟩ := bu_bd h
      refine bw_callVv (As := []) hN q1 ⟨_, _, rfl⟩ dX1_readLine_66 mc_1_66 (c_X5_advance (d := d + 2) hN p34) rfl rfl (by decide) ?_
      refine bv_aload_n dX1_readLine_69 0 rfl ?_
      obtain ⟨a35, e36, h⟩ := bu_bd h
      refine bw_getA (a := a35) hN q29 e36 dX1_readLine_70 fl_1_9 rfl ?_
      refine bv_aload_n dX1_readLine_73 0 rfl ?_
      refine bw_getI hN q29 dX1_readLine_74 fl_1_34 rfl ?_
      refine bv_iload_n dX1_readLine_77 3 rfl ?_
      refine bv_if_eq (tgt := 86) dX1_readLine_78 (by decide) (fun cc => ?_) (fun cc => ?_)
      · exact absurd cc (by decide)
      refine bv_bipush (v := 6) dX1_readLine_81 (by decide) ?_
      refine bv_goto (tgt := 91) dX1_readLine_83 (by decide) ?_
      obtain ⟨r37, h⟩ := bu_ia h
      refine bw_iast hN r37 dX1_readLine_91 ?_
      refine bv_aload_n dX1_readLine_92 0 rfl ?_
      refine bw_getA (a := a35) hN q29 e36 dX1_readLine_93 fl_1_9 rfl ?_
      refine bv_aload_n dX1_readLine_96 0 rfl ?_
      refine bw_getI hN q29 dX1_readLine_97 fl_1_34 rfl ?_
      obtain ⟨r38, h⟩ := bu_ia h
      refine bw_iald hN r38 dX1_readLine_100 ?_
      refine bv_iconst (v := (-1)) dX1_readLine_101 (by decide) ?_
      refine bv_icmp_ne (tgt := 107) dX1_readLine_102 (by decide) (fun cc => ?_) (fun cc => ?_)
      · replace h := bu_f h cc
        refine bv_aload_n dX1_readLine_107 0 rfl ?_
        obtain ⟨a39, e40, h⟩ := bu_bd h
        refine bw_getA (a := a39) hN q29 e40 dX1_readLine_108 fl_1_18 rfl ?_
        refine bv_aload_n dX1_readLine_111 0 rfl ?_
        refine bw_getI hN q29 dX1_readLine_112 fl_1_34 rfl ?_
        refine bv_aload_n dX1_readLine_115 0 rfl ?_
        refine bw_getA (a := a35) hN q29 e36 dX1_readLine_116 fl_1_9 rfl ?_
        refine bv_aload_n dX1_readLine_119 0 rfl ?_
        refine bw_getI hN q29 dX1_readLine_120 fl_1_34 rfl ?_
        refine bw_iald hN r38 dX1_readLine_123 ?_
        refine bv_aload_n dX1_readLine_124 1 rfl ?_
        refine bv_aload_n dX1_readLine_125 2 rfl ?_
        obtain ⟨v41, p42, h⟩ := bu_bd h
        refine bw_callS (As := [.int ((bm_sI v33 a35 (v33.1 x0 3).toNatClampNeg 6).1 a35 ((bm_sI v33 a35 (v33.1 x0 3).toNatClampNeg 6).1 x0 3).toNatClampNeg), .ref x1, .ref x2]) dX1_readLine_126 mc_1_73 (c_X1_readObject (d := d + 0) hN p42) rfl rfl (Nat.le_of_ble_eq_true rfl) ?_
        obtain ⟨r43, h⟩ := bu_ia h
        refine bw_iast hN r43 dX1_readLine_129 ?_
        refine bv_aload_n dX1_readLine_130 0 rfl ?_
        obtain ⟨a44, e45, h⟩ := bu_bd h
        refine bw_getA (a := a44) hN q29 e45 dX1_readLine_131 fl_1_18 rfl ?_
        refine bv_aload_n dX1_readLine_134 0 rfl ?_
        refine bw_getI hN q29 dX1_readLine_135 fl_1_34 rfl ?_
        obtain ⟨r46, h⟩ := bu_ia h
        refine bw_iald hN r46 dX1_readLine_138 ?_
        refine bv_iconst (v := (-1)) dX1_readLine_139 (by decide) ?_
        refine bv_icmp_eq (tgt := 147) dX1_readLine_140 (by decide) (fun cc => ?_) (fun cc => ?_)
        · replace h := bu_t h cc
          refine bv_iconst (v := 0) dX1_readLine_147 (by decide) ?_
          obtain rfl := Option.some.inj h
          exact bw_bret (b := false) dX1_readLine_148 rfl ⟨rfl, rfl⟩
        · replace h := bu_f h cc
          refine bv_iconst (v := 1) dX1_readLine_143 (by decide) ?_
          refine bv_goto (tgt := 148) dX1_readLine_144 (by decide) ?_
          obtain rfl := Option.some.inj h
          exact bw_bret (b := true) dX1_readLine_148 rfl ⟨rfl, rfl⟩
      · replace h := bu_t h cc
        refine bv_iconst (v := 0) dX1_readLine_105 (by decide) ?_
        obtain rfl := Option.some.inj h
        exact bw_bret (b := false) dX1_readLine_106 rfl ⟨rfl, rfl⟩
    · replace h := bu_f h cc
      refine bv_aload_n dX1_readLine_48 1 rfl ?_
      refine bv_iconst (v := 4) dX1_readLine_49 (by decide) ?_
      obtain ⟨v47, p48, h⟩ := bu_bd h
      refine bw_callV (As := [.int 4]) hN q1 ⟨_, _, rfl⟩ dX1_readLine_50 mc_1_63 (c_X5_refuse (d := d + 4) hN p48) rfl rfl (by decide) ?_
      obtain rfl := Option.some.inj h
      exact bw_bret (b := v47.1) dX1_readLine_53 rfl ⟨rfl, rfl⟩
def f_X1_readFrom_l7 (x0 : Nat) (x1 : Nat) (x2 : Nat) : Nat → Int32 → bm_M → Option (((bm_M) ⊕ (bm_M)))
  | 0, _, _ => none
  | k + 1, x3, M => (if 40 < x3 then some (Sum.inr M) else (if bm_io x1 5 then (if (M.1 x1 3) = 0 then some (Sum.inr M) else ((f_X1_readLine M x0 x1 x2).bind fun v2 => (if v2.1 = true then ((f_X5_takeSign v2.2 x1 59).bind fun v4 => (if v4.1 = true then f_X1_readFrom_l7 x0 x1 x2 k (x3 + 1) (bm_sI v4.2 x0 3 ((v4.2.1 x0 3) + 1)) else some (Sum.inl v4.2))) else some (Sum.inl v2.2)))) else none))
set_option maxHeartbeats 4000000 in
set_option maxRecDepth 100000 in
theorem v_X1_readFrom_l7 {L : bm_L} {d n : Nat} {Q : Option Value → bm_M → Prop} {x0 : Nat} {x1 : Nat} {x2 : Nat} (hN : 181 ≤ n) (q_0 : bm_OK x0 1) : ∀ (k : Nat) (x3 : Int32) (M : bm_M) (r : ((bm_M) ⊕ (bm_M))), f_X1_readFrom_l7 x0 x1 x2 k x3 M = some r → (∀ yy, (Sum.inl yy) = r → bm_V L m_X1_readFrom (d + 6) n n n 38 [] [] yy Q) → (∀ yy, (Sum.inr yy) = r → bm_V L m_X1_readFrom (d + 6) n n n 55 [] [] yy Q) → bm_V L m_X1_readFrom (d + 6) n n n 7 [(0, .ref x0), (1, .ref x1), (2, .ref x2), (3, .int x3)] [] M Q := by
  intro k
  induction k with
  | zero => intro x3 M r h; cases (show (none : Option (((bm_M) ⊕ (bm_M)))) = some r from h)
  | succ k ih =>
    intro x3 M r h K0 K1
    unfold f_X1_readFrom_l7 at h
    refine bv_iload_n dX1_readFrom_7 3 rfl ?_
    refine bv_bipush (v := 40) dX1_readFrom_8 (by decide) ?_
    refine bv_icmp_gt (tgt := 55) dX1_readFrom_10 (by decide) (fun cc => ?_) (fun cc => ?_)
    · replace h := bu_t h cc
      refine bw_ls (ls1 := []) [] rfl ?_
      obtain rfl := Option.some.inj h
      exact K1 _ rfl
    · replace h := bu_f h cc
      refine bv_aload_n dX1_readFrom_13 1 rfl ?_
      obtain ⟨q1, h⟩ := bu_io h
      refine bw_getI hN q1 dX1_readFrom_14 fl_1_37 rfl ?_
      refine bv_if_eq (tgt := 55) dX1_readFrom_17 (by decide) (fun cc => ?_) (fun cc => ?_)
      · replace h := bu_t h cc
        refine bw_ls (ls1 := []) [] rfl ?_
        obtain rfl := Option.some.inj h
        exact K1 _ rfl
      · replace h := bu_f h cc
        refine bv_aload_n dX1_readFrom_20 0 rfl ?_
        refine bv_aload_n dX1_readFrom_21 1 rfl ?_
        refine bv_aload_n dX1_readFrom_22 2 rfl ?_
        obtain ⟨v2, p3, h⟩ := bu_bd h
        refine bw_callV (As := [.ref x1, .ref x2]) hN q_0 ⟨_, _, rfl⟩ dX1_readFrom_23 mc_1_42 (c_X1_readLine (d := d + 0) hN p3) rfl rfl (by decide) ?_
        refine bw_ifB_eq (b := v2.1) (tgt := 38) dX1_readFrom_26 (by decide) (fun cc => ?_) (fun cc => ?_)
        · replace h := bu_bf h cc
          refine bw_ls (ls1 := []) [] rfl ?_
          obtain rfl := Option.some.inj h
          exact K0 _ rfl
        · replace h := bu_bt h cc
          refine bv_aload_n dX1_readFrom_29 1 rfl ?_
          refine bv_bipush (v := 59) dX1_readFrom_30 (by decide) ?_
          obtain ⟨v4, p5, h⟩ := bu_bd h
          refine bw_callV (As := [.int 59]) hN q1 ⟨_, _, rfl⟩ dX1_readFrom_32 mc_1_46 (c_X5_takeSign (d := d + 2) hN p5) rfl rfl (by decide) ?_
          refine bw_ifB_ne (b := v4.1) (tgt := 39) dX1_readFrom_35 (by decide) (fun cc => ?_) (fun cc => ?_)
          · replace h := bu_bt h cc
            refine bv_aload_n dX1_readFrom_39 0 rfl ?_
            refine bv_dup dX1_readFrom_40 rfl ?_
            refine bw_getI hN q_0 dX1_readFrom_41 fl_1_34 rfl ?_
            refine bv_iconst (v := 1) dX1_readFrom_44 (by decide) ?_
            refine bv_iadd dX1_readFrom_45 ?_
            refine bw_putI hN q_0 dX1_readFrom_46 fl_1_34 rfl ?_
            refine bv_iinc (j := 3) (v := (x3 + 1)) (ls1 := [(0, .ref x0), (1, .ref x1), (2, .ref x2), (3, .int (x3 + 1))]) dX1_readFrom_49 rfl rfl (by decide) rfl rfl ?_
            refine bv_goto (tgt := 7) dX1_readFrom_52 (by decide) ?_
            exact ih _ _ _ h K0 K1
          · replace h := bu_bf h cc
            refine bw_ls (ls1 := []) [] rfl ?_
            obtain rfl := Option.some.inj h
            exact K0 _ rfl
def f_X1_readFrom (M : bm_M) (x0 : Nat) (x1 : Nat) (x2 : Nat) : Option (bm_M) := (if bm_io x0 1 then ((f_X1_readFrom_l7 x0 x1 x2 1000 0 (bm_sI M x0 3 0)).bind fun rr => match rr with | (Sum.inl y4) => some y4 | (Sum.inr y4) => some y4) else none)
set_option maxHeartbeats 4000000 in
set_option maxRecDepth 100000 in
theorem c_X1_readFrom {L : bm_L} {d n : Nat} {M : bm_M} {x0 : Nat} {x1 : Nat} {x2 : Nat} {v : bm_M} (hN : 181 ≤ n) (h : f_X1_readFrom M x0 x1 x2 = some v) : bm_C L m_X1_readFrom (d + 6) n n [.ref x0, .ref x1, .ref x2] M (fun r M' => r = none ∧ M' = v) := by
  refine bm_C.ofV (by decide) (Nat.le_of_ble_eq_true rfl) ?_
  show bm_V L m_X1_readFrom (d + 6) n n n 0 [(0, .ref x0), (1, .ref x1), (2, .ref x2)] [] M _
  unfold f_X1_readFrom at h
  refine bv_aload_n dX1_readFrom_0 0 rfl ?_
  refine bv_iconst (v := 0) dX1_readFrom_1 (by decide) ?_
  obtain ⟨q1, h⟩ := bu_io h
  refine bw_putI hN q1 dX1_readFrom_2 fl_1_34 rfl ?_
  refine bv_iconst (v := 0) dX1_readFrom_5 (by decide) ?_
  refine bv_istore_n (ls1 := [(0, .ref x0), (1, .ref x1), (2, .ref x2), (3, .int 0)]) dX1_readFrom_6 (by decide) rfl rfl ?_
  obtain ⟨r2, p3, h⟩ := bu_bd h
  refine v_X1_readFrom_l7 hN q1 1000 _ _ _ p3 (fun y4 hy => ?_) (fun y4 hy => ?_)
  · subst hy
    obtain rfl := Option.some.inj h
    exact bv_vret dX1_readFrom_38 rfl ⟨rfl, rfl⟩
  · subst hy
    obtain rfl := Option.some.inj h
    exact bv_vret dX1_readFrom_55 rfl ⟨rfl, rfl⟩
