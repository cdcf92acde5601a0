def bm_Inv (_ : bm_TI) (_ : bm_TJ) (_ : bm_TR) : Prop := True
theorem e_feed {I : bm_TI} {J : bm_TJ} {W : bm_TR} (hI : bm_Inv I J W) : ∀ a1 a2 a3 a4 a5 : Int32, ∃ v I1 I2, f_X11_feed I a1 a2 a3 a4 a5 = some (v, I1) ∧ f_X12_feed I1 a1 a2 a3 a4 a5 = some (v, I2) ∧ bm_Inv I2 J W := sorry
theorem e_end {I : bm_TI} {J : bm_TJ} {W : bm_TR} (hI : bm_Inv I J W) : ∀ a1 : Int32, ∃ v I1 I2, f_X11_end I a1 = some (v, I1) ∧ f_X12_end I1 a1 = some (v, I2) ∧ bm_Inv I2 J W := sorry
theorem e_army {I : bm_TI} {J : bm_TJ} {W : bm_TR} (hI : bm_Inv I J W) : ∃ v I1 J1 W1 I2 J2, f_X11_army I J W = some (v, I1, J1, W1) ∧ f_X12_army I1 J1 = some (v, I2, J2) ∧ bm_Inv I2 J2 W1 := sorry
theorem e_fault {I : bm_TI} {J : bm_TJ} {W : bm_TR} (hI : bm_Inv I J W) : ∃ v I2, f_X11_fault I = some v ∧ f_X12_fault I = some (v, I2) ∧ bm_Inv I2 J W := sorry
theorem e_order {I : bm_TI} {J : bm_TJ} {W : bm_TR} (hI : bm_Inv I J W) : ∀ a1 a2 : Int32, ∃ v I2, f_X11_order I a1 a2 = some v ∧ f_X12_order I a1 a2 = some (v, I2) ∧ bm_Inv I2 J W := sorry
theorem e_now {I : bm_TI} {J : bm_TJ} {W : bm_TR} (hI : bm_Inv I J W) : ∀ a1 : Int32, ∃ v I2, f_X11_now I a1 = some v ∧ f_X12_now I a1 = some (v, I2) ∧ bm_Inv I2 J W := sorry
theorem e_lift {I : bm_TI} {J : bm_TJ} {W : bm_TR} (hI : bm_Inv I J W) : ∀ a1 a2 : Int32, ∃ v I1 I2, f_X11_lift I a1 a2 = some (v, I1) ∧ f_X12_lift I1 a1 a2 = some (v, I2) ∧ bm_Inv I2 J W := sorry
theorem e_give {I : bm_TI} {J : bm_TJ} {W : bm_TR} (hI : bm_Inv I J W) : ∀ a1 a2 : Int32, ∃ v I1 I2, f_X11_give I a1 a2 = some (v, I1) ∧ f_X12_give I1 a1 a2 = some (v, I2) ∧ bm_Inv I2 J W := sorry
theorem e_sleep {I : bm_TI} {J : bm_TJ} {W : bm_TR} (hI : bm_Inv I J W) : ∀ a1 : Int32, ∃ v I1 I2, f_X11_sleep I a1 = some (v, I1) ∧ f_X12_sleep I1 a1 = some (v, I2) ∧ bm_Inv I2 J W := sorry
theorem e_wake {I : bm_TI} {J : bm_TJ} {W : bm_TR} (hI : bm_Inv I J W) : ∀ a1 : Int32, ∃ v I1 I2, f_X11_wake I a1 = some (v, I1) ∧ f_X12_wake I1 a1 = some (v, I2) ∧ bm_Inv I2 J W := sorry
theorem e_soot {I : bm_TI} {J : bm_TJ} {W : bm_TR} (hI : bm_Inv I J W) : ∀ a1 : Int32, ∃ v I1 I2, f_X11_soot I a1 = some (v, I1) ∧ f_X12_soot I1 a1 = some (v, I2) ∧ bm_Inv I2 J W := sorry
theorem e_go {I : bm_TI} {J : bm_TJ} {W : bm_TR} (hI : bm_Inv I J W) : ∀ a1 a2 : Int32, ∃ v I1 I2, f_X11_go I a1 a2 = some (v, I1) ∧ f_X12_go I1 a1 a2 = some (v, I2) ∧ bm_Inv I2 J W := sorry
theorem e_hours {I : bm_TI} {J : bm_TJ} {W : bm_TR} (hI : bm_Inv I J W) : ∀ a1 : Int32, ∃ v I1 I2, f_X11_hours I a1 = some (v, I1) ∧ f_X12_hours I1 a1 = some (v, I2) ∧ bm_Inv I2 J W := sorry
theorem e_undo {I : bm_TI} {J : bm_TJ} {W : bm_TR} (hI : bm_Inv I J W) : ∃ v I1 I2, f_X11_undo I = some (v, I1) ∧ f_X12_undo I1 = some (v, I2) ∧ bm_Inv I2 J W := sorry
theorem e_sees {I : bm_TI} {J : bm_TJ} {W : bm_TR} (hI : bm_Inv I J W) : ∀ a1 : Int32, ∃ v I2, f_X11_sees I a1 = some v ∧ f_X12_sees I a1 = some (v, I2) ∧ bm_Inv I2 J W := sorry
theorem e_reads {I : bm_TI} {J : bm_TJ} {W : bm_TR} (hI : bm_Inv I J W) : ∀ a1 : Int32, ∃ v I2, f_X11_reads I a1 = some v ∧ f_X12_reads I a1 = some (v, I2) ∧ bm_Inv I2 J W := sorry
theorem e_foes {I : bm_TI} {J : bm_TJ} {W : bm_TR} (hI : bm_Inv I J W) : ∀ a1 : Int32, ∃ v I2, f_X11_foes I a1 = some v ∧ f_X12_foes I a1 = some (v, I2) ∧ bm_Inv I2 J W := sorry
theorem e_reach {I : bm_TI} {J : bm_TJ} {W : bm_TR} (hI : bm_Inv I J W) : ∀ a1 a2 : Int32, ∃ v I1 I2, f_X11_reach I a1 a2 = some (v, I1) ∧ f_X12_reach I1 a1 a2 = some (v, I2) ∧ bm_Inv I2 J W := sorry
theorem e_soon {I : bm_TI} {J : bm_TJ} {W : bm_TR} (hI : bm_Inv I J W) : ∀ a1 a2 : Int32, ∃ v I1 I2, f_X11_soon I a1 a2 = some (v, I1) ∧ f_X12_soon I1 a1 a2 = some (v, I2) ∧ bm_Inv I2 J W := sorry
theorem e_best {I : bm_TI} {J : bm_TJ} {W : bm_TR} (hI : bm_Inv I J W) : ∀ a1 : Int32, ∃ v I1 I2, f_X11_best I a1 = some (v, I1) ∧ f_X12_best I1 a1 = some (v, I2) ∧ bm_Inv I2 J W := sorry
theorem e_stand {I : bm_TI} {J : bm_TJ} {W : bm_TR} (hI : bm_Inv I J W) : ∀ a1 : Int32, ∃ v I1 I2, f_X11_stand I a1 = some (v, I1) ∧ f_X12_stand I1 a1 = some (v, I2) ∧ bm_Inv I2 J W := sorry
theorem e_hide {I : bm_TI} {J : bm_TJ} {W : bm_TR} (hI : bm_Inv I J W) : ∀ a1 : Int32, ∃ v I1 I2, f_X11_hide I a1 = some (v, I1) ∧ f_X12_hide I1 a1 = some (v, I2) ∧ bm_Inv I2 J W := sorry
theorem e_cell {I : bm_TI} {J : bm_TJ} {W : bm_TR} (hI : bm_Inv I J W) : ∀ a1 : Int32, ∃ v I2, f_X11_cell I a1 = some v ∧ f_X12_cell I a1 = some (v, I2) ∧ bm_Inv I2 J W := sorry
theorem e_meant {I : bm_TI} {J : bm_TJ} {W : bm_TR} (hI : bm_Inv I J W) : ∃ v I1 I2, f_X11_meant I = some (v, I1) ∧ f_X12_meant I1 = some (v, I2) ∧ bm_Inv I2 J W := sorry
theorem e_wrong {I : bm_TI} {J : bm_TJ} {W : bm_TR} (hI : bm_Inv I J W) : ∃ v I2, f_X11_wrong I = some v ∧ f_X12_wrong I = some (v, I2) ∧ bm_Inv I2 J W := sorry
theorem e_look {I : bm_TI} {J : bm_TJ} {W : bm_TR} (hI : bm_Inv I J W) : ∃ v I2, f_X11_look I = some v ∧ f_X12_look I = some (v, I2) ∧ bm_Inv I2 J W := sorry
theorem e_code {I : bm_TI} {J : bm_TJ} {W : bm_TR} (hI : bm_Inv I J W) : ∃ v I2, f_X11_code I = some v ∧ f_X12_code I = some (v, I2) ∧ bm_Inv I2 J W := sorry
theorem e_scratch {I : bm_TI} {J : bm_TJ} {W : bm_TR} (hI : bm_Inv I J W) : ∃ v I1 I2, f_X11_scratch I = some (v, I1) ∧ f_X12_scratch I1 = some (v, I2) ∧ bm_Inv I2 J W := sorry
theorem e_ask {I : bm_TI} {J : bm_TJ} {W : bm_TR} (hI : bm_Inv I J W) : ∃ v I2, f_X11_ask I = some v ∧ f_X12_ask I = some (v, I2) ∧ bm_Inv I2 J W := sorry
theorem e_unrest {I : bm_TI} {J : bm_TJ} {W : bm_TR} (hI : bm_Inv I J W) : ∃ v I2, f_X11_unrest I = some v ∧ f_X12_unrest I = some (v, I2) ∧ bm_Inv I2 J W := sorry
theorem e_report {I : bm_TI} {J : bm_TJ} {W : bm_TR} (hI : bm_Inv I J W) : ∀ a1 : Int32, ∃ v I1 I2, f_X11_report I J a1 = some (v, I1) ∧ f_X12_report I1 J a1 = some (v, I2) ∧ bm_Inv I2 J W := sorry
theorem e_byteAt {I : bm_TI} {J : bm_TJ} {W : bm_TR} (hI : bm_Inv I J W) : ∀ a1 : Int32, ∃ v I2, f_X11_byteAt I a1 = some v ∧ f_X12_byteAt I a1 = some (v, I2) ∧ bm_Inv I2 J W := sorry
theorem e_drawn {I : bm_TI} {J : bm_TJ} {W : bm_TR} (hI : bm_Inv I J W) : ∀ a1 a2 : Int32, ∃ v I1 I2, f_X11_drawn I a1 a2 = some (v, I1) ∧ f_X12_drawn I1 a1 a2 = some (v, I2) ∧ bm_Inv I2 J W := sorry
theorem e_odds {I : bm_TI} {J : bm_TJ} {W : bm_TR} (hI : bm_Inv I J W) : ∀ a1 a2 a3 : Int32, ∃ v I1 I2, f_X11_odds I a1 a2 a3 = some (v, I1) ∧ f_X12_odds I1 a1 a2 a3 = some (v, I2) ∧ bm_Inv I2 J W := sorry
theorem e_book {I : bm_TI} {J : bm_TJ} {W : bm_TR} (hI : bm_Inv I J W) : ∀ a1 : Int32, ∃ v I1 J1 W1 I2 J2, f_X11_book I J W a1 = some (v, I1, J1, W1) ∧ f_X12_book I1 J1 a1 = some (v, I2, J2) ∧ bm_Inv I2 J2 W1 := sorry
theorem e_told {I : bm_TI} {J : bm_TJ} {W : bm_TR} (hI : bm_Inv I J W) : ∀ a1 : Int32, ∃ v I2, f_X11_told I a1 = some v ∧ f_X12_told I a1 = some (v, I2) ∧ bm_Inv I2 J W := sorry
theorem e_sentence {I : bm_TI} {J : bm_TJ} {W : bm_TR} (hI : bm_Inv I J W) : ∃ v I1 J1 W1 I2 J2, f_X11_sentence I J W = some (v, I1, J1, W1) ∧ f_X12_sentence I1 J1 = some (v, I2, J2) ∧ bm_Inv I2 J2 W1 := sorry
theorem e_said {I : bm_TI} {J : bm_TJ} {W : bm_TR} (hI : bm_Inv I J W) : ∀ a1 : Int32, ∃ v I1 I2, f_X11_said I W a1 = some (v, I1) ∧ f_X12_said I1 a1 = some (v, I2) ∧ bm_Inv I2 J W := sorry
theorem e_image {I : bm_TI} {J : bm_TJ} {W : bm_TR} (hI : bm_Inv I J W) : ∀ a1 : Int32, ∃ v I1 J1 W1 I2 J2, f_X11_image I J W a1 = some (v, I1, J1, W1) ∧ f_X12_image I1 J1 a1 = some (v, I2, J2) ∧ bm_Inv I2 J2 W1 := sorry
theorem e_restore {I : bm_TI} {J : bm_TJ} {W : bm_TR} (hI : bm_Inv I J W) : ∀ a1 : Int32, ∃ v I1 J1 W1 I2 J2, f_X11_restore I J W a1 = some (v, I1, J1, W1) ∧ f_X12_restore I1 J1 a1 = some (v, I2, J2) ∧ bm_Inv I2 J2 W1 := sorry
theorem e_count {I : bm_TI} {J : bm_TJ} {W : bm_TR} (hI : bm_Inv I J W) : ∀ a1 : Int32, ∃ v I2, f_X11_count I a1 = some v ∧ f_X12_count I a1 = some (v, I2) ∧ bm_Inv I2 J W := sorry
theorem e_init : bm_Inv bm_Mi.1 bm_Mi.2.1 bm_Mi.2.2.2 := trivial
