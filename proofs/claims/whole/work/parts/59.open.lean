def bm_Inv (_ : bm_M) : Prop := True
theorem e_feed {M : bm_M} (hI : bm_Inv M) : ∀ a1 a2 a3 a4 a5 : Int32, ∃ v M1 M2, f_X11_feed M 0 a1 a2 a3 a4 a5 = some (v, M1) ∧ f_X12_feed M1 164 a1 a2 a3 a4 a5 = some (v, M2) ∧ bm_Inv M2 := sorry
theorem e_end {M : bm_M} (hI : bm_Inv M) : ∀ a1 : Int32, ∃ v M1 M2, f_X11_end M 0 a1 = some (v, M1) ∧ f_X12_end M1 164 a1 = some (v, M2) ∧ bm_Inv M2 := sorry
theorem e_army {M : bm_M} (hI : bm_Inv M) : ∃ v M1 M2, f_X11_army M 0 = some (v, M1) ∧ f_X12_army M1 164 = some (v, M2) ∧ bm_Inv M2 := sorry
theorem e_fault {M : bm_M} (hI : bm_Inv M) : ∃ v M2, f_X11_fault M 0 = some v ∧ f_X12_fault M 164 = some (v, M2) ∧ bm_Inv M2 := sorry
theorem e_order {M : bm_M} (hI : bm_Inv M) : ∀ a1 a2 : Int32, ∃ v M2, f_X11_order M 0 a1 a2 = some v ∧ f_X12_order M 164 a1 a2 = some (v, M2) ∧ bm_Inv M2 := sorry
theorem e_now {M : bm_M} (hI : bm_Inv M) : ∀ a1 : Int32, ∃ v M2, f_X11_now M 0 a1 = some v ∧ f_X12_now M 164 a1 = some (v, M2) ∧ bm_Inv M2 := sorry
theorem e_lift {M : bm_M} (hI : bm_Inv M) : ∀ a1 a2 : Int32, ∃ v M1 M2, f_X11_lift M 0 a1 a2 = some (v, M1) ∧ f_X12_lift M1 164 a1 a2 = some (v, M2) ∧ bm_Inv M2 := sorry
theorem e_give {M : bm_M} (hI : bm_Inv M) : ∀ a1 a2 : Int32, ∃ v M1 M2, f_X11_give M 0 a1 a2 = some (v, M1) ∧ f_X12_give M1 164 a1 a2 = some (v, M2) ∧ bm_Inv M2 := sorry
theorem e_sleep {M : bm_M} (hI : bm_Inv M) : ∀ a1 : Int32, ∃ v M1 M2, f_X11_sleep M 0 a1 = some (v, M1) ∧ f_X12_sleep M1 164 a1 = some (v, M2) ∧ bm_Inv M2 := sorry
theorem e_wake {M : bm_M} (hI : bm_Inv M) : ∀ a1 : Int32, ∃ v M1 M2, f_X11_wake M 0 a1 = some (v, M1) ∧ f_X12_wake M1 164 a1 = some (v, M2) ∧ bm_Inv M2 := sorry
theorem e_soot {M : bm_M} (hI : bm_Inv M) : ∀ a1 : Int32, ∃ v M1 M2, f_X11_soot M 0 a1 = some (v, M1) ∧ f_X12_soot M1 164 a1 = some (v, M2) ∧ bm_Inv M2 := sorry
theorem e_go {M : bm_M} (hI : bm_Inv M) : ∀ a1 a2 : Int32, ∃ v M1 M2, f_X11_go M 0 a1 a2 = some (v, M1) ∧ f_X12_go M1 164 a1 a2 = some (v, M2) ∧ bm_Inv M2 := sorry
theorem e_hours {M : bm_M} (hI : bm_Inv M) : ∀ a1 : Int32, ∃ v M1 M2, f_X11_hours M 0 a1 = some (v, M1) ∧ f_X12_hours M1 164 a1 = some (v, M2) ∧ bm_Inv M2 := sorry
theorem e_undo {M : bm_M} (hI : bm_Inv M) : ∃ v M1 M2, f_X11_undo M 0 = some (v, M1) ∧ f_X12_undo M1 164 = some (v, M2) ∧ bm_Inv M2 := sorry
theorem e_sees {M : bm_M} (hI : bm_Inv M) : ∀ a1 : Int32, ∃ v M2, f_X11_sees M 0 a1 = some v ∧ f_X12_sees M 164 a1 = some (v, M2) ∧ bm_Inv M2 := sorry
theorem e_reads {M : bm_M} (hI : bm_Inv M) : ∀ a1 : Int32, ∃ v M2, f_X11_reads M 0 a1 = some v ∧ f_X12_reads M 164 a1 = some (v, M2) ∧ bm_Inv M2 := sorry
theorem e_foes {M : bm_M} (hI : bm_Inv M) : ∀ a1 : Int32, ∃ v M2, f_X11_foes M 0 a1 = some v ∧ f_X12_foes M 164 a1 = some (v, M2) ∧ bm_Inv M2 := sorry
theorem e_reach {M : bm_M} (hI : bm_Inv M) : ∀ a1 a2 : Int32, ∃ v M1 M2, f_X11_reach M 0 a1 a2 = some (v, M1) ∧ f_X12_reach M1 164 a1 a2 = some (v, M2) ∧ bm_Inv M2 := sorry
theorem e_soon {M : bm_M} (hI : bm_Inv M) : ∀ a1 a2 : Int32, ∃ v M1 M2, f_X11_soon M 0 a1 a2 = some (v, M1) ∧ f_X12_soon M1 164 a1 a2 = some (v, M2) ∧ bm_Inv M2 := sorry
theorem e_best {M : bm_M} (hI : bm_Inv M) : ∀ a1 : Int32, ∃ v M1 M2, f_X11_best M 0 a1 = some (v, M1) ∧ f_X12_best M1 164 a1 = some (v, M2) ∧ bm_Inv M2 := sorry
theorem e_stand {M : bm_M} (hI : bm_Inv M) : ∀ a1 : Int32, ∃ v M1 M2, f_X11_stand M 0 a1 = some (v, M1) ∧ f_X12_stand M1 164 a1 = some (v, M2) ∧ bm_Inv M2 := sorry
theorem e_hide {M : bm_M} (hI : bm_Inv M) : ∀ a1 : Int32, ∃ v M1 M2, f_X11_hide M 0 a1 = some (v, M1) ∧ f_X12_hide M1 164 a1 = some (v, M2) ∧ bm_Inv M2 := sorry
theorem e_cell {M : bm_M} (hI : bm_Inv M) : ∀ a1 : Int32, ∃ v M2, f_X11_cell M 0 a1 = some v ∧ f_X12_cell M 164 a1 = some (v, M2) ∧ bm_Inv M2 := sorry
theorem e_meant {M : bm_M} (hI : bm_Inv M) : ∃ v M1 M2, f_X11_meant M 0 = some (v, M1) ∧ f_X12_meant M1 164 = some (v, M2) ∧ bm_Inv M2 := sorry
theorem e_wrong {M : bm_M} (hI : bm_Inv M) : ∃ v M2, f_X11_wrong M 0 = some v ∧ f_X12_wrong M 164 = some (v, M2) ∧ bm_Inv M2 := sorry
theorem e_look {M : bm_M} (hI : bm_Inv M) : ∃ v M2, f_X11_look M 0 = some v ∧ f_X12_look M 164 = some (v, M2) ∧ bm_Inv M2 := sorry
theorem e_code {M : bm_M} (hI : bm_Inv M) : ∃ v M2, f_X11_code M 0 = some v ∧ f_X12_code M 164 = some (v, M2) ∧ bm_Inv M2 := sorry
theorem e_scratch {M : bm_M} (hI : bm_Inv M) : ∃ v M1 M2, f_X11_scratch M 0 = some (v, M1) ∧ f_X12_scratch M1 164 = some (v, M2) ∧ bm_Inv M2 := sorry
theorem e_ask {M : bm_M} (hI : bm_Inv M) : ∃ v M2, f_X11_ask M 0 = some v ∧ f_X12_ask M 164 = some (v, M2) ∧ bm_Inv M2 := sorry
theorem e_unrest {M : bm_M} (hI : bm_Inv M) : ∃ v M2, f_X11_unrest M 0 = some v ∧ f_X12_unrest M 164 = some (v, M2) ∧ bm_Inv M2 := sorry
theorem e_report {M : bm_M} (hI : bm_Inv M) : ∀ a1 : Int32, ∃ v M1 M2, f_X11_report M 0 a1 = some (v, M1) ∧ f_X12_report M1 164 a1 = some (v, M2) ∧ bm_Inv M2 := sorry
theorem e_byteAt {M : bm_M} (hI : bm_Inv M) : ∀ a1 : Int32, ∃ v M2, f_X11_byteAt M 0 a1 = some v ∧ f_X12_byteAt M 164 a1 = some (v, M2) ∧ bm_Inv M2 := sorry
theorem e_drawn {M : bm_M} (hI : bm_Inv M) : ∀ a1 a2 : Int32, ∃ v M1 M2, f_X11_drawn M 0 a1 a2 = some (v, M1) ∧ f_X12_drawn M1 164 a1 a2 = some (v, M2) ∧ bm_Inv M2 := sorry
theorem e_odds {M : bm_M} (hI : bm_Inv M) : ∀ a1 a2 a3 : Int32, ∃ v M1 M2, f_X11_odds M 0 a1 a2 a3 = some (v, M1) ∧ f_X12_odds M1 164 a1 a2 a3 = some (v, M2) ∧ bm_Inv M2 := sorry
theorem e_book {M : bm_M} (hI : bm_Inv M) : ∀ a1 : Int32, ∃ v M1 M2, f_X11_book M 0 a1 = some (v, M1) ∧ f_X12_book M1 164 a1 = some (v, M2) ∧ bm_Inv M2 := sorry
theorem e_told {M : bm_M} (hI : bm_Inv M) : ∀ a1 : Int32, ∃ v M2, f_X11_told M 0 a1 = some v ∧ f_X12_told M 164 a1 = some (v, M2) ∧ bm_Inv M2 := sorry
theorem e_sentence {M : bm_M} (hI : bm_Inv M) : ∃ v M1 M2, f_X11_sentence M 0 = some (v, M1) ∧ f_X12_sentence M1 164 = some (v, M2) ∧ bm_Inv M2 := sorry
theorem e_said {M : bm_M} (hI : bm_Inv M) : ∀ a1 : Int32, ∃ v M1 M2, f_X11_said M 0 a1 = some (v, M1) ∧ f_X12_said M1 164 a1 = some (v, M2) ∧ bm_Inv M2 := sorry
theorem e_image {M : bm_M} (hI : bm_Inv M) : ∀ a1 : Int32, ∃ v M1 M2, f_X11_image M 0 a1 = some (v, M1) ∧ f_X12_image M1 164 a1 = some (v, M2) ∧ bm_Inv M2 := sorry
theorem e_restore {M : bm_M} (hI : bm_Inv M) : ∀ a1 : Int32, ∃ v M1 M2, f_X11_restore M 0 a1 = some (v, M1) ∧ f_X12_restore M1 164 a1 = some (v, M2) ∧ bm_Inv M2 := sorry
theorem e_count {M : bm_M} (hI : bm_Inv M) : ∀ a1 : Int32, ∃ v M2, f_X11_count M 0 a1 = some v ∧ f_X12_count M 164 a1 = some (v, M2) ∧ bm_Inv M2 := sorry
theorem e_init : bm_Inv bm_Mi := trivial
