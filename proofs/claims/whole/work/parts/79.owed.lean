/-! OWED: pairs of calls that are still to be proved. -/
theorem pl_op_fault (x0 : Int32) : pl_Ok (fX10_fault 1 x0) (fX11_fault 33 x0) := sorry
theorem pl_op_book (x0 : Int32) : pl_Ok (fX10_book 1 x0) (fX11_book 33 x0) := sorry
theorem pl_op_share (x0 : Int32) : pl_Ok (fX10_share 1 x0) (fX11_share 33 x0) := sorry
theorem pl_op_ways (x0 : Int32) : pl_Ok (fX10_ways 1 x0) (fX11_ways 33 x0) := sorry
theorem pl_op_whose (x0 x1 : Int32) : pl_Ok (fX10_whose 1 x0 x1) (fX11_whose 33 x0 x1) := sorry
theorem pl_op_sure (x0 : Int32) : pl_Ok (fX10_sure 1 x0) (fX11_sure 33 x0) := sorry
theorem pl_op_next (x0 : Int32) : pl_Ok (fX10_next 1 x0) (fX11_next 33 x0) := sorry
theorem pl_op_moves (x0 x1 : Int32) : pl_Ok (fX10_moves 1 x0 x1) (fX11_moves 33 x0 x1) := sorry
theorem pl_op_sheets (x0 : Int32) : pl_Ok (fX10_sheets 1 x0) (fX11_sheets 33 x0) := sorry
theorem pl_op_laid : pl_Ok (fX10_laid 1 ) (fX11_laid 33 ) := sorry
theorem pl_op_travellers : pl_Ok (fX10_travellers 1 ) (fX11_travellers 33 ) := sorry
theorem pl_op_journey (x0 : Int32) : pl_Ok (fX10_journey 1 x0) (fX11_journey 33 x0) := sorry
