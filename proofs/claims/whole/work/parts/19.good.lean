/-! printed by wip/gen/emit_good.py: every method's ops are its bytes', and pass the checks -/
def Good (M : Nat) : Prop := ∀ o ∈ PP M, decode (bM M) o.1 = .ok (o.2.1, o.2.2.1) ∧ chk M o = true
theorem good_of {M : Nat} {ops : List Op} {cc : ByteArray} (hP : PP M = ops) (hb : bM M = cc) (h1 : (ops.all fun o => decide (decode cc o.1 = .ok (o.2.1, o.2.2.1))) = true) (h2 : (ops.all (chk M)) = true) : Good M := by
  intro o ho
  rw [hP] at ho
  rw [hb]
  exact ⟨of_decide_eq_true (List.all_eq_true.mp h1 o ho), List.all_eq_true.mp h2 o ho⟩
set_option maxRecDepth 100000 in
theorem dc_Asker_new : (op_Asker_new.all fun o => decide (decode prog_2_method_1_code o.1 = .ok (o.2.1, o.2.2.1))) = true := by decide +kernel
set_option maxRecDepth 100000 in
theorem ck_Asker_new : (op_Asker_new.all (chk 1)) = true := by decide +kernel
theorem gd_Asker_new : Good 1 := good_of pp_Asker_new rfl dc_Asker_new ck_Asker_new
set_option maxRecDepth 100000 in
theorem dc_Flier_new : (op_Flier_new.all fun o => decide (decode prog_3_method_1_code o.1 = .ok (o.2.1, o.2.2.1))) = true := by decide +kernel
set_option maxRecDepth 100000 in
theorem ck_Flier_new : (op_Flier_new.all (chk 2)) = true := by decide +kernel
theorem gd_Flier_new : Good 2 := good_of pp_Flier_new rfl dc_Flier_new ck_Flier_new
set_option maxRecDepth 100000 in
theorem dc_Math_max : (op_Math_max.all fun o => decide (decode prog_18_method_65_code o.1 = .ok (o.2.1, o.2.2.1))) = true := by decide +kernel
set_option maxRecDepth 100000 in
theorem ck_Math_max : (op_Math_max.all (chk 3)) = true := by decide +kernel
theorem gd_Math_max : Good 3 := good_of pp_Math_max rfl dc_Math_max ck_Math_max
set_option maxRecDepth 100000 in
theorem dc_Pairs_new : (op_Pairs_new.all fun o => decide (decode prog_6_method_1_code o.1 = .ok (o.2.1, o.2.2.1))) = true := by decide +kernel
set_option maxRecDepth 100000 in
theorem ck_Pairs_new : (op_Pairs_new.all (chk 4)) = true := by decide +kernel
theorem gd_Pairs_new : Good 4 := good_of pp_Pairs_new rfl dc_Pairs_new ck_Pairs_new
set_option maxRecDepth 100000 in
theorem dc_Table_new : (op_Table_new.all fun o => decide (decode prog_10_method_1_code o.1 = .ok (o.2.1, o.2.2.1))) = true := by decide +kernel
set_option maxRecDepth 100000 in
theorem ck_Table_new : (op_Table_new.all (chk 5)) = true := by decide +kernel
theorem gd_Table_new : Good 5 := good_of pp_Table_new rfl dc_Table_new ck_Table_new
set_option maxRecDepth 100000 in
theorem dc_House_new : (op_House_new.all fun o => decide (decode prog_4_method_1_code o.1 = .ok (o.2.1, o.2.2.1))) = true := by decide +kernel
set_option maxRecDepth 100000 in
theorem ck_House_new : (op_House_new.all (chk 6)) = true := by decide +kernel
theorem gd_House_new : Good 6 := good_of pp_House_new rfl dc_House_new ck_House_new
set_option maxRecDepth 100000 in
theorem dc_Reader_new : (op_Reader_new.all fun o => decide (decode prog_7_method_1_code o.1 = .ok (o.2.1, o.2.2.1))) = true := by decide +kernel
set_option maxRecDepth 100000 in
theorem ck_Reader_new : (op_Reader_new.all (chk 7)) = true := by decide +kernel
theorem gd_Reader_new : Good 7 := good_of pp_Reader_new rfl dc_Reader_new ck_Reader_new
set_option maxRecDepth 100000 in
theorem dc_Rounds_new : (op_Rounds_new.all fun o => decide (decode prog_8_method_1_code o.1 = .ok (o.2.1, o.2.2.1))) = true := by decide +kernel
set_option maxRecDepth 100000 in
theorem ck_Rounds_new : (op_Rounds_new.all (chk 8)) = true := by decide +kernel
theorem gd_Rounds_new : Good 8 := good_of pp_Rounds_new rfl dc_Rounds_new ck_Rounds_new
set_option maxRecDepth 100000 in
theorem dc_Rows_marked : (op_Rows_marked.all fun o => decide (decode prog_9_method_2_code o.1 = .ok (o.2.1, o.2.2.1))) = true := by decide +kernel
set_option maxRecDepth 100000 in
theorem ck_Rows_marked : (op_Rows_marked.all (chk 9)) = true := by decide +kernel
theorem gd_Rows_marked : Good 9 := good_of pp_Rows_marked rfl dc_Rows_marked ck_Rows_marked
set_option maxRecDepth 100000 in
theorem dc_Rows_new : (op_Rows_new.all fun o => decide (decode prog_9_method_1_code o.1 = .ok (o.2.1, o.2.2.1))) = true := by decide +kernel
set_option maxRecDepth 100000 in
theorem ck_Rows_new : (op_Rows_new.all (chk 10)) = true := by decide +kernel
theorem gd_Rows_new : Good 10 := good_of pp_Rows_new rfl dc_Rows_new ck_Rows_new
set_option maxRecDepth 100000 in
theorem dc_Tape_new : (op_Tape_new.all fun o => decide (decode prog_11_method_1_code o.1 = .ok (o.2.1, o.2.2.1))) = true := by decide +kernel
set_option maxRecDepth 100000 in
theorem ck_Tape_new : (op_Tape_new.all (chk 11)) = true := by decide +kernel
theorem gd_Tape_new : Good 11 := good_of pp_Tape_new rfl dc_Tape_new ck_Tape_new
set_option maxRecDepth 100000 in
theorem dc_X_new : (op_X_new.all fun o => decide (decode prog_1_method_1_code o.1 = .ok (o.2.1, o.2.2.1))) = true := by decide +kernel
set_option maxRecDepth 100000 in
theorem ck_X_new : (op_X_new.all (chk 12)) = true := by decide +kernel
theorem gd_X_new : Good 12 := good_of pp_X_new rfl dc_X_new ck_X_new
set_option maxRecDepth 100000 in
theorem dc_X_about : (op_X_about.all fun o => decide (decode prog_1_method_63_code o.1 = .ok (o.2.1, o.2.2.1))) = true := by decide +kernel
set_option maxRecDepth 100000 in
theorem ck_X_about : (op_X_about.all (chk 13)) = true := by decide +kernel
theorem gd_X_about : Good 13 := good_of pp_X_about rfl dc_X_about ck_X_about
set_option maxRecDepth 100000 in
theorem dc_X_within : (op_X_within.all fun o => decide (decode prog_1_method_64_code o.1 = .ok (o.2.1, o.2.2.1))) = true := by decide +kernel
set_option maxRecDepth 100000 in
theorem ck_X_within : (op_X_within.all (chk 14)) = true := by decide +kernel
theorem gd_X_within : Good 14 := good_of pp_X_within rfl dc_X_within ck_X_within
set_option maxRecDepth 100000 in
theorem dc_X_get : (op_X_get.all fun o => decide (decode prog_1_method_65_code o.1 = .ok (o.2.1, o.2.2.1))) = true := by decide +kernel
set_option maxRecDepth 100000 in
theorem ck_X_get : (op_X_get.all (chk 15)) = true := by decide +kernel
theorem gd_X_get : Good 15 := good_of pp_X_get rfl dc_X_get ck_X_get
set_option maxRecDepth 100000 in
theorem dc_Integer_bitCount : (op_Integer_bitCount.all fun o => decide (decode prog_17_method_49_code o.1 = .ok (o.2.1, o.2.2.1))) = true := by decide +kernel
set_option maxRecDepth 100000 in
theorem ck_Integer_bitCount : (op_Integer_bitCount.all (chk 16)) = true := by decide +kernel
theorem gd_Integer_bitCount : Good 16 := good_of pp_Integer_bitCount rfl dc_Integer_bitCount ck_Integer_bitCount
set_option maxRecDepth 100000 in
theorem dc_Rows_replyOf : (op_Rows_replyOf.all fun o => decide (decode prog_9_method_3_code o.1 = .ok (o.2.1, o.2.2.1))) = true := by decide +kernel
set_option maxRecDepth 100000 in
theorem ck_Rows_replyOf : (op_Rows_replyOf.all (chk 17)) = true := by decide +kernel
theorem gd_Rows_replyOf : Good 17 := good_of pp_Rows_replyOf rfl dc_Rows_replyOf ck_Rows_replyOf
set_option maxRecDepth 100000 in
theorem dc_X_answer : (op_X_answer.all fun o => decide (decode prog_1_method_37_code o.1 = .ok (o.2.1, o.2.2.1))) = true := by decide +kernel
set_option maxRecDepth 100000 in
theorem ck_X_answer : (op_X_answer.all (chk 18)) = true := by decide +kernel
theorem gd_X_answer : Good 18 := good_of pp_X_answer rfl dc_X_answer ck_X_answer
set_option maxRecDepth 100000 in
theorem dc_X_put : (op_X_put.all fun o => decide (decode prog_1_method_66_code o.1 = .ok (o.2.1, o.2.2.1))) = true := by decide +kernel
set_option maxRecDepth 100000 in
theorem ck_X_put : (op_X_put.all (chk 19)) = true := by decide +kernel
theorem gd_X_put : Good 19 := good_of pp_X_put rfl dc_X_put ck_X_put
set_option maxRecDepth 100000 in
theorem dc_Arrays_fill : (op_Arrays_fill.all fun o => decide (decode prog_23_method_103_code o.1 = .ok (o.2.1, o.2.2.1))) = true := by decide +kernel
set_option maxRecDepth 100000 in
theorem ck_Arrays_fill : (op_Arrays_fill.all (chk 20)) = true := by decide +kernel
theorem gd_Arrays_fill : Good 20 := good_of pp_Arrays_fill rfl dc_Arrays_fill ck_Arrays_fill
set_option maxRecDepth 100000 in
theorem dc_Rows_mostAlike : (op_Rows_mostAlike.all fun o => decide (decode prog_9_method_7_code o.1 = .ok (o.2.1, o.2.2.1))) = true := by decide +kernel
set_option maxRecDepth 100000 in
theorem ck_Rows_mostAlike : (op_Rows_mostAlike.all (chk 21)) = true := by decide +kernel
theorem gd_Rows_mostAlike : Good 21 := good_of pp_Rows_mostAlike rfl dc_Rows_mostAlike ck_Rows_mostAlike
set_option maxRecDepth 100000 in
theorem dc_Rows_bestAsked : (op_Rows_bestAsked.all fun o => decide (decode prog_9_method_6_code o.1 = .ok (o.2.1, o.2.2.1))) = true := by decide +kernel
set_option maxRecDepth 100000 in
theorem ck_Rows_bestAsked : (op_Rows_bestAsked.all (chk 22)) = true := by decide +kernel
theorem gd_Rows_bestAsked : Good 22 := good_of pp_Rows_bestAsked rfl dc_Rows_bestAsked ck_Rows_bestAsked
set_option maxRecDepth 100000 in
theorem dc_Rows_fitsAll : (op_Rows_fitsAll.all fun o => decide (decode prog_9_method_5_code o.1 = .ok (o.2.1, o.2.2.1))) = true := by decide +kernel
set_option maxRecDepth 100000 in
theorem ck_Rows_fitsAll : (op_Rows_fitsAll.all (chk 23)) = true := by decide +kernel
theorem gd_Rows_fitsAll : Good 23 := good_of pp_Rows_fitsAll rfl dc_Rows_fitsAll ck_Rows_fitsAll
set_option maxRecDepth 100000 in
theorem dc_Rows_sift : (op_Rows_sift.all fun o => decide (decode prog_9_method_4_code o.1 = .ok (o.2.1, o.2.2.1))) = true := by decide +kernel
set_option maxRecDepth 100000 in
theorem ck_Rows_sift : (op_Rows_sift.all (chk 24)) = true := by decide +kernel
theorem gd_Rows_sift : Good 24 := good_of pp_Rows_sift rfl dc_Rows_sift ck_Rows_sift
set_option maxRecDepth 100000 in
theorem dc_X_ask : (op_X_ask.all fun o => decide (decode prog_1_method_40_code o.1 = .ok (o.2.1, o.2.2.1))) = true := by decide +kernel
set_option maxRecDepth 100000 in
theorem ck_X_ask : (op_X_ask.all (chk 25)) = true := by decide +kernel
theorem gd_X_ask : Good 25 := good_of pp_X_ask rfl dc_X_ask ck_X_ask
set_option maxRecDepth 100000 in
theorem dc_Table_has : (op_Table_has.all fun o => decide (decode prog_10_method_5_code o.1 = .ok (o.2.1, o.2.2.1))) = true := by decide +kernel
set_option maxRecDepth 100000 in
theorem ck_Table_has : (op_Table_has.all (chk 26)) = true := by decide +kernel
theorem gd_Table_has : Good 26 := good_of pp_Table_has rfl dc_Table_has ck_Table_has
set_option maxRecDepth 100000 in
theorem dc_X_at : (op_X_at.all fun o => decide (decode prog_1_method_20_code o.1 = .ok (o.2.1, o.2.2.1))) = true := by decide +kernel
set_option maxRecDepth 100000 in
theorem ck_X_at : (op_X_at.all (chk 27)) = true := by decide +kernel
theorem gd_X_at : Good 27 := good_of pp_X_at rfl dc_X_at ck_X_at
set_option maxRecDepth 100000 in
theorem dc_House_copyAll : (op_House_copyAll.all fun o => decide (decode prog_4_method_3_code o.1 = .ok (o.2.1, o.2.2.1))) = true := by decide +kernel
set_option maxRecDepth 100000 in
theorem ck_House_copyAll : (op_House_copyAll.all (chk 28)) = true := by decide +kernel
theorem gd_House_copyAll : Good 28 := good_of pp_House_copyAll rfl dc_House_copyAll ck_House_copyAll
set_option maxRecDepth 100000 in
theorem dc_House_stepAt : (op_House_stepAt.all fun o => decide (decode prog_4_method_7_code o.1 = .ok (o.2.1, o.2.2.1))) = true := by decide +kernel
set_option maxRecDepth 100000 in
theorem ck_House_stepAt : (op_House_stepAt.all (chk 29)) = true := by decide +kernel
theorem gd_House_stepAt : Good 29 := good_of pp_House_stepAt rfl dc_House_stepAt ck_House_stepAt
set_option maxRecDepth 100000 in
theorem dc_Pairs_become : (op_Pairs_become.all fun o => decide (decode prog_6_method_4_code o.1 = .ok (o.2.1, o.2.2.1))) = true := by decide +kernel
set_option maxRecDepth 100000 in
theorem ck_Pairs_become : (op_Pairs_become.all (chk 30)) = true := by decide +kernel
theorem gd_Pairs_become : Good 30 := good_of pp_Pairs_become rfl dc_Pairs_become ck_Pairs_become
set_option maxRecDepth 100000 in
theorem dc_Table_returnTo : (op_Table_returnTo.all fun o => decide (decode prog_10_method_3_code o.1 = .ok (o.2.1, o.2.2.1))) = true := by decide +kernel
set_option maxRecDepth 100000 in
theorem ck_Table_returnTo : (op_Table_returnTo.all (chk 31)) = true := by decide +kernel
theorem gd_Table_returnTo : Good 31 := good_of pp_Table_returnTo rfl dc_Table_returnTo ck_Table_returnTo
set_option maxRecDepth 100000 in
theorem dc_Table_become : (op_Table_become.all fun o => decide (decode prog_10_method_2_code o.1 = .ok (o.2.1, o.2.2.1))) = true := by decide +kernel
set_option maxRecDepth 100000 in
theorem ck_Table_become : (op_Table_become.all (chk 32)) = true := by decide +kernel
theorem gd_Table_become : Good 32 := good_of pp_Table_become rfl dc_Table_become ck_Table_become
set_option maxRecDepth 100000 in
theorem dc_House_become : (op_House_become.all fun o => decide (decode prog_4_method_2_code o.1 = .ok (o.2.1, o.2.2.1))) = true := by decide +kernel
set_option maxRecDepth 100000 in
theorem ck_House_become : (op_House_become.all (chk 33)) = true := by decide +kernel
theorem gd_House_become : Good 33 := good_of pp_House_become rfl dc_House_become ck_House_become
set_option maxRecDepth 100000 in
theorem dc_X_back : (op_X_back.all fun o => decide (decode prog_1_method_62_code o.1 = .ok (o.2.1, o.2.2.1))) = true := by decide +kernel
set_option maxRecDepth 100000 in
theorem ck_X_back : (op_X_back.all (chk 34)) = true := by decide +kernel
theorem gd_X_back : Good 34 := good_of pp_X_back rfl dc_X_back ck_X_back
set_option maxRecDepth 100000 in
theorem dc_X_widthOf : (op_X_widthOf.all fun o => decide (decode prog_1_method_55_code o.1 = .ok (o.2.1, o.2.2.1))) = true := by decide +kernel
set_option maxRecDepth 100000 in
theorem ck_X_widthOf : (op_X_widthOf.all (chk 35)) = true := by decide +kernel
theorem gd_X_widthOf : Good 35 := good_of pp_X_widthOf rfl dc_X_widthOf ck_X_widthOf
set_option maxRecDepth 100000 in
theorem dc_X_bitten : (op_X_bitten.all fun o => decide (decode prog_1_method_56_code o.1 = .ok (o.2.1, o.2.2.1))) = true := by decide +kernel
set_option maxRecDepth 100000 in
theorem ck_X_bitten : (op_X_bitten.all (chk 36)) = true := by decide +kernel
theorem gd_X_bitten : Good 36 := good_of pp_X_bitten rfl dc_X_bitten ck_X_bitten
set_option maxRecDepth 100000 in
theorem dc_X_isLosing : (op_X_isLosing.all fun o => decide (decode prog_1_method_57_code o.1 = .ok (o.2.1, o.2.2.1))) = true := by decide +kernel
set_option maxRecDepth 100000 in
theorem ck_X_isLosing : (op_X_isLosing.all (chk 37)) = true := by decide +kernel
theorem gd_X_isLosing : Good 37 := good_of pp_X_isLosing rfl dc_X_isLosing ck_X_isLosing
set_option maxRecDepth 100000 in
theorem dc_X_isShape : (op_X_isShape.all fun o => decide (decode prog_1_method_54_code o.1 = .ok (o.2.1, o.2.2.1))) = true := by decide +kernel
set_option maxRecDepth 100000 in
theorem ck_X_isShape : (op_X_isShape.all (chk 38)) = true := by decide +kernel
theorem gd_X_isShape : Good 38 := good_of pp_X_isShape rfl dc_X_isShape ck_X_isShape
set_option maxRecDepth 100000 in
theorem dc_X_bite : (op_X_bite.all fun o => decide (decode prog_1_method_53_code o.1 = .ok (o.2.1, o.2.2.1))) = true := by decide +kernel
set_option maxRecDepth 100000 in
theorem ck_X_bite : (op_X_bite.all (chk 39)) = true := by decide +kernel
theorem gd_X_bite : Good 39 := good_of pp_X_bite rfl dc_X_bite ck_X_bite
set_option maxRecDepth 100000 in
theorem dc_Table_dinnerOf : (op_Table_dinnerOf.all fun o => decide (decode prog_10_method_19_code o.1 = .ok (o.2.1, o.2.2.1))) = true := by decide +kernel
set_option maxRecDepth 100000 in
theorem ck_Table_dinnerOf : (op_Table_dinnerOf.all (chk 40)) = true := by decide +kernel
theorem gd_Table_dinnerOf : Good 40 := good_of pp_Table_dinnerOf rfl dc_Table_dinnerOf ck_Table_dinnerOf
set_option maxRecDepth 100000 in
theorem dc_Table_stuckOf : (op_Table_stuckOf.all fun o => decide (decode prog_10_method_22_code o.1 = .ok (o.2.1, o.2.2.1))) = true := by decide +kernel
set_option maxRecDepth 100000 in
theorem ck_Table_stuckOf : (op_Table_stuckOf.all (chk 41)) = true := by decide +kernel
theorem gd_Table_stuckOf : Good 41 := good_of pp_Table_stuckOf rfl dc_Table_stuckOf ck_Table_stuckOf
set_option maxRecDepth 100000 in
theorem dc_Table_throughOf : (op_Table_throughOf.all fun o => decide (decode prog_10_method_21_code o.1 = .ok (o.2.1, o.2.2.1))) = true := by decide +kernel
set_option maxRecDepth 100000 in
theorem ck_Table_throughOf : (op_Table_throughOf.all (chk 42)) = true := by decide +kernel
theorem gd_Table_throughOf : Good 42 := good_of pp_Table_throughOf rfl dc_Table_throughOf ck_Table_throughOf
set_option maxRecDepth 100000 in
theorem dc_Table_whoOf : (op_Table_whoOf.all fun o => decide (decode prog_10_method_20_code o.1 = .ok (o.2.1, o.2.2.1))) = true := by decide +kernel
set_option maxRecDepth 100000 in
theorem ck_Table_whoOf : (op_Table_whoOf.all (chk 43)) = true := by decide +kernel
theorem gd_Table_whoOf : Good 43 := good_of pp_Table_whoOf rfl dc_Table_whoOf ck_Table_whoOf
set_option maxRecDepth 100000 in
theorem dc_X_book : (op_X_book.all fun o => decide (decode prog_1_method_22_code o.1 = .ok (o.2.1, o.2.2.1))) = true := by decide +kernel
set_option maxRecDepth 100000 in
theorem ck_X_book : (op_X_book.all (chk 44)) = true := by decide +kernel
theorem gd_X_book : Good 44 := good_of pp_X_book rfl dc_X_book ck_X_book
set_option maxRecDepth 100000 in
theorem dc_X_by : (op_X_by.all fun o => decide (decode prog_1_method_7_code o.1 = .ok (o.2.1, o.2.2.1))) = true := by decide +kernel
set_option maxRecDepth 100000 in
theorem ck_X_by : (op_X_by.all (chk 45)) = true := by decide +kernel
theorem gd_X_by : Good 45 := good_of pp_X_by rfl dc_X_by ck_X_by
set_option maxRecDepth 100000 in
theorem dc_Table_whoKeptNone : (op_Table_whoKeptNone.all fun o => decide (decode prog_10_method_26_code o.1 = .ok (o.2.1, o.2.2.1))) = true := by decide +kernel
set_option maxRecDepth 100000 in
theorem ck_Table_whoKeptNone : (op_Table_whoKeptNone.all (chk 46)) = true := by decide +kernel
theorem gd_Table_whoKeptNone : Good 46 := good_of pp_Table_whoKeptNone rfl dc_Table_whoKeptNone ck_Table_whoKeptNone
set_option maxRecDepth 100000 in
theorem dc_X_calm : (op_X_calm.all fun o => decide (decode prog_1_method_24_code o.1 = .ok (o.2.1, o.2.2.1))) = true := by decide +kernel
set_option maxRecDepth 100000 in
theorem ck_X_calm : (op_X_calm.all (chk 47)) = true := by decide +kernel
theorem gd_X_calm : Good 47 := good_of pp_X_calm rfl dc_X_calm ck_X_calm
set_option maxRecDepth 100000 in
theorem dc_Flier_meets : (op_Flier_meets.all fun o => decide (decode prog_3_method_4_code o.1 = .ok (o.2.1, o.2.2.1))) = true := by decide +kernel
set_option maxRecDepth 100000 in
theorem ck_Flier_meets : (op_Flier_meets.all (chk 48)) = true := by decide +kernel
theorem gd_Flier_meets : Good 48 := good_of pp_Flier_meets rfl dc_Flier_meets ck_Flier_meets
set_option maxRecDepth 100000 in
theorem dc_Flier_stepsOn : (op_Flier_stepsOn.all fun o => decide (decode prog_3_method_3_code o.1 = .ok (o.2.1, o.2.2.1))) = true := by decide +kernel
set_option maxRecDepth 100000 in
theorem ck_Flier_stepsOn : (op_Flier_stepsOn.all (chk 49)) = true := by decide +kernel
theorem gd_Flier_stepsOn : Good 49 := good_of pp_Flier_stepsOn rfl dc_Flier_stepsOn ck_Flier_stepsOn
set_option maxRecDepth 100000 in
theorem dc_Flier_ends : (op_Flier_ends.all fun o => decide (decode prog_3_method_2_code o.1 = .ok (o.2.1, o.2.2.1))) = true := by decide +kernel
set_option maxRecDepth 100000 in
theorem ck_Flier_ends : (op_Flier_ends.all (chk 50)) = true := by decide +kernel
theorem gd_Flier_ends : Good 50 := good_of pp_Flier_ends rfl dc_Flier_ends ck_Flier_ends
set_option maxRecDepth 100000 in
theorem dc_Flier_rimCell : (op_Flier_rimCell.all fun o => decide (decode prog_3_method_5_code o.1 = .ok (o.2.1, o.2.2.1))) = true := by decide +kernel
set_option maxRecDepth 100000 in
theorem ck_Flier_rimCell : (op_Flier_rimCell.all (chk 51)) = true := by decide +kernel
theorem gd_Flier_rimCell : Good 51 := good_of pp_Flier_rimCell rfl dc_Flier_rimCell ck_Flier_rimCell
set_option maxRecDepth 100000 in
theorem dc_X_comes : (op_X_comes.all fun o => decide (decode prog_1_method_35_code o.1 = .ok (o.2.1, o.2.2.1))) = true := by decide +kernel
set_option maxRecDepth 100000 in
theorem ck_X_comes : (op_X_comes.all (chk 52)) = true := by decide +kernel
theorem gd_X_comes : Good 52 := good_of pp_X_comes rfl dc_X_comes ck_X_comes
set_option maxRecDepth 100000 in
theorem dc_House_textOf : (op_House_textOf.all fun o => decide (decode prog_4_method_5_code o.1 = .ok (o.2.1, o.2.2.1))) = true := by decide +kernel
set_option maxRecDepth 100000 in
theorem ck_House_textOf : (op_House_textOf.all (chk 53)) = true := by decide +kernel
theorem gd_House_textOf : Good 53 := good_of pp_House_textOf rfl dc_House_textOf ck_House_textOf
set_option maxRecDepth 100000 in
theorem dc_House_law : (op_House_law.all fun o => decide (decode prog_4_method_6_code o.1 = .ok (o.2.1, o.2.2.1))) = true := by decide +kernel
set_option maxRecDepth 100000 in
theorem ck_House_law : (op_House_law.all (chk 54)) = true := by decide +kernel
theorem gd_House_law : Good 54 := good_of pp_House_law rfl dc_House_law ck_House_law
set_option maxRecDepth 100000 in
theorem dc_House_saveStep : (op_House_saveStep.all fun o => decide (decode prog_4_method_8_code o.1 = .ok (o.2.1, o.2.2.1))) = true := by decide +kernel
set_option maxRecDepth 100000 in
theorem ck_House_saveStep : (op_House_saveStep.all (chk 55)) = true := by decide +kernel
theorem gd_House_saveStep : Good 55 := good_of pp_House_saveStep rfl dc_House_saveStep ck_House_saveStep
set_option maxRecDepth 100000 in
theorem dc_Table_whoFrom : (op_Table_whoFrom.all fun o => decide (decode prog_10_method_14_code o.1 = .ok (o.2.1, o.2.2.1))) = true := by decide +kernel
set_option maxRecDepth 100000 in
theorem ck_Table_whoFrom : (op_Table_whoFrom.all (chk 56)) = true := by decide +kernel
theorem gd_Table_whoFrom : Good 56 := good_of pp_Table_whoFrom rfl dc_Table_whoFrom ck_Table_whoFrom
set_option maxRecDepth 100000 in
theorem dc_Asker_named : (op_Asker_named.all fun o => decide (decode prog_2_method_7_code o.1 = .ok (o.2.1, o.2.2.1))) = true := by decide +kernel
set_option maxRecDepth 100000 in
theorem ck_Asker_named : (op_Asker_named.all (chk 57)) = true := by decide +kernel
theorem gd_Asker_named : Good 57 := good_of pp_Asker_named rfl dc_Asker_named ck_Asker_named
set_option maxRecDepth 100000 in
theorem dc_Asker_ofOne : (op_Asker_ofOne.all fun o => decide (decode prog_2_method_8_code o.1 = .ok (o.2.1, o.2.2.1))) = true := by decide +kernel
set_option maxRecDepth 100000 in
theorem ck_Asker_ofOne : (op_Asker_ofOne.all (chk 58)) = true := by decide +kernel
theorem gd_Asker_ofOne : Good 58 := good_of pp_Asker_ofOne rfl dc_Asker_ofOne ck_Asker_ofOne
set_option maxRecDepth 100000 in
theorem dc_Asker_capped : (op_Asker_capped.all fun o => decide (decode prog_2_method_10_code o.1 = .ok (o.2.1, o.2.2.1))) = true := by decide +kernel
set_option maxRecDepth 100000 in
theorem ck_Asker_capped : (op_Asker_capped.all (chk 59)) = true := by decide +kernel
theorem gd_Asker_capped : Good 59 := good_of pp_Asker_capped rfl dc_Asker_capped ck_Asker_capped
set_option maxRecDepth 100000 in
theorem dc_Asker_ofTwo : (op_Asker_ofTwo.all fun o => decide (decode prog_2_method_9_code o.1 = .ok (o.2.1, o.2.2.1))) = true := by decide +kernel
set_option maxRecDepth 100000 in
theorem ck_Asker_ofTwo : (op_Asker_ofTwo.all (chk 60)) = true := by decide +kernel
theorem gd_Asker_ofTwo : Good 60 := good_of pp_Asker_ofTwo rfl dc_Asker_ofTwo ck_Asker_ofTwo
set_option maxRecDepth 100000 in
theorem dc_Kind_isName : (op_Kind_isName.all fun o => decide (decode prog_5_method_3_code o.1 = .ok (o.2.1, o.2.2.1))) = true := by decide +kernel
set_option maxRecDepth 100000 in
theorem ck_Kind_isName : (op_Kind_isName.all (chk 61)) = true := by decide +kernel
theorem gd_Kind_isName : Good 61 := good_of pp_Kind_isName rfl dc_Kind_isName ck_Kind_isName
set_option maxRecDepth 100000 in
theorem dc_Asker_takesNone : (op_Asker_takesNone.all fun o => decide (decode prog_2_method_5_code o.1 = .ok (o.2.1, o.2.2.1))) = true := by decide +kernel
set_option maxRecDepth 100000 in
theorem ck_Asker_takesNone : (op_Asker_takesNone.all (chk 62)) = true := by decide +kernel
theorem gd_Asker_takesNone : Good 62 := good_of pp_Asker_takesNone rfl dc_Asker_takesNone ck_Asker_takesNone
set_option maxRecDepth 100000 in
theorem dc_Asker_takesOne : (op_Asker_takesOne.all fun o => decide (decode prog_2_method_6_code o.1 = .ok (o.2.1, o.2.2.1))) = true := by decide +kernel
set_option maxRecDepth 100000 in
theorem ck_Asker_takesOne : (op_Asker_takesOne.all (chk 63)) = true := by decide +kernel
theorem gd_Asker_takesOne : Good 63 := good_of pp_Asker_takesOne rfl dc_Asker_takesOne ck_Asker_takesOne
set_option maxRecDepth 100000 in
theorem dc_Asker_run : (op_Asker_run.all fun o => decide (decode prog_2_method_4_code o.1 = .ok (o.2.1, o.2.2.1))) = true := by decide +kernel
set_option maxRecDepth 100000 in
theorem ck_Asker_run : (op_Asker_run.all (chk 64)) = true := by decide +kernel
theorem gd_Asker_run : Good 64 := good_of pp_Asker_run rfl dc_Asker_run ck_Asker_run
set_option maxRecDepth 100000 in
theorem dc_Math_min : (op_Math_min.all fun o => decide (decode prog_18_method_69_code o.1 = .ok (o.2.1, o.2.2.1))) = true := by decide +kernel
set_option maxRecDepth 100000 in
theorem ck_Math_min : (op_Math_min.all (chk 65)) = true := by decide +kernel
theorem gd_Math_min : Good 65 := good_of pp_Math_min rfl dc_Math_min ck_Math_min
set_option maxRecDepth 100000 in
theorem dc_Asker_bearsOf : (op_Asker_bearsOf.all fun o => decide (decode prog_2_method_3_code o.1 = .ok (o.2.1, o.2.2.1))) = true := by decide +kernel
set_option maxRecDepth 100000 in
theorem ck_Asker_bearsOf : (op_Asker_bearsOf.all (chk 66)) = true := by decide +kernel
theorem gd_Asker_bearsOf : Good 66 := good_of pp_Asker_bearsOf rfl dc_Asker_bearsOf ck_Asker_bearsOf
set_option maxRecDepth 100000 in
theorem dc_Asker_reachesOf : (op_Asker_reachesOf.all fun o => decide (decode prog_2_method_2_code o.1 = .ok (o.2.1, o.2.2.1))) = true := by decide +kernel
set_option maxRecDepth 100000 in
theorem ck_Asker_reachesOf : (op_Asker_reachesOf.all (chk 67)) = true := by decide +kernel
theorem gd_Asker_reachesOf : Good 67 := good_of pp_Asker_reachesOf rfl dc_Asker_reachesOf ck_Asker_reachesOf
set_option maxRecDepth 100000 in
theorem dc_Table_draw : (op_Table_draw.all fun o => decide (decode prog_10_method_15_code o.1 = .ok (o.2.1, o.2.2.1))) = true := by decide +kernel
set_option maxRecDepth 100000 in
theorem ck_Table_draw : (op_Table_draw.all (chk 68)) = true := by decide +kernel
theorem gd_Table_draw : Good 68 := good_of pp_Table_draw rfl dc_Table_draw ck_Table_draw
set_option maxRecDepth 100000 in
theorem dc_Table_isStrapped : (op_Table_isStrapped.all fun o => decide (decode prog_10_method_6_code o.1 = .ok (o.2.1, o.2.2.1))) = true := by decide +kernel
set_option maxRecDepth 100000 in
theorem ck_Table_isStrapped : (op_Table_isStrapped.all (chk 69)) = true := by decide +kernel
theorem gd_Table_isStrapped : Good 69 := good_of pp_Table_isStrapped rfl dc_Table_isStrapped ck_Table_isStrapped
set_option maxRecDepth 100000 in
theorem dc_Table_keepOneMore : (op_Table_keepOneMore.all fun o => decide (decode prog_10_method_10_code o.1 = .ok (o.2.1, o.2.2.1))) = true := by decide +kernel
set_option maxRecDepth 100000 in
theorem ck_Table_keepOneMore : (op_Table_keepOneMore.all (chk 70)) = true := by decide +kernel
theorem gd_Table_keepOneMore : Good 70 := good_of pp_Table_keepOneMore rfl dc_Table_keepOneMore ck_Table_keepOneMore
set_option maxRecDepth 100000 in
theorem dc_Table_write : (op_Table_write.all fun o => decide (decode prog_10_method_18_code o.1 = .ok (o.2.1, o.2.2.1))) = true := by decide +kernel
set_option maxRecDepth 100000 in
theorem ck_Table_write : (op_Table_write.all (chk 71)) = true := by decide +kernel
theorem gd_Table_write : Good 71 := good_of pp_Table_write rfl dc_Table_write ck_Table_write
set_option maxRecDepth 100000 in
theorem dc_Table_letLoose : (op_Table_letLoose.all fun o => decide (decode prog_10_method_17_code o.1 = .ok (o.2.1, o.2.2.1))) = true := by decide +kernel
set_option maxRecDepth 100000 in
theorem ck_Table_letLoose : (op_Table_letLoose.all (chk 72)) = true := by decide +kernel
theorem gd_Table_letLoose : Good 72 := good_of pp_Table_letLoose rfl dc_Table_letLoose ck_Table_letLoose
set_option maxRecDepth 100000 in
theorem dc_Table_passDinner : (op_Table_passDinner.all fun o => decide (decode prog_10_method_16_code o.1 = .ok (o.2.1, o.2.2.1))) = true := by decide +kernel
set_option maxRecDepth 100000 in
theorem ck_Table_passDinner : (op_Table_passDinner.all (chk 73)) = true := by decide +kernel
theorem gd_Table_passDinner : Good 73 := good_of pp_Table_passDinner rfl dc_Table_passDinner ck_Table_passDinner
set_option maxRecDepth 100000 in
theorem dc_House_dine : (op_House_dine.all fun o => decide (decode prog_4_method_10_code o.1 = .ok (o.2.1, o.2.2.1))) = true := by decide +kernel
set_option maxRecDepth 100000 in
theorem ck_House_dine : (op_House_dine.all (chk 74)) = true := by decide +kernel
theorem gd_House_dine : Good 74 := good_of pp_House_dine rfl dc_House_dine ck_House_dine
set_option maxRecDepth 100000 in
theorem dc_X_dinner : (op_X_dinner.all fun o => decide (decode prog_1_method_12_code o.1 = .ok (o.2.1, o.2.2.1))) = true := by decide +kernel
set_option maxRecDepth 100000 in
theorem ck_X_dinner : (op_X_dinner.all (chk 75)) = true := by decide +kernel
theorem gd_X_dinner : Good 75 := good_of pp_X_dinner rfl dc_X_dinner ck_X_dinner
set_option maxRecDepth 100000 in
theorem dc_Table_canPutDown : (op_Table_canPutDown.all fun o => decide (decode prog_10_method_8_code o.1 = .ok (o.2.1, o.2.2.1))) = true := by decide +kernel
set_option maxRecDepth 100000 in
theorem ck_Table_canPutDown : (op_Table_canPutDown.all (chk 76)) = true := by decide +kernel
theorem gd_Table_canPutDown : Good 76 := good_of pp_Table_canPutDown rfl dc_Table_canPutDown ck_Table_canPutDown
set_option maxRecDepth 100000 in
theorem dc_Table_putDown : (op_Table_putDown.all fun o => decide (decode prog_10_method_11_code o.1 = .ok (o.2.1, o.2.2.1))) = true := by decide +kernel
set_option maxRecDepth 100000 in
theorem ck_Table_putDown : (op_Table_putDown.all (chk 77)) = true := by decide +kernel
theorem gd_Table_putDown : Good 77 := good_of pp_Table_putDown rfl dc_Table_putDown ck_Table_putDown
set_option maxRecDepth 100000 in
theorem dc_X_down : (op_X_down.all fun o => decide (decode prog_1_method_9_code o.1 = .ok (o.2.1, o.2.2.1))) = true := by decide +kernel
set_option maxRecDepth 100000 in
theorem ck_X_down : (op_X_down.all (chk 78)) = true := by decide +kernel
theorem gd_X_down : Good 78 := good_of pp_X_down rfl dc_X_down ck_X_down
set_option maxRecDepth 100000 in
theorem dc_X_end : (op_X_end.all fun o => decide (decode prog_1_method_4_code o.1 = .ok (o.2.1, o.2.2.1))) = true := by decide +kernel
set_option maxRecDepth 100000 in
theorem ck_X_end : (op_X_end.all (chk 79)) = true := by decide +kernel
theorem gd_X_end : Good 79 := good_of pp_X_end rfl dc_X_end ck_X_end
set_option maxRecDepth 100000 in
theorem dc_X_fault : (op_X_fault.all fun o => decide (decode prog_1_method_6_code o.1 = .ok (o.2.1, o.2.2.1))) = true := by decide +kernel
set_option maxRecDepth 100000 in
theorem ck_X_fault : (op_X_fault.all (chk 80)) = true := by decide +kernel
theorem gd_X_fault : Good 80 := good_of pp_X_fault rfl dc_X_fault ck_X_fault
set_option maxRecDepth 100000 in
theorem dc_Tape_addFour : (op_Tape_addFour.all fun o => decide (decode prog_11_method_2_code o.1 = .ok (o.2.1, o.2.2.1))) = true := by decide +kernel
set_option maxRecDepth 100000 in
theorem ck_Tape_addFour : (op_Tape_addFour.all (chk 81)) = true := by decide +kernel
theorem gd_Tape_addFour : Good 81 := good_of pp_Tape_addFour rfl dc_Tape_addFour ck_Tape_addFour
set_option maxRecDepth 100000 in
theorem dc_X_feed : (op_X_feed.all fun o => decide (decode prog_1_method_3_code o.1 = .ok (o.2.1, o.2.2.1))) = true := by decide +kernel
set_option maxRecDepth 100000 in
theorem ck_X_feed : (op_X_feed.all (chk 82)) = true := by decide +kernel
theorem gd_X_feed : Good 82 := good_of pp_X_feed rfl dc_X_feed ck_X_feed
set_option maxRecDepth 100000 in
theorem dc_X_fit : (op_X_fit.all fun o => decide (decode prog_1_method_39_code o.1 = .ok (o.2.1, o.2.2.1))) = true := by decide +kernel
set_option maxRecDepth 100000 in
theorem ck_X_fit : (op_X_fit.all (chk 83)) = true := by decide +kernel
theorem gd_X_fit : Good 83 := good_of pp_X_fit rfl dc_X_fit ck_X_fit
set_option maxRecDepth 100000 in
theorem dc_X_fits : (op_X_fits.all fun o => decide (decode prog_1_method_38_code o.1 = .ok (o.2.1, o.2.2.1))) = true := by decide +kernel
set_option maxRecDepth 100000 in
theorem ck_X_fits : (op_X_fits.all (chk 84)) = true := by decide +kernel
theorem gd_X_fits : Good 84 := good_of pp_X_fits rfl dc_X_fits ck_X_fits
set_option maxRecDepth 100000 in
theorem dc_X_flight : (op_X_flight.all fun o => decide (decode prog_1_method_34_code o.1 = .ok (o.2.1, o.2.2.1))) = true := by decide +kernel
set_option maxRecDepth 100000 in
theorem ck_X_flight : (op_X_flight.all (chk 85)) = true := by decide +kernel
theorem gd_X_flight : Good 85 := good_of pp_X_flight rfl dc_X_flight ck_X_flight
set_option maxRecDepth 100000 in
theorem dc_X_foretold : (op_X_foretold.all fun o => decide (decode prog_1_method_26_code o.1 = .ok (o.2.1, o.2.2.1))) = true := by decide +kernel
set_option maxRecDepth 100000 in
theorem ck_X_foretold : (op_X_foretold.all (chk 86)) = true := by decide +kernel
theorem gd_X_foretold : Good 86 := good_of pp_X_foretold rfl dc_X_foretold ck_X_foretold
set_option maxRecDepth 100000 in
theorem dc_Table_whoKeptMost : (op_Table_whoKeptMost.all fun o => decide (decode prog_10_method_25_code o.1 = .ok (o.2.1, o.2.2.1))) = true := by decide +kernel
set_option maxRecDepth 100000 in
theorem ck_Table_whoKeptMost : (op_Table_whoKeptMost.all (chk 87)) = true := by decide +kernel
theorem gd_Table_whoKeptMost : Good 87 := good_of pp_Table_whoKeptMost rfl dc_Table_whoKeptMost ck_Table_whoKeptMost
set_option maxRecDepth 100000 in
theorem dc_X_fullest : (op_X_fullest.all fun o => decide (decode prog_1_method_23_code o.1 = .ok (o.2.1, o.2.2.1))) = true := by decide +kernel
set_option maxRecDepth 100000 in
theorem ck_X_fullest : (op_X_fullest.all (chk 88)) = true := by decide +kernel
theorem gd_X_fullest : Good 88 := good_of pp_X_fullest rfl dc_X_fullest ck_X_fullest
set_option maxRecDepth 100000 in
theorem dc_X_gain : (op_X_gain.all fun o => decide (decode prog_1_method_41_code o.1 = .ok (o.2.1, o.2.2.1))) = true := by decide +kernel
set_option maxRecDepth 100000 in
theorem ck_X_gain : (op_X_gain.all (chk 89)) = true := by decide +kernel
theorem gd_X_gain : Good 89 := good_of pp_X_gain rfl dc_X_gain ck_X_gain
set_option maxRecDepth 100000 in
theorem dc_X_game : (op_X_game.all fun o => decide (decode prog_1_method_52_code o.1 = .ok (o.2.1, o.2.2.1))) = true := by decide +kernel
set_option maxRecDepth 100000 in
theorem ck_X_game : (op_X_game.all (chk 90)) = true := by decide +kernel
theorem gd_X_game : Good 90 := good_of pp_X_game rfl dc_X_game ck_X_game
set_option maxRecDepth 100000 in
theorem dc_Pairs_add : (op_Pairs_add.all fun o => decide (decode prog_6_method_3_code o.1 = .ok (o.2.1, o.2.2.1))) = true := by decide +kernel
set_option maxRecDepth 100000 in
theorem ck_Pairs_add : (op_Pairs_add.all (chk 91)) = true := by decide +kernel
theorem gd_Pairs_add : Good 91 := good_of pp_Pairs_add rfl dc_Pairs_add ck_Pairs_add
set_option maxRecDepth 100000 in
theorem dc_Pairs_clear : (op_Pairs_clear.all fun o => decide (decode prog_6_method_2_code o.1 = .ok (o.2.1, o.2.2.1))) = true := by decide +kernel
set_option maxRecDepth 100000 in
theorem ck_Pairs_clear : (op_Pairs_clear.all (chk 92)) = true := by decide +kernel
theorem gd_Pairs_clear : Good 92 := good_of pp_Pairs_clear rfl dc_Pairs_clear ck_Pairs_clear
set_option maxRecDepth 100000 in
theorem dc_X_guess : (op_X_guess.all fun o => decide (decode prog_1_method_36_code o.1 = .ok (o.2.1, o.2.2.1))) = true := by decide +kernel
set_option maxRecDepth 100000 in
theorem ck_X_guess : (op_X_guess.all (chk 93)) = true := by decide +kernel
theorem gd_X_guess : Good 93 := good_of pp_X_guess rfl dc_X_guess ck_X_guess
set_option maxRecDepth 100000 in
theorem dc_X_hedge : (op_X_hedge.all fun o => decide (decode prog_1_method_33_code o.1 = .ok (o.2.1, o.2.2.1))) = true := by decide +kernel
set_option maxRecDepth 100000 in
theorem ck_X_hedge : (op_X_hedge.all (chk 94)) = true := by decide +kernel
theorem gd_X_hedge : Good 94 := good_of pp_X_hedge rfl dc_X_hedge ck_X_hedge
set_option maxRecDepth 100000 in
theorem dc_X_image : (op_X_image.all fun o => decide (decode prog_1_method_61_code o.1 = .ok (o.2.1, o.2.2.1))) = true := by decide +kernel
set_option maxRecDepth 100000 in
theorem ck_X_image : (op_X_image.all (chk 95)) = true := by decide +kernel
theorem gd_X_image : Good 95 := good_of pp_X_image rfl dc_X_image ck_X_image
set_option maxRecDepth 100000 in
theorem dc_Table_keptOfAll : (op_Table_keptOfAll.all fun o => decide (decode prog_10_method_24_code o.1 = .ok (o.2.1, o.2.2.1))) = true := by decide +kernel
set_option maxRecDepth 100000 in
theorem ck_Table_keptOfAll : (op_Table_keptOfAll.all (chk 96)) = true := by decide +kernel
theorem gd_Table_keptOfAll : Good 96 := good_of pp_Table_keptOfAll rfl dc_Table_keptOfAll ck_Table_keptOfAll
set_option maxRecDepth 100000 in
theorem dc_X_is : (op_X_is.all fun o => decide (decode prog_1_method_21_code o.1 = .ok (o.2.1, o.2.2.1))) = true := by decide +kernel
set_option maxRecDepth 100000 in
theorem ck_X_is : (op_X_is.all (chk 97)) = true := by decide +kernel
theorem gd_X_is : Good 97 := good_of pp_X_is rfl dc_X_is ck_X_is
set_option maxRecDepth 100000 in
theorem dc_Table_seatOneMore : (op_Table_seatOneMore.all fun o => decide (decode prog_10_method_4_code o.1 = .ok (o.2.1, o.2.2.1))) = true := by decide +kernel
set_option maxRecDepth 100000 in
theorem ck_Table_seatOneMore : (op_Table_seatOneMore.all (chk 98)) = true := by decide +kernel
theorem gd_Table_seatOneMore : Good 98 := good_of pp_Table_seatOneMore rfl dc_Table_seatOneMore ck_Table_seatOneMore
set_option maxRecDepth 100000 in
theorem dc_X_kin : (op_X_kin.all fun o => decide (decode prog_1_method_2_code o.1 = .ok (o.2.1, o.2.2.1))) = true := by decide +kernel
set_option maxRecDepth 100000 in
theorem ck_X_kin : (op_X_kin.all (chk 99)) = true := by decide +kernel
theorem gd_X_kin : Good 99 := good_of pp_X_kin rfl dc_X_kin ck_X_kin
set_option maxRecDepth 100000 in
theorem dc_X_sumOf : (op_X_sumOf.all fun o => decide (decode prog_1_method_49_code o.1 = .ok (o.2.1, o.2.2.1))) = true := by decide +kernel
set_option maxRecDepth 100000 in
theorem ck_X_sumOf : (op_X_sumOf.all (chk 100)) = true := by decide +kernel
theorem gd_X_sumOf : Good 100 := good_of pp_X_sumOf rfl dc_X_sumOf ck_X_sumOf
set_option maxRecDepth 100000 in
theorem dc_X_leastSet : (op_X_leastSet.all fun o => decide (decode prog_1_method_48_code o.1 = .ok (o.2.1, o.2.2.1))) = true := by decide +kernel
set_option maxRecDepth 100000 in
theorem ck_X_leastSet : (op_X_leastSet.all (chk 101)) = true := by decide +kernel
theorem gd_X_leastSet : Good 101 := good_of pp_X_leastSet rfl dc_X_leastSet ck_X_leastSet
set_option maxRecDepth 100000 in
theorem dc_X_least : (op_X_least.all fun o => decide (decode prog_1_method_47_code o.1 = .ok (o.2.1, o.2.2.1))) = true := by decide +kernel
set_option maxRecDepth 100000 in
theorem ck_X_least : (op_X_least.all (chk 102)) = true := by decide +kernel
theorem gd_X_least : Good 102 := good_of pp_X_least rfl dc_X_least ck_X_least
set_option maxRecDepth 100000 in
theorem dc_Table_linesOf : (op_Table_linesOf.all fun o => decide (decode prog_10_method_23_code o.1 = .ok (o.2.1, o.2.2.1))) = true := by decide +kernel
set_option maxRecDepth 100000 in
theorem ck_Table_linesOf : (op_Table_linesOf.all (chk 103)) = true := by decide +kernel
theorem gd_Table_linesOf : Good 103 := good_of pp_Table_linesOf rfl dc_Table_linesOf ck_Table_linesOf
set_option maxRecDepth 100000 in
theorem dc_X_ledger : (op_X_ledger.all fun o => decide (decode prog_1_method_25_code o.1 = .ok (o.2.1, o.2.2.1))) = true := by decide +kernel
set_option maxRecDepth 100000 in
theorem ck_X_ledger : (op_X_ledger.all (chk 104)) = true := by decide +kernel
theorem gd_X_ledger : Good 104 := good_of pp_X_ledger rfl dc_X_ledger ck_X_ledger
set_option maxRecDepth 100000 in
theorem dc_Rounds_spiteOf : (op_Rounds_spiteOf.all fun o => decide (decode prog_8_method_6_code o.1 = .ok (o.2.1, o.2.2.1))) = true := by decide +kernel
set_option maxRecDepth 100000 in
theorem ck_Rounds_spiteOf : (op_Rounds_spiteOf.all (chk 105)) = true := by decide +kernel
theorem gd_Rounds_spiteOf : Good 105 := good_of pp_Rounds_spiteOf rfl dc_Rounds_spiteOf ck_Rounds_spiteOf
set_option maxRecDepth 100000 in
theorem dc_Rounds_spiteAround : (op_Rounds_spiteAround.all fun o => decide (decode prog_8_method_7_code o.1 = .ok (o.2.1, o.2.2.1))) = true := by decide +kernel
set_option maxRecDepth 100000 in
theorem ck_Rounds_spiteAround : (op_Rounds_spiteAround.all (chk 106)) = true := by decide +kernel
theorem gd_Rounds_spiteAround : Good 106 := good_of pp_Rounds_spiteAround rfl dc_Rounds_spiteAround ck_Rounds_spiteAround
set_option maxRecDepth 100000 in
theorem dc_Rounds_exchange : (op_Rounds_exchange.all fun o => decide (decode prog_8_method_5_code o.1 = .ok (o.2.1, o.2.2.1))) = true := by decide +kernel
set_option maxRecDepth 100000 in
theorem ck_Rounds_exchange : (op_Rounds_exchange.all (chk 107)) = true := by decide +kernel
theorem gd_Rounds_exchange : Good 107 := good_of pp_Rounds_exchange rfl dc_Rounds_exchange ck_Rounds_exchange
set_option maxRecDepth 100000 in
theorem dc_Rounds_spiteSwapped : (op_Rounds_spiteSwapped.all fun o => decide (decode prog_8_method_9_code o.1 = .ok (o.2.1, o.2.2.1))) = true := by decide +kernel
set_option maxRecDepth 100000 in
theorem ck_Rounds_spiteSwapped : (op_Rounds_spiteSwapped.all (chk 108)) = true := by decide +kernel
theorem gd_Rounds_spiteSwapped : Good 108 := good_of pp_Rounds_spiteSwapped rfl dc_Rounds_spiteSwapped ck_Rounds_spiteSwapped
set_option maxRecDepth 100000 in
theorem dc_Rounds_seekMend : (op_Rounds_seekMend.all fun o => decide (decode prog_8_method_8_code o.1 = .ok (o.2.1, o.2.2.1))) = true := by decide +kernel
set_option maxRecDepth 100000 in
theorem ck_Rounds_seekMend : (op_Rounds_seekMend.all (chk 109)) = true := by decide +kernel
theorem gd_Rounds_seekMend : Good 109 := good_of pp_Rounds_seekMend rfl dc_Rounds_seekMend ck_Rounds_seekMend
set_option maxRecDepth 100000 in
theorem dc_X_mend : (op_X_mend.all fun o => decide (decode prog_1_method_32_code o.1 = .ok (o.2.1, o.2.2.1))) = true := by decide +kernel
set_option maxRecDepth 100000 in
theorem ck_X_mend : (op_X_mend.all (chk 110)) = true := by decide +kernel
theorem gd_X_mend : Good 110 := good_of pp_X_mend rfl dc_X_mend ck_X_mend
set_option maxRecDepth 100000 in
theorem dc_X_gainOf : (op_X_gainOf.all fun o => decide (decode prog_1_method_42_code o.1 = .ok (o.2.1, o.2.2.1))) = true := by decide +kernel
set_option maxRecDepth 100000 in
theorem ck_X_gainOf : (op_X_gainOf.all (chk 111)) = true := by decide +kernel
theorem gd_X_gainOf : Good 111 := good_of pp_X_gainOf rfl dc_X_gainOf ck_X_gainOf
set_option maxRecDepth 100000 in
theorem dc_X_lowest : (op_X_lowest.all fun o => decide (decode prog_1_method_51_code o.1 = .ok (o.2.1, o.2.2.1))) = true := by decide +kernel
set_option maxRecDepth 100000 in
theorem ck_X_lowest : (op_X_lowest.all (chk 112)) = true := by decide +kernel
theorem gd_X_lowest : Good 112 := good_of pp_X_lowest rfl dc_X_lowest ck_X_lowest
set_option maxRecDepth 100000 in
theorem dc_X_unlikeSigns : (op_X_unlikeSigns.all fun o => decide (decode prog_1_method_45_code o.1 = .ok (o.2.1, o.2.2.1))) = true := by decide +kernel
set_option maxRecDepth 100000 in
theorem ck_X_unlikeSigns : (op_X_unlikeSigns.all (chk 113)) = true := by decide +kernel
theorem gd_X_unlikeSigns : Good 113 := good_of pp_X_unlikeSigns rfl dc_X_unlikeSigns ck_X_unlikeSigns
set_option maxRecDepth 100000 in
theorem dc_Math_abs : (op_Math_abs.all fun o => decide (decode prog_18_method_59_code o.1 = .ok (o.2.1, o.2.2.1))) = true := by decide +kernel
set_option maxRecDepth 100000 in
theorem ck_Math_abs : (op_Math_abs.all (chk 114)) = true := by decide +kernel
theorem gd_Math_abs : Good 114 := good_of pp_Math_abs rfl dc_Math_abs ck_Math_abs
set_option maxRecDepth 100000 in
theorem dc_X_mixed : (op_X_mixed.all fun o => decide (decode prog_1_method_44_code o.1 = .ok (o.2.1, o.2.2.1))) = true := by decide +kernel
set_option maxRecDepth 100000 in
theorem ck_X_mixed : (op_X_mixed.all (chk 115)) = true := by decide +kernel
theorem gd_X_mixed : Good 115 := good_of pp_X_mixed rfl dc_X_mixed ck_X_mixed
set_option maxRecDepth 100000 in
theorem dc_X_near : (op_X_near.all fun o => decide (decode prog_1_method_50_code o.1 = .ok (o.2.1, o.2.2.1))) = true := by decide +kernel
set_option maxRecDepth 100000 in
theorem ck_X_near : (op_X_near.all (chk 116)) = true := by decide +kernel
theorem gd_X_near : Good 116 := good_of pp_X_near rfl dc_X_near ck_X_near
set_option maxRecDepth 100000 in
theorem dc_X_of : (op_X_of.all fun o => decide (decode prog_1_method_19_code o.1 = .ok (o.2.1, o.2.2.1))) = true := by decide +kernel
set_option maxRecDepth 100000 in
theorem ck_X_of : (op_X_of.all (chk 117)) = true := by decide +kernel
theorem gd_X_of : Good 117 := good_of pp_X_of rfl dc_X_of ck_X_of
set_option maxRecDepth 100000 in
theorem dc_Table_canReach : (op_Table_canReach.all fun o => decide (decode prog_10_method_7_code o.1 = .ok (o.2.1, o.2.2.1))) = true := by decide +kernel
set_option maxRecDepth 100000 in
theorem ck_Table_canReach : (op_Table_canReach.all (chk 118)) = true := by decide +kernel
theorem gd_Table_canReach : Good 118 := good_of pp_Table_canReach rfl dc_Table_canReach ck_Table_canReach
set_option maxRecDepth 100000 in
theorem dc_X_reach : (op_X_reach.all fun o => decide (decode prog_1_method_8_code o.1 = .ok (o.2.1, o.2.2.1))) = true := by decide +kernel
set_option maxRecDepth 100000 in
theorem ck_X_reach : (op_X_reach.all (chk 119)) = true := by decide +kernel
theorem gd_X_reach : Good 119 := good_of pp_X_reach rfl dc_X_reach ck_X_reach
set_option maxRecDepth 100000 in
theorem dc_Table_turnStrap : (op_Table_turnStrap.all fun o => decide (decode prog_10_method_12_code o.1 = .ok (o.2.1, o.2.2.1))) = true := by decide +kernel
set_option maxRecDepth 100000 in
theorem ck_Table_turnStrap : (op_Table_turnStrap.all (chk 120)) = true := by decide +kernel
theorem gd_Table_turnStrap : Good 120 := good_of pp_Table_turnStrap rfl dc_Table_turnStrap ck_Table_turnStrap
set_option maxRecDepth 100000 in
theorem dc_X_strap : (op_X_strap.all fun o => decide (decode prog_1_method_10_code o.1 = .ok (o.2.1, o.2.2.1))) = true := by decide +kernel
set_option maxRecDepth 100000 in
theorem ck_X_strap : (op_X_strap.all (chk 121)) = true := by decide +kernel
theorem gd_X_strap : Good 121 := good_of pp_X_strap rfl dc_X_strap ck_X_strap
set_option maxRecDepth 100000 in
theorem dc_Table_canSwap : (op_Table_canSwap.all fun o => decide (decode prog_10_method_9_code o.1 = .ok (o.2.1, o.2.2.1))) = true := by decide +kernel
set_option maxRecDepth 100000 in
theorem ck_Table_canSwap : (op_Table_canSwap.all (chk 122)) = true := by decide +kernel
theorem gd_Table_canSwap : Good 122 := good_of pp_Table_canSwap rfl dc_Table_canSwap ck_Table_canSwap
set_option maxRecDepth 100000 in
theorem dc_Table_swapSeats : (op_Table_swapSeats.all fun o => decide (decode prog_10_method_13_code o.1 = .ok (o.2.1, o.2.2.1))) = true := by decide +kernel
set_option maxRecDepth 100000 in
theorem ck_Table_swapSeats : (op_Table_swapSeats.all (chk 123)) = true := by decide +kernel
theorem gd_Table_swapSeats : Good 123 := good_of pp_Table_swapSeats rfl dc_Table_swapSeats ck_Table_swapSeats
set_option maxRecDepth 100000 in
theorem dc_X_swap : (op_X_swap.all fun o => decide (decode prog_1_method_11_code o.1 = .ok (o.2.1, o.2.2.1))) = true := by decide +kernel
set_option maxRecDepth 100000 in
theorem ck_X_swap : (op_X_swap.all (chk 124)) = true := by decide +kernel
theorem gd_X_swap : Good 124 := good_of pp_X_swap rfl dc_X_swap ck_X_swap
set_option maxRecDepth 100000 in
theorem dc_X_done : (op_X_done.all fun o => decide (decode prog_1_method_14_code o.1 = .ok (o.2.1, o.2.2.1))) = true := by decide +kernel
set_option maxRecDepth 100000 in
theorem ck_X_done : (op_X_done.all (chk 125)) = true := by decide +kernel
theorem gd_X_done : Good 125 := good_of pp_X_done rfl dc_X_done ck_X_done
set_option maxRecDepth 100000 in
theorem dc_X_played : (op_X_played.all fun o => decide (decode prog_1_method_13_code o.1 = .ok (o.2.1, o.2.2.1))) = true := by decide +kernel
set_option maxRecDepth 100000 in
theorem ck_X_played : (op_X_played.all (chk 126)) = true := by decide +kernel
theorem gd_X_played : Good 126 := good_of pp_X_played rfl dc_X_played ck_X_played
set_option maxRecDepth 100000 in
theorem dc_X_rests : (op_X_rests.all fun o => decide (decode prog_1_method_43_code o.1 = .ok (o.2.1, o.2.2.1))) = true := by decide +kernel
set_option maxRecDepth 100000 in
theorem ck_X_rests : (op_X_rests.all (chk 127)) = true := by decide +kernel
theorem gd_X_rests : Good 127 := good_of pp_X_rests rfl dc_X_rests ck_X_rests
set_option maxRecDepth 100000 in
theorem dc_Rounds_turnToNextRow : (op_Rounds_turnToNextRow.all fun o => decide (decode prog_8_method_4_code o.1 = .ok (o.2.1, o.2.2.1))) = true := by decide +kernel
set_option maxRecDepth 100000 in
theorem ck_Rounds_turnToNextRow : (op_Rounds_turnToNextRow.all (chk 128)) = true := by decide +kernel
theorem gd_Rounds_turnToNextRow : Good 128 := good_of pp_Rounds_turnToNextRow rfl dc_Rounds_turnToNextRow ck_Rounds_turnToNextRow
set_option maxRecDepth 100000 in
theorem dc_Rounds_weigh : (op_Rounds_weigh.all fun o => decide (decode prog_8_method_3_code o.1 = .ok (o.2.1, o.2.2.1))) = true := by decide +kernel
set_option maxRecDepth 100000 in
theorem ck_Rounds_weigh : (op_Rounds_weigh.all (chk 129)) = true := by decide +kernel
theorem gd_Rounds_weigh : Good 129 := good_of pp_Rounds_weigh rfl dc_Rounds_weigh ck_Rounds_weigh
set_option maxRecDepth 100000 in
theorem dc_Rounds_weighAll : (op_Rounds_weighAll.all fun o => decide (decode prog_8_method_2_code o.1 = .ok (o.2.1, o.2.2.1))) = true := by decide +kernel
set_option maxRecDepth 100000 in
theorem ck_Rounds_weighAll : (op_Rounds_weighAll.all (chk 130)) = true := by decide +kernel
theorem gd_Rounds_weighAll : Good 130 := good_of pp_Rounds_weighAll rfl dc_Rounds_weighAll ck_Rounds_weighAll
set_option maxRecDepth 100000 in
theorem dc_X_round : (op_X_round.all fun o => decide (decode prog_1_method_28_code o.1 = .ok (o.2.1, o.2.2.1))) = true := by decide +kernel
set_option maxRecDepth 100000 in
theorem ck_X_round : (op_X_round.all (chk 131)) = true := by decide +kernel
theorem gd_X_round : Good 131 := good_of pp_X_round rfl dc_X_round ck_X_round
set_option maxRecDepth 100000 in
theorem dc_X_saying : (op_X_saying.all fun o => decide (decode prog_1_method_46_code o.1 = .ok (o.2.1, o.2.2.1))) = true := by decide +kernel
set_option maxRecDepth 100000 in
theorem ck_X_saying : (op_X_saying.all (chk 132)) = true := by decide +kernel
theorem gd_X_saying : Good 132 := good_of pp_X_saying rfl dc_X_saying ck_X_saying
set_option maxRecDepth 100000 in
theorem dc_X_seating : (op_X_seating.all fun o => decide (decode prog_1_method_29_code o.1 = .ok (o.2.1, o.2.2.1))) = true := by decide +kernel
set_option maxRecDepth 100000 in
theorem ck_X_seating : (op_X_seating.all (chk 133)) = true := by decide +kernel
theorem gd_X_seating : Good 133 := good_of pp_X_seating rfl dc_X_seating ck_X_seating
set_option maxRecDepth 100000 in
theorem dc_X_seatings : (op_X_seatings.all fun o => decide (decode prog_1_method_30_code o.1 = .ok (o.2.1, o.2.2.1))) = true := by decide +kernel
set_option maxRecDepth 100000 in
theorem ck_X_seatings : (op_X_seatings.all (chk 134)) = true := by decide +kernel
theorem gd_X_seatings : Good 134 := good_of pp_X_seatings rfl dc_X_seatings ck_X_seatings
set_option maxRecDepth 100000 in
theorem dc_X_spite : (op_X_spite.all fun o => decide (decode prog_1_method_27_code o.1 = .ok (o.2.1, o.2.2.1))) = true := by decide +kernel
set_option maxRecDepth 100000 in
theorem ck_X_spite : (op_X_spite.all (chk 135)) = true := by decide +kernel
theorem gd_X_spite : Good 135 := good_of pp_X_spite rfl dc_X_spite ck_X_spite
set_option maxRecDepth 100000 in
theorem dc_X_spiteNow : (op_X_spiteNow.all fun o => decide (decode prog_1_method_31_code o.1 = .ok (o.2.1, o.2.2.1))) = true := by decide +kernel
set_option maxRecDepth 100000 in
theorem ck_X_spiteNow : (op_X_spiteNow.all (chk 136)) = true := by decide +kernel
theorem gd_X_spiteNow : Good 136 := good_of pp_X_spiteNow rfl dc_X_spiteNow ck_X_spiteNow
set_option maxRecDepth 100000 in
theorem dc_House_keepText : (op_House_keepText.all fun o => decide (decode prog_4_method_4_code o.1 = .ok (o.2.1, o.2.2.1))) = true := by decide +kernel
set_option maxRecDepth 100000 in
theorem ck_House_keepText : (op_House_keepText.all (chk 137)) = true := by decide +kernel
theorem gd_House_keepText : Good 137 := good_of pp_House_keepText rfl dc_House_keepText ck_House_keepText
set_option maxRecDepth 100000 in
theorem dc_Reader_kind : (op_Reader_kind.all fun o => decide (decode prog_7_method_3_code o.1 = .ok (o.2.1, o.2.2.1))) = true := by decide +kernel
set_option maxRecDepth 100000 in
theorem ck_Reader_kind : (op_Reader_kind.all (chk 138)) = true := by decide +kernel
theorem gd_Reader_kind : Good 138 := good_of pp_Reader_kind rfl dc_Reader_kind ck_Reader_kind
set_option maxRecDepth 100000 in
theorem dc_Kind_opensClause : (op_Kind_opensClause.all fun o => decide (decode prog_5_method_5_code o.1 = .ok (o.2.1, o.2.2.1))) = true := by decide +kernel
set_option maxRecDepth 100000 in
theorem ck_Kind_opensClause : (op_Kind_opensClause.all (chk 139)) = true := by decide +kernel
theorem gd_Kind_opensClause : Good 139 := good_of pp_Kind_opensClause rfl dc_Kind_opensClause ck_Kind_opensClause
set_option maxRecDepth 100000 in
theorem dc_Reader_fail : (op_Reader_fail.all fun o => decide (decode prog_7_method_4_code o.1 = .ok (o.2.1, o.2.2.1))) = true := by decide +kernel
set_option maxRecDepth 100000 in
theorem ck_Reader_fail : (op_Reader_fail.all (chk 140)) = true := by decide +kernel
theorem gd_Reader_fail : Good 140 := good_of pp_Reader_fail rfl dc_Reader_fail ck_Reader_fail
set_option maxRecDepth 100000 in
theorem dc_Reader_openClause : (op_Reader_openClause.all fun o => decide (decode prog_7_method_7_code o.1 = .ok (o.2.1, o.2.2.1))) = true := by decide +kernel
set_option maxRecDepth 100000 in
theorem ck_Reader_openClause : (op_Reader_openClause.all (chk 141)) = true := by decide +kernel
theorem gd_Reader_openClause : Good 141 := good_of pp_Reader_openClause rfl dc_Reader_openClause ck_Reader_openClause
set_option maxRecDepth 100000 in
theorem dc_Reader_expect : (op_Reader_expect.all fun o => decide (decode prog_7_method_5_code o.1 = .ok (o.2.1, o.2.2.1))) = true := by decide +kernel
set_option maxRecDepth 100000 in
theorem ck_Reader_expect : (op_Reader_expect.all (chk 142)) = true := by decide +kernel
theorem gd_Reader_expect : Good 142 := good_of pp_Reader_expect rfl dc_Reader_expect ck_Reader_expect
set_option maxRecDepth 100000 in
theorem dc_Reader_number : (op_Reader_number.all fun o => decide (decode prog_7_method_6_code o.1 = .ok (o.2.1, o.2.2.1))) = true := by decide +kernel
set_option maxRecDepth 100000 in
theorem ck_Reader_number : (op_Reader_number.all (chk 143)) = true := by decide +kernel
theorem gd_Reader_number : Good 143 := good_of pp_Reader_number rfl dc_Reader_number ck_Reader_number
set_option maxRecDepth 100000 in
theorem dc_Reader_emit : (op_Reader_emit.all fun o => decide (decode prog_7_method_10_code o.1 = .ok (o.2.1, o.2.2.1))) = true := by decide +kernel
set_option maxRecDepth 100000 in
theorem ck_Reader_emit : (op_Reader_emit.all (chk 144)) = true := by decide +kernel
theorem gd_Reader_emit : Good 144 := good_of pp_Reader_emit rfl dc_Reader_emit ck_Reader_emit
set_option maxRecDepth 100000 in
theorem dc_Kind_opensOne : (op_Kind_opensOne.all fun o => decide (decode prog_5_method_4_code o.1 = .ok (o.2.1, o.2.2.1))) = true := by decide +kernel
set_option maxRecDepth 100000 in
theorem ck_Kind_opensOne : (op_Kind_opensOne.all (chk 145)) = true := by decide +kernel
theorem gd_Kind_opensOne : Good 145 := good_of pp_Kind_opensOne rfl dc_Kind_opensOne ck_Kind_opensOne
set_option maxRecDepth 100000 in
theorem dc_Reader_readName : (op_Reader_readName.all fun o => decide (decode prog_7_method_15_code o.1 = .ok (o.2.1, o.2.2.1))) = true := by decide +kernel
set_option maxRecDepth 100000 in
theorem ck_Reader_readName : (op_Reader_readName.all (chk 146)) = true := by decide +kernel
theorem gd_Reader_readName : Good 146 := good_of pp_Reader_readName rfl dc_Reader_readName ck_Reader_readName
set_option maxRecDepth 100000 in
theorem dc_Kind_isComparison : (op_Kind_isComparison.all fun o => decide (decode prog_5_method_2_code o.1 = .ok (o.2.1, o.2.2.1))) = true := by decide +kernel
set_option maxRecDepth 100000 in
theorem ck_Kind_isComparison : (op_Kind_isComparison.all (chk 147)) = true := by decide +kernel
theorem gd_Kind_isComparison : Good 147 := good_of pp_Kind_isComparison rfl dc_Kind_isComparison ck_Kind_isComparison
set_option maxRecDepth 100000 in
theorem dc_Reader_leapToHere : (op_Reader_leapToHere.all fun o => decide (decode prog_7_method_11_code o.1 = .ok (o.2.1, o.2.2.1))) = true := by decide +kernel
set_option maxRecDepth 100000 in
theorem ck_Reader_leapToHere : (op_Reader_leapToHere.all (chk 148)) = true := by decide +kernel
theorem gd_Reader_leapToHere : Good 148 := good_of pp_Reader_leapToHere rfl dc_Reader_leapToHere ck_Reader_leapToHere
set_option maxRecDepth 100000 in
theorem dc_Reader_readOne : (op_Reader_readOne.all fun o => decide (decode prog_7_method_14_code o.1 = .ok (o.2.1, o.2.2.1))) = true := by decide +kernel
set_option maxRecDepth 100000 in
theorem ck_Reader_readOne : (op_Reader_readOne.all (chk 149)) = true := by decide +kernel
theorem gd_Reader_readOne : Good 149 := good_of pp_Reader_readOne rfl dc_Reader_readOne ck_Reader_readOne
set_option maxRecDepth 100000 in
theorem dc_Reader_readProduct : (op_Reader_readProduct.all fun o => decide (decode prog_7_method_13_code o.1 = .ok (o.2.1, o.2.2.1))) = true := by decide +kernel
set_option maxRecDepth 100000 in
theorem ck_Reader_readProduct : (op_Reader_readProduct.all (chk 150)) = true := by decide +kernel
theorem gd_Reader_readProduct : Good 150 := good_of pp_Reader_readProduct rfl dc_Reader_readProduct ck_Reader_readProduct
set_option maxRecDepth 100000 in
theorem dc_Reader_readSum : (op_Reader_readSum.all fun o => decide (decode prog_7_method_12_code o.1 = .ok (o.2.1, o.2.2.1))) = true := by decide +kernel
set_option maxRecDepth 100000 in
theorem ck_Reader_readSum : (op_Reader_readSum.all (chk 151)) = true := by decide +kernel
theorem gd_Reader_readSum : Good 151 := good_of pp_Reader_readSum rfl dc_Reader_readSum ck_Reader_readSum
set_option maxRecDepth 100000 in
theorem dc_Reader_readAsk : (op_Reader_readAsk.all fun o => decide (decode prog_7_method_20_code o.1 = .ok (o.2.1, o.2.2.1))) = true := by decide +kernel
set_option maxRecDepth 100000 in
theorem ck_Reader_readAsk : (op_Reader_readAsk.all (chk 152)) = true := by decide +kernel
theorem gd_Reader_readAsk : Good 152 := good_of pp_Reader_readAsk rfl dc_Reader_readAsk ck_Reader_readAsk
set_option maxRecDepth 100000 in
theorem dc_Reader_readBoth : (op_Reader_readBoth.all fun o => decide (decode prog_7_method_19_code o.1 = .ok (o.2.1, o.2.2.1))) = true := by decide +kernel
set_option maxRecDepth 100000 in
theorem ck_Reader_readBoth : (op_Reader_readBoth.all (chk 153)) = true := by decide +kernel
theorem gd_Reader_readBoth : Good 153 := good_of pp_Reader_readBoth rfl dc_Reader_readBoth ck_Reader_readBoth
set_option maxRecDepth 100000 in
theorem dc_Reader_readEither : (op_Reader_readEither.all fun o => decide (decode prog_7_method_18_code o.1 = .ok (o.2.1, o.2.2.1))) = true := by decide +kernel
set_option maxRecDepth 100000 in
theorem ck_Reader_readEither : (op_Reader_readEither.all (chk 154)) = true := by decide +kernel
theorem gd_Reader_readEither : Good 154 := good_of pp_Reader_readEither rfl dc_Reader_readEither ck_Reader_readEither
set_option maxRecDepth 100000 in
theorem dc_Reader_readChoice : (op_Reader_readChoice.all fun o => decide (decode prog_7_method_17_code o.1 = .ok (o.2.1, o.2.2.1))) = true := by decide +kernel
set_option maxRecDepth 100000 in
theorem ck_Reader_readChoice : (op_Reader_readChoice.all (chk 155)) = true := by decide +kernel
theorem gd_Reader_readChoice : Good 155 := good_of pp_Reader_readChoice rfl dc_Reader_readChoice ck_Reader_readChoice
set_option maxRecDepth 100000 in
theorem dc_Reader_readOpen : (op_Reader_readOpen.all fun o => decide (decode prog_7_method_16_code o.1 = .ok (o.2.1, o.2.2.1))) = true := by decide +kernel
set_option maxRecDepth 100000 in
theorem ck_Reader_readOpen : (op_Reader_readOpen.all (chk 156)) = true := by decide +kernel
theorem gd_Reader_readOpen : Good 156 := good_of pp_Reader_readOpen rfl dc_Reader_readOpen ck_Reader_readOpen
set_option maxRecDepth 100000 in
theorem dc_Reader_readLaw : (op_Reader_readLaw.all fun o => decide (decode prog_7_method_9_code o.1 = .ok (o.2.1, o.2.2.1))) = true := by decide +kernel
set_option maxRecDepth 100000 in
theorem ck_Reader_readLaw : (op_Reader_readLaw.all (chk 229)) = true := by decide +kernel
theorem gd_Reader_readLaw : Good 229 := good_of pp_Reader_readLaw rfl dc_Reader_readLaw ck_Reader_readLaw
set_option maxRecDepth 100000 in
theorem dc_Reader_readClause : (op_Reader_readClause.all fun o => decide (decode prog_7_method_8_code o.1 = .ok (o.2.1, o.2.2.1))) = true := by decide +kernel
set_option maxRecDepth 100000 in
theorem ck_Reader_readClause : (op_Reader_readClause.all (chk 230)) = true := by decide +kernel
theorem gd_Reader_readClause : Good 230 := good_of pp_Reader_readClause rfl dc_Reader_readClause ck_Reader_readClause
set_option maxRecDepth 100000 in
theorem dc_Tape_addToken : (op_Tape_addToken.all fun o => decide (decode prog_11_method_5_code o.1 = .ok (o.2.1, o.2.2.1))) = true := by decide +kernel
set_option maxRecDepth 100000 in
theorem ck_Tape_addToken : (op_Tape_addToken.all (chk 231)) = true := by decide +kernel
theorem gd_Tape_addToken : Good 231 := good_of pp_Tape_addToken rfl dc_Tape_addToken ck_Tape_addToken
set_option maxRecDepth 100000 in
theorem dc_Tape_byteAt : (op_Tape_byteAt.all fun o => decide (decode prog_11_method_3_code o.1 = .ok (o.2.1, o.2.2.1))) = true := by decide +kernel
set_option maxRecDepth 100000 in
theorem ck_Tape_byteAt : (op_Tape_byteAt.all (chk 232)) = true := by decide +kernel
theorem gd_Tape_byteAt : Good 232 := good_of pp_Tape_byteAt rfl dc_Tape_byteAt ck_Tape_byteAt
set_option maxRecDepth 100000 in
theorem dc_Tape_isDigit : (op_Tape_isDigit.all fun o => decide (decode prog_11_method_10_code o.1 = .ok (o.2.1, o.2.2.1))) = true := by decide +kernel
set_option maxRecDepth 100000 in
theorem ck_Tape_isDigit : (op_Tape_isDigit.all (chk 233)) = true := by decide +kernel
theorem gd_Tape_isDigit : Good 233 := good_of pp_Tape_isDigit rfl dc_Tape_isDigit ck_Tape_isDigit
set_option maxRecDepth 100000 in
theorem dc_Tape_cutNumber : (op_Tape_cutNumber.all fun o => decide (decode prog_11_method_6_code o.1 = .ok (o.2.1, o.2.2.1))) = true := by decide +kernel
set_option maxRecDepth 100000 in
theorem ck_Tape_cutNumber : (op_Tape_cutNumber.all (chk 234)) = true := by decide +kernel
theorem gd_Tape_cutNumber : Good 234 := good_of pp_Tape_cutNumber rfl dc_Tape_cutNumber ck_Tape_cutNumber
set_option maxRecDepth 100000 in
theorem dc_String_isLatin1 : (op_String_isLatin1.all fun o => decide (decode prog_19_method_154_code o.1 = .ok (o.2.1, o.2.2.1))) = true := by decide +kernel
set_option maxRecDepth 100000 in
theorem ck_String_isLatin1 : (op_String_isLatin1.all (chk 235)) = true := by decide +kernel
theorem gd_String_isLatin1 : Good 235 := good_of pp_String_isLatin1 rfl dc_String_isLatin1 ck_String_isLatin1
set_option maxRecDepth 100000 in
theorem dc_String_coder : (op_String_coder.all fun o => decide (decode prog_19_method_152_code o.1 = .ok (o.2.1, o.2.2.1))) = true := by decide +kernel
set_option maxRecDepth 100000 in
theorem ck_String_coder : (op_String_coder.all (chk 236)) = true := by decide +kernel
theorem gd_String_coder : Good 236 := good_of pp_String_coder rfl dc_String_coder ck_String_coder
set_option maxRecDepth 100000 in
theorem dc_String_length : (op_String_length.all fun o => decide (decode prog_19_method_54_code o.1 = .ok (o.2.1, o.2.2.1))) = true := by decide +kernel
set_option maxRecDepth 100000 in
theorem ck_String_length : (op_String_length.all (chk 237)) = true := by decide +kernel
theorem gd_String_length : Good 237 := good_of pp_String_length rfl dc_String_length ck_String_length
set_option maxRecDepth 100000 in
theorem dc_StringLatin1_canEncode : (op_StringLatin1_canEncode.all fun o => decide (decode prog_20_method_4_code o.1 = .ok (o.2.1, o.2.2.1))) = true := by decide +kernel
set_option maxRecDepth 100000 in
theorem ck_StringLatin1_canEncode : (op_StringLatin1_canEncode.all (chk 238)) = true := by decide +kernel
theorem gd_StringLatin1_canEncode : Good 238 := good_of pp_StringLatin1_canEncode rfl dc_StringLatin1_canEncode ck_StringLatin1_canEncode
set_option maxRecDepth 100000 in
theorem dc_StringLatin1_indexOfChar : (op_StringLatin1_indexOfChar.all fun o => decide (decode prog_20_method_23_code o.1 = .ok (o.2.1, o.2.2.1))) = true := by decide +kernel
set_option maxRecDepth 100000 in
theorem ck_StringLatin1_indexOfChar : (op_StringLatin1_indexOfChar.all (chk 239)) = true := by decide +kernel
theorem gd_StringLatin1_indexOfChar : Good 239 := good_of pp_StringLatin1_indexOfChar rfl dc_StringLatin1_indexOfChar ck_StringLatin1_indexOfChar
set_option maxRecDepth 100000 in
theorem dc_StringLatin1_indexOf : (op_StringLatin1_indexOf.all fun o => decide (decode prog_20_method_22_code o.1 = .ok (o.2.1, o.2.2.1))) = true := by decide +kernel
set_option maxRecDepth 100000 in
theorem ck_StringLatin1_indexOf : (op_StringLatin1_indexOf.all (chk 240)) = true := by decide +kernel
theorem gd_StringLatin1_indexOf : Good 240 := good_of pp_StringLatin1_indexOf rfl dc_StringLatin1_indexOf ck_StringLatin1_indexOf
set_option maxRecDepth 100000 in
theorem dc_String_indexOf : (op_String_indexOf.all fun o => decide (decode prog_19_method_80_code o.1 = .ok (o.2.1, o.2.2.1))) = true := by decide +kernel
set_option maxRecDepth 100000 in
theorem ck_String_indexOf : (op_String_indexOf.all (chk 241)) = true := by decide +kernel
theorem gd_String_indexOf : Good 241 := good_of pp_String_indexOf rfl dc_String_indexOf ck_String_indexOf
set_option maxRecDepth 100000 in
theorem dc_String_indexOf_1 : (op_String_indexOf_1.all fun o => decide (decode prog_19_method_79_code o.1 = .ok (o.2.1, o.2.2.1))) = true := by decide +kernel
set_option maxRecDepth 100000 in
theorem ck_String_indexOf_1 : (op_String_indexOf_1.all (chk 242)) = true := by decide +kernel
theorem gd_String_indexOf_1 : Good 242 := good_of pp_String_indexOf_1 rfl dc_String_indexOf_1 ck_String_indexOf_1
set_option maxRecDepth 100000 in
theorem dc_Tape_cutSign : (op_Tape_cutSign.all fun o => decide (decode prog_11_method_9_code o.1 = .ok (o.2.1, o.2.2.1))) = true := by decide +kernel
set_option maxRecDepth 100000 in
theorem ck_Tape_cutSign : (op_Tape_cutSign.all (chk 243)) = true := by decide +kernel
theorem gd_Tape_cutSign : Good 243 := good_of pp_Tape_cutSign rfl dc_Tape_cutSign ck_Tape_cutSign
set_option maxRecDepth 100000 in
theorem dc_Tape_isLetter : (op_Tape_isLetter.all fun o => decide (decode prog_11_method_11_code o.1 = .ok (o.2.1, o.2.2.1))) = true := by decide +kernel
set_option maxRecDepth 100000 in
theorem ck_Tape_isLetter : (op_Tape_isLetter.all (chk 244)) = true := by decide +kernel
theorem gd_Tape_isLetter : Good 244 := good_of pp_Tape_isLetter rfl dc_Tape_isLetter ck_Tape_isLetter
set_option maxRecDepth 100000 in
theorem dc_Preconditions_checkIndex : (op_Preconditions_checkIndex.all fun o => decide (decode prog_24_method_11_code o.1 = .ok (o.2.1, o.2.2.1))) = true := by decide +kernel
set_option maxRecDepth 100000 in
theorem ck_Preconditions_checkIndex : (op_Preconditions_checkIndex.all (chk 245)) = true := by decide +kernel
theorem gd_Preconditions_checkIndex : Good 245 := good_of pp_Preconditions_checkIndex rfl dc_Preconditions_checkIndex ck_Preconditions_checkIndex
set_option maxRecDepth 100000 in
theorem dc_String_checkIndex : (op_String_checkIndex.all fun o => decide (decode prog_19_method_155_code o.1 = .ok (o.2.1, o.2.2.1))) = true := by decide +kernel
set_option maxRecDepth 100000 in
theorem ck_String_checkIndex : (op_String_checkIndex.all (chk 246)) = true := by decide +kernel
theorem gd_String_checkIndex : Good 246 := good_of pp_String_checkIndex rfl dc_String_checkIndex ck_String_checkIndex
set_option maxRecDepth 100000 in
theorem dc_StringLatin1_charAt : (op_StringLatin1_charAt.all fun o => decide (decode prog_20_method_2_code o.1 = .ok (o.2.1, o.2.2.1))) = true := by decide +kernel
set_option maxRecDepth 100000 in
theorem ck_StringLatin1_charAt : (op_StringLatin1_charAt.all (chk 247)) = true := by decide +kernel
theorem gd_StringLatin1_charAt : Good 247 := good_of pp_StringLatin1_charAt rfl dc_StringLatin1_charAt ck_StringLatin1_charAt
set_option maxRecDepth 100000 in
theorem dc_String_charAt : (op_String_charAt.all fun o => decide (decode prog_19_method_56_code o.1 = .ok (o.2.1, o.2.2.1))) = true := by decide +kernel
set_option maxRecDepth 100000 in
theorem ck_String_charAt : (op_String_charAt.all (chk 248)) = true := by decide +kernel
theorem gd_String_charAt : Good 248 := good_of pp_String_charAt rfl dc_String_charAt ck_String_charAt
set_option maxRecDepth 100000 in
theorem dc_Tape_wordKind : (op_Tape_wordKind.all fun o => decide (decode prog_11_method_8_code o.1 = .ok (o.2.1, o.2.2.1))) = true := by decide +kernel
set_option maxRecDepth 100000 in
theorem ck_Tape_wordKind : (op_Tape_wordKind.all (chk 249)) = true := by decide +kernel
theorem gd_Tape_wordKind : Good 249 := good_of pp_Tape_wordKind rfl dc_Tape_wordKind ck_Tape_wordKind
set_option maxRecDepth 100000 in
theorem dc_Tape_cutWord : (op_Tape_cutWord.all fun o => decide (decode prog_11_method_7_code o.1 = .ok (o.2.1, o.2.2.1))) = true := by decide +kernel
set_option maxRecDepth 100000 in
theorem ck_Tape_cutWord : (op_Tape_cutWord.all (chk 250)) = true := by decide +kernel
theorem gd_Tape_cutWord : Good 250 := good_of pp_Tape_cutWord rfl dc_Tape_cutWord ck_Tape_cutWord
set_option maxRecDepth 100000 in
theorem dc_Tape_cutIntoTokens : (op_Tape_cutIntoTokens.all fun o => decide (decode prog_11_method_4_code o.1 = .ok (o.2.1, o.2.2.1))) = true := by decide +kernel
set_option maxRecDepth 100000 in
theorem ck_Tape_cutIntoTokens : (op_Tape_cutIntoTokens.all (chk 251)) = true := by decide +kernel
theorem gd_Tape_cutIntoTokens : Good 251 := good_of pp_Tape_cutIntoTokens rfl dc_Tape_cutIntoTokens ck_Tape_cutIntoTokens
set_option maxRecDepth 100000 in
theorem dc_Text_new : (op_Text_new.all fun o => decide (decode prog_12_method_1_code o.1 = .ok (o.2.1, o.2.2.1))) = true := by decide +kernel
set_option maxRecDepth 100000 in
theorem ck_Text_new : (op_Text_new.all (chk 252)) = true := by decide +kernel
theorem gd_Text_new : Good 252 := good_of pp_Text_new rfl dc_Text_new ck_Text_new
set_option maxRecDepth 100000 in
theorem dc_Arrays_copyOf : (op_Arrays_copyOf.all fun o => decide (decode prog_23_method_123_code o.1 = .ok (o.2.1, o.2.2.1))) = true := by decide +kernel
set_option maxRecDepth 100000 in
theorem ck_Arrays_copyOf : (op_Arrays_copyOf.all (chk 253)) = true := by decide +kernel
theorem gd_Arrays_copyOf : Good 253 := good_of pp_Arrays_copyOf rfl dc_Arrays_copyOf ck_Arrays_copyOf
set_option maxRecDepth 100000 in
theorem dc_Reader_readTape : (op_Reader_readTape.all fun o => decide (decode prog_7_method_2_code o.1 = .ok (o.2.1, o.2.2.1))) = true := by decide +kernel
set_option maxRecDepth 100000 in
theorem ck_Reader_readTape : (op_Reader_readTape.all (chk 254)) = true := by decide +kernel
theorem gd_Reader_readTape : Good 254 := good_of pp_Reader_readTape rfl dc_Reader_readTape ck_Reader_readTape
set_option maxRecDepth 100000 in
theorem dc_X_text : (op_X_text.all fun o => decide (decode prog_1_method_5_code o.1 = .ok (o.2.1, o.2.2.1))) = true := by decide +kernel
set_option maxRecDepth 100000 in
theorem ck_X_text : (op_X_text.all (chk 255)) = true := by decide +kernel
theorem gd_X_text : Good 255 := good_of pp_X_text rfl dc_X_text ck_X_text
set_option maxRecDepth 100000 in
theorem dc_X_told : (op_X_told.all fun o => decide (decode prog_1_method_58_code o.1 = .ok (o.2.1, o.2.2.1))) = true := by decide +kernel
set_option maxRecDepth 100000 in
theorem ck_X_told : (op_X_told.all (chk 256)) = true := by decide +kernel
theorem gd_X_told : Good 256 := good_of pp_X_told rfl dc_X_told ck_X_told
set_option maxRecDepth 100000 in
theorem dc_House_takeBack : (op_House_takeBack.all fun o => decide (decode prog_4_method_9_code o.1 = .ok (o.2.1, o.2.2.1))) = true := by decide +kernel
set_option maxRecDepth 100000 in
theorem ck_House_takeBack : (op_House_takeBack.all (chk 257)) = true := by decide +kernel
theorem gd_House_takeBack : Good 257 := good_of pp_House_takeBack rfl dc_House_takeBack ck_House_takeBack
set_option maxRecDepth 100000 in
theorem dc_X_undo : (op_X_undo.all fun o => decide (decode prog_1_method_18_code o.1 = .ok (o.2.1, o.2.2.1))) = true := by decide +kernel
set_option maxRecDepth 100000 in
theorem ck_X_undo : (op_X_undo.all (chk 258)) = true := by decide +kernel
theorem gd_X_undo : Good 258 := good_of pp_X_undo rfl dc_X_undo ck_X_undo
set_option maxRecDepth 100000 in
theorem dc_X_agrees : (op_X_agrees.all fun o => decide (decode prog_1_method_60_code o.1 = .ok (o.2.1, o.2.2.1))) = true := by decide +kernel
set_option maxRecDepth 100000 in
theorem ck_X_agrees : (op_X_agrees.all (chk 259)) = true := by decide +kernel
theorem gd_X_agrees : Good 259 := good_of pp_X_agrees rfl dc_X_agrees ck_X_agrees
set_option maxRecDepth 100000 in
theorem dc_X_whose : (op_X_whose.all fun o => decide (decode prog_1_method_59_code o.1 = .ok (o.2.1, o.2.2.1))) = true := by decide +kernel
set_option maxRecDepth 100000 in
theorem ck_X_whose : (op_X_whose.all (chk 260)) = true := by decide +kernel
theorem gd_X_whose : Good 260 := good_of pp_X_whose rfl dc_X_whose ck_X_whose
set_option maxRecDepth 100000 in
theorem dc_X_changeOne : (op_X_changeOne.all fun o => decide (decode prog_1_method_17_code o.1 = .ok (o.2.1, o.2.2.1))) = true := by decide +kernel
set_option maxRecDepth 100000 in
theorem ck_X_changeOne : (op_X_changeOne.all (chk 261)) = true := by decide +kernel
theorem gd_X_changeOne : Good 261 := good_of pp_X_changeOne rfl dc_X_changeOne ck_X_changeOne
set_option maxRecDepth 100000 in
theorem dc_X_passYear : (op_X_passYear.all fun o => decide (decode prog_1_method_16_code o.1 = .ok (o.2.1, o.2.2.1))) = true := by decide +kernel
set_option maxRecDepth 100000 in
theorem ck_X_passYear : (op_X_passYear.all (chk 262)) = true := by decide +kernel
theorem gd_X_passYear : Good 262 := good_of pp_X_passYear rfl dc_X_passYear ck_X_passYear
set_option maxRecDepth 100000 in
theorem dc_X_years : (op_X_years.all fun o => decide (decode prog_1_method_15_code o.1 = .ok (o.2.1, o.2.2.1))) = true := by decide +kernel
set_option maxRecDepth 100000 in
theorem ck_X_years : (op_X_years.all (chk 263)) = true := by decide +kernel
theorem gd_X_years : Good 263 := good_of pp_X_years rfl dc_X_years ck_X_years
set_option maxRecDepth 100000 in
theorem dc_M_copy : (op_M_copy.all fun o => decide (decode prog_14_method_2_code o.1 = .ok (o.2.1, o.2.2.1))) = true := by decide +kernel
set_option maxRecDepth 100000 in
theorem ck_M_copy : (op_M_copy.all (chk 264)) = true := by decide +kernel
theorem gd_M_copy : Good 264 := good_of pp_M_copy rfl dc_M_copy ck_M_copy
set_option maxRecDepth 100000 in
theorem dc_M_new : (op_M_new.all fun o => decide (decode prog_14_method_1_code o.1 = .ok (o.2.1, o.2.2.1))) = true := by decide +kernel
set_option maxRecDepth 100000 in
theorem ck_M_new : (op_M_new.all (chk 265)) = true := by decide +kernel
theorem gd_M_new : Good 265 := good_of pp_M_new rfl dc_M_new ck_M_new
set_option maxRecDepth 100000 in
theorem dc_M_isIn : (op_M_isIn.all fun o => decide (decode prog_14_method_3_code o.1 = .ok (o.2.1, o.2.2.1))) = true := by decide +kernel
set_option maxRecDepth 100000 in
theorem ck_M_isIn : (op_M_isIn.all (chk 266)) = true := by decide +kernel
theorem gd_M_isIn : Good 266 := good_of pp_M_isIn rfl dc_M_isIn ck_M_isIn
set_option maxRecDepth 100000 in
theorem dc_M_about : (op_M_about.all fun o => decide (decode prog_14_method_151_code o.1 = .ok (o.2.1, o.2.2.1))) = true := by decide +kernel
set_option maxRecDepth 100000 in
theorem ck_M_about : (op_M_about.all (chk 267)) = true := by decide +kernel
theorem gd_M_about : Good 267 := good_of pp_M_about rfl dc_M_about ck_M_about
set_option maxRecDepth 100000 in
theorem dc_M_digitOf : (op_M_digitOf.all fun o => decide (decode prog_14_method_114_code o.1 = .ok (o.2.1, o.2.2.1))) = true := by decide +kernel
set_option maxRecDepth 100000 in
theorem ck_M_digitOf : (op_M_digitOf.all (chk 268)) = true := by decide +kernel
theorem gd_M_digitOf : Good 268 := good_of pp_M_digitOf rfl dc_M_digitOf ck_M_digitOf
set_option maxRecDepth 100000 in
theorem dc_M_countOf : (op_M_countOf.all fun o => decide (decode prog_14_method_115_code o.1 = .ok (o.2.1, o.2.2.1))) = true := by decide +kernel
set_option maxRecDepth 100000 in
theorem ck_M_countOf : (op_M_countOf.all (chk 269)) = true := by decide +kernel
theorem gd_M_countOf : Good 269 := good_of pp_M_countOf rfl dc_M_countOf ck_M_countOf
set_option maxRecDepth 100000 in
theorem dc_M_answerOf : (op_M_answerOf.all fun o => decide (decode prog_14_method_116_code o.1 = .ok (o.2.1, o.2.2.1))) = true := by decide +kernel
set_option maxRecDepth 100000 in
theorem ck_M_answerOf : (op_M_answerOf.all (chk 270)) = true := by decide +kernel
theorem gd_M_answerOf : Good 270 := good_of pp_M_answerOf rfl dc_M_answerOf ck_M_answerOf
set_option maxRecDepth 100000 in
theorem dc_M_isRow : (op_M_isRow.all fun o => decide (decode prog_14_method_117_code o.1 = .ok (o.2.1, o.2.2.1))) = true := by decide +kernel
set_option maxRecDepth 100000 in
theorem ck_M_isRow : (op_M_isRow.all (chk 271)) = true := by decide +kernel
theorem gd_M_isRow : Good 271 := good_of pp_M_isRow rfl dc_M_isRow ck_M_isRow
set_option maxRecDepth 100000 in
theorem dc_M_answer : (op_M_answer.all fun o => decide (decode prog_14_method_119_code o.1 = .ok (o.2.1, o.2.2.1))) = true := by decide +kernel
set_option maxRecDepth 100000 in
theorem ck_M_answer : (op_M_answer.all (chk 272)) = true := by decide +kernel
theorem gd_M_answer : Good 272 := good_of pp_M_answer rfl dc_M_answer ck_M_answer
set_option maxRecDepth 100000 in
theorem dc_M_isFitting : (op_M_isFitting.all fun o => decide (decode prog_14_method_124_code o.1 = .ok (o.2.1, o.2.2.1))) = true := by decide +kernel
set_option maxRecDepth 100000 in
theorem ck_M_isFitting : (op_M_isFitting.all (chk 273)) = true := by decide +kernel
theorem gd_M_isFitting : Good 273 := good_of pp_M_isFitting rfl dc_M_isFitting ck_M_isFitting
set_option maxRecDepth 100000 in
theorem dc_M_layFits : (op_M_layFits.all fun o => decide (decode prog_14_method_120_code o.1 = .ok (o.2.1, o.2.2.1))) = true := by decide +kernel
set_option maxRecDepth 100000 in
theorem ck_M_layFits : (op_M_layFits.all (chk 274)) = true := by decide +kernel
theorem gd_M_layFits : Good 274 := good_of pp_M_layFits rfl dc_M_layFits ck_M_layFits
set_option maxRecDepth 100000 in
theorem dc_M_mostAlike : (op_M_mostAlike.all fun o => decide (decode prog_14_method_123_code o.1 = .ok (o.2.1, o.2.2.1))) = true := by decide +kernel
set_option maxRecDepth 100000 in
theorem ck_M_mostAlike : (op_M_mostAlike.all (chk 275)) = true := by decide +kernel
theorem gd_M_mostAlike : Good 275 := good_of pp_M_mostAlike rfl dc_M_mostAlike ck_M_mostAlike
set_option maxRecDepth 100000 in
theorem dc_M_ask : (op_M_ask.all fun o => decide (decode prog_14_method_125_code o.1 = .ok (o.2.1, o.2.2.1))) = true := by decide +kernel
set_option maxRecDepth 100000 in
theorem ck_M_ask : (op_M_ask.all (chk 276)) = true := by decide +kernel
theorem gd_M_ask : Good 276 := good_of pp_M_ask rfl dc_M_ask ck_M_ask
set_option maxRecDepth 100000 in
theorem dc_M_isKin : (op_M_isKin.all fun o => decide (decode prog_14_method_7_code o.1 = .ok (o.2.1, o.2.2.1))) = true := by decide +kernel
set_option maxRecDepth 100000 in
theorem ck_M_isKin : (op_M_isKin.all (chk 277)) = true := by decide +kernel
theorem gd_M_isKin : Good 277 := good_of pp_M_isKin rfl dc_M_isKin ck_M_isKin
set_option maxRecDepth 100000 in
theorem dc_M_whoAt : (op_M_whoAt.all fun o => decide (decode prog_14_method_9_code o.1 = .ok (o.2.1, o.2.2.1))) = true := by decide +kernel
set_option maxRecDepth 100000 in
theorem ck_M_whoAt : (op_M_whoAt.all (chk 278)) = true := by decide +kernel
theorem gd_M_whoAt : Good 278 := good_of pp_M_whoAt rfl dc_M_whoAt ck_M_whoAt
set_option maxRecDepth 100000 in
theorem dc_M_at : (op_M_at.all fun o => decide (decode prog_14_method_87_code o.1 = .ok (o.2.1, o.2.2.1))) = true := by decide +kernel
set_option maxRecDepth 100000 in
theorem ck_M_at : (op_M_at.all (chk 279)) = true := by decide +kernel
theorem gd_M_at : Good 279 := good_of pp_M_at rfl dc_M_at ck_M_at
set_option maxRecDepth 100000 in
theorem dc_M_back : (op_M_back.all fun o => decide (decode prog_14_method_150_code o.1 = .ok (o.2.1, o.2.2.1))) = true := by decide +kernel
set_option maxRecDepth 100000 in
theorem ck_M_back : (op_M_back.all (chk 280)) = true := by decide +kernel
theorem gd_M_back : Good 280 := good_of pp_M_back rfl dc_M_back ck_M_back
set_option maxRecDepth 100000 in
theorem dc_M_rowOf : (op_M_rowOf.all fun o => decide (decode prog_14_method_140_code o.1 = .ok (o.2.1, o.2.2.1))) = true := by decide +kernel
set_option maxRecDepth 100000 in
theorem ck_M_rowOf : (op_M_rowOf.all (chk 281)) = true := by decide +kernel
theorem gd_M_rowOf : Good 281 := good_of pp_M_rowOf rfl dc_M_rowOf ck_M_rowOf
set_option maxRecDepth 100000 in
theorem dc_M_bitten : (op_M_bitten.all fun o => decide (decode prog_14_method_142_code o.1 = .ok (o.2.1, o.2.2.1))) = true := by decide +kernel
set_option maxRecDepth 100000 in
theorem ck_M_bitten : (op_M_bitten.all (chk 282)) = true := by decide +kernel
theorem gd_M_bitten : Good 282 := good_of pp_M_bitten rfl dc_M_bitten ck_M_bitten
set_option maxRecDepth 100000 in
theorem dc_M_biteOf : (op_M_biteOf.all fun o => decide (decode prog_14_method_143_code o.1 = .ok (o.2.1, o.2.2.1))) = true := by decide +kernel
set_option maxRecDepth 100000 in
theorem ck_M_biteOf : (op_M_biteOf.all (chk 283)) = true := by decide +kernel
theorem gd_M_biteOf : Good 283 := good_of pp_M_biteOf rfl dc_M_biteOf ck_M_biteOf
set_option maxRecDepth 100000 in
theorem dc_M_isShape : (op_M_isShape.all fun o => decide (decode prog_14_method_141_code o.1 = .ok (o.2.1, o.2.2.1))) = true := by decide +kernel
set_option maxRecDepth 100000 in
theorem ck_M_isShape : (op_M_isShape.all (chk 284)) = true := by decide +kernel
theorem gd_M_isShape : Good 284 := good_of pp_M_isShape rfl dc_M_isShape ck_M_isShape
set_option maxRecDepth 100000 in
theorem dc_M_layWins : (op_M_layWins.all fun o => decide (decode prog_14_method_144_code o.1 = .ok (o.2.1, o.2.2.1))) = true := by decide +kernel
set_option maxRecDepth 100000 in
theorem ck_M_layWins : (op_M_layWins.all (chk 285)) = true := by decide +kernel
theorem gd_M_layWins : Good 285 := good_of pp_M_layWins rfl dc_M_layWins ck_M_layWins
set_option maxRecDepth 100000 in
theorem dc_M_bite : (op_M_bite.all fun o => decide (decode prog_14_method_146_code o.1 = .ok (o.2.1, o.2.2.1))) = true := by decide +kernel
set_option maxRecDepth 100000 in
theorem ck_M_bite : (op_M_bite.all (chk 286)) = true := by decide +kernel
theorem gd_M_bite : Good 286 := good_of pp_M_bite rfl dc_M_bite ck_M_bite
set_option maxRecDepth 100000 in
theorem dc_M_lineOf : (op_M_lineOf.all fun o => decide (decode prog_14_method_89_code o.1 = .ok (o.2.1, o.2.2.1))) = true := by decide +kernel
set_option maxRecDepth 100000 in
theorem ck_M_lineOf : (op_M_lineOf.all (chk 287)) = true := by decide +kernel
theorem gd_M_lineOf : Good 287 := good_of pp_M_lineOf rfl dc_M_lineOf ck_M_lineOf
set_option maxRecDepth 100000 in
theorem dc_M_book : (op_M_book.all fun o => decide (decode prog_14_method_90_code o.1 = .ok (o.2.1, o.2.2.1))) = true := by decide +kernel
set_option maxRecDepth 100000 in
theorem ck_M_book : (op_M_book.all (chk 288)) = true := by decide +kernel
theorem gd_M_book : Good 288 := good_of pp_M_book rfl dc_M_book ck_M_book
set_option maxRecDepth 100000 in
theorem dc_M_by : (op_M_by.all fun o => decide (decode prog_14_method_55_code o.1 = .ok (o.2.1, o.2.2.1))) = true := by decide +kernel
set_option maxRecDepth 100000 in
theorem ck_M_by : (op_M_by.all (chk 289)) = true := by decide +kernel
theorem gd_M_by : Good 289 := good_of pp_M_by rfl dc_M_by ck_M_by
set_option maxRecDepth 100000 in
theorem dc_M_calm : (op_M_calm.all fun o => decide (decode prog_14_method_93_code o.1 = .ok (o.2.1, o.2.2.1))) = true := by decide +kernel
set_option maxRecDepth 100000 in
theorem ck_M_calm : (op_M_calm.all (chk 290)) = true := by decide +kernel
theorem gd_M_calm : Good 290 := good_of pp_M_calm rfl dc_M_calm ck_M_calm
set_option maxRecDepth 100000 in
theorem dc_M_isFlight : (op_M_isFlight.all fun o => decide (decode prog_14_method_110_code o.1 = .ok (o.2.1, o.2.2.1))) = true := by decide +kernel
set_option maxRecDepth 100000 in
theorem ck_M_isFlight : (op_M_isFlight.all (chk 291)) = true := by decide +kernel
theorem gd_M_isFlight : Good 291 := good_of pp_M_isFlight rfl dc_M_isFlight ck_M_isFlight
set_option maxRecDepth 100000 in
theorem dc_M_nextBy : (op_M_nextBy.all fun o => decide (decode prog_14_method_107_code o.1 = .ok (o.2.1, o.2.2.1))) = true := by decide +kernel
set_option maxRecDepth 100000 in
theorem ck_M_nextBy : (op_M_nextBy.all (chk 292)) = true := by decide +kernel
theorem gd_M_nextBy : Good 292 := good_of pp_M_nextBy rfl dc_M_nextBy ck_M_nextBy
set_option maxRecDepth 100000 in
theorem dc_M_turnedBy : (op_M_turnedBy.all fun o => decide (decode prog_14_method_108_code o.1 = .ok (o.2.1, o.2.2.1))) = true := by decide +kernel
set_option maxRecDepth 100000 in
theorem ck_M_turnedBy : (op_M_turnedBy.all (chk 293)) = true := by decide +kernel
theorem gd_M_turnedBy : Good 293 := good_of pp_M_turnedBy rfl dc_M_turnedBy ck_M_turnedBy
set_option maxRecDepth 100000 in
theorem dc_M_isFlown : (op_M_isFlown.all fun o => decide (decode prog_14_method_109_code o.1 = .ok (o.2.1, o.2.2.1))) = true := by decide +kernel
set_option maxRecDepth 100000 in
theorem ck_M_isFlown : (op_M_isFlown.all (chk 294)) = true := by decide +kernel
theorem gd_M_isFlown : Good 294 := good_of pp_M_isFlown rfl dc_M_isFlown ck_M_isFlown
set_option maxRecDepth 100000 in
theorem dc_M_isInwards : (op_M_isInwards.all fun o => decide (decode prog_14_method_112_code o.1 = .ok (o.2.1, o.2.2.1))) = true := by decide +kernel
set_option maxRecDepth 100000 in
theorem ck_M_isInwards : (op_M_isInwards.all (chk 295)) = true := by decide +kernel
theorem gd_M_isInwards : Good 295 := good_of pp_M_isInwards rfl dc_M_isInwards ck_M_isInwards
set_option maxRecDepth 100000 in
theorem dc_M_comes : (op_M_comes.all fun o => decide (decode prog_14_method_113_code o.1 = .ok (o.2.1, o.2.2.1))) = true := by decide +kernel
set_option maxRecDepth 100000 in
theorem ck_M_comes : (op_M_comes.all (chk 296)) = true := by decide +kernel
theorem gd_M_comes : Good 296 := good_of pp_M_comes rfl dc_M_comes ck_M_comes
set_option maxRecDepth 100000 in
theorem dc_M_keep : (op_M_keep.all fun o => decide (decode prog_14_method_74_code o.1 = .ok (o.2.1, o.2.2.1))) = true := by decide +kernel
set_option maxRecDepth 100000 in
theorem ck_M_keep : (op_M_keep.all (chk 297)) = true := by decide +kernel
theorem gd_M_keep : Good 297 := good_of pp_M_keep rfl dc_M_keep ck_M_keep
set_option maxRecDepth 100000 in
theorem dc_M_further : (op_M_further.all fun o => decide (decode prog_14_method_10_code o.1 = .ok (o.2.1, o.2.2.1))) = true := by decide +kernel
set_option maxRecDepth 100000 in
theorem ck_M_further : (op_M_further.all (chk 298)) = true := by decide +kernel
theorem gd_M_further : Good 298 := good_of pp_M_further rfl dc_M_further ck_M_further
set_option maxRecDepth 100000 in
theorem dc_M_name : (op_M_name.all fun o => decide (decode prog_14_method_63_code o.1 = .ok (o.2.1, o.2.2.1))) = true := by decide +kernel
set_option maxRecDepth 100000 in
theorem ck_M_name : (op_M_name.all (chk 299)) = true := by decide +kernel
theorem gd_M_name : Good 299 := good_of pp_M_name rfl dc_M_name ck_M_name
set_option maxRecDepth 100000 in
theorem dc_M_held : (op_M_held.all fun o => decide (decode prog_14_method_4_code o.1 = .ok (o.2.1, o.2.2.1))) = true := by decide +kernel
set_option maxRecDepth 100000 in
theorem ck_M_held : (op_M_held.all (chk 300)) = true := by decide +kernel
theorem gd_M_held : Good 300 := good_of pp_M_held rfl dc_M_held ck_M_held
set_option maxRecDepth 100000 in
theorem dc_M_isAsked : (op_M_isAsked.all fun o => decide (decode prog_14_method_58_code o.1 = .ok (o.2.1, o.2.2.1))) = true := by decide +kernel
set_option maxRecDepth 100000 in
theorem ck_M_isAsked : (op_M_isAsked.all (chk 301)) = true := by decide +kernel
theorem gd_M_isAsked : Good 301 := good_of pp_M_isAsked rfl dc_M_isAsked ck_M_isAsked
set_option maxRecDepth 100000 in
theorem dc_M_joined : (op_M_joined.all fun o => decide (decode prog_14_method_60_code o.1 = .ok (o.2.1, o.2.2.1))) = true := by decide +kernel
set_option maxRecDepth 100000 in
theorem ck_M_joined : (op_M_joined.all (chk 302)) = true := by decide +kernel
theorem gd_M_joined : Good 302 := good_of pp_M_joined rfl dc_M_joined ck_M_joined
set_option maxRecDepth 100000 in
theorem dc_M_acrossOf : (op_M_acrossOf.all fun o => decide (decode prog_14_method_11_code o.1 = .ok (o.2.1, o.2.2.1))) = true := by decide +kernel
set_option maxRecDepth 100000 in
theorem ck_M_acrossOf : (op_M_acrossOf.all (chk 303)) = true := by decide +kernel
theorem gd_M_acrossOf : Good 303 := good_of pp_M_acrossOf rfl dc_M_acrossOf ck_M_acrossOf
set_option maxRecDepth 100000 in
theorem dc_M_ofOne : (op_M_ofOne.all fun o => decide (decode prog_14_method_59_code o.1 = .ok (o.2.1, o.2.2.1))) = true := by decide +kernel
set_option maxRecDepth 100000 in
theorem ck_M_ofOne : (op_M_ofOne.all (chk 304)) = true := by decide +kernel
theorem gd_M_ofOne : Good 304 := good_of pp_M_ofOne rfl dc_M_ofOne ck_M_ofOne
set_option maxRecDepth 100000 in
theorem dc_M_clip : (op_M_clip.all fun o => decide (decode prog_14_method_56_code o.1 = .ok (o.2.1, o.2.2.1))) = true := by decide +kernel
set_option maxRecDepth 100000 in
theorem ck_M_clip : (op_M_clip.all (chk 305)) = true := by decide +kernel
theorem gd_M_clip : Good 305 := good_of pp_M_clip rfl dc_M_clip ck_M_clip
set_option maxRecDepth 100000 in
theorem dc_M_two : (op_M_two.all fun o => decide (decode prog_14_method_57_code o.1 = .ok (o.2.1, o.2.2.1))) = true := by decide +kernel
set_option maxRecDepth 100000 in
theorem ck_M_two : (op_M_two.all (chk 306)) = true := by decide +kernel
theorem gd_M_two : Good 306 := good_of pp_M_two rfl dc_M_two ck_M_two
set_option maxRecDepth 100000 in
theorem dc_M_summedUp : (op_M_summedUp.all fun o => decide (decode prog_14_method_61_code o.1 = .ok (o.2.1, o.2.2.1))) = true := by decide +kernel
set_option maxRecDepth 100000 in
theorem ck_M_summedUp : (op_M_summedUp.all (chk 307)) = true := by decide +kernel
theorem gd_M_summedUp : Good 307 := good_of pp_M_summedUp rfl dc_M_summedUp ck_M_summedUp
set_option maxRecDepth 100000 in
theorem dc_M_says : (op_M_says.all fun o => decide (decode prog_14_method_62_code o.1 = .ok (o.2.1, o.2.2.1))) = true := by decide +kernel
set_option maxRecDepth 100000 in
theorem ck_M_says : (op_M_says.all (chk 308)) = true := by decide +kernel
theorem gd_M_says : Good 308 := good_of pp_M_says rfl dc_M_says ck_M_says
set_option maxRecDepth 100000 in
theorem dc_M_bearsOf : (op_M_bearsOf.all fun o => decide (decode prog_14_method_65_code o.1 = .ok (o.2.1, o.2.2.1))) = true := by decide +kernel
set_option maxRecDepth 100000 in
theorem ck_M_bearsOf : (op_M_bearsOf.all (chk 309)) = true := by decide +kernel
theorem gd_M_bearsOf : Good 309 := good_of pp_M_bearsOf rfl dc_M_bearsOf ck_M_bearsOf
set_option maxRecDepth 100000 in
theorem dc_M_anew : (op_M_anew.all fun o => decide (decode prog_14_method_68_code o.1 = .ok (o.2.1, o.2.2.1))) = true := by decide +kernel
set_option maxRecDepth 100000 in
theorem ck_M_anew : (op_M_anew.all (chk 310)) = true := by decide +kernel
theorem gd_M_anew : Good 310 := good_of pp_M_anew rfl dc_M_anew ck_M_anew
set_option maxRecDepth 100000 in
theorem dc_M_drawnBy : (op_M_drawnBy.all fun o => decide (decode prog_14_method_67_code o.1 = .ok (o.2.1, o.2.2.1))) = true := by decide +kernel
set_option maxRecDepth 100000 in
theorem ck_M_drawnBy : (op_M_drawnBy.all (chk 311)) = true := by decide +kernel
theorem gd_M_drawnBy : Good 311 := good_of pp_M_drawnBy rfl dc_M_drawnBy ck_M_drawnBy
set_option maxRecDepth 100000 in
theorem dc_M_has : (op_M_has.all fun o => decide (decode prog_14_method_5_code o.1 = .ok (o.2.1, o.2.2.1))) = true := by decide +kernel
set_option maxRecDepth 100000 in
theorem ck_M_has : (op_M_has.all (chk 312)) = true := by decide +kernel
theorem gd_M_has : Good 312 := good_of pp_M_has rfl dc_M_has ck_M_has
set_option maxRecDepth 100000 in
theorem dc_M_isStrapped : (op_M_isStrapped.all fun o => decide (decode prog_14_method_8_code o.1 = .ok (o.2.1, o.2.2.1))) = true := by decide +kernel
set_option maxRecDepth 100000 in
theorem ck_M_isStrapped : (op_M_isStrapped.all (chk 313)) = true := by decide +kernel
theorem gd_M_isStrapped : Good 313 := good_of pp_M_isStrapped rfl dc_M_isStrapped ck_M_isStrapped
set_option maxRecDepth 100000 in
theorem dc_M_more : (op_M_more.all fun o => decide (decode prog_14_method_69_code o.1 = .ok (o.2.1, o.2.2.1))) = true := by decide +kernel
set_option maxRecDepth 100000 in
theorem ck_M_more : (op_M_more.all (chk 314)) = true := by decide +kernel
theorem gd_M_more : Good 314 := good_of pp_M_more rfl dc_M_more ck_M_more
set_option maxRecDepth 100000 in
theorem dc_M_write : (op_M_write.all fun o => decide (decode prog_14_method_66_code o.1 = .ok (o.2.1, o.2.2.1))) = true := by decide +kernel
set_option maxRecDepth 100000 in
theorem ck_M_write : (op_M_write.all (chk 315)) = true := by decide +kernel
theorem gd_M_write : Good 315 := good_of pp_M_write rfl dc_M_write ck_M_write
set_option maxRecDepth 100000 in
theorem dc_M_looseNow : (op_M_looseNow.all fun o => decide (decode prog_14_method_72_code o.1 = .ok (o.2.1, o.2.2.1))) = true := by decide +kernel
set_option maxRecDepth 100000 in
theorem ck_M_looseNow : (op_M_looseNow.all (chk 316)) = true := by decide +kernel
theorem gd_M_looseNow : Good 316 := good_of pp_M_looseNow rfl dc_M_looseNow ck_M_looseNow
set_option maxRecDepth 100000 in
theorem dc_M_reachesOf : (op_M_reachesOf.all fun o => decide (decode prog_14_method_64_code o.1 = .ok (o.2.1, o.2.2.1))) = true := by decide +kernel
set_option maxRecDepth 100000 in
theorem ck_M_reachesOf : (op_M_reachesOf.all (chk 317)) = true := by decide +kernel
theorem gd_M_reachesOf : Good 317 := good_of pp_M_reachesOf rfl dc_M_reachesOf ck_M_reachesOf
set_option maxRecDepth 100000 in
theorem dc_M_pass : (op_M_pass.all fun o => decide (decode prog_14_method_73_code o.1 = .ok (o.2.1, o.2.2.1))) = true := by decide +kernel
set_option maxRecDepth 100000 in
theorem ck_M_pass : (op_M_pass.all (chk 318)) = true := by decide +kernel
theorem gd_M_pass : Good 318 := good_of pp_M_pass rfl dc_M_pass ck_M_pass
set_option maxRecDepth 100000 in
theorem dc_M_arePassed : (op_M_arePassed.all fun o => decide (decode prog_14_method_80_code o.1 = .ok (o.2.1, o.2.2.1))) = true := by decide +kernel
set_option maxRecDepth 100000 in
theorem ck_M_arePassed : (op_M_arePassed.all (chk 319)) = true := by decide +kernel
theorem gd_M_arePassed : Good 319 := good_of pp_M_arePassed rfl dc_M_arePassed ck_M_arePassed
set_option maxRecDepth 100000 in
theorem dc_M_dinner : (op_M_dinner.all fun o => decide (decode prog_14_method_81_code o.1 = .ok (o.2.1, o.2.2.1))) = true := by decide +kernel
set_option maxRecDepth 100000 in
theorem ck_M_dinner : (op_M_dinner.all (chk 320)) = true := by decide +kernel
theorem gd_M_dinner : Good 320 := good_of pp_M_dinner rfl dc_M_dinner ck_M_dinner
set_option maxRecDepth 100000 in
theorem dc_M_canDown : (op_M_canDown.all fun o => decide (decode prog_14_method_70_code o.1 = .ok (o.2.1, o.2.2.1))) = true := by decide +kernel
set_option maxRecDepth 100000 in
theorem ck_M_canDown : (op_M_canDown.all (chk 321)) = true := by decide +kernel
theorem gd_M_canDown : Good 321 := good_of pp_M_canDown rfl dc_M_canDown ck_M_canDown
set_option maxRecDepth 100000 in
theorem dc_M_down : (op_M_down.all fun o => decide (decode prog_14_method_77_code o.1 = .ok (o.2.1, o.2.2.1))) = true := by decide +kernel
set_option maxRecDepth 100000 in
theorem ck_M_down : (op_M_down.all (chk 322)) = true := by decide +kernel
theorem gd_M_down : Good 322 := good_of pp_M_down rfl dc_M_down ck_M_down
set_option maxRecDepth 100000 in
theorem dc_M_end : (op_M_end.all fun o => decide (decode prog_14_method_17_code o.1 = .ok (o.2.1, o.2.2.1))) = true := by decide +kernel
set_option maxRecDepth 100000 in
theorem ck_M_end : (op_M_end.all (chk 323)) = true := by decide +kernel
theorem gd_M_end : Good 323 := good_of pp_M_end rfl dc_M_end ck_M_end
set_option maxRecDepth 100000 in
theorem dc_M_fault : (op_M_fault.all fun o => decide (decode prog_14_method_54_code o.1 = .ok (o.2.1, o.2.2.1))) = true := by decide +kernel
set_option maxRecDepth 100000 in
theorem ck_M_fault : (op_M_fault.all (chk 324)) = true := by decide +kernel
theorem gd_M_fault : Good 324 := good_of pp_M_fault rfl dc_M_fault ck_M_fault
set_option maxRecDepth 100000 in
theorem dc_M_four : (op_M_four.all fun o => decide (decode prog_14_method_15_code o.1 = .ok (o.2.1, o.2.2.1))) = true := by decide +kernel
set_option maxRecDepth 100000 in
theorem ck_M_four : (op_M_four.all (chk 325)) = true := by decide +kernel
theorem gd_M_four : Good 325 := good_of pp_M_four rfl dc_M_four ck_M_four
set_option maxRecDepth 100000 in
theorem dc_M_feed : (op_M_feed.all fun o => decide (decode prog_14_method_16_code o.1 = .ok (o.2.1, o.2.2.1))) = true := by decide +kernel
set_option maxRecDepth 100000 in
theorem ck_M_feed : (op_M_feed.all (chk 326)) = true := by decide +kernel
theorem gd_M_feed : Good 326 := good_of pp_M_feed rfl dc_M_feed ck_M_feed
set_option maxRecDepth 100000 in
theorem dc_M_fit : (op_M_fit.all fun o => decide (decode prog_14_method_122_code o.1 = .ok (o.2.1, o.2.2.1))) = true := by decide +kernel
set_option maxRecDepth 100000 in
theorem ck_M_fit : (op_M_fit.all (chk 327)) = true := by decide +kernel
theorem gd_M_fit : Good 327 := good_of pp_M_fit rfl dc_M_fit ck_M_fit
set_option maxRecDepth 100000 in
theorem dc_M_fits : (op_M_fits.all fun o => decide (decode prog_14_method_121_code o.1 = .ok (o.2.1, o.2.2.1))) = true := by decide +kernel
set_option maxRecDepth 100000 in
theorem ck_M_fits : (op_M_fits.all (chk 328)) = true := by decide +kernel
theorem gd_M_fits : Good 328 := good_of pp_M_fits rfl dc_M_fits ck_M_fits
set_option maxRecDepth 100000 in
theorem dc_M_flight : (op_M_flight.all fun o => decide (decode prog_14_method_111_code o.1 = .ok (o.2.1, o.2.2.1))) = true := by decide +kernel
set_option maxRecDepth 100000 in
theorem ck_M_flight : (op_M_flight.all (chk 329)) = true := by decide +kernel
theorem gd_M_flight : Good 329 := good_of pp_M_flight rfl dc_M_flight ck_M_flight
set_option maxRecDepth 100000 in
theorem dc_M_foretold : (op_M_foretold.all fun o => decide (decode prog_14_method_94_code o.1 = .ok (o.2.1, o.2.2.1))) = true := by decide +kernel
set_option maxRecDepth 100000 in
theorem ck_M_foretold : (op_M_foretold.all (chk 330)) = true := by decide +kernel
theorem gd_M_foretold : Good 330 := good_of pp_M_foretold rfl dc_M_foretold ck_M_foretold
set_option maxRecDepth 100000 in
theorem dc_M_fullest : (op_M_fullest.all fun o => decide (decode prog_14_method_92_code o.1 = .ok (o.2.1, o.2.2.1))) = true := by decide +kernel
set_option maxRecDepth 100000 in
theorem ck_M_fullest : (op_M_fullest.all (chk 331)) = true := by decide +kernel
theorem gd_M_fullest : Good 331 := good_of pp_M_fullest rfl dc_M_fullest ck_M_fullest
set_option maxRecDepth 100000 in
theorem dc_M_gain : (op_M_gain.all fun o => decide (decode prog_14_method_126_code o.1 = .ok (o.2.1, o.2.2.1))) = true := by decide +kernel
set_option maxRecDepth 100000 in
theorem ck_M_gain : (op_M_gain.all (chk 332)) = true := by decide +kernel
theorem gd_M_gain : Good 332 := good_of pp_M_gain rfl dc_M_gain ck_M_gain
set_option maxRecDepth 100000 in
theorem dc_M_game : (op_M_game.all fun o => decide (decode prog_14_method_145_code o.1 = .ok (o.2.1, o.2.2.1))) = true := by decide +kernel
set_option maxRecDepth 100000 in
theorem ck_M_game : (op_M_game.all (chk 333)) = true := by decide +kernel
theorem gd_M_game : Good 333 := good_of pp_M_game rfl dc_M_game ck_M_game
set_option maxRecDepth 100000 in
theorem dc_M_guess : (op_M_guess.all fun o => decide (decode prog_14_method_118_code o.1 = .ok (o.2.1, o.2.2.1))) = true := by decide +kernel
set_option maxRecDepth 100000 in
theorem ck_M_guess : (op_M_guess.all (chk 334)) = true := by decide +kernel
theorem gd_M_guess : Good 334 := good_of pp_M_guess rfl dc_M_guess ck_M_guess
set_option maxRecDepth 100000 in
theorem dc_M_hedge : (op_M_hedge.all fun o => decide (decode prog_14_method_106_code o.1 = .ok (o.2.1, o.2.2.1))) = true := by decide +kernel
set_option maxRecDepth 100000 in
theorem ck_M_hedge : (op_M_hedge.all (chk 335)) = true := by decide +kernel
theorem gd_M_hedge : Good 335 := good_of pp_M_hedge rfl dc_M_hedge ck_M_hedge
set_option maxRecDepth 100000 in
theorem dc_M_image : (op_M_image.all fun o => decide (decode prog_14_method_149_code o.1 = .ok (o.2.1, o.2.2.1))) = true := by decide +kernel
set_option maxRecDepth 100000 in
theorem ck_M_image : (op_M_image.all (chk 336)) = true := by decide +kernel
theorem gd_M_image : Good 336 := good_of pp_M_image rfl dc_M_image ck_M_image
set_option maxRecDepth 100000 in
theorem dc_M_is : (op_M_is.all fun o => decide (decode prog_14_method_88_code o.1 = .ok (o.2.1, o.2.2.1))) = true := by decide +kernel
set_option maxRecDepth 100000 in
theorem ck_M_is : (op_M_is.all (chk 337)) = true := by decide +kernel
theorem gd_M_is : Good 337 := good_of pp_M_is rfl dc_M_is ck_M_is
set_option maxRecDepth 100000 in
theorem dc_M_begin : (op_M_begin.all fun o => decide (decode prog_14_method_13_code o.1 = .ok (o.2.1, o.2.2.1))) = true := by decide +kernel
set_option maxRecDepth 100000 in
theorem ck_M_begin : (op_M_begin.all (chk 338)) = true := by decide +kernel
theorem gd_M_begin : Good 338 := good_of pp_M_begin rfl dc_M_begin ck_M_begin
set_option maxRecDepth 100000 in
theorem dc_M_kin : (op_M_kin.all fun o => decide (decode prog_14_method_12_code o.1 = .ok (o.2.1, o.2.2.1))) = true := by decide +kernel
set_option maxRecDepth 100000 in
theorem ck_M_kin : (op_M_kin.all (chk 339)) = true := by decide +kernel
theorem gd_M_kin : Good 339 := good_of pp_M_kin rfl dc_M_kin ck_M_kin
set_option maxRecDepth 100000 in
theorem dc_M_bits : (op_M_bits.all fun o => decide (decode prog_14_method_6_code o.1 = .ok (o.2.1, o.2.2.1))) = true := by decide +kernel
set_option maxRecDepth 100000 in
theorem ck_M_bits : (op_M_bits.all (chk 340)) = true := by decide +kernel
theorem gd_M_bits : Good 340 := good_of pp_M_bits rfl dc_M_bits ck_M_bits
set_option maxRecDepth 100000 in
theorem dc_M_sumOf : (op_M_sumOf.all fun o => decide (decode prog_14_method_135_code o.1 = .ok (o.2.1, o.2.2.1))) = true := by decide +kernel
set_option maxRecDepth 100000 in
theorem ck_M_sumOf : (op_M_sumOf.all (chk 341)) = true := by decide +kernel
theorem gd_M_sumOf : Good 341 := good_of pp_M_sumOf rfl dc_M_sumOf ck_M_sumOf
set_option maxRecDepth 100000 in
theorem dc_M_least : (op_M_least.all fun o => decide (decode prog_14_method_136_code o.1 = .ok (o.2.1, o.2.2.1))) = true := by decide +kernel
set_option maxRecDepth 100000 in
theorem ck_M_least : (op_M_least.all (chk 342)) = true := by decide +kernel
theorem gd_M_least : Good 342 := good_of pp_M_least rfl dc_M_least ck_M_least
set_option maxRecDepth 100000 in
theorem dc_M_ledger : (op_M_ledger.all fun o => decide (decode prog_14_method_91_code o.1 = .ok (o.2.1, o.2.2.1))) = true := by decide +kernel
set_option maxRecDepth 100000 in
theorem ck_M_ledger : (op_M_ledger.all (chk 343)) = true := by decide +kernel
theorem gd_M_ledger : Good 343 := good_of pp_M_ledger rfl dc_M_ledger ck_M_ledger
set_option maxRecDepth 100000 in
theorem dc_M_spiteOfRow : (op_M_spiteOfRow.all fun o => decide (decode prog_14_method_98_code o.1 = .ok (o.2.1, o.2.2.1))) = true := by decide +kernel
set_option maxRecDepth 100000 in
theorem ck_M_spiteOfRow : (op_M_spiteOfRow.all (chk 344)) = true := by decide +kernel
theorem gd_M_spiteOfRow : Good 344 := good_of pp_M_spiteOfRow rfl dc_M_spiteOfRow ck_M_spiteOfRow
set_option maxRecDepth 100000 in
theorem dc_M_spiteOfSeats : (op_M_spiteOfSeats.all fun o => decide (decode prog_14_method_103_code o.1 = .ok (o.2.1, o.2.2.1))) = true := by decide +kernel
set_option maxRecDepth 100000 in
theorem ck_M_spiteOfSeats : (op_M_spiteOfSeats.all (chk 345)) = true := by decide +kernel
theorem gd_M_spiteOfSeats : Good 345 := good_of pp_M_spiteOfSeats rfl dc_M_spiteOfSeats ck_M_spiteOfSeats
set_option maxRecDepth 100000 in
theorem dc_M_swapNow : (op_M_swapNow.all fun o => decide (decode prog_14_method_71_code o.1 = .ok (o.2.1, o.2.2.1))) = true := by decide +kernel
set_option maxRecDepth 100000 in
theorem ck_M_swapNow : (op_M_swapNow.all (chk 346)) = true := by decide +kernel
theorem gd_M_swapNow : Good 346 := good_of pp_M_swapNow rfl dc_M_swapNow ck_M_swapNow
set_option maxRecDepth 100000 in
theorem dc_M_mend : (op_M_mend.all fun o => decide (decode prog_14_method_105_code o.1 = .ok (o.2.1, o.2.2.1))) = true := by decide +kernel
set_option maxRecDepth 100000 in
theorem ck_M_mend : (op_M_mend.all (chk 347)) = true := by decide +kernel
theorem gd_M_mend : Good 347 := good_of pp_M_mend rfl dc_M_mend ck_M_mend
set_option maxRecDepth 100000 in
theorem dc_M_divisor : (op_M_divisor.all fun o => decide (decode prog_14_method_129_code o.1 = .ok (o.2.1, o.2.2.1))) = true := by decide +kernel
set_option maxRecDepth 100000 in
theorem ck_M_divisor : (op_M_divisor.all (chk 348)) = true := by decide +kernel
theorem gd_M_divisor : Good 348 := good_of pp_M_divisor rfl dc_M_divisor ck_M_divisor
set_option maxRecDepth 100000 in
theorem dc_M_gainOf : (op_M_gainOf.all fun o => decide (decode prog_14_method_127_code o.1 = .ok (o.2.1, o.2.2.1))) = true := by decide +kernel
set_option maxRecDepth 100000 in
theorem ck_M_gainOf : (op_M_gainOf.all (chk 349)) = true := by decide +kernel
theorem gd_M_gainOf : Good 349 := good_of pp_M_gainOf rfl dc_M_gainOf ck_M_gainOf
set_option maxRecDepth 100000 in
theorem dc_M_upOf : (op_M_upOf.all fun o => decide (decode prog_14_method_130_code o.1 = .ok (o.2.1, o.2.2.1))) = true := by decide +kernel
set_option maxRecDepth 100000 in
theorem ck_M_upOf : (op_M_upOf.all (chk 350)) = true := by decide +kernel
theorem gd_M_upOf : Good 350 := good_of pp_M_upOf rfl dc_M_upOf ck_M_upOf
set_option maxRecDepth 100000 in
theorem dc_M_lowOf : (op_M_lowOf.all fun o => decide (decode prog_14_method_131_code o.1 = .ok (o.2.1, o.2.2.1))) = true := by decide +kernel
set_option maxRecDepth 100000 in
theorem ck_M_lowOf : (op_M_lowOf.all (chk 351)) = true := by decide +kernel
theorem gd_M_lowOf : Good 351 := good_of pp_M_lowOf rfl dc_M_lowOf ck_M_lowOf
set_option maxRecDepth 100000 in
theorem dc_M_isBetween : (op_M_isBetween.all fun o => decide (decode prog_14_method_132_code o.1 = .ok (o.2.1, o.2.2.1))) = true := by decide +kernel
set_option maxRecDepth 100000 in
theorem ck_M_isBetween : (op_M_isBetween.all (chk 352)) = true := by decide +kernel
theorem gd_M_isBetween : Good 352 := good_of pp_M_isBetween rfl dc_M_isBetween ck_M_isBetween
set_option maxRecDepth 100000 in
theorem dc_M_mixed : (op_M_mixed.all fun o => decide (decode prog_14_method_133_code o.1 = .ok (o.2.1, o.2.2.1))) = true := by decide +kernel
set_option maxRecDepth 100000 in
theorem ck_M_mixed : (op_M_mixed.all (chk 353)) = true := by decide +kernel
theorem gd_M_mixed : Good 353 := good_of pp_M_mixed rfl dc_M_mixed ck_M_mixed
set_option maxRecDepth 100000 in
theorem dc_M_longDivisor : (op_M_longDivisor.all fun o => decide (decode prog_14_method_138_code o.1 = .ok (o.2.1, o.2.2.1))) = true := by decide +kernel
set_option maxRecDepth 100000 in
theorem ck_M_longDivisor : (op_M_longDivisor.all (chk 354)) = true := by decide +kernel
theorem gd_M_longDivisor : Good 354 := good_of pp_M_longDivisor rfl dc_M_longDivisor ck_M_longDivisor
set_option maxRecDepth 100000 in
theorem dc_M_waysOf : (op_M_waysOf.all fun o => decide (decode prog_14_method_137_code o.1 = .ok (o.2.1, o.2.2.1))) = true := by decide +kernel
set_option maxRecDepth 100000 in
theorem ck_M_waysOf : (op_M_waysOf.all (chk 355)) = true := by decide +kernel
theorem gd_M_waysOf : Good 355 := good_of pp_M_waysOf rfl dc_M_waysOf ck_M_waysOf
set_option maxRecDepth 100000 in
theorem dc_M_near : (op_M_near.all fun o => decide (decode prog_14_method_139_code o.1 = .ok (o.2.1, o.2.2.1))) = true := by decide +kernel
set_option maxRecDepth 100000 in
theorem ck_M_near : (op_M_near.all (chk 356)) = true := by decide +kernel
theorem gd_M_near : Good 356 := good_of pp_M_near rfl dc_M_near ck_M_near
set_option maxRecDepth 100000 in
theorem dc_M_of : (op_M_of.all fun o => decide (decode prog_14_method_86_code o.1 = .ok (o.2.1, o.2.2.1))) = true := by decide +kernel
set_option maxRecDepth 100000 in
theorem ck_M_of : (op_M_of.all (chk 357)) = true := by decide +kernel
theorem gd_M_of : Good 357 := good_of pp_M_of rfl dc_M_of ck_M_of
set_option maxRecDepth 100000 in
theorem dc_M_reach : (op_M_reach.all fun o => decide (decode prog_14_method_76_code o.1 = .ok (o.2.1, o.2.2.1))) = true := by decide +kernel
set_option maxRecDepth 100000 in
theorem ck_M_reach : (op_M_reach.all (chk 358)) = true := by decide +kernel
theorem gd_M_reach : Good 358 := good_of pp_M_reach rfl dc_M_reach ck_M_reach
set_option maxRecDepth 100000 in
theorem dc_M_strap : (op_M_strap.all fun o => decide (decode prog_14_method_78_code o.1 = .ok (o.2.1, o.2.2.1))) = true := by decide +kernel
set_option maxRecDepth 100000 in
theorem ck_M_strap : (op_M_strap.all (chk 359)) = true := by decide +kernel
theorem gd_M_strap : Good 359 := good_of pp_M_strap rfl dc_M_strap ck_M_strap
set_option maxRecDepth 100000 in
theorem dc_M_swap : (op_M_swap.all fun o => decide (decode prog_14_method_79_code o.1 = .ok (o.2.1, o.2.2.1))) = true := by decide +kernel
set_option maxRecDepth 100000 in
theorem ck_M_swap : (op_M_swap.all (chk 360)) = true := by decide +kernel
theorem gd_M_swap : Good 360 := good_of pp_M_swap rfl dc_M_swap ck_M_swap
set_option maxRecDepth 100000 in
theorem dc_M_isPlayed : (op_M_isPlayed.all fun o => decide (decode prog_14_method_82_code o.1 = .ok (o.2.1, o.2.2.1))) = true := by decide +kernel
set_option maxRecDepth 100000 in
theorem ck_M_isPlayed : (op_M_isPlayed.all (chk 361)) = true := by decide +kernel
theorem gd_M_isPlayed : Good 361 := good_of pp_M_isPlayed rfl dc_M_isPlayed ck_M_isPlayed
set_option maxRecDepth 100000 in
theorem dc_M_played : (op_M_played.all fun o => decide (decode prog_14_method_83_code o.1 = .ok (o.2.1, o.2.2.1))) = true := by decide +kernel
set_option maxRecDepth 100000 in
theorem ck_M_played : (op_M_played.all (chk 362)) = true := by decide +kernel
theorem gd_M_played : Good 362 := good_of pp_M_played rfl dc_M_played ck_M_played
set_option maxRecDepth 100000 in
theorem dc_M_rests : (op_M_rests.all fun o => decide (decode prog_14_method_128_code o.1 = .ok (o.2.1, o.2.2.1))) = true := by decide +kernel
set_option maxRecDepth 100000 in
theorem ck_M_rests : (op_M_rests.all (chk 363)) = true := by decide +kernel
theorem gd_M_rests : Good 363 := good_of pp_M_rests rfl dc_M_rests ck_M_rests
set_option maxRecDepth 100000 in
theorem dc_M_factorial : (op_M_factorial.all fun o => decide (decode prog_14_method_95_code o.1 = .ok (o.2.1, o.2.2.1))) = true := by decide +kernel
set_option maxRecDepth 100000 in
theorem ck_M_factorial : (op_M_factorial.all (chk 364)) = true := by decide +kernel
theorem gd_M_factorial : Good 364 := good_of pp_M_factorial rfl dc_M_factorial ck_M_factorial
set_option maxRecDepth 100000 in
theorem dc_M_layRow : (op_M_layRow.all fun o => decide (decode prog_14_method_97_code o.1 = .ok (o.2.1, o.2.2.1))) = true := by decide +kernel
set_option maxRecDepth 100000 in
theorem ck_M_layRow : (op_M_layRow.all (chk 365)) = true := by decide +kernel
theorem gd_M_layRow : Good 365 := good_of pp_M_layRow rfl dc_M_layRow ck_M_layRow
set_option maxRecDepth 100000 in
theorem dc_M_seatingsInAll : (op_M_seatingsInAll.all fun o => decide (decode prog_14_method_96_code o.1 = .ok (o.2.1, o.2.2.1))) = true := by decide +kernel
set_option maxRecDepth 100000 in
theorem ck_M_seatingsInAll : (op_M_seatingsInAll.all (chk 366)) = true := by decide +kernel
theorem gd_M_seatingsInAll : Good 366 := good_of pp_M_seatingsInAll rfl dc_M_seatingsInAll ck_M_seatingsInAll
set_option maxRecDepth 100000 in
theorem dc_M_layBest : (op_M_layBest.all fun o => decide (decode prog_14_method_99_code o.1 = .ok (o.2.1, o.2.2.1))) = true := by decide +kernel
set_option maxRecDepth 100000 in
theorem ck_M_layBest : (op_M_layBest.all (chk 367)) = true := by decide +kernel
theorem gd_M_layBest : Good 367 := good_of pp_M_layBest rfl dc_M_layBest ck_M_layBest
set_option maxRecDepth 100000 in
theorem dc_M_round : (op_M_round.all fun o => decide (decode prog_14_method_100_code o.1 = .ok (o.2.1, o.2.2.1))) = true := by decide +kernel
set_option maxRecDepth 100000 in
theorem ck_M_round : (op_M_round.all (chk 368)) = true := by decide +kernel
theorem gd_M_round : Good 368 := good_of pp_M_round rfl dc_M_round ck_M_round
set_option maxRecDepth 100000 in
theorem dc_M_saying : (op_M_saying.all fun o => decide (decode prog_14_method_134_code o.1 = .ok (o.2.1, o.2.2.1))) = true := by decide +kernel
set_option maxRecDepth 100000 in
theorem ck_M_saying : (op_M_saying.all (chk 369)) = true := by decide +kernel
theorem gd_M_saying : Good 369 := good_of pp_M_saying rfl dc_M_saying ck_M_saying
set_option maxRecDepth 100000 in
theorem dc_M_seating : (op_M_seating.all fun o => decide (decode prog_14_method_101_code o.1 = .ok (o.2.1, o.2.2.1))) = true := by decide +kernel
set_option maxRecDepth 100000 in
theorem ck_M_seating : (op_M_seating.all (chk 370)) = true := by decide +kernel
theorem gd_M_seating : Good 370 := good_of pp_M_seating rfl dc_M_seating ck_M_seating
set_option maxRecDepth 100000 in
theorem dc_M_seatings : (op_M_seatings.all fun o => decide (decode prog_14_method_102_code o.1 = .ok (o.2.1, o.2.2.1))) = true := by decide +kernel
set_option maxRecDepth 100000 in
theorem ck_M_seatings : (op_M_seatings.all (chk 371)) = true := by decide +kernel
theorem gd_M_seatings : Good 371 := good_of pp_M_seatings rfl dc_M_seatings ck_M_seatings
set_option maxRecDepth 100000 in
theorem dc_M_spite : (op_M_spite.all fun o => decide (decode prog_14_method_14_code o.1 = .ok (o.2.1, o.2.2.1))) = true := by decide +kernel
set_option maxRecDepth 100000 in
theorem ck_M_spite : (op_M_spite.all (chk 372)) = true := by decide +kernel
theorem gd_M_spite : Good 372 := good_of pp_M_spite rfl dc_M_spite ck_M_spite
set_option maxRecDepth 100000 in
theorem dc_M_spiteNow : (op_M_spiteNow.all fun o => decide (decode prog_14_method_104_code o.1 = .ok (o.2.1, o.2.2.1))) = true := by decide +kernel
set_option maxRecDepth 100000 in
theorem ck_M_spiteNow : (op_M_spiteNow.all (chk 373)) = true := by decide +kernel
theorem gd_M_spiteNow : Good 373 := good_of pp_M_spiteNow rfl dc_M_spiteNow ck_M_spiteNow
set_option maxRecDepth 100000 in
theorem dc_M_byteAt : (op_M_byteAt.all fun o => decide (decode prog_14_method_18_code o.1 = .ok (o.2.1, o.2.2.1))) = true := by decide +kernel
set_option maxRecDepth 100000 in
theorem ck_M_byteAt : (op_M_byteAt.all (chk 374)) = true := by decide +kernel
theorem gd_M_byteAt : Good 374 := good_of pp_M_byteAt rfl dc_M_byteAt ck_M_byteAt
set_option maxRecDepth 100000 in
theorem dc_M_isFigure : (op_M_isFigure.all fun o => decide (decode prog_14_method_20_code o.1 = .ok (o.2.1, o.2.2.1))) = true := by decide +kernel
set_option maxRecDepth 100000 in
theorem ck_M_isFigure : (op_M_isFigure.all (chk 375)) = true := by decide +kernel
theorem gd_M_isFigure : Good 375 := good_of pp_M_isFigure rfl dc_M_isFigure ck_M_isFigure
set_option maxRecDepth 100000 in
theorem dc_M_isLetterByte : (op_M_isLetterByte.all fun o => decide (decode prog_14_method_19_code o.1 = .ok (o.2.1, o.2.2.1))) = true := by decide +kernel
set_option maxRecDepth 100000 in
theorem ck_M_isLetterByte : (op_M_isLetterByte.all (chk 376)) = true := by decide +kernel
theorem gd_M_isLetterByte : Good 376 := good_of pp_M_isLetterByte rfl dc_M_isLetterByte ck_M_isLetterByte
set_option maxRecDepth 100000 in
theorem dc_M_isSign : (op_M_isSign.all fun o => decide (decode prog_14_method_21_code o.1 = .ok (o.2.1, o.2.2.1))) = true := by decide +kernel
set_option maxRecDepth 100000 in
theorem ck_M_isSign : (op_M_isSign.all (chk 377)) = true := by decide +kernel
theorem gd_M_isSign : Good 377 := good_of pp_M_isSign rfl dc_M_isSign ck_M_isSign
set_option maxRecDepth 100000 in
theorem dc_M_nextToken : (op_M_nextToken.all fun o => decide (decode prog_14_method_22_code o.1 = .ok (o.2.1, o.2.2.1))) = true := by decide +kernel
set_option maxRecDepth 100000 in
theorem ck_M_nextToken : (op_M_nextToken.all (chk 378)) = true := by decide +kernel
theorem gd_M_nextToken : Good 378 := good_of pp_M_nextToken rfl dc_M_nextToken ck_M_nextToken
set_option maxRecDepth 100000 in
theorem dc_M_figure : (op_M_figure.all fun o => decide (decode prog_14_method_46_code o.1 = .ok (o.2.1, o.2.2.1))) = true := by decide +kernel
set_option maxRecDepth 100000 in
theorem ck_M_figure : (op_M_figure.all (chk 379)) = true := by decide +kernel
theorem gd_M_figure : Good 379 := good_of pp_M_figure rfl dc_M_figure ck_M_figure
set_option maxRecDepth 100000 in
theorem dc_M_emit : (op_M_emit.all fun o => decide (decode prog_14_method_29_code o.1 = .ok (o.2.1, o.2.2.1))) = true := by decide +kernel
set_option maxRecDepth 100000 in
theorem ck_M_emit : (op_M_emit.all (chk 380)) = true := by decide +kernel
theorem gd_M_emit : Good 380 := good_of pp_M_emit rfl dc_M_emit ck_M_emit
set_option maxRecDepth 100000 in
theorem dc_M_openAt : (op_M_openAt.all fun o => decide (decode prog_14_method_35_code o.1 = .ok (o.2.1, o.2.2.1))) = true := by decide +kernel
set_option maxRecDepth 100000 in
theorem ck_M_openAt : (op_M_openAt.all (chk 381)) = true := by decide +kernel
theorem gd_M_openAt : Good 381 := good_of pp_M_openAt rfl dc_M_openAt ck_M_openAt
set_option maxRecDepth 100000 in
theorem dc_M_openNow : (op_M_openNow.all fun o => decide (decode prog_14_method_36_code o.1 = .ok (o.2.1, o.2.2.1))) = true := by decide +kernel
set_option maxRecDepth 100000 in
theorem ck_M_openNow : (op_M_openNow.all (chk 382)) = true := by decide +kernel
theorem gd_M_openNow : Good 382 := good_of pp_M_openNow rfl dc_M_openNow ck_M_openNow
set_option maxRecDepth 100000 in
theorem dc_M_rank : (op_M_rank.all fun o => decide (decode prog_14_method_33_code o.1 = .ok (o.2.1, o.2.2.1))) = true := by decide +kernel
set_option maxRecDepth 100000 in
theorem ck_M_rank : (op_M_rank.all (chk 383)) = true := by decide +kernel
theorem gd_M_rank : Good 383 := good_of pp_M_rank rfl dc_M_rank ck_M_rank
set_option maxRecDepth 100000 in
theorem dc_M_isAskAhead : (op_M_isAskAhead.all fun o => decide (decode prog_14_method_38_code o.1 = .ok (o.2.1, o.2.2.1))) = true := by decide +kernel
set_option maxRecDepth 100000 in
theorem ck_M_isAskAhead : (op_M_isAskAhead.all (chk 384)) = true := by decide +kernel
theorem gd_M_isAskAhead : Good 384 := good_of pp_M_isAskAhead rfl dc_M_isAskAhead ck_M_isAskAhead
set_option maxRecDepth 100000 in
theorem dc_M_isOf : (op_M_isOf.all fun o => decide (decode prog_14_method_32_code o.1 = .ok (o.2.1, o.2.2.1))) = true := by decide +kernel
set_option maxRecDepth 100000 in
theorem ck_M_isOf : (op_M_isOf.all (chk 385)) = true := by decide +kernel
theorem gd_M_isOf : Good 385 := good_of pp_M_isOf rfl dc_M_isOf ck_M_isOf
set_option maxRecDepth 100000 in
theorem dc_M_isWord : (op_M_isWord.all fun o => decide (decode prog_14_method_28_code o.1 = .ok (o.2.1, o.2.2.1))) = true := by decide +kernel
set_option maxRecDepth 100000 in
theorem ck_M_isWord : (op_M_isWord.all (chk 386)) = true := by decide +kernel
theorem gd_M_isWord : Good 386 := good_of pp_M_isWord rfl dc_M_isWord ck_M_isWord
set_option maxRecDepth 100000 in
theorem dc_M_w2 : (op_M_w2.all fun o => decide (decode prog_14_method_23_code o.1 = .ok (o.2.1, o.2.2.1))) = true := by decide +kernel
set_option maxRecDepth 100000 in
theorem ck_M_w2 : (op_M_w2.all (chk 387)) = true := by decide +kernel
theorem gd_M_w2 : Good 387 := good_of pp_M_w2 rfl dc_M_w2 ck_M_w2
set_option maxRecDepth 100000 in
theorem dc_M_w3 : (op_M_w3.all fun o => decide (decode prog_14_method_24_code o.1 = .ok (o.2.1, o.2.2.1))) = true := by decide +kernel
set_option maxRecDepth 100000 in
theorem ck_M_w3 : (op_M_w3.all (chk 388)) = true := by decide +kernel
theorem gd_M_w3 : Good 388 := good_of pp_M_w3 rfl dc_M_w3 ck_M_w3
set_option maxRecDepth 100000 in
theorem dc_M_w4 : (op_M_w4.all fun o => decide (decode prog_14_method_25_code o.1 = .ok (o.2.1, o.2.2.1))) = true := by decide +kernel
set_option maxRecDepth 100000 in
theorem ck_M_w4 : (op_M_w4.all (chk 389)) = true := by decide +kernel
theorem gd_M_w4 : Good 389 := good_of pp_M_w4 rfl dc_M_w4 ck_M_w4
set_option maxRecDepth 100000 in
theorem dc_M_w5 : (op_M_w5.all fun o => decide (decode prog_14_method_26_code o.1 = .ok (o.2.1, o.2.2.1))) = true := by decide +kernel
set_option maxRecDepth 100000 in
theorem ck_M_w5 : (op_M_w5.all (chk 390)) = true := by decide +kernel
theorem gd_M_w5 : Good 390 := good_of pp_M_w5 rfl dc_M_w5 ck_M_w5
set_option maxRecDepth 100000 in
theorem dc_M_w6 : (op_M_w6.all fun o => decide (decode prog_14_method_27_code o.1 = .ok (o.2.1, o.2.2.1))) = true := by decide +kernel
set_option maxRecDepth 100000 in
theorem ck_M_w6 : (op_M_w6.all (chk 391)) = true := by decide +kernel
theorem gd_M_w6 : Good 391 := good_of pp_M_w6 rfl dc_M_w6 ck_M_w6
set_option maxRecDepth 100000 in
theorem dc_M_nameOf : (op_M_nameOf.all fun o => decide (decode prog_14_method_31_code o.1 = .ok (o.2.1, o.2.2.1))) = true := by decide +kernel
set_option maxRecDepth 100000 in
theorem ck_M_nameOf : (op_M_nameOf.all (chk 392)) = true := by decide +kernel
theorem gd_M_nameOf : Good 392 := good_of pp_M_nameOf rfl dc_M_nameOf ck_M_nameOf
set_option maxRecDepth 100000 in
theorem dc_M_opened : (op_M_opened.all fun o => decide (decode prog_14_method_39_code o.1 = .ok (o.2.1, o.2.2.1))) = true := by decide +kernel
set_option maxRecDepth 100000 in
theorem ck_M_opened : (op_M_opened.all (chk 393)) = true := by decide +kernel
theorem gd_M_opened : Good 393 := good_of pp_M_opened rfl dc_M_opened ck_M_opened
set_option maxRecDepth 100000 in
theorem dc_M_settle : (op_M_settle.all fun o => decide (decode prog_14_method_34_code o.1 = .ok (o.2.1, o.2.2.1))) = true := by decide +kernel
set_option maxRecDepth 100000 in
theorem ck_M_settle : (op_M_settle.all (chk 394)) = true := by decide +kernel
theorem gd_M_settle : Good 394 := good_of pp_M_settle rfl dc_M_settle ck_M_settle
set_option maxRecDepth 100000 in
theorem dc_M_beginOne : (op_M_beginOne.all fun o => decide (decode prog_14_method_40_code o.1 = .ok (o.2.1, o.2.2.1))) = true := by decide +kernel
set_option maxRecDepth 100000 in
theorem ck_M_beginOne : (op_M_beginOne.all (chk 395)) = true := by decide +kernel
theorem gd_M_beginOne : Good 395 := good_of pp_M_beginOne rfl dc_M_beginOne ck_M_beginOne
set_option maxRecDepth 100000 in
theorem dc_M_compareOf : (op_M_compareOf.all fun o => decide (decode prog_14_method_41_code o.1 = .ok (o.2.1, o.2.2.1))) = true := by decide +kernel
set_option maxRecDepth 100000 in
theorem ck_M_compareOf : (op_M_compareOf.all (chk 396)) = true := by decide +kernel
theorem gd_M_compareOf : Good 396 := good_of pp_M_compareOf rfl dc_M_compareOf ck_M_compareOf
set_option maxRecDepth 100000 in
theorem dc_M_isCompared : (op_M_isCompared.all fun o => decide (decode prog_14_method_37_code o.1 = .ok (o.2.1, o.2.2.1))) = true := by decide +kernel
set_option maxRecDepth 100000 in
theorem ck_M_isCompared : (op_M_isCompared.all (chk 397)) = true := by decide +kernel
theorem gd_M_isCompared : Good 397 := good_of pp_M_isCompared rfl dc_M_isCompared ck_M_isCompared
set_option maxRecDepth 100000 in
theorem dc_M_betweenOf : (op_M_betweenOf.all fun o => decide (decode prog_14_method_42_code o.1 = .ok (o.2.1, o.2.2.1))) = true := by decide +kernel
set_option maxRecDepth 100000 in
theorem ck_M_betweenOf : (op_M_betweenOf.all (chk 398)) = true := by decide +kernel
theorem gd_M_betweenOf : Good 398 := good_of pp_M_betweenOf rfl dc_M_betweenOf ck_M_betweenOf
set_option maxRecDepth 100000 in
theorem dc_M_partOf : (op_M_partOf.all fun o => decide (decode prog_14_method_43_code o.1 = .ok (o.2.1, o.2.2.1))) = true := by decide +kernel
set_option maxRecDepth 100000 in
theorem ck_M_partOf : (op_M_partOf.all (chk 399)) = true := by decide +kernel
theorem gd_M_partOf : Good 399 := good_of pp_M_partOf rfl dc_M_partOf ck_M_partOf
set_option maxRecDepth 100000 in
theorem dc_M_behindOne : (op_M_behindOne.all fun o => decide (decode prog_14_method_44_code o.1 = .ok (o.2.1, o.2.2.1))) = true := by decide +kernel
set_option maxRecDepth 100000 in
theorem ck_M_behindOne : (op_M_behindOne.all (chk 400)) = true := by decide +kernel
theorem gd_M_behindOne : Good 400 := good_of pp_M_behindOne rfl dc_M_behindOne ck_M_behindOne
set_option maxRecDepth 100000 in
theorem dc_M_summed : (op_M_summed.all fun o => decide (decode prog_14_method_45_code o.1 = .ok (o.2.1, o.2.2.1))) = true := by decide +kernel
set_option maxRecDepth 100000 in
theorem ck_M_summed : (op_M_summed.all (chk 401)) = true := by decide +kernel
theorem gd_M_summed : Good 401 := good_of pp_M_summed rfl dc_M_summed ck_M_summed
set_option maxRecDepth 100000 in
theorem dc_M_lawClause : (op_M_lawClause.all fun o => decide (decode prog_14_method_47_code o.1 = .ok (o.2.1, o.2.2.1))) = true := by decide +kernel
set_option maxRecDepth 100000 in
theorem ck_M_lawClause : (op_M_lawClause.all (chk 402)) = true := by decide +kernel
theorem gd_M_lawClause : Good 402 := good_of pp_M_lawClause rfl dc_M_lawClause ck_M_lawClause
set_option maxRecDepth 100000 in
theorem dc_M_pair : (op_M_pair.all fun o => decide (decode prog_14_method_48_code o.1 = .ok (o.2.1, o.2.2.1))) = true := by decide +kernel
set_option maxRecDepth 100000 in
theorem ck_M_pair : (op_M_pair.all (chk 403)) = true := by decide +kernel
theorem gd_M_pair : Good 403 := good_of pp_M_pair rfl dc_M_pair ck_M_pair
set_option maxRecDepth 100000 in
theorem dc_M_body : (op_M_body.all fun o => decide (decode prog_14_method_49_code o.1 = .ok (o.2.1, o.2.2.1))) = true := by decide +kernel
set_option maxRecDepth 100000 in
theorem ck_M_body : (op_M_body.all (chk 404)) = true := by decide +kernel
theorem gd_M_body : Good 404 := good_of pp_M_body rfl dc_M_body ck_M_body
set_option maxRecDepth 100000 in
theorem dc_M_isReaches : (op_M_isReaches.all fun o => decide (decode prog_14_method_30_code o.1 = .ok (o.2.1, o.2.2.1))) = true := by decide +kernel
set_option maxRecDepth 100000 in
theorem ck_M_isReaches : (op_M_isReaches.all (chk 405)) = true := by decide +kernel
theorem gd_M_isReaches : Good 405 := good_of pp_M_isReaches rfl dc_M_isReaches ck_M_isReaches
set_option maxRecDepth 100000 in
theorem dc_M_sortOf : (op_M_sortOf.all fun o => decide (decode prog_14_method_50_code o.1 = .ok (o.2.1, o.2.2.1))) = true := by decide +kernel
set_option maxRecDepth 100000 in
theorem ck_M_sortOf : (op_M_sortOf.all (chk 406)) = true := by decide +kernel
theorem gd_M_sortOf : Good 406 := good_of pp_M_sortOf rfl dc_M_sortOf ck_M_sortOf
set_option maxRecDepth 100000 in
theorem dc_M_clause : (op_M_clause.all fun o => decide (decode prog_14_method_51_code o.1 = .ok (o.2.1, o.2.2.1))) = true := by decide +kernel
set_option maxRecDepth 100000 in
theorem ck_M_clause : (op_M_clause.all (chk 407)) = true := by decide +kernel
theorem gd_M_clause : Good 407 := good_of pp_M_clause rfl dc_M_clause ck_M_clause
set_option maxRecDepth 100000 in
theorem dc_M_readText : (op_M_readText.all fun o => decide (decode prog_14_method_52_code o.1 = .ok (o.2.1, o.2.2.1))) = true := by decide +kernel
set_option maxRecDepth 100000 in
theorem ck_M_readText : (op_M_readText.all (chk 408)) = true := by decide +kernel
theorem gd_M_readText : Good 408 := good_of pp_M_readText rfl dc_M_readText ck_M_readText
set_option maxRecDepth 100000 in
theorem dc_M_text : (op_M_text.all fun o => decide (decode prog_14_method_53_code o.1 = .ok (o.2.1, o.2.2.1))) = true := by decide +kernel
set_option maxRecDepth 100000 in
theorem ck_M_text : (op_M_text.all (chk 409)) = true := by decide +kernel
theorem gd_M_text : Good 409 := good_of pp_M_text rfl dc_M_text ck_M_text
set_option maxRecDepth 100000 in
theorem dc_M_told : (op_M_told.all fun o => decide (decode prog_14_method_147_code o.1 = .ok (o.2.1, o.2.2.1))) = true := by decide +kernel
set_option maxRecDepth 100000 in
theorem ck_M_told : (op_M_told.all (chk 410)) = true := by decide +kernel
theorem gd_M_told : Good 410 := good_of pp_M_told rfl dc_M_told ck_M_told
set_option maxRecDepth 100000 in
theorem dc_M_undo : (op_M_undo.all fun o => decide (decode prog_14_method_75_code o.1 = .ok (o.2.1, o.2.2.1))) = true := by decide +kernel
set_option maxRecDepth 100000 in
theorem ck_M_undo : (op_M_undo.all (chk 411)) = true := by decide +kernel
theorem gd_M_undo : Good 411 := good_of pp_M_undo rfl dc_M_undo ck_M_undo
set_option maxRecDepth 100000 in
theorem dc_M_whose : (op_M_whose.all fun o => decide (decode prog_14_method_148_code o.1 = .ok (o.2.1, o.2.2.1))) = true := by decide +kernel
set_option maxRecDepth 100000 in
theorem ck_M_whose : (op_M_whose.all (chk 412)) = true := by decide +kernel
theorem gd_M_whose : Good 412 := good_of pp_M_whose rfl dc_M_whose ck_M_whose
set_option maxRecDepth 100000 in
theorem dc_M_happensTo : (op_M_happensTo.all fun o => decide (decode prog_14_method_84_code o.1 = .ok (o.2.1, o.2.2.1))) = true := by decide +kernel
set_option maxRecDepth 100000 in
theorem ck_M_happensTo : (op_M_happensTo.all (chk 413)) = true := by decide +kernel
theorem gd_M_happensTo : Good 413 := good_of pp_M_happensTo rfl dc_M_happensTo ck_M_happensTo
set_option maxRecDepth 100000 in
theorem dc_M_years : (op_M_years.all fun o => decide (decode prog_14_method_85_code o.1 = .ok (o.2.1, o.2.2.1))) = true := by decide +kernel
set_option maxRecDepth 100000 in
theorem ck_M_years : (op_M_years.all (chk 414)) = true := by decide +kernel
theorem gd_M_years : Good 414 := good_of pp_M_years rfl dc_M_years ck_M_years
set_option maxRecDepth 100000 in
theorem good_all : ∀ M ∈ idsT, Good M := List.forall_mem_cons.mpr ⟨gd_X_new, List.forall_mem_cons.mpr ⟨gd_House_new, List.forall_mem_cons.mpr ⟨gd_Table_new, List.forall_mem_cons.mpr ⟨gd_Pairs_new, List.forall_mem_cons.mpr ⟨gd_Math_max, List.forall_mem_cons.mpr ⟨gd_Asker_new, List.forall_mem_cons.mpr ⟨gd_Tape_new, List.forall_mem_cons.mpr ⟨gd_Reader_new, List.forall_mem_cons.mpr ⟨gd_Rounds_new, List.forall_mem_cons.mpr ⟨gd_Flier_new, List.forall_mem_cons.mpr ⟨gd_Rows_new, List.forall_mem_cons.mpr ⟨gd_Rows_marked, List.forall_mem_cons.mpr ⟨gd_X_kin, List.forall_mem_cons.mpr ⟨gd_X_within, List.forall_mem_cons.mpr ⟨gd_Table_seatOneMore, List.forall_mem_cons.mpr ⟨gd_X_put, List.forall_mem_cons.mpr ⟨gd_X_feed, List.forall_mem_cons.mpr ⟨gd_Tape_addFour, List.forall_mem_cons.mpr ⟨gd_X_end, List.forall_mem_cons.mpr ⟨gd_X_text, List.forall_mem_cons.mpr ⟨gd_Reader_readTape, List.forall_mem_cons.mpr ⟨gd_Tape_cutIntoTokens, List.forall_mem_cons.mpr ⟨gd_Tape_byteAt, List.forall_mem_cons.mpr ⟨gd_Tape_isDigit, List.forall_mem_cons.mpr ⟨gd_Tape_cutNumber, List.forall_mem_cons.mpr ⟨gd_Math_min, List.forall_mem_cons.mpr ⟨gd_Tape_addToken, List.forall_mem_cons.mpr ⟨gd_Tape_isLetter, List.forall_mem_cons.mpr ⟨gd_Tape_cutWord, List.forall_mem_cons.mpr ⟨gd_Tape_wordKind, List.forall_mem_cons.mpr ⟨gd_String_length, List.forall_mem_cons.mpr ⟨gd_String_coder, List.forall_mem_cons.mpr ⟨gd_String_charAt, List.forall_mem_cons.mpr ⟨gd_String_isLatin1, List.forall_mem_cons.mpr ⟨gd_StringLatin1_charAt, List.forall_mem_cons.mpr ⟨gd_String_checkIndex, List.forall_mem_cons.mpr ⟨gd_Preconditions_checkIndex, List.forall_mem_cons.mpr ⟨gd_Tape_cutSign, List.forall_mem_cons.mpr ⟨gd_String_indexOf_1, List.forall_mem_cons.mpr ⟨gd_String_indexOf, List.forall_mem_cons.mpr ⟨gd_StringLatin1_indexOf, List.forall_mem_cons.mpr ⟨gd_StringLatin1_canEncode, List.forall_mem_cons.mpr ⟨gd_StringLatin1_indexOfChar, List.forall_mem_cons.mpr ⟨gd_Reader_kind, List.forall_mem_cons.mpr ⟨gd_X_get, List.forall_mem_cons.mpr ⟨gd_Reader_openClause, List.forall_mem_cons.mpr ⟨gd_Kind_opensClause, List.forall_mem_cons.mpr ⟨gd_Reader_fail, List.forall_mem_cons.mpr ⟨gd_Reader_readClause, List.forall_mem_cons.mpr ⟨gd_Reader_readLaw, List.forall_mem_cons.mpr ⟨gd_Reader_readSum, List.forall_mem_cons.mpr ⟨gd_Reader_readProduct, List.forall_mem_cons.mpr ⟨gd_Reader_readOne, List.forall_mem_cons.mpr ⟨gd_Reader_number, List.forall_mem_cons.mpr ⟨gd_Reader_emit, List.forall_mem_cons.mpr ⟨gd_Kind_isName, List.forall_mem_cons.mpr ⟨gd_Reader_readName, List.forall_mem_cons.mpr ⟨gd_Kind_opensOne, List.forall_mem_cons.mpr ⟨gd_Reader_readOpen, List.forall_mem_cons.mpr ⟨gd_Reader_expect, List.forall_mem_cons.mpr ⟨gd_Reader_readChoice, List.forall_mem_cons.mpr ⟨gd_Reader_readEither, List.forall_mem_cons.mpr ⟨gd_Reader_readBoth, List.forall_mem_cons.mpr ⟨gd_Reader_readAsk, List.forall_mem_cons.mpr ⟨gd_Kind_isComparison, List.forall_mem_cons.mpr ⟨gd_Reader_leapToHere, List.forall_mem_cons.mpr ⟨gd_Arrays_copyOf, List.forall_mem_cons.mpr ⟨gd_Text_new, List.forall_mem_cons.mpr ⟨gd_House_keepText, List.forall_mem_cons.mpr ⟨gd_X_fault, List.forall_mem_cons.mpr ⟨gd_X_by, List.forall_mem_cons.mpr ⟨gd_X_reach, List.forall_mem_cons.mpr ⟨gd_Table_canReach, List.forall_mem_cons.mpr ⟨gd_Table_has, List.forall_mem_cons.mpr ⟨gd_Table_isStrapped, List.forall_mem_cons.mpr ⟨gd_House_saveStep, List.forall_mem_cons.mpr ⟨gd_House_stepAt, List.forall_mem_cons.mpr ⟨gd_Table_become, List.forall_mem_cons.mpr ⟨gd_Table_returnTo, List.forall_mem_cons.mpr ⟨gd_Table_keepOneMore, List.forall_mem_cons.mpr ⟨gd_X_down, List.forall_mem_cons.mpr ⟨gd_Table_canPutDown, List.forall_mem_cons.mpr ⟨gd_Table_putDown, List.forall_mem_cons.mpr ⟨gd_X_strap, List.forall_mem_cons.mpr ⟨gd_Table_turnStrap, List.forall_mem_cons.mpr ⟨gd_X_swap, List.forall_mem_cons.mpr ⟨gd_Table_canSwap, List.forall_mem_cons.mpr ⟨gd_Table_swapSeats, List.forall_mem_cons.mpr ⟨gd_X_dinner, List.forall_mem_cons.mpr ⟨gd_House_dine, List.forall_mem_cons.mpr ⟨gd_House_law, List.forall_mem_cons.mpr ⟨gd_House_textOf, List.forall_mem_cons.mpr ⟨gd_Table_passDinner, List.forall_mem_cons.mpr ⟨gd_Table_draw, List.forall_mem_cons.mpr ⟨gd_Asker_reachesOf, List.forall_mem_cons.mpr ⟨gd_Asker_run, List.forall_mem_cons.mpr ⟨gd_Asker_takesNone, List.forall_mem_cons.mpr ⟨gd_Asker_named, List.forall_mem_cons.mpr ⟨gd_Table_whoFrom, List.forall_mem_cons.mpr ⟨gd_Asker_takesOne, List.forall_mem_cons.mpr ⟨gd_Asker_ofOne, List.forall_mem_cons.mpr ⟨gd_Asker_ofTwo, List.forall_mem_cons.mpr ⟨gd_Asker_capped, List.forall_mem_cons.mpr ⟨gd_Asker_bearsOf, List.forall_mem_cons.mpr ⟨gd_Table_letLoose, List.forall_mem_cons.mpr ⟨gd_Table_write, List.forall_mem_cons.mpr ⟨gd_X_played, List.forall_mem_cons.mpr ⟨gd_X_done, List.forall_mem_cons.mpr ⟨gd_X_years, List.forall_mem_cons.mpr ⟨gd_X_passYear, List.forall_mem_cons.mpr ⟨gd_X_changeOne, List.forall_mem_cons.mpr ⟨gd_X_undo, List.forall_mem_cons.mpr ⟨gd_House_takeBack, List.forall_mem_cons.mpr ⟨gd_X_of, List.forall_mem_cons.mpr ⟨gd_X_at, List.forall_mem_cons.mpr ⟨gd_X_is, List.forall_mem_cons.mpr ⟨gd_Table_keptOfAll, List.forall_mem_cons.mpr ⟨gd_X_book, List.forall_mem_cons.mpr ⟨gd_Table_dinnerOf, List.forall_mem_cons.mpr ⟨gd_Table_whoOf, List.forall_mem_cons.mpr ⟨gd_Table_throughOf, List.forall_mem_cons.mpr ⟨gd_Table_stuckOf, List.forall_mem_cons.mpr ⟨gd_X_fullest, List.forall_mem_cons.mpr ⟨gd_Table_whoKeptMost, List.forall_mem_cons.mpr ⟨gd_X_calm, List.forall_mem_cons.mpr ⟨gd_Table_whoKeptNone, List.forall_mem_cons.mpr ⟨gd_X_ledger, List.forall_mem_cons.mpr ⟨gd_Table_linesOf, List.forall_mem_cons.mpr ⟨gd_X_foretold, List.forall_mem_cons.mpr ⟨gd_X_spite, List.forall_mem_cons.mpr ⟨gd_X_round, List.forall_mem_cons.mpr ⟨gd_Rounds_weighAll, List.forall_mem_cons.mpr ⟨gd_Rounds_spiteOf, List.forall_mem_cons.mpr ⟨gd_Rounds_weigh, List.forall_mem_cons.mpr ⟨gd_Rounds_turnToNextRow, List.forall_mem_cons.mpr ⟨gd_Rounds_exchange, List.forall_mem_cons.mpr ⟨gd_X_seating, List.forall_mem_cons.mpr ⟨gd_X_seatings, List.forall_mem_cons.mpr ⟨gd_X_spiteNow, List.forall_mem_cons.mpr ⟨gd_Rounds_spiteAround, List.forall_mem_cons.mpr ⟨gd_X_mend, List.forall_mem_cons.mpr ⟨gd_Rounds_seekMend, List.forall_mem_cons.mpr ⟨gd_Rounds_spiteSwapped, List.forall_mem_cons.mpr ⟨gd_X_hedge, List.forall_mem_cons.mpr ⟨gd_X_flight, List.forall_mem_cons.mpr ⟨gd_Flier_ends, List.forall_mem_cons.mpr ⟨gd_Flier_stepsOn, List.forall_mem_cons.mpr ⟨gd_Flier_meets, List.forall_mem_cons.mpr ⟨gd_X_comes, List.forall_mem_cons.mpr ⟨gd_Flier_rimCell, List.forall_mem_cons.mpr ⟨gd_X_guess, List.forall_mem_cons.mpr ⟨gd_Pairs_clear, List.forall_mem_cons.mpr ⟨gd_Pairs_add, List.forall_mem_cons.mpr ⟨gd_X_answer, List.forall_mem_cons.mpr ⟨gd_Rows_replyOf, List.forall_mem_cons.mpr ⟨gd_Integer_bitCount, List.forall_mem_cons.mpr ⟨gd_X_fits, List.forall_mem_cons.mpr ⟨gd_Rows_sift, List.forall_mem_cons.mpr ⟨gd_Rows_fitsAll, List.forall_mem_cons.mpr ⟨gd_X_fit, List.forall_mem_cons.mpr ⟨gd_X_ask, List.forall_mem_cons.mpr ⟨gd_Rows_bestAsked, List.forall_mem_cons.mpr ⟨gd_Rows_mostAlike, List.forall_mem_cons.mpr ⟨gd_Arrays_fill, List.forall_mem_cons.mpr ⟨gd_X_gain, List.forall_mem_cons.mpr ⟨gd_X_rests, List.forall_mem_cons.mpr ⟨gd_X_gainOf, List.forall_mem_cons.mpr ⟨gd_X_mixed, List.forall_mem_cons.mpr ⟨gd_X_unlikeSigns, List.forall_mem_cons.mpr ⟨gd_Math_abs, List.forall_mem_cons.mpr ⟨gd_X_lowest, List.forall_mem_cons.mpr ⟨gd_X_saying, List.forall_mem_cons.mpr ⟨gd_X_least, List.forall_mem_cons.mpr ⟨gd_X_leastSet, List.forall_mem_cons.mpr ⟨gd_X_sumOf, List.forall_mem_cons.mpr ⟨gd_X_near, List.forall_mem_cons.mpr ⟨gd_X_game, List.forall_mem_cons.mpr ⟨gd_X_isLosing, List.forall_mem_cons.mpr ⟨gd_X_bite, List.forall_mem_cons.mpr ⟨gd_X_isShape, List.forall_mem_cons.mpr ⟨gd_X_widthOf, List.forall_mem_cons.mpr ⟨gd_X_bitten, List.forall_mem_cons.mpr ⟨gd_X_told, List.forall_mem_cons.mpr ⟨gd_X_whose, List.forall_mem_cons.mpr ⟨gd_X_agrees, List.forall_mem_cons.mpr ⟨gd_X_image, List.forall_mem_cons.mpr ⟨gd_House_become, List.forall_mem_cons.mpr ⟨gd_House_copyAll, List.forall_mem_cons.mpr ⟨gd_Pairs_become, List.forall_mem_cons.mpr ⟨gd_X_back, List.forall_mem_cons.mpr ⟨gd_X_about, List.forall_mem_cons.mpr ⟨gd_M_new, List.forall_mem_cons.mpr ⟨gd_M_copy, List.forall_mem_cons.mpr ⟨gd_M_kin, List.forall_mem_cons.mpr ⟨gd_M_isIn, List.forall_mem_cons.mpr ⟨gd_M_begin, List.forall_mem_cons.mpr ⟨gd_M_spite, List.forall_mem_cons.mpr ⟨gd_M_isKin, List.forall_mem_cons.mpr ⟨gd_M_feed, List.forall_mem_cons.mpr ⟨gd_M_four, List.forall_mem_cons.mpr ⟨gd_M_end, List.forall_mem_cons.mpr ⟨gd_M_text, List.forall_mem_cons.mpr ⟨gd_M_readText, List.forall_mem_cons.mpr ⟨gd_M_nextToken, List.forall_mem_cons.mpr ⟨gd_M_byteAt, List.forall_mem_cons.mpr ⟨gd_M_isFigure, List.forall_mem_cons.mpr ⟨gd_M_isLetterByte, List.forall_mem_cons.mpr ⟨gd_M_isSign, List.forall_mem_cons.mpr ⟨gd_M_clause, List.forall_mem_cons.mpr ⟨gd_M_sortOf, List.forall_mem_cons.mpr ⟨gd_M_isReaches, List.forall_mem_cons.mpr ⟨gd_M_w4, List.forall_mem_cons.mpr ⟨gd_M_w3, List.forall_mem_cons.mpr ⟨gd_M_w2, List.forall_mem_cons.mpr ⟨gd_M_w5, List.forall_mem_cons.mpr ⟨gd_M_isWord, List.forall_mem_cons.mpr ⟨gd_M_w6, List.forall_mem_cons.mpr ⟨gd_M_has, List.forall_mem_cons.mpr ⟨gd_M_body, List.forall_mem_cons.mpr ⟨gd_M_pair, List.forall_mem_cons.mpr ⟨gd_M_figure, List.forall_mem_cons.mpr ⟨gd_M_lawClause, List.forall_mem_cons.mpr ⟨gd_M_summed, List.forall_mem_cons.mpr ⟨gd_M_behindOne, List.forall_mem_cons.mpr ⟨gd_M_betweenOf, List.forall_mem_cons.mpr ⟨gd_M_openNow, List.forall_mem_cons.mpr ⟨gd_M_openAt, List.forall_mem_cons.mpr ⟨gd_M_isCompared, List.forall_mem_cons.mpr ⟨gd_M_rank, List.forall_mem_cons.mpr ⟨gd_M_compareOf, List.forall_mem_cons.mpr ⟨gd_M_settle, List.forall_mem_cons.mpr ⟨gd_M_emit, List.forall_mem_cons.mpr ⟨gd_M_partOf, List.forall_mem_cons.mpr ⟨gd_M_beginOne, List.forall_mem_cons.mpr ⟨gd_M_nameOf, List.forall_mem_cons.mpr ⟨gd_M_isOf, List.forall_mem_cons.mpr ⟨gd_M_opened, List.forall_mem_cons.mpr ⟨gd_M_isAskAhead, List.forall_mem_cons.mpr ⟨gd_M_fault, List.forall_mem_cons.mpr ⟨gd_M_by, List.forall_mem_cons.mpr ⟨gd_M_undo, List.forall_mem_cons.mpr ⟨gd_M_reach, List.forall_mem_cons.mpr ⟨gd_M_isStrapped, List.forall_mem_cons.mpr ⟨gd_M_keep, List.forall_mem_cons.mpr ⟨gd_M_more, List.forall_mem_cons.mpr ⟨gd_M_held, List.forall_mem_cons.mpr ⟨gd_M_down, List.forall_mem_cons.mpr ⟨gd_M_canDown, List.forall_mem_cons.mpr ⟨gd_M_strap, List.forall_mem_cons.mpr ⟨gd_M_swap, List.forall_mem_cons.mpr ⟨gd_M_swapNow, List.forall_mem_cons.mpr ⟨gd_M_dinner, List.forall_mem_cons.mpr ⟨gd_M_arePassed, List.forall_mem_cons.mpr ⟨gd_M_pass, List.forall_mem_cons.mpr ⟨gd_M_whoAt, List.forall_mem_cons.mpr ⟨gd_M_drawnBy, List.forall_mem_cons.mpr ⟨gd_M_anew, List.forall_mem_cons.mpr ⟨gd_M_reachesOf, List.forall_mem_cons.mpr ⟨gd_M_name, List.forall_mem_cons.mpr ⟨gd_M_further, List.forall_mem_cons.mpr ⟨gd_M_says, List.forall_mem_cons.mpr ⟨gd_M_summedUp, List.forall_mem_cons.mpr ⟨gd_M_ofOne, List.forall_mem_cons.mpr ⟨gd_M_acrossOf, List.forall_mem_cons.mpr ⟨gd_M_two, List.forall_mem_cons.mpr ⟨gd_M_clip, List.forall_mem_cons.mpr ⟨gd_M_isAsked, List.forall_mem_cons.mpr ⟨gd_M_joined, List.forall_mem_cons.mpr ⟨gd_M_bearsOf, List.forall_mem_cons.mpr ⟨gd_M_looseNow, List.forall_mem_cons.mpr ⟨gd_M_write, List.forall_mem_cons.mpr ⟨gd_M_played, List.forall_mem_cons.mpr ⟨gd_M_isPlayed, List.forall_mem_cons.mpr ⟨gd_M_years, List.forall_mem_cons.mpr ⟨gd_M_happensTo, List.forall_mem_cons.mpr ⟨gd_M_of, List.forall_mem_cons.mpr ⟨gd_M_at, List.forall_mem_cons.mpr ⟨gd_M_is, List.forall_mem_cons.mpr ⟨gd_M_book, List.forall_mem_cons.mpr ⟨gd_M_lineOf, List.forall_mem_cons.mpr ⟨gd_M_ledger, List.forall_mem_cons.mpr ⟨gd_M_fullest, List.forall_mem_cons.mpr ⟨gd_M_calm, List.forall_mem_cons.mpr ⟨gd_M_foretold, List.forall_mem_cons.mpr ⟨gd_M_round, List.forall_mem_cons.mpr ⟨gd_M_layBest, List.forall_mem_cons.mpr ⟨gd_M_seatingsInAll, List.forall_mem_cons.mpr ⟨gd_M_factorial, List.forall_mem_cons.mpr ⟨gd_M_layRow, List.forall_mem_cons.mpr ⟨gd_M_spiteOfRow, List.forall_mem_cons.mpr ⟨gd_M_seating, List.forall_mem_cons.mpr ⟨gd_M_seatings, List.forall_mem_cons.mpr ⟨gd_M_spiteNow, List.forall_mem_cons.mpr ⟨gd_M_spiteOfSeats, List.forall_mem_cons.mpr ⟨gd_M_mend, List.forall_mem_cons.mpr ⟨gd_M_hedge, List.forall_mem_cons.mpr ⟨gd_M_flight, List.forall_mem_cons.mpr ⟨gd_M_isFlight, List.forall_mem_cons.mpr ⟨gd_M_isFlown, List.forall_mem_cons.mpr ⟨gd_M_nextBy, List.forall_mem_cons.mpr ⟨gd_M_turnedBy, List.forall_mem_cons.mpr ⟨gd_M_comes, List.forall_mem_cons.mpr ⟨gd_M_isInwards, List.forall_mem_cons.mpr ⟨gd_M_guess, List.forall_mem_cons.mpr ⟨gd_M_isRow, List.forall_mem_cons.mpr ⟨gd_M_answer, List.forall_mem_cons.mpr ⟨gd_M_answerOf, List.forall_mem_cons.mpr ⟨gd_M_digitOf, List.forall_mem_cons.mpr ⟨gd_M_countOf, List.forall_mem_cons.mpr ⟨gd_M_fits, List.forall_mem_cons.mpr ⟨gd_M_layFits, List.forall_mem_cons.mpr ⟨gd_M_fit, List.forall_mem_cons.mpr ⟨gd_M_ask, List.forall_mem_cons.mpr ⟨gd_M_mostAlike, List.forall_mem_cons.mpr ⟨gd_M_isFitting, List.forall_mem_cons.mpr ⟨gd_M_gain, List.forall_mem_cons.mpr ⟨gd_M_rests, List.forall_mem_cons.mpr ⟨gd_M_gainOf, List.forall_mem_cons.mpr ⟨gd_M_mixed, List.forall_mem_cons.mpr ⟨gd_M_isBetween, List.forall_mem_cons.mpr ⟨gd_M_lowOf, List.forall_mem_cons.mpr ⟨gd_M_upOf, List.forall_mem_cons.mpr ⟨gd_M_divisor, List.forall_mem_cons.mpr ⟨gd_M_saying, List.forall_mem_cons.mpr ⟨gd_M_least, List.forall_mem_cons.mpr ⟨gd_M_sumOf, List.forall_mem_cons.mpr ⟨gd_M_bits, List.forall_mem_cons.mpr ⟨gd_M_near, List.forall_mem_cons.mpr ⟨gd_M_waysOf, List.forall_mem_cons.mpr ⟨gd_M_longDivisor, List.forall_mem_cons.mpr ⟨gd_M_game, List.forall_mem_cons.mpr ⟨gd_M_layWins, List.forall_mem_cons.mpr ⟨gd_M_isShape, List.forall_mem_cons.mpr ⟨gd_M_rowOf, List.forall_mem_cons.mpr ⟨gd_M_biteOf, List.forall_mem_cons.mpr ⟨gd_M_bitten, List.forall_mem_cons.mpr ⟨gd_M_bite, List.forall_mem_cons.mpr ⟨gd_M_told, List.forall_mem_cons.mpr ⟨gd_M_whose, List.forall_mem_cons.mpr ⟨gd_M_image, List.forall_mem_cons.mpr ⟨gd_M_back, List.forall_mem_cons.mpr ⟨gd_M_about, fun _ h => absurd h List.not_mem_nil⟩⟩⟩⟩⟩⟩⟩⟩⟩⟩⟩⟩⟩⟩⟩⟩⟩⟩⟩⟩⟩⟩⟩⟩⟩⟩⟩⟩⟩⟩⟩⟩⟩⟩⟩⟩⟩⟩⟩⟩⟩⟩⟩⟩⟩⟩⟩⟩⟩⟩⟩⟩⟩⟩⟩⟩⟩⟩⟩⟩⟩⟩⟩⟩⟩⟩⟩⟩⟩⟩⟩⟩⟩⟩⟩⟩⟩⟩⟩⟩⟩⟩⟩⟩⟩⟩⟩⟩⟩⟩⟩⟩⟩⟩⟩⟩⟩⟩⟩⟩⟩⟩⟩⟩⟩⟩⟩⟩⟩⟩⟩⟩⟩⟩⟩⟩⟩⟩⟩⟩⟩⟩⟩⟩⟩⟩⟩⟩⟩⟩⟩⟩⟩⟩⟩⟩⟩⟩⟩⟩⟩⟩⟩⟩⟩⟩⟩⟩⟩⟩⟩⟩⟩⟩⟩⟩⟩⟩⟩⟩⟩⟩⟩⟩⟩⟩⟩⟩⟩⟩⟩⟩⟩⟩⟩⟩⟩⟩⟩⟩⟩⟩⟩⟩⟩⟩⟩⟩⟩⟩⟩⟩⟩⟩⟩⟩⟩⟩⟩⟩⟩⟩⟩⟩⟩⟩⟩⟩⟩⟩⟩⟩⟩⟩⟩⟩⟩⟩⟩⟩⟩⟩⟩⟩⟩⟩⟩⟩⟩⟩⟩⟩⟩⟩⟩⟩⟩⟩⟩⟩⟩⟩⟩⟩⟩⟩⟩⟩⟩⟩⟩⟩⟩⟩⟩⟩⟩⟩⟩⟩⟩⟩⟩⟩⟩⟩⟩⟩⟩⟩⟩⟩⟩⟩⟩⟩⟩⟩⟩⟩⟩⟩⟩⟩⟩⟩⟩⟩⟩⟩⟩⟩⟩⟩⟩⟩⟩⟩⟩⟩⟩⟩⟩⟩⟩⟩⟩⟩⟩⟩⟩⟩⟩⟩⟩⟩⟩⟩⟩⟩⟩⟩⟩⟩⟩⟩⟩⟩⟩⟩⟩⟩⟩⟩⟩⟩⟩⟩⟩⟩⟩⟩
