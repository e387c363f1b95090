/-! the law itself -/
theorem all_cut {α : Type} {f : α → Bool} (n : Nat) {l : List α} (h1 : (l.take n).all f = true) (h2 : (l.drop n).all f = true) : l.all f = true := by
  rw [← List.take_append_drop n l, List.all_append, h1, h2]
  rfl
set_option maxRecDepth 100000 in
theorem dcL_0 : (((op_Law_law.drop 0).take 40).all fun o => decide (decode code o.1 = .ok (o.2.1, o.2.2.1))) = true := by decide +kernel
set_option maxRecDepth 100000 in
theorem dcL_40 : (((op_Law_law.drop 40).take 40).all fun o => decide (decode code o.1 = .ok (o.2.1, o.2.2.1))) = true := by decide +kernel
set_option maxRecDepth 100000 in
theorem dcL_80 : (((op_Law_law.drop 80).take 40).all fun o => decide (decode code o.1 = .ok (o.2.1, o.2.2.1))) = true := by decide +kernel
set_option maxRecDepth 100000 in
theorem dcL_120 : (((op_Law_law.drop 120).take 40).all fun o => decide (decode code o.1 = .ok (o.2.1, o.2.2.1))) = true := by decide +kernel
set_option maxRecDepth 100000 in
theorem dcL_160 : (((op_Law_law.drop 160).take 40).all fun o => decide (decode code o.1 = .ok (o.2.1, o.2.2.1))) = true := by decide +kernel
set_option maxRecDepth 100000 in
theorem dcL_200 : (((op_Law_law.drop 200).take 40).all fun o => decide (decode code o.1 = .ok (o.2.1, o.2.2.1))) = true := by decide +kernel
set_option maxRecDepth 100000 in
theorem dcL_240 : (((op_Law_law.drop 240).take 40).all fun o => decide (decode code o.1 = .ok (o.2.1, o.2.2.1))) = true := by decide +kernel
set_option maxRecDepth 100000 in
theorem dcL_280 : (((op_Law_law.drop 280).take 40).all fun o => decide (decode code o.1 = .ok (o.2.1, o.2.2.1))) = true := by decide +kernel
set_option maxRecDepth 100000 in
theorem dcL_320 : (((op_Law_law.drop 320).take 40).all fun o => decide (decode code o.1 = .ok (o.2.1, o.2.2.1))) = true := by decide +kernel
set_option maxRecDepth 100000 in
theorem dcL_360 : (((op_Law_law.drop 360).take 40).all fun o => decide (decode code o.1 = .ok (o.2.1, o.2.2.1))) = true := by decide +kernel
set_option maxRecDepth 100000 in
theorem dcL_400 : (((op_Law_law.drop 400).take 40).all fun o => decide (decode code o.1 = .ok (o.2.1, o.2.2.1))) = true := by decide +kernel
set_option maxRecDepth 100000 in
theorem dcL_440 : (((op_Law_law.drop 440).take 40).all fun o => decide (decode code o.1 = .ok (o.2.1, o.2.2.1))) = true := by decide +kernel
set_option maxRecDepth 100000 in
theorem dcL_480 : (((op_Law_law.drop 480).take 40).all fun o => decide (decode code o.1 = .ok (o.2.1, o.2.2.1))) = true := by decide +kernel
set_option maxRecDepth 100000 in
theorem dcL_520 : (((op_Law_law.drop 520).take 40).all fun o => decide (decode code o.1 = .ok (o.2.1, o.2.2.1))) = true := by decide +kernel
set_option maxRecDepth 100000 in
theorem dcL_560 : (((op_Law_law.drop 560).take 40).all fun o => decide (decode code o.1 = .ok (o.2.1, o.2.2.1))) = true := by decide +kernel
set_option maxRecDepth 100000 in
theorem dcL_600 : (((op_Law_law.drop 600).take 40).all fun o => decide (decode code o.1 = .ok (o.2.1, o.2.2.1))) = true := by decide +kernel
set_option maxRecDepth 100000 in
theorem dcL_640 : (((op_Law_law.drop 640).take 40).all fun o => decide (decode code o.1 = .ok (o.2.1, o.2.2.1))) = true := by decide +kernel
set_option maxRecDepth 100000 in
theorem dcL_680 : (((op_Law_law.drop 680).take 40).all fun o => decide (decode code o.1 = .ok (o.2.1, o.2.2.1))) = true := by decide +kernel
set_option maxRecDepth 100000 in
theorem dcL_720 : (((op_Law_law.drop 720).take 40).all fun o => decide (decode code o.1 = .ok (o.2.1, o.2.2.1))) = true := by decide +kernel
set_option maxRecDepth 100000 in
theorem dcL_760 : (((op_Law_law.drop 760).take 40).all fun o => decide (decode code o.1 = .ok (o.2.1, o.2.2.1))) = true := by decide +kernel
set_option maxRecDepth 100000 in
theorem dcL_800 : (((op_Law_law.drop 800).take 40).all fun o => decide (decode code o.1 = .ok (o.2.1, o.2.2.1))) = true := by decide +kernel
set_option maxRecDepth 100000 in
theorem dcL_840 : (((op_Law_law.drop 840).take 40).all fun o => decide (decode code o.1 = .ok (o.2.1, o.2.2.1))) = true := by decide +kernel
set_option maxRecDepth 100000 in
theorem dcL_880 : (((op_Law_law.drop 880).take 40).all fun o => decide (decode code o.1 = .ok (o.2.1, o.2.2.1))) = true := by decide +kernel
set_option maxRecDepth 100000 in
theorem dcL_920 : (((op_Law_law.drop 920).take 40).all fun o => decide (decode code o.1 = .ok (o.2.1, o.2.2.1))) = true := by decide +kernel
set_option maxRecDepth 100000 in
theorem dcL_960 : (((op_Law_law.drop 960).take 40).all fun o => decide (decode code o.1 = .ok (o.2.1, o.2.2.1))) = true := by decide +kernel
set_option maxRecDepth 100000 in
theorem dcL_1000 : (((op_Law_law.drop 1000).take 40).all fun o => decide (decode code o.1 = .ok (o.2.1, o.2.2.1))) = true := by decide +kernel
set_option maxRecDepth 100000 in
theorem dcL_1040 : (((op_Law_law.drop 1040).take 40).all fun o => decide (decode code o.1 = .ok (o.2.1, o.2.2.1))) = true := by decide +kernel
set_option maxRecDepth 100000 in
theorem dcL_1080 : (((op_Law_law.drop 1080).take 40).all fun o => decide (decode code o.1 = .ok (o.2.1, o.2.2.1))) = true := by decide +kernel
set_option maxRecDepth 100000 in
theorem dcLt_1120 : ((op_Law_law.drop 1120).all fun o => decide (decode code o.1 = .ok (o.2.1, o.2.2.1))) = true := by decide +kernel
set_option maxRecDepth 100000 in
theorem dcLt_1080 : ((op_Law_law.drop 1080).all fun o => decide (decode code o.1 = .ok (o.2.1, o.2.2.1))) = true := all_cut 40 dcL_1080 (by rw [List.drop_drop]; exact dcLt_1120)
set_option maxRecDepth 100000 in
theorem dcLt_1040 : ((op_Law_law.drop 1040).all fun o => decide (decode code o.1 = .ok (o.2.1, o.2.2.1))) = true := all_cut 40 dcL_1040 (by rw [List.drop_drop]; exact dcLt_1080)
set_option maxRecDepth 100000 in
theorem dcLt_1000 : ((op_Law_law.drop 1000).all fun o => decide (decode code o.1 = .ok (o.2.1, o.2.2.1))) = true := all_cut 40 dcL_1000 (by rw [List.drop_drop]; exact dcLt_1040)
set_option maxRecDepth 100000 in
theorem dcLt_960 : ((op_Law_law.drop 960).all fun o => decide (decode code o.1 = .ok (o.2.1, o.2.2.1))) = true := all_cut 40 dcL_960 (by rw [List.drop_drop]; exact dcLt_1000)
set_option maxRecDepth 100000 in
theorem dcLt_920 : ((op_Law_law.drop 920).all fun o => decide (decode code o.1 = .ok (o.2.1, o.2.2.1))) = true := all_cut 40 dcL_920 (by rw [List.drop_drop]; exact dcLt_960)
set_option maxRecDepth 100000 in
theorem dcLt_880 : ((op_Law_law.drop 880).all fun o => decide (decode code o.1 = .ok (o.2.1, o.2.2.1))) = true := all_cut 40 dcL_880 (by rw [List.drop_drop]; exact dcLt_920)
set_option maxRecDepth 100000 in
theorem dcLt_840 : ((op_Law_law.drop 840).all fun o => decide (decode code o.1 = .ok (o.2.1, o.2.2.1))) = true := all_cut 40 dcL_840 (by rw [List.drop_drop]; exact dcLt_880)
set_option maxRecDepth 100000 in
theorem dcLt_800 : ((op_Law_law.drop 800).all fun o => decide (decode code o.1 = .ok (o.2.1, o.2.2.1))) = true := all_cut 40 dcL_800 (by rw [List.drop_drop]; exact dcLt_840)
set_option maxRecDepth 100000 in
theorem dcLt_760 : ((op_Law_law.drop 760).all fun o => decide (decode code o.1 = .ok (o.2.1, o.2.2.1))) = true := all_cut 40 dcL_760 (by rw [List.drop_drop]; exact dcLt_800)
set_option maxRecDepth 100000 in
theorem dcLt_720 : ((op_Law_law.drop 720).all fun o => decide (decode code o.1 = .ok (o.2.1, o.2.2.1))) = true := all_cut 40 dcL_720 (by rw [List.drop_drop]; exact dcLt_760)
set_option maxRecDepth 100000 in
theorem dcLt_680 : ((op_Law_law.drop 680).all fun o => decide (decode code o.1 = .ok (o.2.1, o.2.2.1))) = true := all_cut 40 dcL_680 (by rw [List.drop_drop]; exact dcLt_720)
set_option maxRecDepth 100000 in
theorem dcLt_640 : ((op_Law_law.drop 640).all fun o => decide (decode code o.1 = .ok (o.2.1, o.2.2.1))) = true := all_cut 40 dcL_640 (by rw [List.drop_drop]; exact dcLt_680)
set_option maxRecDepth 100000 in
theorem dcLt_600 : ((op_Law_law.drop 600).all fun o => decide (decode code o.1 = .ok (o.2.1, o.2.2.1))) = true := all_cut 40 dcL_600 (by rw [List.drop_drop]; exact dcLt_640)
set_option maxRecDepth 100000 in
theorem dcLt_560 : ((op_Law_law.drop 560).all fun o => decide (decode code o.1 = .ok (o.2.1, o.2.2.1))) = true := all_cut 40 dcL_560 (by rw [List.drop_drop]; exact dcLt_600)
set_option maxRecDepth 100000 in
theorem dcLt_520 : ((op_Law_law.drop 520).all fun o => decide (decode code o.1 = .ok (o.2.1, o.2.2.1))) = true := all_cut 40 dcL_520 (by rw [List.drop_drop]; exact dcLt_560)
set_option maxRecDepth 100000 in
theorem dcLt_480 : ((op_Law_law.drop 480).all fun o => decide (decode code o.1 = .ok (o.2.1, o.2.2.1))) = true := all_cut 40 dcL_480 (by rw [List.drop_drop]; exact dcLt_520)
set_option maxRecDepth 100000 in
theorem dcLt_440 : ((op_Law_law.drop 440).all fun o => decide (decode code o.1 = .ok (o.2.1, o.2.2.1))) = true := all_cut 40 dcL_440 (by rw [List.drop_drop]; exact dcLt_480)
set_option maxRecDepth 100000 in
theorem dcLt_400 : ((op_Law_law.drop 400).all fun o => decide (decode code o.1 = .ok (o.2.1, o.2.2.1))) = true := all_cut 40 dcL_400 (by rw [List.drop_drop]; exact dcLt_440)
set_option maxRecDepth 100000 in
theorem dcLt_360 : ((op_Law_law.drop 360).all fun o => decide (decode code o.1 = .ok (o.2.1, o.2.2.1))) = true := all_cut 40 dcL_360 (by rw [List.drop_drop]; exact dcLt_400)
set_option maxRecDepth 100000 in
theorem dcLt_320 : ((op_Law_law.drop 320).all fun o => decide (decode code o.1 = .ok (o.2.1, o.2.2.1))) = true := all_cut 40 dcL_320 (by rw [List.drop_drop]; exact dcLt_360)
set_option maxRecDepth 100000 in
theorem dcLt_280 : ((op_Law_law.drop 280).all fun o => decide (decode code o.1 = .ok (o.2.1, o.2.2.1))) = true := all_cut 40 dcL_280 (by rw [List.drop_drop]; exact dcLt_320)
set_option maxRecDepth 100000 in
theorem dcLt_240 : ((op_Law_law.drop 240).all fun o => decide (decode code o.1 = .ok (o.2.1, o.2.2.1))) = true := all_cut 40 dcL_240 (by rw [List.drop_drop]; exact dcLt_280)
set_option maxRecDepth 100000 in
theorem dcLt_200 : ((op_Law_law.drop 200).all fun o => decide (decode code o.1 = .ok (o.2.1, o.2.2.1))) = true := all_cut 40 dcL_200 (by rw [List.drop_drop]; exact dcLt_240)
set_option maxRecDepth 100000 in
theorem dcLt_160 : ((op_Law_law.drop 160).all fun o => decide (decode code o.1 = .ok (o.2.1, o.2.2.1))) = true := all_cut 40 dcL_160 (by rw [List.drop_drop]; exact dcLt_200)
set_option maxRecDepth 100000 in
theorem dcLt_120 : ((op_Law_law.drop 120).all fun o => decide (decode code o.1 = .ok (o.2.1, o.2.2.1))) = true := all_cut 40 dcL_120 (by rw [List.drop_drop]; exact dcLt_160)
set_option maxRecDepth 100000 in
theorem dcLt_80 : ((op_Law_law.drop 80).all fun o => decide (decode code o.1 = .ok (o.2.1, o.2.2.1))) = true := all_cut 40 dcL_80 (by rw [List.drop_drop]; exact dcLt_120)
set_option maxRecDepth 100000 in
theorem dcLt_40 : ((op_Law_law.drop 40).all fun o => decide (decode code o.1 = .ok (o.2.1, o.2.2.1))) = true := all_cut 40 dcL_40 (by rw [List.drop_drop]; exact dcLt_80)
set_option maxRecDepth 100000 in
theorem dcLt_0 : ((op_Law_law.drop 0).all fun o => decide (decode code o.1 = .ok (o.2.1, o.2.2.1))) = true := all_cut 40 dcL_0 (by rw [List.drop_drop]; exact dcLt_40)
set_option maxRecDepth 100000 in
theorem ck_Law_law : (op_Law_law.all (chk 415)) = true := by decide +kernel
theorem gd_Law_law : Good 415 := good_of pp_Law_law rfl dcLt_0 ck_Law_law
