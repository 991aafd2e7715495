theorem zz_0 : ((vx_atS (cnm 9) 113 (exN 2) exS).filter (fun w => !goodWord w)).length = 1 := by decide +kernel
theorem zz_1 : ((vx_atS (cnm 9) 113 (exN 2) exS).filter (fun w => !goodWord w)).length = 2 := by decide +kernel
theorem zz_2 : ((vx_atS (cnm 9) 113 (exN 2) exS).filter (fun w => !goodWord w)).length = 3 := by decide +kernel
theorem zz_3 : ((vx_atS (cnm 9) 113 (exN 2) exS).filter (fun w => !goodWord w)).length = 4 := by decide +kernel
theorem zz_4 : Cond.castable (exN 2) (exN 2) ∈ ((vx_atS (cnm 9) 113 (exN 2) exS).filter (fun w => !goodWord w)) := by decide +kernel
theorem zz_5 : ∀ w ∈ ((vx_atS (cnm 9) 113 (exN 2) exS).filter (fun w => !goodWord w)), (match w with | .castable _ _ => true | _ => false) = true := by decide +kernel
theorem zz_6 : ∀ w ∈ ((vx_atS (cnm 9) 113 (exN 2) exS).filter (fun w => !goodWord w)), (match w with | .castable _ _ => true | .native _ => true | .codeSync _ _ _ _ => true  | _ => false) = true := by decide +kernel
