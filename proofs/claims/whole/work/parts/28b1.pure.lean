theorem us_mx1 {b t : Int64} (h : lg_cmp b t ≤ 0) : (if t < b then b else t) = t := if_neg (Int64.not_lt.mpr (us_cmp_le.mp h))
theorem us_mx2 {b t : Int64} (h : ¬ lg_cmp b t ≤ 0) : (if t < b then b else t) = b := if_pos (Int64.not_le.mp (mt us_cmp_le.mpr h))
