theorem ql_0 : qk_blk 241 (qm_bpc 241 0) (qm_blk 241 0) = true := by decide +kernel
theorem ql_1 : qk_blk 241 (qm_bpc 241 1) (qm_blk 241 1) = true := by decide +kernel
theorem ql_2 : qk_blk 241 (qm_bpc 241 2) (qm_blk 241 2) = true := by decide +kernel
theorem ql_3 : qk_blk 241 (qm_bpc 241 3) (qm_blk 241 3) = true := by decide +kernel
theorem ql_4 : qk_blk 241 (qm_bpc 241 4) (qm_blk 241 4) = true := by decide +kernel
theorem ql_5 : qk_blk 241 (qm_bpc 241 5) (qm_blk 241 5) = true := by decide +kernel
theorem ql_6 : qk_blk 241 (qm_bpc 241 6) (qm_blk 241 6) = true := by decide +kernel
theorem ql_7 : qk_blk 241 (qm_bpc 241 7) (qm_blk 241 7) = true := by decide +kernel
