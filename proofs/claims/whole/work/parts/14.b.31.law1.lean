theorem ql_8 : qk_blk 241 (qm_bpc 241 8) (qm_blk 241 8) = true := by decide +kernel
theorem ql_9 : qk_blk 241 (qm_bpc 241 9) (qm_blk 241 9) = true := by decide +kernel
theorem ql_10 : qk_blk 241 (qm_bpc 241 10) (qm_blk 241 10) = true := by decide +kernel
theorem ql_11 : qk_blk 241 (qm_bpc 241 11) (qm_blk 241 11) = true := by decide +kernel
theorem ql_12 : qk_blk 241 (qm_bpc 241 12) (qm_blk 241 12) = true := by decide +kernel
theorem ql_13 : qk_blk 241 (qm_bpc 241 13) (qm_blk 241 13) = true := by decide +kernel
theorem ql_14 : qk_blk 241 (qm_bpc 241 14) (qm_blk 241 14) = true := by decide +kernel
theorem ql_15 : qk_blk 241 (qm_bpc 241 15) (qm_blk 241 15) = true := by decide +kernel
