theorem ql_16 : qk_blk 241 (qm_bpc 241 16) (qm_blk 241 16) = true := by decide +kernel
theorem ql_17 : qk_blk 241 (qm_bpc 241 17) (qm_blk 241 17) = true := by decide +kernel
theorem ql_18 : qk_blk 241 (qm_bpc 241 18) (qm_blk 241 18) = true := by decide +kernel
theorem ql_19 : qk_blk 241 (qm_bpc 241 19) (qm_blk 241 19) = true := by decide +kernel
theorem ql_20 : qk_blk 241 (qm_bpc 241 20) (qm_blk 241 20) = true := by decide +kernel
theorem ql_21 : qk_blk 241 (qm_bpc 241 21) (qm_blk 241 21) = true := by decide +kernel
theorem ql_22 : qk_blk 241 (qm_bpc 241 22) (qm_blk 241 22) = true := by decide +kernel
theorem ql_23 : qk_blk 241 (qm_bpc 241 23) (qm_blk 241 23) = true := by decide +kernel
