theorem ql_24 : qk_blk 241 (qm_bpc 241 24) (qm_blk 241 24) = true := by decide +kernel
theorem ql_25 : qk_blk 241 (qm_bpc 241 25) (qm_blk 241 25) = true := by decide +kernel
theorem ql_26 : qk_blk 241 (qm_bpc 241 26) (qm_blk 241 26) = true := by decide +kernel
theorem ql_27 : qk_blk 241 (qm_bpc 241 27) (qm_blk 241 27) = true := by decide +kernel
theorem ql_28 : qk_blk 241 (qm_bpc 241 28) (qm_blk 241 28) = true := by decide +kernel
theorem ql_29 : qk_blk 241 (qm_bpc 241 29) (qm_blk 241 29) = true := by decide +kernel
theorem ql_30 : qk_blk 241 (qm_bpc 241 30) (qm_blk 241 30) = true := by decide +kernel
theorem ql_31 : qk_blk 241 (qm_bpc 241 31) (qm_blk 241 31) = true := by decide +kernel
