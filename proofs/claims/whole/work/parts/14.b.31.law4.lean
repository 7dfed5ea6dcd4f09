theorem ql_32 : qk_blk 241 (qm_bpc 241 32) (qm_blk 241 32) = true := by decide +kernel
theorem ql_33 : qk_blk 241 (qm_bpc 241 33) (qm_blk 241 33) = true := by decide +kernel
theorem ql_34 : qk_blk 241 (qm_bpc 241 34) (qm_blk 241 34) = true := by decide +kernel
theorem ql_35 : qk_blk 241 (qm_bpc 241 35) (qm_blk 241 35) = true := by decide +kernel
theorem ql_36 : qk_blk 241 (qm_bpc 241 36) (qm_blk 241 36) = true := by decide +kernel
theorem ql_37 : qk_blk 241 (qm_bpc 241 37) (qm_blk 241 37) = true := by decide +kernel
theorem ql_38 : qk_blk 241 (qm_bpc 241 38) (qm_blk 241 38) = true := by decide +kernel
theorem ql_39 : qk_blk 241 (qm_bpc 241 39) (qm_blk 241 39) = true := by decide +kernel
