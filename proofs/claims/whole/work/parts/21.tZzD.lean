section TXZzD
set_option maxRecDepth 50000 in
theorem cbr_259 : is_Gr cb_MT cb_NM mt_259 := is_all_gr (gq_0 _ (gq_1 _ (gq_2 _ (gq_3 _ (gq_4 _ (gq_5 _ (gq_6 _ (gq_7 _ (gq_8 _ (gq_9 _ (gq_10 _ (gq_11 _ (gq_12 _ (gq_13 _ (gq_14 _ (gq_15 _ (gq_16 _ (gq_17 _ (gq_18 _ (gq_19 _ (gq_20 _ (gq_21 _ (gq_22 _ (gq_23 _ (gq_24 _ (gq_25 _ (gq_26 _ (trivial))))))))))))))))))))))))))))
end TXZzD
