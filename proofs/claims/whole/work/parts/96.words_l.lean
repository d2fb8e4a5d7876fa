/-! ===== words of the law ===== -/
theorem lm_13 : x_ml RL 13 yX11_member cX11_member 3 (some .int) 2 := ⟨⟨x_mem2 217 (by decide +kernel), x_mem1 1 (by decide +kernel), x_mem2 220 (by decide +kernel)⟩, by decide +kernel⟩
theorem lv_13 : x_mv yX11_member := ⟨x_mem2 218 (by decide +kernel), x_mem2 219 (by decide +kernel)⟩
theorem lm_17 : x_ml RL 17 yX12_member cX12_member 4 (some .int) 2 := ⟨⟨x_mem6 80 (by decide +kernel), x_mem1 13 (by decide +kernel), x_mem6 83 (by decide +kernel)⟩, by decide +kernel⟩
theorem lv_17 : x_mv yX12_member := ⟨x_mem6 81 (by decide +kernel), x_mem6 82 (by decide +kernel)⟩
theorem lm_18 : x_ml RL 18 yX11_is cX11_is 3 (some .int) 2 := ⟨⟨x_mem2 231 (by decide +kernel), x_mem1 1 (by decide +kernel), x_mem2 234 (by decide +kernel)⟩, by decide +kernel⟩
theorem lv_18 : x_mv yX11_is := ⟨x_mem2 232 (by decide +kernel), x_mem2 233 (by decide +kernel)⟩
theorem lm_21 : x_ml RL 21 yX12_is cX12_is 4 (some .int) 2 := ⟨⟨x_mem6 89 (by decide +kernel), x_mem1 13 (by decide +kernel), x_mem6 92 (by decide +kernel)⟩, by decide +kernel⟩
theorem lv_21 : x_mv yX12_is := ⟨x_mem6 90 (by decide +kernel), x_mem6 91 (by decide +kernel)⟩
theorem lm_22 : x_ml RL 22 yX11_pool cX11_pool 4 (some .int) 2 := ⟨⟨x_mem3 3 (by decide +kernel), x_mem1 1 (by decide +kernel), x_mem3 6 (by decide +kernel)⟩, by decide +kernel⟩
theorem lv_22 : x_mv yX11_pool := ⟨x_mem3 4 (by decide +kernel), x_mem3 5 (by decide +kernel)⟩
theorem lm_25 : x_ml RL 25 yX12_pool cX12_pool 5 (some .int) 2 := ⟨⟨x_mem6 97 (by decide +kernel), x_mem1 13 (by decide +kernel), x_mem6 100 (by decide +kernel)⟩, by decide +kernel⟩
theorem lv_25 : x_mv yX12_pool := ⟨x_mem6 98 (by decide +kernel), x_mem6 99 (by decide +kernel)⟩
theorem lm_26 : x_ml RL 26 yX11_marks cX11_marks 4 (some .int) 2 := ⟨⟨x_mem3 8 (by decide +kernel), x_mem1 1 (by decide +kernel), x_mem3 11 (by decide +kernel)⟩, by decide +kernel⟩
theorem lv_26 : x_mv yX11_marks := ⟨x_mem3 9 (by decide +kernel), x_mem3 10 (by decide +kernel)⟩
theorem lm_29 : x_ml RL 29 yX12_marks cX12_marks 4 (some .int) 2 := ⟨⟨x_mem6 105 (by decide +kernel), x_mem1 13 (by decide +kernel), x_mem6 108 (by decide +kernel)⟩, by decide +kernel⟩
theorem lv_29 : x_mv yX12_marks := ⟨x_mem6 106 (by decide +kernel), x_mem6 107 (by decide +kernel)⟩
theorem lm_30 : x_ml RL 30 yX11_lay cX11_lay 5 (some .int) 1 := ⟨⟨x_mem3 12 (by decide +kernel), x_mem1 1 (by decide +kernel), x_mem3 15 (by decide +kernel)⟩, by decide +kernel⟩
theorem lv_30 : x_mv yX11_lay := ⟨x_mem3 13 (by decide +kernel), x_mem3 14 (by decide +kernel)⟩
theorem lm_34 : x_ml RL 34 yX12_lay cX12_lay 5 (some .int) 1 := ⟨⟨x_mem6 109 (by decide +kernel), x_mem1 13 (by decide +kernel), x_mem6 112 (by decide +kernel)⟩, by decide +kernel⟩
theorem lv_34 : x_mv yX12_lay := ⟨x_mem6 110 (by decide +kernel), x_mem6 111 (by decide +kernel)⟩
theorem lm_35 : x_ml RL 35 yX11_days cX11_days 2 (some .int) 1 := ⟨⟨x_mem3 23 (by decide +kernel), x_mem1 1 (by decide +kernel), x_mem3 26 (by decide +kernel)⟩, by decide +kernel⟩
theorem lv_35 : x_mv yX11_days := ⟨x_mem3 24 (by decide +kernel), x_mem3 25 (by decide +kernel)⟩
theorem lm_38 : x_ml RL 38 yX12_days cX12_days 2 (some .int) 1 := ⟨⟨x_mem6 117 (by decide +kernel), x_mem1 13 (by decide +kernel), x_mem6 120 (by decide +kernel)⟩, by decide +kernel⟩
theorem lv_38 : x_mv yX12_days := ⟨x_mem6 118 (by decide +kernel), x_mem6 119 (by decide +kernel)⟩
theorem lm_39 : x_ml RL 39 yX11_rule cX11_rule 4 (some .int) 2 := ⟨⟨x_mem3 27 (by decide +kernel), x_mem1 1 (by decide +kernel), x_mem3 30 (by decide +kernel)⟩, by decide +kernel⟩
theorem lv_39 : x_mv yX11_rule := ⟨x_mem3 28 (by decide +kernel), x_mem3 29 (by decide +kernel)⟩
theorem lm_42 : x_ml RL 42 yX12_rule cX12_rule 4 (some .int) 2 := ⟨⟨x_mem6 121 (by decide +kernel), x_mem1 13 (by decide +kernel), x_mem6 124 (by decide +kernel)⟩, by decide +kernel⟩
theorem lv_42 : x_mv yX12_rule := ⟨x_mem6 122 (by decide +kernel), x_mem6 123 (by decide +kernel)⟩
theorem lm_43 : x_ml RL 43 yX11_fly cX11_fly 6 (some .int) 5 := ⟨⟨x_mem3 35 (by decide +kernel), x_mem1 1 (by decide +kernel), x_mem3 38 (by decide +kernel)⟩, by decide +kernel⟩
theorem lv_43 : x_mv yX11_fly := ⟨x_mem3 36 (by decide +kernel), x_mem3 37 (by decide +kernel)⟩
theorem lm_47 : x_ml RL 47 yX12_fly cX12_fly 6 (some .int) 5 := ⟨⟨x_mem6 125 (by decide +kernel), x_mem1 13 (by decide +kernel), x_mem6 128 (by decide +kernel)⟩, by decide +kernel⟩
theorem lv_47 : x_mv yX12_fly := ⟨x_mem6 126 (by decide +kernel), x_mem6 127 (by decide +kernel)⟩
theorem lm_48 : x_ml RL 48 yX11_spend cX11_spend 5 (some .int) 4 := ⟨⟨x_mem3 60 (by decide +kernel), x_mem1 1 (by decide +kernel), x_mem3 63 (by decide +kernel)⟩, by decide +kernel⟩
theorem lv_48 : x_mv yX11_spend := ⟨x_mem3 61 (by decide +kernel), x_mem3 62 (by decide +kernel)⟩
theorem lm_52 : x_ml RL 52 yX12_spend cX12_spend 5 (some .int) 4 := ⟨⟨x_mem6 137 (by decide +kernel), x_mem1 13 (by decide +kernel), x_mem6 140 (by decide +kernel)⟩, by decide +kernel⟩
theorem lv_52 : x_mv yX12_spend := ⟨x_mem6 138 (by decide +kernel), x_mem6 139 (by decide +kernel)⟩
theorem lm_53 : x_ml RL 53 yX11_gift cX11_gift 5 (some .int) 4 := ⟨⟨x_mem3 65 (by decide +kernel), x_mem1 1 (by decide +kernel), x_mem3 68 (by decide +kernel)⟩, by decide +kernel⟩
theorem lv_53 : x_mv yX11_gift := ⟨x_mem3 66 (by decide +kernel), x_mem3 67 (by decide +kernel)⟩
theorem lm_56 : x_ml RL 56 yX12_gift cX12_gift 5 (some .int) 4 := ⟨⟨x_mem6 142 (by decide +kernel), x_mem1 13 (by decide +kernel), x_mem6 145 (by decide +kernel)⟩, by decide +kernel⟩
theorem lv_56 : x_mv yX12_gift := ⟨x_mem6 143 (by decide +kernel), x_mem6 144 (by decide +kernel)⟩
theorem lm_57 : x_ml RL 57 yX11_back cX11_back 4 (some .int) 2 := ⟨⟨x_mem3 69 (by decide +kernel), x_mem1 1 (by decide +kernel), x_mem3 72 (by decide +kernel)⟩, by decide +kernel⟩
theorem lv_57 : x_mv yX11_back := ⟨x_mem3 70 (by decide +kernel), x_mem3 71 (by decide +kernel)⟩
theorem lm_60 : x_ml RL 60 yX12_back cX12_back 3 (some .int) 2 := ⟨⟨x_mem6 146 (by decide +kernel), x_mem1 13 (by decide +kernel), x_mem6 149 (by decide +kernel)⟩, by decide +kernel⟩
theorem lv_60 : x_mv yX12_back := ⟨x_mem6 147 (by decide +kernel), x_mem6 148 (by decide +kernel)⟩
theorem lm_61 : x_ml RL 61 yX11_withdraw cX11_withdraw 2 (some .int) 1 := ⟨⟨x_mem3 77 (by decide +kernel), x_mem1 1 (by decide +kernel), x_mem3 80 (by decide +kernel)⟩, by decide +kernel⟩
theorem lv_61 : x_mv yX11_withdraw := ⟨x_mem3 78 (by decide +kernel), x_mem3 79 (by decide +kernel)⟩
theorem lm_64 : x_ml RL 64 yX12_withdraw cX12_withdraw 2 (some .int) 1 := ⟨⟨x_mem6 154 (by decide +kernel), x_mem1 13 (by decide +kernel), x_mem6 157 (by decide +kernel)⟩, by decide +kernel⟩
theorem lv_64 : x_mv yX12_withdraw := ⟨x_mem6 155 (by decide +kernel), x_mem6 156 (by decide +kernel)⟩
theorem lm_65 : x_ml RL 65 yX11_line cX11_line 4 (some .int) 2 := ⟨⟨x_mem3 82 (by decide +kernel), x_mem1 1 (by decide +kernel), x_mem3 85 (by decide +kernel)⟩, by decide +kernel⟩
theorem lv_65 : x_mv yX11_line := ⟨x_mem3 83 (by decide +kernel), x_mem3 84 (by decide +kernel)⟩
theorem lm_68 : x_ml RL 68 yX12_line cX12_line 4 (some .int) 2 := ⟨⟨x_mem6 159 (by decide +kernel), x_mem1 13 (by decide +kernel), x_mem6 162 (by decide +kernel)⟩, by decide +kernel⟩
theorem lv_68 : x_mv yX12_line := ⟨x_mem6 160 (by decide +kernel), x_mem6 161 (by decide +kernel)⟩
theorem lm_69 : x_ml RL 69 yX11_stands cX11_stands 5 (some .int) 4 := ⟨⟨x_mem3 86 (by decide +kernel), x_mem1 1 (by decide +kernel), x_mem3 89 (by decide +kernel)⟩, by decide +kernel⟩
theorem lv_69 : x_mv yX11_stands := ⟨x_mem3 87 (by decide +kernel), x_mem3 88 (by decide +kernel)⟩
theorem lm_72 : x_ml RL 72 yX12_stands cX12_stands 8 (some .int) 4 := ⟨⟨x_mem6 233 (by decide +kernel), x_mem1 13 (by decide +kernel), x_mem6 236 (by decide +kernel)⟩, by decide +kernel⟩
theorem lv_72 : x_mv yX12_stands := ⟨x_mem6 234 (by decide +kernel), x_mem6 235 (by decide +kernel)⟩
theorem lm_73 : x_ml RL 73 yX11_brought cX11_brought 4 (some .int) 3 := ⟨⟨x_mem3 214 (by decide +kernel), x_mem1 1 (by decide +kernel), x_mem3 217 (by decide +kernel)⟩, by decide +kernel⟩
theorem lv_73 : x_mv yX11_brought := ⟨x_mem3 215 (by decide +kernel), x_mem3 216 (by decide +kernel)⟩
theorem lm_77 : x_ml RL 77 yX12_brought cX12_brought 4 (some .int) 3 := ⟨⟨x_mem7 54 (by decide +kernel), x_mem1 13 (by decide +kernel), x_mem7 57 (by decide +kernel)⟩, by decide +kernel⟩
theorem lv_77 : x_mv yX12_brought := ⟨x_mem7 55 (by decide +kernel), x_mem7 56 (by decide +kernel)⟩
theorem lm_78 : x_ml RL 78 yX11_owes cX11_owes 8 (some .int) 3 := ⟨⟨x_mem3 219 (by decide +kernel), x_mem1 1 (by decide +kernel), x_mem3 222 (by decide +kernel)⟩, by decide +kernel⟩
theorem lv_78 : x_mv yX11_owes := ⟨x_mem3 220 (by decide +kernel), x_mem3 221 (by decide +kernel)⟩
theorem lm_81 : x_ml RL 81 yX12_owes cX12_owes 6 (some .int) 3 := ⟨⟨x_mem7 58 (by decide +kernel), x_mem1 13 (by decide +kernel), x_mem7 61 (by decide +kernel)⟩, by decide +kernel⟩
theorem lv_81 : x_mv yX12_owes := ⟨x_mem7 59 (by decide +kernel), x_mem7 60 (by decide +kernel)⟩
theorem lm_82 : x_ml RL 82 yX11_rate cX11_rate 6 (some .int) 3 := ⟨⟨x_mem3 224 (by decide +kernel), x_mem1 1 (by decide +kernel), x_mem3 227 (by decide +kernel)⟩, by decide +kernel⟩
theorem lv_82 : x_mv yX11_rate := ⟨x_mem3 225 (by decide +kernel), x_mem3 226 (by decide +kernel)⟩
theorem lm_85 : x_ml RL 85 yX12_rate cX12_rate 6 (some .int) 3 := ⟨⟨x_mem7 63 (by decide +kernel), x_mem1 13 (by decide +kernel), x_mem7 66 (by decide +kernel)⟩, by decide +kernel⟩
theorem lv_85 : x_mv yX12_rate := ⟨x_mem7 64 (by decide +kernel), x_mem7 65 (by decide +kernel)⟩
theorem lm_86 : x_ml RL 86 yX11_feed cX11_feed 4 (some .int) 3 := ⟨⟨x_mem3 228 (by decide +kernel), x_mem1 1 (by decide +kernel), x_mem3 231 (by decide +kernel)⟩, by decide +kernel⟩
theorem lv_86 : x_mv yX11_feed := ⟨x_mem3 229 (by decide +kernel), x_mem3 230 (by decide +kernel)⟩
theorem lm_89 : x_ml RL 89 yX12_feed cX12_feed 6 (some .int) 3 := ⟨⟨x_mem6 163 (by decide +kernel), x_mem1 13 (by decide +kernel), x_mem6 166 (by decide +kernel)⟩, by decide +kernel⟩
theorem lv_89 : x_mv yX12_feed := ⟨x_mem6 164 (by decide +kernel), x_mem6 165 (by decide +kernel)⟩
theorem lm_90 : x_ml RL 90 yX11_trim cX11_trim 2 (some .int) 1 := ⟨⟨x_mem3 237 (by decide +kernel), x_mem1 1 (by decide +kernel), x_mem4 0 (by decide +kernel)⟩, by decide +kernel⟩
theorem lv_90 : x_mv yX11_trim := ⟨x_mem3 238 (by decide +kernel), x_mem3 239 (by decide +kernel)⟩
theorem lm_93 : x_ml RL 93 yX12_trim cX12_trim 2 (some .int) 1 := ⟨⟨x_mem6 167 (by decide +kernel), x_mem1 13 (by decide +kernel), x_mem6 170 (by decide +kernel)⟩, by decide +kernel⟩
theorem lv_93 : x_mv yX12_trim := ⟨x_mem6 168 (by decide +kernel), x_mem6 169 (by decide +kernel)⟩
theorem lm_94 : x_ml RL 94 yX11_terms cX11_terms 3 (some .int) 1 := ⟨⟨x_mem4 1 (by decide +kernel), x_mem1 1 (by decide +kernel), x_mem4 4 (by decide +kernel)⟩, by decide +kernel⟩
theorem lv_94 : x_mv yX11_terms := ⟨x_mem4 2 (by decide +kernel), x_mem4 3 (by decide +kernel)⟩
theorem lm_97 : x_ml RL 97 yX12_terms cX12_terms 4 (some .int) 1 := ⟨⟨x_mem6 171 (by decide +kernel), x_mem1 13 (by decide +kernel), x_mem6 174 (by decide +kernel)⟩, by decide +kernel⟩
theorem lv_97 : x_mv yX12_terms := ⟨x_mem6 172 (by decide +kernel), x_mem6 173 (by decide +kernel)⟩
theorem lm_98 : x_ml RL 98 yX11_flight cX11_flight 5 (some .int) 4 := ⟨⟨x_mem4 226 (by decide +kernel), x_mem1 1 (by decide +kernel), x_mem4 229 (by decide +kernel)⟩, by decide +kernel⟩
theorem lv_98 : x_mv yX11_flight := ⟨x_mem4 227 (by decide +kernel), x_mem4 228 (by decide +kernel)⟩
theorem lm_101 : x_ml RL 101 yX12_flight cX12_flight 6 (some .int) 4 := ⟨⟨x_mem7 67 (by decide +kernel), x_mem1 13 (by decide +kernel), x_mem7 70 (by decide +kernel)⟩, by decide +kernel⟩
theorem lv_101 : x_mv yX12_flight := ⟨x_mem7 68 (by decide +kernel), x_mem7 69 (by decide +kernel)⟩
theorem lm_102 : x_ml RL 102 yX11_ask cX11_ask 4 (some .int) 3 := ⟨⟨x_mem4 235 (by decide +kernel), x_mem1 1 (by decide +kernel), x_mem4 238 (by decide +kernel)⟩, by decide +kernel⟩
theorem lv_102 : x_mv yX11_ask := ⟨x_mem4 236 (by decide +kernel), x_mem4 237 (by decide +kernel)⟩
theorem lm_105 : x_ml RL 105 yX12_ask cX12_ask 5 (some .int) 3 := ⟨⟨x_mem7 71 (by decide +kernel), x_mem1 13 (by decide +kernel), x_mem7 74 (by decide +kernel)⟩, by decide +kernel⟩
theorem lv_105 : x_mv yX12_ask := ⟨x_mem7 72 (by decide +kernel), x_mem7 73 (by decide +kernel)⟩
theorem lm_106 : x_ml RL 106 yX11_settle cX11_settle 5 (some .int) 1 := ⟨⟨x_mem5 8 (by decide +kernel), x_mem1 1 (by decide +kernel), x_mem5 11 (by decide +kernel)⟩, by decide +kernel⟩
theorem lv_106 : x_mv yX11_settle := ⟨x_mem5 9 (by decide +kernel), x_mem5 10 (by decide +kernel)⟩
theorem lm_109 : x_ml RL 109 yX12_settle cX12_settle 6 (some .int) 1 := ⟨⟨x_mem7 79 (by decide +kernel), x_mem1 13 (by decide +kernel), x_mem7 82 (by decide +kernel)⟩, by decide +kernel⟩
theorem lv_109 : x_mv yX12_settle := ⟨x_mem7 80 (by decide +kernel), x_mem7 81 (by decide +kernel)⟩
theorem lm_110 : x_ml RL 110 yX11_asked cX11_asked 4 (some .int) 2 := ⟨⟨x_mem5 30 (by decide +kernel), x_mem1 1 (by decide +kernel), x_mem5 33 (by decide +kernel)⟩, by decide +kernel⟩
theorem lv_110 : x_mv yX11_asked := ⟨x_mem5 31 (by decide +kernel), x_mem5 32 (by decide +kernel)⟩
theorem lm_113 : x_ml RL 113 yX12_asked cX12_asked 3 (some .int) 2 := ⟨⟨x_mem7 91 (by decide +kernel), x_mem1 13 (by decide +kernel), x_mem7 94 (by decide +kernel)⟩, by decide +kernel⟩
theorem lv_113 : x_mv yX12_asked := ⟨x_mem7 92 (by decide +kernel), x_mem7 93 (by decide +kernel)⟩
theorem lm_114 : x_ml RL 114 yX11_open cX11_open 2 (some .int) 1 := ⟨⟨x_mem5 34 (by decide +kernel), x_mem1 1 (by decide +kernel), x_mem5 37 (by decide +kernel)⟩, by decide +kernel⟩
theorem lv_114 : x_mv yX11_open := ⟨x_mem5 35 (by decide +kernel), x_mem5 36 (by decide +kernel)⟩
theorem lm_117 : x_ml RL 117 yX12_open cX12_open 2 (some .int) 1 := ⟨⟨x_mem7 95 (by decide +kernel), x_mem1 13 (by decide +kernel), x_mem7 98 (by decide +kernel)⟩, by decide +kernel⟩
theorem lv_117 : x_mv yX12_open := ⟨x_mem7 96 (by decide +kernel), x_mem7 97 (by decide +kernel)⟩
theorem lm_118 : x_ml RL 118 yX11_offer cX11_offer 4 (some .int) 3 := ⟨⟨x_mem5 38 (by decide +kernel), x_mem1 1 (by decide +kernel), x_mem5 41 (by decide +kernel)⟩, by decide +kernel⟩
theorem lv_118 : x_mv yX11_offer := ⟨x_mem5 39 (by decide +kernel), x_mem5 40 (by decide +kernel)⟩
theorem lm_121 : x_ml RL 121 yX12_offer cX12_offer 5 (some .int) 3 := ⟨⟨x_mem7 99 (by decide +kernel), x_mem1 13 (by decide +kernel), x_mem7 102 (by decide +kernel)⟩, by decide +kernel⟩
theorem lv_121 : x_mv yX12_offer := ⟨x_mem7 100 (by decide +kernel), x_mem7 101 (by decide +kernel)⟩
theorem lm_122 : x_ml RL 122 yX11_clear cX11_clear 2 (some .int) 0 := ⟨⟨x_mem5 51 (by decide +kernel), x_mem1 1 (by decide +kernel), x_mem5 54 (by decide +kernel)⟩, by decide +kernel⟩
theorem lv_122 : x_mv yX11_clear := ⟨x_mem5 52 (by decide +kernel), x_mem5 53 (by decide +kernel)⟩
theorem lm_126 : x_ml RL 126 yX12_clear cX12_clear 2 (some .int) 0 := ⟨⟨x_mem7 103 (by decide +kernel), x_mem1 13 (by decide +kernel), x_mem7 106 (by decide +kernel)⟩, by decide +kernel⟩
theorem lv_126 : x_mv yX12_clear := ⟨x_mem7 104 (by decide +kernel), x_mem7 105 (by decide +kernel)⟩
theorem lm_127 : x_ml RL 127 yX11_way cX11_way 2 (some .int) 1 := ⟨⟨x_mem5 55 (by decide +kernel), x_mem1 1 (by decide +kernel), x_mem5 58 (by decide +kernel)⟩, by decide +kernel⟩
theorem lv_127 : x_mv yX11_way := ⟨x_mem5 56 (by decide +kernel), x_mem5 57 (by decide +kernel)⟩
theorem lm_130 : x_ml RL 130 yX12_way cX12_way 3 (some .int) 1 := ⟨⟨x_mem7 107 (by decide +kernel), x_mem1 13 (by decide +kernel), x_mem7 110 (by decide +kernel)⟩, by decide +kernel⟩
theorem lv_130 : x_mv yX12_way := ⟨x_mem7 108 (by decide +kernel), x_mem7 109 (by decide +kernel)⟩
theorem lm_131 : x_ml RL 131 yX11_taken cX11_taken 3 (some .int) 2 := ⟨⟨x_mem5 89 (by decide +kernel), x_mem1 1 (by decide +kernel), x_mem5 92 (by decide +kernel)⟩, by decide +kernel⟩
theorem lv_131 : x_mv yX11_taken := ⟨x_mem5 90 (by decide +kernel), x_mem5 91 (by decide +kernel)⟩
theorem lm_134 : x_ml RL 134 yX12_taken cX12_taken 3 (some .int) 2 := ⟨⟨x_mem7 124 (by decide +kernel), x_mem1 13 (by decide +kernel), x_mem7 127 (by decide +kernel)⟩, by decide +kernel⟩
theorem lv_134 : x_mv yX12_taken := ⟨x_mem7 125 (by decide +kernel), x_mem7 126 (by decide +kernel)⟩
theorem lm_135 : x_ml RL 135 yX11_tell cX11_tell 2 (some .int) 1 := ⟨⟨x_mem5 98 (by decide +kernel), x_mem1 1 (by decide +kernel), x_mem5 101 (by decide +kernel)⟩, by decide +kernel⟩
theorem lv_135 : x_mv yX11_tell := ⟨x_mem5 99 (by decide +kernel), x_mem5 100 (by decide +kernel)⟩
theorem lm_138 : x_ml RL 138 yX12_tell cX12_tell 2 (some .int) 1 := ⟨⟨x_mem7 128 (by decide +kernel), x_mem1 13 (by decide +kernel), x_mem7 131 (by decide +kernel)⟩, by decide +kernel⟩
theorem lv_138 : x_mv yX12_tell := ⟨x_mem7 129 (by decide +kernel), x_mem7 130 (by decide +kernel)⟩
theorem lm_139 : x_ml RL 139 yX11_check cX11_check 6 (some .int) 1 := ⟨⟨x_mem5 102 (by decide +kernel), x_mem1 1 (by decide +kernel), x_mem5 105 (by decide +kernel)⟩, by decide +kernel⟩
theorem lv_139 : x_mv yX11_check := ⟨x_mem5 103 (by decide +kernel), x_mem5 104 (by decide +kernel)⟩
theorem lm_142 : x_ml RL 142 yX12_check cX12_check 4 (some .int) 1 := ⟨⟨x_mem7 132 (by decide +kernel), x_mem1 13 (by decide +kernel), x_mem7 135 (by decide +kernel)⟩, by decide +kernel⟩
theorem lv_142 : x_mv yX12_check := ⟨x_mem7 133 (by decide +kernel), x_mem7 134 (by decide +kernel)⟩
theorem lm_143 : x_ml RL 143 yX11_ring cX11_ring 2 (some .int) 1 := ⟨⟨x_mem5 106 (by decide +kernel), x_mem1 1 (by decide +kernel), x_mem5 109 (by decide +kernel)⟩, by decide +kernel⟩
theorem lv_143 : x_mv yX11_ring := ⟨x_mem5 107 (by decide +kernel), x_mem5 108 (by decide +kernel)⟩
theorem lm_146 : x_ml RL 146 yX12_ring cX12_ring 7 (some .int) 1 := ⟨⟨x_mem7 136 (by decide +kernel), x_mem1 13 (by decide +kernel), x_mem7 139 (by decide +kernel)⟩, by decide +kernel⟩
theorem lv_146 : x_mv yX12_ring := ⟨x_mem7 137 (by decide +kernel), x_mem7 138 (by decide +kernel)⟩
theorem lm_147 : x_ml RL 147 yX11_keep cX11_keep 1 (some .int) 0 := ⟨⟨x_mem5 124 (by decide +kernel), x_mem1 1 (by decide +kernel), x_mem5 127 (by decide +kernel)⟩, by decide +kernel⟩
theorem lv_147 : x_mv yX11_keep := ⟨x_mem5 125 (by decide +kernel), x_mem5 126 (by decide +kernel)⟩
theorem lm_150 : x_ml RL 150 yX12_keep cX12_keep 2 (some .int) 0 := ⟨⟨x_mem7 144 (by decide +kernel), x_mem1 13 (by decide +kernel), x_mem7 147 (by decide +kernel)⟩, by decide +kernel⟩
theorem lv_150 : x_mv yX12_keep := ⟨x_mem7 145 (by decide +kernel), x_mem7 146 (by decide +kernel)⟩
theorem lm_151 : x_ml RL 151 yX11_again cX11_again 1 (some .int) 0 := ⟨⟨x_mem5 161 (by decide +kernel), x_mem1 1 (by decide +kernel), x_mem5 164 (by decide +kernel)⟩, by decide +kernel⟩
theorem lv_151 : x_mv yX11_again := ⟨x_mem5 162 (by decide +kernel), x_mem5 163 (by decide +kernel)⟩
theorem lm_154 : x_ml RL 154 yX12_again cX12_again 2 (some .int) 0 := ⟨⟨x_mem7 148 (by decide +kernel), x_mem1 13 (by decide +kernel), x_mem7 151 (by decide +kernel)⟩, by decide +kernel⟩
theorem lv_154 : x_mv yX12_again := ⟨x_mem7 149 (by decide +kernel), x_mem7 150 (by decide +kernel)⟩
theorem lm_155 : x_ml RL 155 yX11_sheet cX11_sheet 4 (some .int) 2 := ⟨⟨x_mem5 165 (by decide +kernel), x_mem1 1 (by decide +kernel), x_mem5 168 (by decide +kernel)⟩, by decide +kernel⟩
theorem lv_155 : x_mv yX11_sheet := ⟨x_mem5 166 (by decide +kernel), x_mem5 167 (by decide +kernel)⟩
theorem lm_158 : x_ml RL 158 yX12_sheet cX12_sheet 4 (some .int) 2 := ⟨⟨x_mem7 152 (by decide +kernel), x_mem1 13 (by decide +kernel), x_mem7 155 (by decide +kernel)⟩, by decide +kernel⟩
theorem lv_158 : x_mv yX12_sheet := ⟨x_mem7 153 (by decide +kernel), x_mem7 154 (by decide +kernel)⟩
theorem lm_159 : x_ml RL 159 yX11_mark cX11_mark 5 (some .int) 3 := ⟨⟨x_mem5 170 (by decide +kernel), x_mem1 1 (by decide +kernel), x_mem5 173 (by decide +kernel)⟩, by decide +kernel⟩
theorem lv_159 : x_mv yX11_mark := ⟨x_mem5 171 (by decide +kernel), x_mem5 172 (by decide +kernel)⟩
theorem lm_162 : x_ml RL 162 yX12_mark cX12_mark 5 (some .int) 3 := ⟨⟨x_mem7 157 (by decide +kernel), x_mem1 13 (by decide +kernel), x_mem7 160 (by decide +kernel)⟩, by decide +kernel⟩
theorem lv_162 : x_mv yX12_mark := ⟨x_mem7 158 (by decide +kernel), x_mem7 159 (by decide +kernel)⟩
theorem lm_163 : x_ml RL 163 yX11_copy cX11_copy 6 (some .int) 5 := ⟨⟨x_mem5 175 (by decide +kernel), x_mem1 1 (by decide +kernel), x_mem5 178 (by decide +kernel)⟩, by decide +kernel⟩
theorem lv_163 : x_mv yX11_copy := ⟨x_mem5 176 (by decide +kernel), x_mem5 177 (by decide +kernel)⟩
theorem lm_166 : x_ml RL 166 yX12_copy cX12_copy 7 (some .int) 5 := ⟨⟨x_mem7 162 (by decide +kernel), x_mem1 13 (by decide +kernel), x_mem7 165 (by decide +kernel)⟩, by decide +kernel⟩
theorem lv_166 : x_mv yX12_copy := ⟨x_mem7 163 (by decide +kernel), x_mem7 164 (by decide +kernel)⟩
theorem lm_167 : x_ml RL 167 yX11_count cX11_count 2 (some .int) 1 := ⟨⟨x_mem5 183 (by decide +kernel), x_mem1 1 (by decide +kernel), x_mem5 186 (by decide +kernel)⟩, by decide +kernel⟩
theorem lv_167 : x_mv yX11_count := ⟨x_mem5 184 (by decide +kernel), x_mem5 185 (by decide +kernel)⟩
theorem lm_170 : x_ml RL 170 yX12_count cX12_count 4 (some .int) 1 := ⟨⟨x_mem7 166 (by decide +kernel), x_mem1 13 (by decide +kernel), x_mem7 169 (by decide +kernel)⟩, by decide +kernel⟩
theorem lv_170 : x_mv yX12_count := ⟨x_mem7 167 (by decide +kernel), x_mem7 168 (by decide +kernel)⟩
theorem lw_new1 : x_nw RL 7 RX11 11 := ⟨x_mem1w (by decide +kernel), x_mem1w (by decide +kernel), x_mem1w (by decide +kernel)⟩
theorem lw_new2 : x_nw RL 10 RX12 39 := ⟨x_mem1w (by decide +kernel), x_mem1w (by decide +kernel), x_mem1w (by decide +kernel)⟩
theorem lw_in1 : Cond.methodLink RL 9 yX11_init ∈ wsU := x_mem1w (by decide +kernel)
theorem lw_in2 : Cond.methodLink RL 12 yX12_init ∈ wsU := x_mem1w (by decide +kernel)
def y_H_member (Rl : Nat → x_M → x_M → Prop) : Prop := ∀ (NC : Nat) (X M : x_M) (a1 : Int32) (a2 : Int32), Rl NC X M → ∃ (r : Int32) (X' M' : x_M), f_X11_member X a1 a2 = some (r, X') ∧ f_X12_member M a1 a2 = some (r, M') ∧ Rl NC X' M'
def y_H_is (Rl : Nat → x_M → x_M → Prop) : Prop := ∀ (NC : Nat) (X M : x_M) (a1 : Int32) (a2 : Int32), Rl NC X M → ∃ (r : Int32) (X' M' : x_M), f_X11_is X a1 a2 = some (r, X') ∧ f_X12_is M a1 a2 = some (r, M') ∧ Rl NC X' M'
def y_H_pool (Rl : Nat → x_M → x_M → Prop) : Prop := ∀ (NC : Nat) (X M : x_M) (a1 : Int32) (a2 : Int32), Rl NC X M → ∃ (r : Int32) (X' M' : x_M), f_X11_pool X a1 a2 = some (r, X') ∧ f_X12_pool M a1 a2 = some (r, M') ∧ Rl NC X' M'
def y_H_marks (Rl : Nat → x_M → x_M → Prop) : Prop := ∀ (NC : Nat) (X M : x_M) (a1 : Int32) (a2 : Int32), Rl NC X M → ∃ (r : Int32) (X' M' : x_M), f_X11_marks X a1 a2 = some (r, X') ∧ f_X12_marks M a1 a2 = some (r, M') ∧ Rl NC X' M'
def y_H_lay (Rl : Nat → x_M → x_M → Prop) : Prop := ∀ (NC : Nat) (X M : x_M) (a1 : Int32), Rl NC X M → ∃ (r : Int32) (X' M' : x_M), f_X11_lay X a1 = some (r, X') ∧ f_X12_lay M a1 = some (r, M') ∧ Rl NC X' M'
def y_H_days (Rl : Nat → x_M → x_M → Prop) : Prop := ∀ (NC : Nat) (X M : x_M) (a1 : Int32), Rl NC X M → ∃ (r : Int32) (X' M' : x_M), f_X11_days X a1 = some (r, X') ∧ f_X12_days M a1 = some (r, M') ∧ Rl NC X' M'
def y_H_rule (Rl : Nat → x_M → x_M → Prop) : Prop := ∀ (NC : Nat) (X M : x_M) (a1 : Int32) (a2 : Int32), Rl NC X M → ∃ (r : Int32) (X' M' : x_M), f_X11_rule X a1 a2 = some (r, X') ∧ f_X12_rule M a1 a2 = some (r, M') ∧ Rl NC X' M'
def y_H_fly (Rl : Nat → x_M → x_M → Prop) : Prop := ∀ (NC : Nat) (X M : x_M) (a1 : Int32) (a2 : Int32) (a3 : Int32) (a4 : Int32) (a5 : Int32), Rl NC X M → ∃ (r : Int32) (X' M' : x_M), f_X11_fly X a1 a2 a3 a4 a5 = some (r, X') ∧ f_X12_fly M a1 a2 a3 a4 a5 = some (r, M') ∧ Rl NC X' M'
def y_H_spend (Rl : Nat → x_M → x_M → Prop) : Prop := ∀ (NC : Nat) (X M : x_M) (a1 : Int32) (a2 : Int32) (a3 : Int32) (a4 : Int32), Rl NC X M → ∃ (r : Int32) (X' M' : x_M), f_X11_spend X a1 a2 a3 a4 = some (r, X') ∧ f_X12_spend M a1 a2 a3 a4 = some (r, M') ∧ Rl NC X' M'
def y_H_gift (Rl : Nat → x_M → x_M → Prop) : Prop := ∀ (NC : Nat) (X M : x_M) (a1 : Int32) (a2 : Int32) (a3 : Int32) (a4 : Int32), Rl NC X M → ∃ (r : Int32) (X' M' : x_M), f_X11_gift X a1 a2 a3 a4 = some (r, X') ∧ f_X12_gift M a1 a2 a3 a4 = some (r, M') ∧ Rl NC X' M'
def y_H_back (Rl : Nat → x_M → x_M → Prop) : Prop := ∀ (NC : Nat) (X M : x_M) (a1 : Int32) (a2 : Int32), Rl NC X M → ∃ (r : Int32) (X' M' : x_M), f_X11_back X a1 a2 = some (r, X') ∧ f_X12_back M a1 a2 = some (r, M') ∧ Rl NC X' M'
def y_H_withdraw (Rl : Nat → x_M → x_M → Prop) : Prop := ∀ (NC : Nat) (X M : x_M) (a1 : Int32), Rl NC X M → ∃ (r : Int32) (X' M' : x_M), f_X11_withdraw X a1 = some (r, X') ∧ f_X12_withdraw M a1 = some (r, M') ∧ Rl NC X' M'
def y_H_line (Rl : Nat → x_M → x_M → Prop) : Prop := ∀ (NC : Nat) (X M : x_M) (a1 : Int32) (a2 : Int32), Rl NC X M → ∃ (r : Int32) (X' M' : x_M), f_X11_line X a1 a2 = some (r, X') ∧ f_X12_line M a1 a2 = some (r, M') ∧ Rl NC X' M'
def y_H_stands (Rl : Nat → x_M → x_M → Prop) : Prop := ∀ (NC : Nat) (X M : x_M) (a1 : Int32) (a2 : Int32) (a3 : Int32) (a4 : Int32), Rl NC X M → ∃ (r : Int32) (X' M' : x_M), f_X11_stands NC X a1 a2 a3 a4 = some (r, X') ∧ f_X12_stands M a1 a2 a3 a4 = some (r, M') ∧ Rl NC X' M'
def y_H_brought (Rl : Nat → x_M → x_M → Prop) : Prop := ∀ (NC : Nat) (X M : x_M) (a1 : Int32) (a2 : Int32) (a3 : Int32), Rl NC X M → ∃ (r : Int32) (X' M' : x_M), f_X11_brought NC X a1 a2 a3 = some (r, X') ∧ f_X12_brought M a1 a2 a3 = some (r, M') ∧ Rl NC X' M'
def y_H_owes (Rl : Nat → x_M → x_M → Prop) : Prop := ∀ (NC : Nat) (X M : x_M) (a1 : Int32) (a2 : Int32) (a3 : Int32), Rl NC X M → ∃ (r : Int32) (X' M' : x_M), f_X11_owes NC X a1 a2 a3 = some (r, X') ∧ f_X12_owes M a1 a2 a3 = some (r, M') ∧ Rl NC X' M'
def y_H_rate (Rl : Nat → x_M → x_M → Prop) : Prop := ∀ (NC : Nat) (X M : x_M) (a1 : Int32) (a2 : Int32) (a3 : Int32), Rl NC X M → ∃ (r : Int32) (X' M' : x_M), f_X11_rate X a1 a2 a3 = some (r, X') ∧ f_X12_rate M a1 a2 a3 = some (r, M') ∧ Rl NC X' M'
def y_H_feed (Rl : Nat → x_M → x_M → Prop) : Prop := ∀ (NC : Nat) (X M : x_M) (a1 : Int32) (a2 : Int32) (a3 : Int32), Rl NC X M → ∃ (r : Int32) (X' M' : x_M), f_X11_feed X a1 a2 a3 = some (r, X') ∧ f_X12_feed M a1 a2 a3 = some (r, M') ∧ Rl NC X' M'
def y_H_trim (Rl : Nat → x_M → x_M → Prop) : Prop := ∀ (NC : Nat) (X M : x_M) (a1 : Int32), Rl NC X M → ∃ (r : Int32) (X' M' : x_M), f_X11_trim X a1 = some (r, X') ∧ f_X12_trim M a1 = some (r, M') ∧ Rl NC X' M'
def y_H_terms (Rl : Nat → x_M → x_M → Prop) : Prop := ∀ (NC : Nat) (X M : x_M) (a1 : Int32), Rl NC X M → NC + 3 ≤ 100000 → ∃ (r : Int32) (NC' : Nat) (X' M' : x_M), f_X11_terms NC X a1 = some ((r, NC'), X') ∧ f_X12_terms M a1 = some (r, M') ∧ NC' ≤ NC + 3 ∧ Rl NC' X' M'
def y_H_flight (Rl : Nat → x_M → x_M → Prop) : Prop := ∀ (NC : Nat) (X M : x_M) (a1 : Int32) (a2 : Int32) (a3 : Int32) (a4 : Int32), Rl NC X M → ∃ (r : Int32) (X' M' : x_M), f_X11_flight X a1 a2 a3 a4 = some (r, X') ∧ f_X12_flight M a1 a2 a3 a4 = some (r, M') ∧ Rl NC X' M'
def y_H_ask (Rl : Nat → x_M → x_M → Prop) : Prop := ∀ (NC : Nat) (X M : x_M) (a1 : Int32) (a2 : Int32) (a3 : Int32), Rl NC X M → ∃ (r : Int32) (X' M' : x_M), f_X11_ask X a1 a2 a3 = some (r, X') ∧ f_X12_ask M a1 a2 a3 = some (r, M') ∧ Rl NC X' M'
def y_H_settle (Rl : Nat → x_M → x_M → Prop) : Prop := ∀ (NC : Nat) (X M : x_M) (a1 : Int32), Rl NC X M → ∃ (r : Int32) (X' M' : x_M), f_X11_settle NC X a1 = some (r, X') ∧ f_X12_settle M a1 = some (r, M') ∧ Rl NC X' M'
def y_H_asked (Rl : Nat → x_M → x_M → Prop) : Prop := ∀ (NC : Nat) (X M : x_M) (a1 : Int32) (a2 : Int32), Rl NC X M → ∃ (r : Int32) (X' M' : x_M), f_X11_asked X a1 a2 = some (r, X') ∧ f_X12_asked M a1 a2 = some (r, M') ∧ Rl NC X' M'
def y_H_open (Rl : Nat → x_M → x_M → Prop) : Prop := ∀ (NC : Nat) (X M : x_M) (a1 : Int32), Rl NC X M → ∃ (r : Int32) (X' M' : x_M), f_X11_open X a1 = some (r, X') ∧ f_X12_open M a1 = some (r, M') ∧ Rl NC X' M'
def y_H_offer (Rl : Nat → x_M → x_M → Prop) : Prop := ∀ (NC : Nat) (X M : x_M) (a1 : Int32) (a2 : Int32) (a3 : Int32), Rl NC X M → ∃ (r : Int32) (X' M' : x_M), f_X11_offer X a1 a2 a3 = some (r, X') ∧ f_X12_offer M a1 a2 a3 = some (r, M') ∧ Rl NC X' M'
def y_H_clear (Rl : Nat → x_M → x_M → Prop) : Prop := ∀ (NC : Nat) (X M : x_M), Rl NC X M → ∃ (r : Int32) (X' M' : x_M), f_X11_clear X = some (r, X') ∧ f_X12_clear M = some (r, M') ∧ Rl NC X' M'
def y_H_way (Rl : Nat → x_M → x_M → Prop) : Prop := ∀ (NC : Nat) (X M : x_M) (a1 : Int32), Rl NC X M → ∃ (r : Int32) (X' M' : x_M), f_X11_way X a1 = some (r, X') ∧ f_X12_way M a1 = some (r, M') ∧ Rl NC X' M'
def y_H_taken (Rl : Nat → x_M → x_M → Prop) : Prop := ∀ (NC : Nat) (X M : x_M) (a1 : Int32) (a2 : Int32), Rl NC X M → ∃ (r : Int32) (X' M' : x_M), f_X11_taken X a1 a2 = some (r, X') ∧ f_X12_taken M a1 a2 = some (r, M') ∧ Rl NC X' M'
def y_H_tell (Rl : Nat → x_M → x_M → Prop) : Prop := ∀ (NC : Nat) (X M : x_M) (a1 : Int32), Rl NC X M → ∃ (r : Int32) (X' M' : x_M), f_X11_tell X a1 = some (r, X') ∧ f_X12_tell M a1 = some (r, M') ∧ Rl NC X' M'
def y_H_check (Rl : Nat → x_M → x_M → Prop) : Prop := ∀ (NC : Nat) (X M : x_M) (a1 : Int32), Rl NC X M → ∃ (r : Int32) (X' M' : x_M), f_X11_check X a1 = some (r, X') ∧ f_X12_check M a1 = some (r, M') ∧ Rl NC X' M'
def y_H_ring (Rl : Nat → x_M → x_M → Prop) : Prop := ∀ (NC : Nat) (X M : x_M) (a1 : Int32), Rl NC X M → ∃ (r : Int32) (X' M' : x_M), f_X11_ring X a1 = some (r, X') ∧ f_X12_ring M a1 = some (r, M') ∧ Rl NC X' M'
def y_H_keep (Rl : Nat → x_M → x_M → Prop) : Prop := ∀ (NC : Nat) (X M : x_M), Rl NC X M → ∃ (r : Int32) (X' M' : x_M), f_X11_keep NC X = some (r, X') ∧ f_X12_keep M = some (r, M') ∧ Rl NC X' M'
def y_H_again (Rl : Nat → x_M → x_M → Prop) : Prop := ∀ (NC : Nat) (X M : x_M), Rl NC X M → ∃ (r : Int32) (X' M' : x_M), f_X11_again NC X = some (r, X') ∧ f_X12_again M = some (r, M') ∧ Rl NC X' M'
def y_H_sheet (Rl : Nat → x_M → x_M → Prop) : Prop := ∀ (NC : Nat) (X M : x_M) (a1 : Int32) (a2 : Int32), Rl NC X M → ∃ (r : Int32) (X' M' : x_M), f_X11_sheet X a1 a2 = some (r, X') ∧ f_X12_sheet M a1 a2 = some (r, M') ∧ Rl NC X' M'
def y_H_mark (Rl : Nat → x_M → x_M → Prop) : Prop := ∀ (NC : Nat) (X M : x_M) (a1 : Int32) (a2 : Int32) (a3 : Int32), Rl NC X M → ∃ (r : Int32) (X' M' : x_M), f_X11_mark X a1 a2 a3 = some (r, X') ∧ f_X12_mark M a1 a2 a3 = some (r, M') ∧ Rl NC X' M'
def y_H_copy (Rl : Nat → x_M → x_M → Prop) : Prop := ∀ (NC : Nat) (X M : x_M) (a1 : Int32) (a2 : Int32) (a3 : Int32) (a4 : Int32) (a5 : Int32), Rl NC X M → ∃ (r : Int32) (X' M' : x_M), f_X11_copy X a1 a2 a3 a4 a5 = some (r, X') ∧ f_X12_copy M a1 a2 a3 a4 a5 = some (r, M') ∧ Rl NC X' M'
def y_H_count (Rl : Nat → x_M → x_M → Prop) : Prop := ∀ (NC : Nat) (X M : x_M) (a1 : Int32), Rl NC X M → ∃ (r : Int32) (X' M' : x_M), f_X11_count X a1 = some (r, X') ∧ f_X12_count M a1 = some (r, M') ∧ Rl NC X' M'
