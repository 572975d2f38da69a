theorem q_t298 : lw_g (Cond.methodLink RL 13 yX10_letter) := ⟨gi_t1 58 rfl, Or.inl rfl⟩
theorem q_t299 : lw_g (Cond.instanceMethod yX10_letter) := ⟨gi_t1 59 rfl, Or.inl rfl⟩
theorem q_t300 : lw_g (Cond.selects RX10 yX10_letter yX10_letter) := ⟨gi_t1 60 rfl, Or.inl rfl⟩
theorem gv_X10_letter : GoodIn lw_tbl (wsV RL 13 RX10 yX10_letter wsX10_letter) := gi_a (gi_c q_t298 (gi_c q_t299 (gi_c q_t300 (gi_c q_t1 gi_n)))) gw_wsX10_letter
theorem q_t763 : lw_g (Cond.methodLink RL 17 yX11_letter) := ⟨gi_t3 43 rfl, Or.inl rfl⟩
theorem q_t764 : lw_g (Cond.instanceMethod yX11_letter) := ⟨gi_t3 44 rfl, Or.inl rfl⟩
theorem q_t765 : lw_g (Cond.selects RX11 yX11_letter yX11_letter) := ⟨gi_t3 45 rfl, Or.inl rfl⟩
theorem gv_X11_letter : GoodIn lw_tbl (wsV RL 17 RX11 yX11_letter wsX11_letter) := gi_a (gi_c q_t763 (gi_c q_t764 (gi_c q_t765 (gi_c q_t12 gi_n)))) gw_wsX11_letter
theorem q_t313 : lw_g (Cond.methodLink RL 18 yX10_product) := ⟨gi_t1 73 rfl, Or.inl rfl⟩
theorem q_t314 : lw_g (Cond.instanceMethod yX10_product) := ⟨gi_t1 74 rfl, Or.inl rfl⟩
theorem q_t315 : lw_g (Cond.selects RX10 yX10_product yX10_product) := ⟨gi_t1 75 rfl, Or.inl rfl⟩
theorem gv_X10_product : GoodIn lw_tbl (wsV RL 18 RX10 yX10_product wsX10_product) := gi_a (gi_c q_t313 (gi_c q_t314 (gi_c q_t315 (gi_c q_t1 gi_n)))) gw_wsX10_product
theorem q_t774 : lw_g (Cond.methodLink RL 22 yX11_product) := ⟨gi_t3 54 rfl, Or.inl rfl⟩
theorem q_t775 : lw_g (Cond.instanceMethod yX11_product) := ⟨gi_t3 55 rfl, Or.inl rfl⟩
theorem q_t776 : lw_g (Cond.selects RX11 yX11_product yX11_product) := ⟨gi_t3 56 rfl, Or.inl rfl⟩
theorem gv_X11_product : GoodIn lw_tbl (wsV RL 22 RX11 yX11_product wsX11_product) := gi_a (gi_c q_t774 (gi_c q_t775 (gi_c q_t776 (gi_c q_t12 gi_n)))) gw_wsX11_product
theorem q_t327 : lw_g (Cond.methodLink RL 23 yX10_as) := ⟨gi_t1 87 rfl, Or.inl rfl⟩
theorem q_t328 : lw_g (Cond.instanceMethod yX10_as) := ⟨gi_t1 88 rfl, Or.inl rfl⟩
theorem q_t329 : lw_g (Cond.selects RX10 yX10_as yX10_as) := ⟨gi_t1 89 rfl, Or.inl rfl⟩
theorem gv_X10_as : GoodIn lw_tbl (wsV RL 23 RX10 yX10_as wsX10_as) := gi_a (gi_c q_t327 (gi_c q_t328 (gi_c q_t329 (gi_c q_t1 gi_n)))) gw_wsX10_as
theorem q_t778 : lw_g (Cond.methodLink RL 27 yX11_as) := ⟨gi_t3 58 rfl, Or.inl rfl⟩
theorem q_t779 : lw_g (Cond.instanceMethod yX11_as) := ⟨gi_t3 59 rfl, Or.inl rfl⟩
theorem q_t780 : lw_g (Cond.selects RX11 yX11_as yX11_as) := ⟨gi_t3 60 rfl, Or.inl rfl⟩
theorem gv_X11_as : GoodIn lw_tbl (wsV RL 27 RX11 yX11_as wsX11_as) := gi_a (gi_c q_t778 (gi_c q_t779 (gi_c q_t780 (gi_c q_t12 gi_n)))) gw_wsX11_as
theorem q_t335 : lw_g (Cond.methodLink RL 28 yX10_rule) := ⟨gi_t1 95 rfl, Or.inl rfl⟩
theorem q_t336 : lw_g (Cond.instanceMethod yX10_rule) := ⟨gi_t1 96 rfl, Or.inl rfl⟩
theorem q_t337 : lw_g (Cond.selects RX10 yX10_rule yX10_rule) := ⟨gi_t1 97 rfl, Or.inl rfl⟩
theorem gv_X10_rule : GoodIn lw_tbl (wsV RL 28 RX10 yX10_rule wsX10_rule) := gi_a (gi_c q_t335 (gi_c q_t336 (gi_c q_t337 (gi_c q_t1 gi_n)))) gw_wsX10_rule
theorem q_t790 : lw_g (Cond.methodLink RL 31 yX11_rule) := ⟨gi_t3 70 rfl, Or.inl rfl⟩
theorem q_t791 : lw_g (Cond.instanceMethod yX11_rule) := ⟨gi_t3 71 rfl, Or.inl rfl⟩
theorem q_t792 : lw_g (Cond.selects RX11 yX11_rule yX11_rule) := ⟨gi_t3 72 rfl, Or.inl rfl⟩
theorem gv_X11_rule : GoodIn lw_tbl (wsV RL 31 RX11 yX11_rule wsX11_rule) := gi_a (gi_c q_t790 (gi_c q_t791 (gi_c q_t792 (gi_c q_t12 gi_n)))) gw_wsX11_rule
theorem q_t354 : lw_g (Cond.methodLink RL 32 yX10_unrule) := ⟨gi_t1 114 rfl, Or.inl rfl⟩
theorem q_t355 : lw_g (Cond.instanceMethod yX10_unrule) := ⟨gi_t1 115 rfl, Or.inl rfl⟩
theorem q_t356 : lw_g (Cond.selects RX10 yX10_unrule yX10_unrule) := ⟨gi_t1 116 rfl, Or.inl rfl⟩
theorem gv_X10_unrule : GoodIn lw_tbl (wsV RL 32 RX10 yX10_unrule wsX10_unrule) := gi_a (gi_c q_t354 (gi_c q_t355 (gi_c q_t356 (gi_c q_t1 gi_n)))) gw_wsX10_unrule
theorem q_t798 : lw_g (Cond.methodLink RL 35 yX11_unrule) := ⟨gi_t3 78 rfl, Or.inl rfl⟩
theorem q_t799 : lw_g (Cond.instanceMethod yX11_unrule) := ⟨gi_t3 79 rfl, Or.inl rfl⟩
theorem q_t800 : lw_g (Cond.selects RX11 yX11_unrule yX11_unrule) := ⟨gi_t3 80 rfl, Or.inl rfl⟩
theorem gv_X11_unrule : GoodIn lw_tbl (wsV RL 35 RX11 yX11_unrule wsX11_unrule) := gi_a (gi_c q_t798 (gi_c q_t799 (gi_c q_t800 (gi_c q_t12 gi_n)))) gw_wsX11_unrule
theorem q_t366 : lw_g (Cond.methodLink RL 36 yX10_fits) := ⟨gi_t1 126 rfl, Or.inl rfl⟩
theorem q_t367 : lw_g (Cond.instanceMethod yX10_fits) := ⟨gi_t1 127 rfl, Or.inl rfl⟩
theorem q_t368 : lw_g (Cond.selects RX10 yX10_fits yX10_fits) := ⟨gi_t1 128 rfl, Or.inl rfl⟩
theorem gv_X10_fits : GoodIn lw_tbl (wsV RL 36 RX10 yX10_fits wsX10_fits) := gi_a (gi_c q_t366 (gi_c q_t367 (gi_c q_t368 (gi_c q_t1 gi_n)))) gw_wsX10_fits
theorem q_t810 : lw_g (Cond.methodLink RL 39 yX11_fits) := ⟨gi_t3 90 rfl, Or.inl rfl⟩
theorem q_t811 : lw_g (Cond.instanceMethod yX11_fits) := ⟨gi_t3 91 rfl, Or.inl rfl⟩
theorem q_t812 : lw_g (Cond.selects RX11 yX11_fits yX11_fits) := ⟨gi_t3 92 rfl, Or.inl rfl⟩
theorem gv_X11_fits : GoodIn lw_tbl (wsV RL 39 RX11 yX11_fits wsX11_fits) := gi_a (gi_c q_t810 (gi_c q_t811 (gi_c q_t812 (gi_c q_t12 gi_n)))) gw_wsX11_fits
theorem q_t379 : lw_g (Cond.methodLink RL 40 yX10_host) := ⟨gi_t1 139 rfl, Or.inl rfl⟩
theorem q_t380 : lw_g (Cond.instanceMethod yX10_host) := ⟨gi_t1 140 rfl, Or.inl rfl⟩
theorem q_t381 : lw_g (Cond.selects RX10 yX10_host yX10_host) := ⟨gi_t1 141 rfl, Or.inl rfl⟩
theorem gv_X10_host : GoodIn lw_tbl (wsV RL 40 RX10 yX10_host wsX10_host) := gi_a (gi_c q_t379 (gi_c q_t380 (gi_c q_t381 (gi_c q_t1 gi_n)))) gw_wsX10_host
theorem q_t830 : lw_g (Cond.methodLink RL 43 yX11_host) := ⟨gi_t3 110 rfl, Or.inl rfl⟩
theorem q_t831 : lw_g (Cond.instanceMethod yX11_host) := ⟨gi_t3 111 rfl, Or.inl rfl⟩
theorem q_t832 : lw_g (Cond.selects RX11 yX11_host yX11_host) := ⟨gi_t3 112 rfl, Or.inl rfl⟩
theorem gv_X11_host : GoodIn lw_tbl (wsV RL 43 RX11 yX11_host wsX11_host) := gi_a (gi_c q_t830 (gi_c q_t831 (gi_c q_t832 (gi_c q_t12 gi_n)))) gw_wsX11_host
theorem q_t387 : lw_g (Cond.methodLink RL 44 yX10_moved) := ⟨gi_t1 147 rfl, Or.inl rfl⟩
theorem q_t388 : lw_g (Cond.instanceMethod yX10_moved) := ⟨gi_t1 148 rfl, Or.inl rfl⟩
theorem q_t389 : lw_g (Cond.selects RX10 yX10_moved yX10_moved) := ⟨gi_t1 149 rfl, Or.inl rfl⟩
theorem gv_X10_moved : GoodIn lw_tbl (wsV RL 44 RX10 yX10_moved wsX10_moved) := gi_a (gi_c q_t387 (gi_c q_t388 (gi_c q_t389 (gi_c q_t1 gi_n)))) gw_wsX10_moved
theorem q_t834 : lw_g (Cond.methodLink RL 47 yX11_moved) := ⟨gi_t3 114 rfl, Or.inl rfl⟩
theorem q_t835 : lw_g (Cond.instanceMethod yX11_moved) := ⟨gi_t3 115 rfl, Or.inl rfl⟩
theorem q_t836 : lw_g (Cond.selects RX11 yX11_moved yX11_moved) := ⟨gi_t3 116 rfl, Or.inl rfl⟩
theorem gv_X11_moved : GoodIn lw_tbl (wsV RL 47 RX11 yX11_moved wsX11_moved) := gi_a (gi_c q_t834 (gi_c q_t835 (gi_c q_t836 (gi_c q_t12 gi_n)))) gw_wsX11_moved
theorem q_t395 : lw_g (Cond.methodLink RL 48 yX10_find) := ⟨gi_t1 155 rfl, Or.inl rfl⟩
theorem q_t396 : lw_g (Cond.instanceMethod yX10_find) := ⟨gi_t1 156 rfl, Or.inl rfl⟩
theorem q_t397 : lw_g (Cond.selects RX10 yX10_find yX10_find) := ⟨gi_t1 157 rfl, Or.inl rfl⟩
theorem gv_X10_find : GoodIn lw_tbl (wsV RL 48 RX10 yX10_find wsX10_find) := gi_a (gi_c q_t395 (gi_c q_t396 (gi_c q_t397 (gi_c q_t1 gi_n)))) gw_wsX10_find
theorem q_t846 : lw_g (Cond.methodLink RL 51 yX11_find) := ⟨gi_t3 126 rfl, Or.inl rfl⟩
theorem q_t847 : lw_g (Cond.instanceMethod yX11_find) := ⟨gi_t3 127 rfl, Or.inl rfl⟩
theorem q_t848 : lw_g (Cond.selects RX11 yX11_find yX11_find) := ⟨gi_t3 128 rfl, Or.inl rfl⟩
theorem gv_X11_find : GoodIn lw_tbl (wsV RL 51 RX11 yX11_find wsX11_find) := gi_a (gi_c q_t846 (gi_c q_t847 (gi_c q_t848 (gi_c q_t12 gi_n)))) gw_wsX11_find
theorem q_t413 : lw_g (Cond.methodLink RL 52 yX10_goes) := ⟨gi_t1 173 rfl, Or.inl rfl⟩
theorem q_t414 : lw_g (Cond.instanceMethod yX10_goes) := ⟨gi_t1 174 rfl, Or.inl rfl⟩
theorem q_t415 : lw_g (Cond.selects RX10 yX10_goes yX10_goes) := ⟨gi_t1 175 rfl, Or.inl rfl⟩
theorem gv_X10_goes : GoodIn lw_tbl (wsV RL 52 RX10 yX10_goes wsX10_goes) := gi_a (gi_c q_t413 (gi_c q_t414 (gi_c q_t415 (gi_c q_t1 gi_n)))) gw_wsX10_goes
theorem q_t850 : lw_g (Cond.methodLink RL 55 yX11_goes) := ⟨gi_t3 130 rfl, Or.inl rfl⟩
theorem q_t851 : lw_g (Cond.instanceMethod yX11_goes) := ⟨gi_t3 131 rfl, Or.inl rfl⟩
theorem q_t852 : lw_g (Cond.selects RX11 yX11_goes yX11_goes) := ⟨gi_t3 132 rfl, Or.inl rfl⟩
theorem gv_X11_goes : GoodIn lw_tbl (wsV RL 55 RX11 yX11_goes wsX11_goes) := gi_a (gi_c q_t850 (gi_c q_t851 (gi_c q_t852 (gi_c q_t12 gi_n)))) gw_wsX11_goes
theorem q_t426 : lw_g (Cond.methodLink RL 56 yX10_by) := ⟨gi_t1 186 rfl, Or.inl rfl⟩
theorem q_t427 : lw_g (Cond.instanceMethod yX10_by) := ⟨gi_t1 187 rfl, Or.inl rfl⟩
theorem q_t428 : lw_g (Cond.selects RX10 yX10_by yX10_by) := ⟨gi_t1 188 rfl, Or.inl rfl⟩
theorem gv_X10_by : GoodIn lw_tbl (wsV RL 56 RX10 yX10_by wsX10_by) := gi_a (gi_c q_t426 (gi_c q_t427 (gi_c q_t428 (gi_c q_t1 gi_n)))) gw_wsX10_by
theorem q_t862 : lw_g (Cond.methodLink RL 59 yX11_by) := ⟨gi_t3 142 rfl, Or.inl rfl⟩
theorem q_t863 : lw_g (Cond.instanceMethod yX11_by) := ⟨gi_t3 143 rfl, Or.inl rfl⟩
theorem q_t864 : lw_g (Cond.selects RX11 yX11_by yX11_by) := ⟨gi_t3 144 rfl, Or.inl rfl⟩
theorem gv_X11_by : GoodIn lw_tbl (wsV RL 59 RX11 yX11_by wsX11_by) := gi_a (gi_c q_t862 (gi_c q_t863 (gi_c q_t864 (gi_c q_t12 gi_n)))) gw_wsX11_by
theorem q_t431 : lw_g (Cond.methodLink RL 60 yX10_counts) := ⟨gi_t1 191 rfl, Or.inl rfl⟩
theorem q_t432 : lw_g (Cond.instanceMethod yX10_counts) := ⟨gi_t1 192 rfl, Or.inl rfl⟩
theorem q_t433 : lw_g (Cond.selects RX10 yX10_counts yX10_counts) := ⟨gi_t1 193 rfl, Or.inl rfl⟩
theorem gv_X10_counts : GoodIn lw_tbl (wsV RL 60 RX10 yX10_counts wsX10_counts) := gi_a (gi_c q_t431 (gi_c q_t432 (gi_c q_t433 (gi_c q_t1 gi_n)))) gw_wsX10_counts
theorem q_t866 : lw_g (Cond.methodLink RL 63 yX11_counts) := ⟨gi_t3 146 rfl, Or.inl rfl⟩
theorem q_t867 : lw_g (Cond.instanceMethod yX11_counts) := ⟨gi_t3 147 rfl, Or.inl rfl⟩
theorem q_t868 : lw_g (Cond.selects RX11 yX11_counts yX11_counts) := ⟨gi_t3 148 rfl, Or.inl rfl⟩
theorem gv_X11_counts : GoodIn lw_tbl (wsV RL 63 RX11 yX11_counts wsX11_counts) := gi_a (gi_c q_t866 (gi_c q_t867 (gi_c q_t868 (gi_c q_t12 gi_n)))) gw_wsX11_counts
theorem q_t445 : lw_g (Cond.methodLink RL 64 yX10_finds) := ⟨gi_t1 205 rfl, Or.inl rfl⟩
theorem q_t446 : lw_g (Cond.instanceMethod yX10_finds) := ⟨gi_t1 206 rfl, Or.inl rfl⟩
theorem q_t447 : lw_g (Cond.selects RX10 yX10_finds yX10_finds) := ⟨gi_t1 207 rfl, Or.inl rfl⟩
theorem gv_X10_finds : GoodIn lw_tbl (wsV RL 64 RX10 yX10_finds wsX10_finds) := gi_a (gi_c q_t445 (gi_c q_t446 (gi_c q_t447 (gi_c q_t1 gi_n)))) gw_wsX10_finds
theorem q_t874 : lw_g (Cond.methodLink RL 67 yX11_finds) := ⟨gi_t3 154 rfl, Or.inl rfl⟩
theorem q_t875 : lw_g (Cond.instanceMethod yX11_finds) := ⟨gi_t3 155 rfl, Or.inl rfl⟩
theorem q_t876 : lw_g (Cond.selects RX11 yX11_finds yX11_finds) := ⟨gi_t3 156 rfl, Or.inl rfl⟩
theorem gv_X11_finds : GoodIn lw_tbl (wsV RL 67 RX11 yX11_finds wsX11_finds) := gi_a (gi_c q_t874 (gi_c q_t875 (gi_c q_t876 (gi_c q_t12 gi_n)))) gw_wsX11_finds
theorem q_t454 : lw_g (Cond.methodLink RL 68 yX10_drop) := ⟨gi_t1 214 rfl, Or.inl rfl⟩
theorem q_t455 : lw_g (Cond.instanceMethod yX10_drop) := ⟨gi_t1 215 rfl, Or.inl rfl⟩
theorem q_t456 : lw_g (Cond.selects RX10 yX10_drop yX10_drop) := ⟨gi_t1 216 rfl, Or.inl rfl⟩
theorem gv_X10_drop : GoodIn lw_tbl (wsV RL 68 RX10 yX10_drop wsX10_drop) := gi_a (gi_c q_t454 (gi_c q_t455 (gi_c q_t456 (gi_c q_t1 gi_n)))) gw_wsX10_drop
theorem q_t878 : lw_g (Cond.methodLink RL 71 yX11_drop) := ⟨gi_t3 158 rfl, Or.inl rfl⟩
theorem q_t879 : lw_g (Cond.instanceMethod yX11_drop) := ⟨gi_t3 159 rfl, Or.inl rfl⟩
theorem q_t880 : lw_g (Cond.selects RX11 yX11_drop yX11_drop) := ⟨gi_t3 160 rfl, Or.inl rfl⟩
theorem gv_X11_drop : GoodIn lw_tbl (wsV RL 71 RX11 yX11_drop wsX11_drop) := gi_a (gi_c q_t878 (gi_c q_t879 (gi_c q_t880 (gi_c q_t12 gi_n)))) gw_wsX11_drop
theorem q_t462 : lw_g (Cond.methodLink RL 72 yX10_today) := ⟨gi_t1 222 rfl, Or.inl rfl⟩
theorem q_t463 : lw_g (Cond.instanceMethod yX10_today) := ⟨gi_t1 223 rfl, Or.inl rfl⟩
theorem q_t464 : lw_g (Cond.selects RX10 yX10_today yX10_today) := ⟨gi_t1 224 rfl, Or.inl rfl⟩
theorem gv_X10_today : GoodIn lw_tbl (wsV RL 72 RX10 yX10_today wsX10_today) := gi_a (gi_c q_t462 (gi_c q_t463 (gi_c q_t464 (gi_c q_t1 gi_n)))) gw_wsX10_today
theorem q_t882 : lw_g (Cond.methodLink RL 75 yX11_today) := ⟨gi_t3 162 rfl, Or.inl rfl⟩
theorem q_t883 : lw_g (Cond.instanceMethod yX11_today) := ⟨gi_t3 163 rfl, Or.inl rfl⟩
theorem q_t884 : lw_g (Cond.selects RX11 yX11_today yX11_today) := ⟨gi_t3 164 rfl, Or.inl rfl⟩
theorem gv_X11_today : GoodIn lw_tbl (wsV RL 75 RX11 yX11_today wsX11_today) := gi_a (gi_c q_t882 (gi_c q_t883 (gi_c q_t884 (gi_c q_t12 gi_n)))) gw_wsX11_today
theorem q_t466 : lw_g (Cond.methodLink RL 76 yX10_kept) := ⟨gi_t1 226 rfl, Or.inl rfl⟩
theorem q_t467 : lw_g (Cond.instanceMethod yX10_kept) := ⟨gi_t1 227 rfl, Or.inl rfl⟩
theorem q_t468 : lw_g (Cond.selects RX10 yX10_kept yX10_kept) := ⟨gi_t1 228 rfl, Or.inl rfl⟩
theorem gv_X10_kept : GoodIn lw_tbl (wsV RL 76 RX10 yX10_kept wsX10_kept) := gi_a (gi_c q_t466 (gi_c q_t467 (gi_c q_t468 (gi_c q_t1 gi_n)))) gw_wsX10_kept
theorem q_t886 : lw_g (Cond.methodLink RL 79 yX11_kept) := ⟨gi_t3 166 rfl, Or.inl rfl⟩
theorem q_t887 : lw_g (Cond.instanceMethod yX11_kept) := ⟨gi_t3 167 rfl, Or.inl rfl⟩
theorem q_t888 : lw_g (Cond.selects RX11 yX11_kept yX11_kept) := ⟨gi_t3 168 rfl, Or.inl rfl⟩
theorem gv_X11_kept : GoodIn lw_tbl (wsV RL 79 RX11 yX11_kept wsX11_kept) := gi_a (gi_c q_t886 (gi_c q_t887 (gi_c q_t888 (gi_c q_t12 gi_n)))) gw_wsX11_kept
theorem q_t470 : lw_g (Cond.methodLink RL 80 yX10_has) := ⟨gi_t1 230 rfl, Or.inl rfl⟩
theorem q_t471 : lw_g (Cond.instanceMethod yX10_has) := ⟨gi_t1 231 rfl, Or.inl rfl⟩
theorem q_t472 : lw_g (Cond.selects RX10 yX10_has yX10_has) := ⟨gi_t1 232 rfl, Or.inl rfl⟩
theorem gv_X10_has : GoodIn lw_tbl (wsV RL 80 RX10 yX10_has wsX10_has) := gi_a (gi_c q_t470 (gi_c q_t471 (gi_c q_t472 (gi_c q_t1 gi_n)))) gw_wsX10_has
theorem q_t890 : lw_g (Cond.methodLink RL 83 yX11_has) := ⟨gi_t3 170 rfl, Or.inl rfl⟩
theorem q_t891 : lw_g (Cond.instanceMethod yX11_has) := ⟨gi_t3 171 rfl, Or.inl rfl⟩
theorem q_t892 : lw_g (Cond.selects RX11 yX11_has yX11_has) := ⟨gi_t3 172 rfl, Or.inl rfl⟩
theorem gv_X11_has : GoodIn lw_tbl (wsV RL 83 RX11 yX11_has wsX11_has) := gi_a (gi_c q_t890 (gi_c q_t891 (gi_c q_t892 (gi_c q_t12 gi_n)))) gw_wsX11_has
theorem q_t521 : lw_g (Cond.methodLink RL 84 yX10_measure) := ⟨gi_t2 41 rfl, Or.inl rfl⟩
theorem q_t522 : lw_g (Cond.instanceMethod yX10_measure) := ⟨gi_t2 42 rfl, Or.inl rfl⟩
theorem q_t523 : lw_g (Cond.selects RX10 yX10_measure yX10_measure) := ⟨gi_t2 43 rfl, Or.inl rfl⟩
theorem gv_X10_measure : GoodIn lw_tbl (wsV RL 84 RX10 yX10_measure wsX10_measure) := gi_a (gi_c q_t521 (gi_c q_t522 (gi_c q_t523 (gi_c q_t1 gi_n)))) gw_wsX10_measure
theorem q_t906 : lw_g (Cond.methodLink RL 87 yX11_measure) := ⟨gi_t3 186 rfl, Or.inl rfl⟩
theorem q_t907 : lw_g (Cond.instanceMethod yX11_measure) := ⟨gi_t3 187 rfl, Or.inl rfl⟩
theorem q_t908 : lw_g (Cond.selects RX11 yX11_measure yX11_measure) := ⟨gi_t3 188 rfl, Or.inl rfl⟩
theorem gv_X11_measure : GoodIn lw_tbl (wsV RL 87 RX11 yX11_measure wsX11_measure) := gi_a (gi_c q_t906 (gi_c q_t907 (gi_c q_t908 (gi_c q_t12 gi_n)))) gw_wsX11_measure
theorem q_t556 : lw_g (Cond.methodLink RL 88 yX10_all) := ⟨gi_t2 76 rfl, Or.inl rfl⟩
theorem q_t557 : lw_g (Cond.instanceMethod yX10_all) := ⟨gi_t2 77 rfl, Or.inl rfl⟩
theorem q_t558 : lw_g (Cond.selects RX10 yX10_all yX10_all) := ⟨gi_t2 78 rfl, Or.inl rfl⟩
theorem gv_X10_all : GoodIn lw_tbl (wsV RL 88 RX10 yX10_all wsX10_all) := gi_a (gi_c q_t556 (gi_c q_t557 (gi_c q_t558 (gi_c q_t1 gi_n)))) gw_wsX10_all
theorem q_t926 : lw_g (Cond.methodLink RL 91 yX11_all) := ⟨gi_t3 206 rfl, Or.inl rfl⟩
theorem q_t927 : lw_g (Cond.instanceMethod yX11_all) := ⟨gi_t3 207 rfl, Or.inl rfl⟩
theorem q_t928 : lw_g (Cond.selects RX11 yX11_all yX11_all) := ⟨gi_t3 208 rfl, Or.inl rfl⟩
theorem gv_X11_all : GoodIn lw_tbl (wsV RL 91 RX11 yX11_all wsX11_all) := gi_a (gi_c q_t926 (gi_c q_t927 (gi_c q_t928 (gi_c q_t12 gi_n)))) gw_wsX11_all
theorem q_t560 : lw_g (Cond.methodLink RL 92 yX10_use) := ⟨gi_t2 80 rfl, Or.inl rfl⟩
theorem q_t561 : lw_g (Cond.instanceMethod yX10_use) := ⟨gi_t2 81 rfl, Or.inl rfl⟩
theorem q_t562 : lw_g (Cond.selects RX10 yX10_use yX10_use) := ⟨gi_t2 82 rfl, Or.inl rfl⟩
theorem gv_X10_use : GoodIn lw_tbl (wsV RL 92 RX10 yX10_use wsX10_use) := gi_a (gi_c q_t560 (gi_c q_t561 (gi_c q_t562 (gi_c q_t1 gi_n)))) gw_wsX10_use
theorem q_t930 : lw_g (Cond.methodLink RL 96 yX11_use) := ⟨gi_t3 210 rfl, Or.inl rfl⟩
theorem q_t931 : lw_g (Cond.instanceMethod yX11_use) := ⟨gi_t3 211 rfl, Or.inl rfl⟩
theorem q_t932 : lw_g (Cond.selects RX11 yX11_use yX11_use) := ⟨gi_t3 212 rfl, Or.inl rfl⟩
theorem gv_X11_use : GoodIn lw_tbl (wsV RL 96 RX11 yX11_use wsX11_use) := gi_a (gi_c q_t930 (gi_c q_t931 (gi_c q_t932 (gi_c q_t12 gi_n)))) gw_wsX11_use
theorem q_t571 : lw_g (Cond.methodLink RL 97 yX10_at) := ⟨gi_t2 91 rfl, Or.inl rfl⟩
theorem q_t572 : lw_g (Cond.instanceMethod yX10_at) := ⟨gi_t2 92 rfl, Or.inl rfl⟩
theorem q_t573 : lw_g (Cond.selects RX10 yX10_at yX10_at) := ⟨gi_t2 93 rfl, Or.inl rfl⟩
theorem gv_X10_at : GoodIn lw_tbl (wsV RL 97 RX10 yX10_at wsX10_at) := gi_a (gi_c q_t571 (gi_c q_t572 (gi_c q_t573 (gi_c q_t1 gi_n)))) gw_wsX10_at
theorem q_t934 : lw_g (Cond.methodLink RL 100 yX11_at) := ⟨gi_t3 214 rfl, Or.inl rfl⟩
theorem q_t935 : lw_g (Cond.instanceMethod yX11_at) := ⟨gi_t3 215 rfl, Or.inl rfl⟩
theorem q_t936 : lw_g (Cond.selects RX11 yX11_at yX11_at) := ⟨gi_t3 216 rfl, Or.inl rfl⟩
theorem gv_X11_at : GoodIn lw_tbl (wsV RL 100 RX11 yX11_at wsX11_at) := gi_a (gi_c q_t934 (gi_c q_t935 (gi_c q_t936 (gi_c q_t12 gi_n)))) gw_wsX11_at
theorem q_t576 : lw_g (Cond.methodLink RL 101 yX10_peak) := ⟨gi_t2 96 rfl, Or.inl rfl⟩
theorem q_t577 : lw_g (Cond.instanceMethod yX10_peak) := ⟨gi_t2 97 rfl, Or.inl rfl⟩
theorem q_t578 : lw_g (Cond.selects RX10 yX10_peak yX10_peak) := ⟨gi_t2 98 rfl, Or.inl rfl⟩
theorem gv_X10_peak : GoodIn lw_tbl (wsV RL 101 RX10 yX10_peak wsX10_peak) := gi_a (gi_c q_t576 (gi_c q_t577 (gi_c q_t578 (gi_c q_t1 gi_n)))) gw_wsX10_peak
theorem q_t938 : lw_g (Cond.methodLink RL 104 yX11_peak) := ⟨gi_t3 218 rfl, Or.inl rfl⟩
theorem q_t939 : lw_g (Cond.instanceMethod yX11_peak) := ⟨gi_t3 219 rfl, Or.inl rfl⟩
theorem q_t940 : lw_g (Cond.selects RX11 yX11_peak yX11_peak) := ⟨gi_t3 220 rfl, Or.inl rfl⟩
theorem gv_X11_peak : GoodIn lw_tbl (wsV RL 104 RX11 yX11_peak wsX11_peak) := gi_a (gi_c q_t938 (gi_c q_t939 (gi_c q_t940 (gi_c q_t12 gi_n)))) gw_wsX11_peak
theorem q_t581 : lw_g (Cond.methodLink RL 105 yX10_right) := ⟨gi_t2 101 rfl, Or.inl rfl⟩
theorem q_t582 : lw_g (Cond.instanceMethod yX10_right) := ⟨gi_t2 102 rfl, Or.inl rfl⟩
theorem q_t583 : lw_g (Cond.selects RX10 yX10_right yX10_right) := ⟨gi_t2 103 rfl, Or.inl rfl⟩
theorem gv_X10_right : GoodIn lw_tbl (wsV RL 105 RX10 yX10_right wsX10_right) := gi_a (gi_c q_t581 (gi_c q_t582 (gi_c q_t583 (gi_c q_t1 gi_n)))) gw_wsX10_right
theorem q_t942 : lw_g (Cond.methodLink RL 109 yX11_right) := ⟨gi_t3 222 rfl, Or.inl rfl⟩
theorem q_t943 : lw_g (Cond.instanceMethod yX11_right) := ⟨gi_t3 223 rfl, Or.inl rfl⟩
theorem q_t944 : lw_g (Cond.selects RX11 yX11_right yX11_right) := ⟨gi_t3 224 rfl, Or.inl rfl⟩
theorem gv_X11_right : GoodIn lw_tbl (wsV RL 109 RX11 yX11_right wsX11_right) := gi_a (gi_c q_t942 (gi_c q_t943 (gi_c q_t944 (gi_c q_t12 gi_n)))) gw_wsX11_right
theorem q_t589 : lw_g (Cond.methodLink RL 110 yX10_amount) := ⟨gi_t2 109 rfl, Or.inl rfl⟩
theorem q_t590 : lw_g (Cond.instanceMethod yX10_amount) := ⟨gi_t2 110 rfl, Or.inl rfl⟩
theorem q_t591 : lw_g (Cond.selects RX10 yX10_amount yX10_amount) := ⟨gi_t2 111 rfl, Or.inl rfl⟩
theorem gv_X10_amount : GoodIn lw_tbl (wsV RL 110 RX10 yX10_amount wsX10_amount) := gi_a (gi_c q_t589 (gi_c q_t590 (gi_c q_t591 (gi_c q_t1 gi_n)))) gw_wsX10_amount
theorem q_t946 : lw_g (Cond.methodLink RL 113 yX11_amount) := ⟨gi_t3 226 rfl, Or.inl rfl⟩
theorem q_t947 : lw_g (Cond.instanceMethod yX11_amount) := ⟨gi_t3 227 rfl, Or.inl rfl⟩
theorem q_t948 : lw_g (Cond.selects RX11 yX11_amount yX11_amount) := ⟨gi_t3 228 rfl, Or.inl rfl⟩
theorem gv_X11_amount : GoodIn lw_tbl (wsV RL 113 RX11 yX11_amount wsX11_amount) := gi_a (gi_c q_t946 (gi_c q_t947 (gi_c q_t948 (gi_c q_t12 gi_n)))) gw_wsX11_amount
theorem q_t597 : lw_g (Cond.methodLink RL 114 yX10_may) := ⟨gi_t2 117 rfl, Or.inl rfl⟩
theorem q_t598 : lw_g (Cond.instanceMethod yX10_may) := ⟨gi_t2 118 rfl, Or.inl rfl⟩
theorem q_t599 : lw_g (Cond.selects RX10 yX10_may yX10_may) := ⟨gi_t2 119 rfl, Or.inl rfl⟩
theorem gv_X10_may : GoodIn lw_tbl (wsV RL 114 RX10 yX10_may wsX10_may) := gi_a (gi_c q_t597 (gi_c q_t598 (gi_c q_t599 (gi_c q_t1 gi_n)))) gw_wsX10_may
theorem q_t958 : lw_g (Cond.methodLink RL 117 yX11_may) := ⟨gi_t3 238 rfl, Or.inl rfl⟩
theorem q_t959 : lw_g (Cond.instanceMethod yX11_may) := ⟨gi_t3 239 rfl, Or.inl rfl⟩
theorem q_t960 : lw_g (Cond.selects RX11 yX11_may yX11_may) := ⟨gi_t4 0 rfl, Or.inl rfl⟩
theorem gv_X11_may : GoodIn lw_tbl (wsV RL 117 RX11 yX11_may wsX11_may) := gi_a (gi_c q_t958 (gi_c q_t959 (gi_c q_t960 (gi_c q_t12 gi_n)))) gw_wsX11_may
theorem q_t610 : lw_g (Cond.methodLink RL 118 yX10_needs) := ⟨gi_t2 130 rfl, Or.inl rfl⟩
theorem q_t611 : lw_g (Cond.instanceMethod yX10_needs) := ⟨gi_t2 131 rfl, Or.inl rfl⟩
theorem q_t612 : lw_g (Cond.selects RX10 yX10_needs yX10_needs) := ⟨gi_t2 132 rfl, Or.inl rfl⟩
theorem gv_X10_needs : GoodIn lw_tbl (wsV RL 118 RX10 yX10_needs wsX10_needs) := gi_a (gi_c q_t610 (gi_c q_t611 (gi_c q_t612 (gi_c q_t1 gi_n)))) gw_wsX10_needs
theorem q_t966 : lw_g (Cond.methodLink RL 122 yX11_needs) := ⟨gi_t4 6 rfl, Or.inl rfl⟩
theorem q_t967 : lw_g (Cond.instanceMethod yX11_needs) := ⟨gi_t4 7 rfl, Or.inl rfl⟩
theorem q_t968 : lw_g (Cond.selects RX11 yX11_needs yX11_needs) := ⟨gi_t4 8 rfl, Or.inl rfl⟩
theorem gv_X11_needs : GoodIn lw_tbl (wsV RL 122 RX11 yX11_needs wsX11_needs) := gi_a (gi_c q_t966 (gi_c q_t967 (gi_c q_t968 (gi_c q_t12 gi_n)))) gw_wsX11_needs
theorem q_t614 : lw_g (Cond.methodLink RL 123 yX10_lack) := ⟨gi_t2 134 rfl, Or.inl rfl⟩
theorem q_t615 : lw_g (Cond.instanceMethod yX10_lack) := ⟨gi_t2 135 rfl, Or.inl rfl⟩
theorem q_t616 : lw_g (Cond.selects RX10 yX10_lack yX10_lack) := ⟨gi_t2 136 rfl, Or.inl rfl⟩
theorem gv_X10_lack : GoodIn lw_tbl (wsV RL 123 RX10 yX10_lack wsX10_lack) := gi_a (gi_c q_t614 (gi_c q_t615 (gi_c q_t616 (gi_c q_t1 gi_n)))) gw_wsX10_lack
theorem q_t974 : lw_g (Cond.methodLink RL 126 yX11_lack) := ⟨gi_t4 14 rfl, Or.inl rfl⟩
theorem q_t975 : lw_g (Cond.instanceMethod yX11_lack) := ⟨gi_t4 15 rfl, Or.inl rfl⟩
theorem q_t976 : lw_g (Cond.selects RX11 yX11_lack yX11_lack) := ⟨gi_t4 16 rfl, Or.inl rfl⟩
theorem gv_X11_lack : GoodIn lw_tbl (wsV RL 126 RX11 yX11_lack wsX11_lack) := gi_a (gi_c q_t974 (gi_c q_t975 (gi_c q_t976 (gi_c q_t12 gi_n)))) gw_wsX11_lack
theorem q_t645 : lw_g (Cond.methodLink RL 127 yX10_cost) := ⟨gi_t2 165 rfl, Or.inl rfl⟩
theorem q_t646 : lw_g (Cond.instanceMethod yX10_cost) := ⟨gi_t2 166 rfl, Or.inl rfl⟩
theorem q_t647 : lw_g (Cond.selects RX10 yX10_cost yX10_cost) := ⟨gi_t2 167 rfl, Or.inl rfl⟩
theorem gv_X10_cost : GoodIn lw_tbl (wsV RL 127 RX10 yX10_cost wsX10_cost) := gi_a (gi_c q_t645 (gi_c q_t646 (gi_c q_t647 (gi_c q_t1 gi_n)))) gw_wsX10_cost
theorem q_t990 : lw_g (Cond.methodLink RL 130 yX11_cost) := ⟨gi_t4 30 rfl, Or.inl rfl⟩
theorem q_t991 : lw_g (Cond.instanceMethod yX11_cost) := ⟨gi_t4 31 rfl, Or.inl rfl⟩
theorem q_t992 : lw_g (Cond.selects RX11 yX11_cost yX11_cost) := ⟨gi_t4 32 rfl, Or.inl rfl⟩
theorem gv_X11_cost : GoodIn lw_tbl (wsV RL 130 RX11 yX11_cost wsX11_cost) := gi_a (gi_c q_t990 (gi_c q_t991 (gi_c q_t992 (gi_c q_t12 gi_n)))) gw_wsX11_cost
theorem q_t649 : lw_g (Cond.methodLink RL 131 yX10_of) := ⟨gi_t2 169 rfl, Or.inl rfl⟩
theorem q_t650 : lw_g (Cond.instanceMethod yX10_of) := ⟨gi_t2 170 rfl, Or.inl rfl⟩
theorem q_t651 : lw_g (Cond.selects RX10 yX10_of yX10_of) := ⟨gi_t2 171 rfl, Or.inl rfl⟩
theorem gv_X10_of : GoodIn lw_tbl (wsV RL 131 RX10 yX10_of wsX10_of) := gi_a (gi_c q_t649 (gi_c q_t650 (gi_c q_t651 (gi_c q_t1 gi_n)))) gw_wsX10_of
theorem q_t994 : lw_g (Cond.methodLink RL 135 yX11_of) := ⟨gi_t4 34 rfl, Or.inl rfl⟩
theorem q_t995 : lw_g (Cond.instanceMethod yX11_of) := ⟨gi_t4 35 rfl, Or.inl rfl⟩
theorem q_t996 : lw_g (Cond.selects RX11 yX11_of yX11_of) := ⟨gi_t4 36 rfl, Or.inl rfl⟩
theorem gv_X11_of : GoodIn lw_tbl (wsV RL 135 RX11 yX11_of wsX11_of) := gi_a (gi_c q_t994 (gi_c q_t995 (gi_c q_t996 (gi_c q_t12 gi_n)))) gw_wsX11_of
theorem q_t654 : lw_g (Cond.methodLink RL 136 yX10_without) := ⟨gi_t2 174 rfl, Or.inl rfl⟩
theorem q_t655 : lw_g (Cond.instanceMethod yX10_without) := ⟨gi_t2 175 rfl, Or.inl rfl⟩
theorem q_t656 : lw_g (Cond.selects RX10 yX10_without yX10_without) := ⟨gi_t2 176 rfl, Or.inl rfl⟩
theorem gv_X10_without : GoodIn lw_tbl (wsV RL 136 RX10 yX10_without wsX10_without) := gi_a (gi_c q_t654 (gi_c q_t655 (gi_c q_t656 (gi_c q_t1 gi_n)))) gw_wsX10_without
theorem q_t998 : lw_g (Cond.methodLink RL 139 yX11_without) := ⟨gi_t4 38 rfl, Or.inl rfl⟩
theorem q_t999 : lw_g (Cond.instanceMethod yX11_without) := ⟨gi_t4 39 rfl, Or.inl rfl⟩
theorem q_t1000 : lw_g (Cond.selects RX11 yX11_without yX11_without) := ⟨gi_t4 40 rfl, Or.inl rfl⟩
theorem gv_X11_without : GoodIn lw_tbl (wsV RL 139 RX11 yX11_without wsX11_without) := gi_a (gi_c q_t998 (gi_c q_t999 (gi_c q_t1000 (gi_c q_t12 gi_n)))) gw_wsX11_without
theorem q_t662 : lw_g (Cond.methodLink RL 140 yX10_spared) := ⟨gi_t2 182 rfl, Or.inl rfl⟩
theorem q_t663 : lw_g (Cond.instanceMethod yX10_spared) := ⟨gi_t2 183 rfl, Or.inl rfl⟩
theorem q_t664 : lw_g (Cond.selects RX10 yX10_spared yX10_spared) := ⟨gi_t2 184 rfl, Or.inl rfl⟩
theorem gv_X10_spared : GoodIn lw_tbl (wsV RL 140 RX10 yX10_spared wsX10_spared) := gi_a (gi_c q_t662 (gi_c q_t663 (gi_c q_t664 (gi_c q_t1 gi_n)))) gw_wsX10_spared
theorem q_t1002 : lw_g (Cond.methodLink RL 143 yX11_spared) := ⟨gi_t4 42 rfl, Or.inl rfl⟩
theorem q_t1003 : lw_g (Cond.instanceMethod yX11_spared) := ⟨gi_t4 43 rfl, Or.inl rfl⟩
theorem q_t1004 : lw_g (Cond.selects RX11 yX11_spared yX11_spared) := ⟨gi_t4 44 rfl, Or.inl rfl⟩
theorem gv_X11_spared : GoodIn lw_tbl (wsV RL 143 RX11 yX11_spared wsX11_spared) := gi_a (gi_c q_t1002 (gi_c q_t1003 (gi_c q_t1004 (gi_c q_t12 gi_n)))) gw_wsX11_spared
theorem q_t670 : lw_g (Cond.methodLink RL 144 yX10_when) := ⟨gi_t2 190 rfl, Or.inl rfl⟩
theorem q_t671 : lw_g (Cond.instanceMethod yX10_when) := ⟨gi_t2 191 rfl, Or.inl rfl⟩
theorem q_t672 : lw_g (Cond.selects RX10 yX10_when yX10_when) := ⟨gi_t2 192 rfl, Or.inl rfl⟩
theorem gv_X10_when : GoodIn lw_tbl (wsV RL 144 RX10 yX10_when wsX10_when) := gi_a (gi_c q_t670 (gi_c q_t671 (gi_c q_t672 (gi_c q_t1 gi_n)))) gw_wsX10_when
theorem q_t1006 : lw_g (Cond.methodLink RL 147 yX11_when) := ⟨gi_t4 46 rfl, Or.inl rfl⟩
theorem q_t1007 : lw_g (Cond.instanceMethod yX11_when) := ⟨gi_t4 47 rfl, Or.inl rfl⟩
theorem q_t1008 : lw_g (Cond.selects RX11 yX11_when yX11_when) := ⟨gi_t4 48 rfl, Or.inl rfl⟩
theorem gv_X11_when : GoodIn lw_tbl (wsV RL 147 RX11 yX11_when wsX11_when) := gi_a (gi_c q_t1006 (gi_c q_t1007 (gi_c q_t1008 (gi_c q_t12 gi_n)))) gw_wsX11_when
theorem q_t678 : lw_g (Cond.methodLink RL 148 yX10_keep) := ⟨gi_t2 198 rfl, Or.inl rfl⟩
theorem q_t679 : lw_g (Cond.instanceMethod yX10_keep) := ⟨gi_t2 199 rfl, Or.inl rfl⟩
theorem q_t680 : lw_g (Cond.selects RX10 yX10_keep yX10_keep) := ⟨gi_t2 200 rfl, Or.inl rfl⟩
theorem gv_X10_keep : GoodIn lw_tbl (wsV RL 148 RX10 yX10_keep wsX10_keep) := gi_a (gi_c q_t678 (gi_c q_t679 (gi_c q_t680 (gi_c q_t1 gi_n)))) gw_wsX10_keep
theorem q_t1014 : lw_g (Cond.methodLink RL 151 yX11_keep) := ⟨gi_t4 54 rfl, Or.inl rfl⟩
theorem q_t1015 : lw_g (Cond.instanceMethod yX11_keep) := ⟨gi_t4 55 rfl, Or.inl rfl⟩
theorem q_t1016 : lw_g (Cond.selects RX11 yX11_keep yX11_keep) := ⟨gi_t4 56 rfl, Or.inl rfl⟩
theorem gv_X11_keep : GoodIn lw_tbl (wsV RL 151 RX11 yX11_keep wsX11_keep) := gi_a (gi_c q_t1014 (gi_c q_t1015 (gi_c q_t1016 (gi_c q_t12 gi_n)))) gw_wsX11_keep
theorem q_t718 : lw_g (Cond.methodLink RL 152 yX10_back) := ⟨gi_t2 238 rfl, Or.inl rfl⟩
theorem q_t719 : lw_g (Cond.instanceMethod yX10_back) := ⟨gi_t2 239 rfl, Or.inl rfl⟩
theorem q_t720 : lw_g (Cond.selects RX10 yX10_back yX10_back) := ⟨gi_t3 0 rfl, Or.inl rfl⟩
theorem gv_X10_back : GoodIn lw_tbl (wsV RL 152 RX10 yX10_back wsX10_back) := gi_a (gi_c q_t718 (gi_c q_t719 (gi_c q_t720 (gi_c q_t1 gi_n)))) gw_wsX10_back
theorem q_t1018 : lw_g (Cond.methodLink RL 155 yX11_back) := ⟨gi_t4 58 rfl, Or.inl rfl⟩
theorem q_t1019 : lw_g (Cond.instanceMethod yX11_back) := ⟨gi_t4 59 rfl, Or.inl rfl⟩
theorem q_t1020 : lw_g (Cond.selects RX11 yX11_back yX11_back) := ⟨gi_t4 60 rfl, Or.inl rfl⟩
theorem gv_X11_back : GoodIn lw_tbl (wsV RL 155 RX11 yX11_back wsX11_back) := gi_a (gi_c q_t1018 (gi_c q_t1019 (gi_c q_t1020 (gi_c q_t12 gi_n)))) gw_wsX11_back
theorem q_t722 : lw_g (Cond.methodLink RL 156 yX10_told) := ⟨gi_t3 2 rfl, Or.inl rfl⟩
theorem q_t723 : lw_g (Cond.instanceMethod yX10_told) := ⟨gi_t3 3 rfl, Or.inl rfl⟩
theorem q_t724 : lw_g (Cond.selects RX10 yX10_told yX10_told) := ⟨gi_t3 4 rfl, Or.inl rfl⟩
theorem gv_X10_told : GoodIn lw_tbl (wsV RL 156 RX10 yX10_told wsX10_told) := gi_a (gi_c q_t722 (gi_c q_t723 (gi_c q_t724 (gi_c q_t1 gi_n)))) gw_wsX10_told
theorem q_t1022 : lw_g (Cond.methodLink RL 159 yX11_told) := ⟨gi_t4 62 rfl, Or.inl rfl⟩
theorem q_t1023 : lw_g (Cond.instanceMethod yX11_told) := ⟨gi_t4 63 rfl, Or.inl rfl⟩
theorem q_t1024 : lw_g (Cond.selects RX11 yX11_told yX11_told) := ⟨gi_t4 64 rfl, Or.inl rfl⟩
theorem gv_X11_told : GoodIn lw_tbl (wsV RL 159 RX11 yX11_told wsX11_told) := gi_a (gi_c q_t1022 (gi_c q_t1023 (gi_c q_t1024 (gi_c q_t12 gi_n)))) gw_wsX11_told
theorem q_t18 : lw_g (Cond.instantiable RX10 7) := ⟨gi_t0 18 rfl, Or.inl rfl⟩
theorem q_t727 : lw_g (Cond.instantiable RX11 10) := ⟨gi_t3 7 rfl, Or.inl rfl⟩
theorem q_t17 : lw_g (Cond.classLink RL 7 RX10) := ⟨gi_t0 17 rfl, Or.inl rfl⟩
theorem q_t19 : lw_g (Cond.methodLink RL 9 yX10_init) := ⟨gi_t0 19 rfl, Or.inl rfl⟩
theorem q_t20 : lw_g (Cond.instanceMethod yX10_init) := ⟨gi_t0 20 rfl, Or.inl rfl⟩
theorem q_t726 : lw_g (Cond.classLink RL 10 RX11) := ⟨gi_t3 6 rfl, Or.inl rfl⟩
theorem q_t728 : lw_g (Cond.methodLink RL 12 yX11_init) := ⟨gi_t3 8 rfl, Or.inl rfl⟩
theorem q_t729 : lw_g (Cond.instanceMethod yX11_init) := ⟨gi_t3 9 rfl, Or.inl rfl⟩
section LAWC
variable {p : Program} {l : Launch} {e : Env} {s : State} {m : MethodId} {below : List Frame} {meth : Method} {c : Code} {b L : Nat} {xs : Nat → Int32} {D : va_G} {cI cJ : ClassId} {ad : Nat → Nat}
/-- the law, between two of its calls' groups -/
def lK (p : Program) (l : Launch) (e : Env) (s : State) (m : MethodId) (below : List Frame) (meth : Method) (c : Code) (b : Nat) (D : va_G) (cI cJ : ClassId) (ad : Nat → Nat) (i pc : Nat) : Prop := ∀ (u : tU) (v : tV) (H : Heap) (locs : List Loc) (ls : Array Slot), Inv u v → va_P D vwCl (wA cI cJ ad u v) H → va_S (fun q : Nat => s.heap.size ≤ q) s.heap H locs → lv_has ls 4 [(0, .ref b), (1, .ref (ad 0)), (2, .ref (ad 64)), (3, .int (nI i))] → W p l e room_1 s m #[Value.ref b] below meth c H locs 70 3383 (lw_Z below #[Value.ref b] s) (F0 m pc ls [])
set_option maxHeartbeats 4000000 in
theorem law_c0 (C0 : lw_At p s m meth c b L xs) (hK : xK D cI cJ s) (hD : zD (fun q : Nat => s.heap.size ≤ q) cI cJ ad) {i : Nat} (hi : i + 7 ≤ L) (hL : L ≤ 3584) (kk : lK p l e s m below meth c b D cI cJ ad i 1191) : lK p l e s m below meth c b D cI cJ ad i 188 := by
  obtain ⟨hx, hb, hr, hml, hown, hts, hX, hbl, hlocks, hgv⟩ := C0
  have hbA : ¬ (fun q : Nat => s.heap.size ≤ q) b := Nat.not_le.mpr hbl
  intro u v H locs ls hI hP hS hl
  have n1 : vp_in (nI i + 1) L := by rw [ixj (J := 1) i 1 rfl]; exact vp_in_nI (by omega) (by omega)
  refine lv_aload_n hx hb dL_law_188 rfl (lv_at hl 1 rfl) ?_
  refine lv_aload_n hx hb dL_law_189 rfl (lv_at hl 0 rfl) ?_
  refine lv_iload_n hx hb dL_law_190 rfl (lv_at hl 3 rfl) ?_
  refine lv_iconst (v := (1 : Int32)) hx hb dL_law_191 (by decide) ?_
  refine lv_iadd hx hb dL_law_192 ?_
  refine va_sld hx hb hX hbl hbA hS n1 dL_law_193 ?_
  obtain ⟨r, u1, v1, u2, e1, e2, hI2⟩ := SM_go (fun N n c K f ok => sm_letter ok f (xs (nI i + 1).toNatClampNeg)) hI
  refine za_callWi (va_runV (As := [.int (xs (nI i + 1).toNatClampNeg)]) (rest := []) ⟨hx, hb, hml, hown, hts⟩ (k_X10_letter l (D := D) (cI := cI) (cJ := cJ) (ad := ad) hD e1) (cwV 1 hts gv_X10_letter rfl rfl rfl (by decide +kernel) ⟨Nat.le_of_ble_eq_true rfl, Nat.le_of_ble_eq_true rfl⟩) (xPreV (ci := 10) hK hP rfl zO_0) rfl rfl hl.1 rfl (lv_room (Nat.le_of_ble_eq_true rfl)) dL_law_194 ⟨Nat.le_of_ble_eq_true rfl, Nat.le_of_ble_eq_true rfl⟩) hS (fun H locs hP hS => ?_)
  refine lv_aload_n hx hb dL_law_197 rfl (lv_at hl 2 rfl) ?_
  refine lv_aload_n hx hb dL_law_198 rfl (lv_at hl 0 rfl) ?_
  refine lv_iload_n hx hb dL_law_199 rfl (lv_at hl 3 rfl) ?_
  refine lv_iconst (v := (1 : Int32)) hx hb dL_law_200 (by decide) ?_
  refine lv_iadd hx hb dL_law_201 ?_
  refine va_sld hx hb hX hbl hbA hS n1 dL_law_202 ?_
  refine za_callWi (va_runV (As := [.int (xs (nI i + 1).toNatClampNeg)]) (rest := [.int r]) ⟨hx, hb, hml, hown, hts⟩ (k_X11_letter l (D := D) (cI := cI) (cJ := cJ) (ad := ad) hD e2) (cwV 1 hts gv_X11_letter rfl rfl rfl (by decide +kernel) ⟨Nat.le_of_ble_eq_true rfl, Nat.le_of_ble_eq_true rfl⟩) (xPreV (ci := 11) hK hP rfl zO_64) rfl rfl hl.1 rfl (lv_room (Nat.le_of_ble_eq_true rfl)) dL_law_203 ⟨Nat.le_of_ble_eq_true rfl, Nat.le_of_ble_eq_true rfl⟩) hS (fun H locs hP hS => ?_)
  refine lv_icmp_eq (tgt := 1191) hx hb dL_law_206 (by decide) (fun _ => ?_) (fun c9 => absurd rfl c9)
  exact kk u2 v1 H locs ls hI2 hP hS hl
set_option maxHeartbeats 4000000 in
theorem law_c1 (C0 : lw_At p s m meth c b L xs) (hK : xK D cI cJ s) (hD : zD (fun q : Nat => s.heap.size ≤ q) cI cJ ad) {i : Nat} (hi : i + 7 ≤ L) (hL : L ≤ 3584) (kk : lK p l e s m below meth c b D cI cJ ad i 1191) : lK p l e s m below meth c b D cI cJ ad i 211 := by
  obtain ⟨hx, hb, hr, hml, hown, hts, hX, hbl, hlocks, hgv⟩ := C0
  have hbA : ¬ (fun q : Nat => s.heap.size ≤ q) b := Nat.not_le.mpr hbl
  intro u v H locs ls hI hP hS hl
  have n1 : vp_in (nI i + 1) L := by rw [ixj (J := 1) i 1 rfl]; exact vp_in_nI (by omega) (by omega)
  have n2 : vp_in (nI i + 2) L := by rw [ixj (J := 2) i 2 rfl]; exact vp_in_nI (by omega) (by omega)
  have n3 : vp_in (nI i + 3) L := by rw [ixj (J := 3) i 3 rfl]; exact vp_in_nI (by omega) (by omega)
  refine lv_aload_n hx hb dL_law_211 rfl (lv_at hl 1 rfl) ?_
  refine lv_aload_n hx hb dL_law_212 rfl (lv_at hl 0 rfl) ?_
  refine lv_iload_n hx hb dL_law_213 rfl (lv_at hl 3 rfl) ?_
  refine lv_iconst (v := (1 : Int32)) hx hb dL_law_214 (by decide) ?_
  refine lv_iadd hx hb dL_law_215 ?_
  refine va_sld hx hb hX hbl hbA hS n1 dL_law_216 ?_
  refine lv_aload_n hx hb dL_law_217 rfl (lv_at hl 0 rfl) ?_
  refine lv_iload_n hx hb dL_law_218 rfl (lv_at hl 3 rfl) ?_
  refine lv_iconst (v := (2 : Int32)) hx hb dL_law_219 (by decide) ?_
  refine lv_iadd hx hb dL_law_220 ?_
  refine va_sld hx hb hX hbl hbA hS n2 dL_law_221 ?_
  refine lv_aload_n hx hb dL_law_222 rfl (lv_at hl 0 rfl) ?_
  refine lv_iload_n hx hb dL_law_223 rfl (lv_at hl 3 rfl) ?_
  refine lv_iconst (v := (3 : Int32)) hx hb dL_law_224 (by decide) ?_
  refine lv_iadd hx hb dL_law_225 ?_
  refine va_sld hx hb hX hbl hbA hS n3 dL_law_226 ?_
  obtain ⟨r, u1, v1, u2, e1, e2, hI2⟩ := SM_go (fun N n c K f ok => sm_product ok f (xs (nI i + 1).toNatClampNeg) (xs (nI i + 2).toNatClampNeg) (xs (nI i + 3).toNatClampNeg)) hI
  refine za_callWi (va_runV (As := [.int (xs (nI i + 1).toNatClampNeg), .int (xs (nI i + 2).toNatClampNeg), .int (xs (nI i + 3).toNatClampNeg)]) (rest := []) ⟨hx, hb, hml, hown, hts⟩ (k_X10_product l (D := D) (cI := cI) (cJ := cJ) (ad := ad) hD e1) (cwV 3 hts gv_X10_product rfl rfl rfl (by decide +kernel) ⟨Nat.le_of_ble_eq_true rfl, Nat.le_of_ble_eq_true rfl⟩) (xPreV (ci := 10) hK hP rfl zO_0) rfl rfl hl.1 rfl (lv_room (Nat.le_of_ble_eq_true rfl)) dL_law_227 ⟨Nat.le_of_ble_eq_true rfl, Nat.le_of_ble_eq_true rfl⟩) hS (fun H locs hP hS => ?_)
  refine lv_aload_n hx hb dL_law_230 rfl (lv_at hl 2 rfl) ?_
  refine lv_aload_n hx hb dL_law_231 rfl (lv_at hl 0 rfl) ?_
  refine lv_iload_n hx hb dL_law_232 rfl (lv_at hl 3 rfl) ?_
  refine lv_iconst (v := (1 : Int32)) hx hb dL_law_233 (by decide) ?_
  refine lv_iadd hx hb dL_law_234 ?_
  refine va_sld hx hb hX hbl hbA hS n1 dL_law_235 ?_
  refine lv_aload_n hx hb dL_law_236 rfl (lv_at hl 0 rfl) ?_
  refine lv_iload_n hx hb dL_law_237 rfl (lv_at hl 3 rfl) ?_
  refine lv_iconst (v := (2 : Int32)) hx hb dL_law_238 (by decide) ?_
  refine lv_iadd hx hb dL_law_239 ?_
  refine va_sld hx hb hX hbl hbA hS n2 dL_law_240 ?_
  refine lv_aload_n hx hb dL_law_241 rfl (lv_at hl 0 rfl) ?_
  refine lv_iload_n hx hb dL_law_242 rfl (lv_at hl 3 rfl) ?_
  refine lv_iconst (v := (3 : Int32)) hx hb dL_law_243 (by decide) ?_
  refine lv_iadd hx hb dL_law_244 ?_
  refine va_sld hx hb hX hbl hbA hS n3 dL_law_245 ?_
  refine za_callWi (va_runV (As := [.int (xs (nI i + 1).toNatClampNeg), .int (xs (nI i + 2).toNatClampNeg), .int (xs (nI i + 3).toNatClampNeg)]) (rest := [.int r]) ⟨hx, hb, hml, hown, hts⟩ (k_X11_product l (D := D) (cI := cI) (cJ := cJ) (ad := ad) hD e2) (cwV 3 hts gv_X11_product rfl rfl rfl (by decide +kernel) ⟨Nat.le_of_ble_eq_true rfl, Nat.le_of_ble_eq_true rfl⟩) (xPreV (ci := 11) hK hP rfl zO_64) rfl rfl hl.1 rfl (lv_room (Nat.le_of_ble_eq_true rfl)) dL_law_246 ⟨Nat.le_of_ble_eq_true rfl, Nat.le_of_ble_eq_true rfl⟩) hS (fun H locs hP hS => ?_)
  refine lv_icmp_eq (tgt := 1191) hx hb dL_law_249 (by decide) (fun _ => ?_) (fun c9 => absurd rfl c9)
  exact kk u2 v1 H locs ls hI2 hP hS hl
set_option maxHeartbeats 4000000 in
theorem law_c2 (C0 : lw_At p s m meth c b L xs) (hK : xK D cI cJ s) (hD : zD (fun q : Nat => s.heap.size ≤ q) cI cJ ad) {i : Nat} (hi : i + 7 ≤ L) (hL : L ≤ 3584) (kk : lK p l e s m below meth c b D cI cJ ad i 1191) : lK p l e s m below meth c b D cI cJ ad i 254 := by
  obtain ⟨hx, hb, hr, hml, hown, hts, hX, hbl, hlocks, hgv⟩ := C0
  have hbA : ¬ (fun q : Nat => s.heap.size ≤ q) b := Nat.not_le.mpr hbl
  intro u v H locs ls hI hP hS hl
  have n1 : vp_in (nI i + 1) L := by rw [ixj (J := 1) i 1 rfl]; exact vp_in_nI (by omega) (by omega)
  have n2 : vp_in (nI i + 2) L := by rw [ixj (J := 2) i 2 rfl]; exact vp_in_nI (by omega) (by omega)
  refine lv_aload_n hx hb dL_law_254 rfl (lv_at hl 1 rfl) ?_
  refine lv_aload_n hx hb dL_law_255 rfl (lv_at hl 0 rfl) ?_
  refine lv_iload_n hx hb dL_law_256 rfl (lv_at hl 3 rfl) ?_
  refine lv_iconst (v := (1 : Int32)) hx hb dL_law_257 (by decide) ?_
  refine lv_iadd hx hb dL_law_258 ?_
  refine va_sld hx hb hX hbl hbA hS n1 dL_law_259 ?_
  refine lv_aload_n hx hb dL_law_260 rfl (lv_at hl 0 rfl) ?_
  refine lv_iload_n hx hb dL_law_261 rfl (lv_at hl 3 rfl) ?_
  refine lv_iconst (v := (2 : Int32)) hx hb dL_law_262 (by decide) ?_
  refine lv_iadd hx hb dL_law_263 ?_
  refine va_sld hx hb hX hbl hbA hS n2 dL_law_264 ?_
  obtain ⟨r, u1, v1, u2, e1, e2, hI2⟩ := SM_go (fun N n c K f ok => sm_as ok f (xs (nI i + 1).toNatClampNeg) (xs (nI i + 2).toNatClampNeg)) hI
  refine za_callWi (va_runV (As := [.int (xs (nI i + 1).toNatClampNeg), .int (xs (nI i + 2).toNatClampNeg)]) (rest := []) ⟨hx, hb, hml, hown, hts⟩ (k_X10_as l (D := D) (cI := cI) (cJ := cJ) (ad := ad) hD e1) (cwV 2 hts gv_X10_as rfl rfl rfl (by decide +kernel) ⟨Nat.le_of_ble_eq_true rfl, Nat.le_of_ble_eq_true rfl⟩) (xPreV (ci := 10) hK hP rfl zO_0) rfl rfl hl.1 rfl (lv_room (Nat.le_of_ble_eq_true rfl)) dL_law_265 ⟨Nat.le_of_ble_eq_true rfl, Nat.le_of_ble_eq_true rfl⟩) hS (fun H locs hP hS => ?_)
  refine lv_aload_n hx hb dL_law_268 rfl (lv_at hl 2 rfl) ?_
  refine lv_aload_n hx hb dL_law_269 rfl (lv_at hl 0 rfl) ?_
  refine lv_iload_n hx hb dL_law_270 rfl (lv_at hl 3 rfl) ?_
  refine lv_iconst (v := (1 : Int32)) hx hb dL_law_271 (by decide) ?_
  refine lv_iadd hx hb dL_law_272 ?_
  refine va_sld hx hb hX hbl hbA hS n1 dL_law_273 ?_
  refine lv_aload_n hx hb dL_law_274 rfl (lv_at hl 0 rfl) ?_
  refine lv_iload_n hx hb dL_law_275 rfl (lv_at hl 3 rfl) ?_
  refine lv_iconst (v := (2 : Int32)) hx hb dL_law_276 (by decide) ?_
  refine lv_iadd hx hb dL_law_277 ?_
  refine va_sld hx hb hX hbl hbA hS n2 dL_law_278 ?_
  refine za_callWi (va_runV (As := [.int (xs (nI i + 1).toNatClampNeg), .int (xs (nI i + 2).toNatClampNeg)]) (rest := [.int r]) ⟨hx, hb, hml, hown, hts⟩ (k_X11_as l (D := D) (cI := cI) (cJ := cJ) (ad := ad) hD e2) (cwV 2 hts gv_X11_as rfl rfl rfl (by decide +kernel) ⟨Nat.le_of_ble_eq_true rfl, Nat.le_of_ble_eq_true rfl⟩) (xPreV (ci := 11) hK hP rfl zO_64) rfl rfl hl.1 rfl (lv_room (Nat.le_of_ble_eq_true rfl)) dL_law_279 ⟨Nat.le_of_ble_eq_true rfl, Nat.le_of_ble_eq_true rfl⟩) hS (fun H locs hP hS => ?_)
  refine lv_icmp_eq (tgt := 1191) hx hb dL_law_282 (by decide) (fun _ => ?_) (fun c9 => absurd rfl c9)
  exact kk u2 v1 H locs ls hI2 hP hS hl
set_option maxHeartbeats 4000000 in
theorem law_c3 (C0 : lw_At p s m meth c b L xs) (hK : xK D cI cJ s) (hD : zD (fun q : Nat => s.heap.size ≤ q) cI cJ ad) {i : Nat} (hi : i + 7 ≤ L) (hL : L ≤ 3584) (kk : lK p l e s m below meth c b D cI cJ ad i 1191) : lK p l e s m below meth c b D cI cJ ad i 287 := by
  obtain ⟨hx, hb, hr, hml, hown, hts, hX, hbl, hlocks, hgv⟩ := C0
  have hbA : ¬ (fun q : Nat => s.heap.size ≤ q) b := Nat.not_le.mpr hbl
  intro u v H locs ls hI hP hS hl
  have n1 : vp_in (nI i + 1) L := by rw [ixj (J := 1) i 1 rfl]; exact vp_in_nI (by omega) (by omega)
  have n2 : vp_in (nI i + 2) L := by rw [ixj (J := 2) i 2 rfl]; exact vp_in_nI (by omega) (by omega)
  refine lv_aload_n hx hb dL_law_287 rfl (lv_at hl 1 rfl) ?_
  refine lv_aload_n hx hb dL_law_288 rfl (lv_at hl 0 rfl) ?_
  refine lv_iload_n hx hb dL_law_289 rfl (lv_at hl 3 rfl) ?_
  refine lv_iconst (v := (1 : Int32)) hx hb dL_law_290 (by decide) ?_
  refine lv_iadd hx hb dL_law_291 ?_
  refine va_sld hx hb hX hbl hbA hS n1 dL_law_292 ?_
  refine lv_aload_n hx hb dL_law_293 rfl (lv_at hl 0 rfl) ?_
  refine lv_iload_n hx hb dL_law_294 rfl (lv_at hl 3 rfl) ?_
  refine lv_iconst (v := (2 : Int32)) hx hb dL_law_295 (by decide) ?_
  refine lv_iadd hx hb dL_law_296 ?_
  refine va_sld hx hb hX hbl hbA hS n2 dL_law_297 ?_
  obtain ⟨r, u1, v1, u2, e1, e2, hI2⟩ := SM_go (fun N n c K f ok => sm_rule ok f (xs (nI i + 1).toNatClampNeg) (xs (nI i + 2).toNatClampNeg)) hI
  refine za_callWi (va_runV (As := [.int (xs (nI i + 1).toNatClampNeg), .int (xs (nI i + 2).toNatClampNeg)]) (rest := []) ⟨hx, hb, hml, hown, hts⟩ (k_X10_rule l (D := D) (cI := cI) (cJ := cJ) (ad := ad) hD e1) (cwV 2 hts gv_X10_rule rfl rfl rfl (by decide +kernel) ⟨Nat.le_of_ble_eq_true rfl, Nat.le_of_ble_eq_true rfl⟩) (xPreV (ci := 10) hK hP rfl zO_0) rfl rfl hl.1 rfl (lv_room (Nat.le_of_ble_eq_true rfl)) dL_law_298 ⟨Nat.le_of_ble_eq_true rfl, Nat.le_of_ble_eq_true rfl⟩) hS (fun H locs hP hS => ?_)
  refine lv_aload_n hx hb dL_law_301 rfl (lv_at hl 2 rfl) ?_
  refine lv_aload_n hx hb dL_law_302 rfl (lv_at hl 0 rfl) ?_
  refine lv_iload_n hx hb dL_law_303 rfl (lv_at hl 3 rfl) ?_
  refine lv_iconst (v := (1 : Int32)) hx hb dL_law_304 (by decide) ?_
  refine lv_iadd hx hb dL_law_305 ?_
  refine va_sld hx hb hX hbl hbA hS n1 dL_law_306 ?_
  refine lv_aload_n hx hb dL_law_307 rfl (lv_at hl 0 rfl) ?_
  refine lv_iload_n hx hb dL_law_308 rfl (lv_at hl 3 rfl) ?_
  refine lv_iconst (v := (2 : Int32)) hx hb dL_law_309 (by decide) ?_
  refine lv_iadd hx hb dL_law_310 ?_
  refine va_sld hx hb hX hbl hbA hS n2 dL_law_311 ?_
  refine za_callWi (va_runV (As := [.int (xs (nI i + 1).toNatClampNeg), .int (xs (nI i + 2).toNatClampNeg)]) (rest := [.int r]) ⟨hx, hb, hml, hown, hts⟩ (k_X11_rule l (D := D) (cI := cI) (cJ := cJ) (ad := ad) hD e2) (cwV 2 hts gv_X11_rule rfl rfl rfl (by decide +kernel) ⟨Nat.le_of_ble_eq_true rfl, Nat.le_of_ble_eq_true rfl⟩) (xPreV (ci := 11) hK hP rfl zO_64) rfl rfl hl.1 rfl (lv_room (Nat.le_of_ble_eq_true rfl)) dL_law_312 ⟨Nat.le_of_ble_eq_true rfl, Nat.le_of_ble_eq_true rfl⟩) hS (fun H locs hP hS => ?_)
  refine lv_icmp_eq (tgt := 1191) hx hb dL_law_315 (by decide) (fun _ => ?_) (fun c9 => absurd rfl c9)
  exact kk u2 v1 H locs ls hI2 hP hS hl
set_option maxHeartbeats 4000000 in
theorem law_c4 (C0 : lw_At p s m meth c b L xs) (hK : xK D cI cJ s) (hD : zD (fun q : Nat => s.heap.size ≤ q) cI cJ ad) {i : Nat} (hi : i + 7 ≤ L) (hL : L ≤ 3584) (kk : lK p l e s m below meth c b D cI cJ ad i 1191) : lK p l e s m below meth c b D cI cJ ad i 320 := by
  obtain ⟨hx, hb, hr, hml, hown, hts, hX, hbl, hlocks, hgv⟩ := C0
  have hbA : ¬ (fun q : Nat => s.heap.size ≤ q) b := Nat.not_le.mpr hbl
  intro u v H locs ls hI hP hS hl
  have n1 : vp_in (nI i + 1) L := by rw [ixj (J := 1) i 1 rfl]; exact vp_in_nI (by omega) (by omega)
  refine lv_aload_n hx hb dL_law_320 rfl (lv_at hl 1 rfl) ?_
  refine lv_aload_n hx hb dL_law_321 rfl (lv_at hl 0 rfl) ?_
  refine lv_iload_n hx hb dL_law_322 rfl (lv_at hl 3 rfl) ?_
  refine lv_iconst (v := (1 : Int32)) hx hb dL_law_323 (by decide) ?_
  refine lv_iadd hx hb dL_law_324 ?_
  refine va_sld hx hb hX hbl hbA hS n1 dL_law_325 ?_
  obtain ⟨r, u1, v1, u2, e1, e2, hI2⟩ := SM_go (fun N n c K f ok => sm_unrule ok f (xs (nI i + 1).toNatClampNeg)) hI
  refine za_callWi (va_runV (As := [.int (xs (nI i + 1).toNatClampNeg)]) (rest := []) ⟨hx, hb, hml, hown, hts⟩ (k_X10_unrule l (D := D) (cI := cI) (cJ := cJ) (ad := ad) hD e1) (cwV 1 hts gv_X10_unrule rfl rfl rfl (by decide +kernel) ⟨Nat.le_of_ble_eq_true rfl, Nat.le_of_ble_eq_true rfl⟩) (xPreV (ci := 10) hK hP rfl zO_0) rfl rfl hl.1 rfl (lv_room (Nat.le_of_ble_eq_true rfl)) dL_law_326 ⟨Nat.le_of_ble_eq_true rfl, Nat.le_of_ble_eq_true rfl⟩) hS (fun H locs hP hS => ?_)
  refine lv_aload_n hx hb dL_law_329 rfl (lv_at hl 2 rfl) ?_
  refine lv_aload_n hx hb dL_law_330 rfl (lv_at hl 0 rfl) ?_
  refine lv_iload_n hx hb dL_law_331 rfl (lv_at hl 3 rfl) ?_
  refine lv_iconst (v := (1 : Int32)) hx hb dL_law_332 (by decide) ?_
  refine lv_iadd hx hb dL_law_333 ?_
  refine va_sld hx hb hX hbl hbA hS n1 dL_law_334 ?_
  refine za_callWi (va_runV (As := [.int (xs (nI i + 1).toNatClampNeg)]) (rest := [.int r]) ⟨hx, hb, hml, hown, hts⟩ (k_X11_unrule l (D := D) (cI := cI) (cJ := cJ) (ad := ad) hD e2) (cwV 1 hts gv_X11_unrule rfl rfl rfl (by decide +kernel) ⟨Nat.le_of_ble_eq_true rfl, Nat.le_of_ble_eq_true rfl⟩) (xPreV (ci := 11) hK hP rfl zO_64) rfl rfl hl.1 rfl (lv_room (Nat.le_of_ble_eq_true rfl)) dL_law_335 ⟨Nat.le_of_ble_eq_true rfl, Nat.le_of_ble_eq_true rfl⟩) hS (fun H locs hP hS => ?_)
  refine lv_icmp_eq (tgt := 1191) hx hb dL_law_338 (by decide) (fun _ => ?_) (fun c9 => absurd rfl c9)
  exact kk u2 v1 H locs ls hI2 hP hS hl
set_option maxHeartbeats 4000000 in
theorem law_c5 (C0 : lw_At p s m meth c b L xs) (hK : xK D cI cJ s) (hD : zD (fun q : Nat => s.heap.size ≤ q) cI cJ ad) {i : Nat} (hi : i + 7 ≤ L) (hL : L ≤ 3584) (kk : lK p l e s m below meth c b D cI cJ ad i 1191) : lK p l e s m below meth c b D cI cJ ad i 343 := by
  obtain ⟨hx, hb, hr, hml, hown, hts, hX, hbl, hlocks, hgv⟩ := C0
  have hbA : ¬ (fun q : Nat => s.heap.size ≤ q) b := Nat.not_le.mpr hbl
  intro u v H locs ls hI hP hS hl
  have n1 : vp_in (nI i + 1) L := by rw [ixj (J := 1) i 1 rfl]; exact vp_in_nI (by omega) (by omega)
  have n2 : vp_in (nI i + 2) L := by rw [ixj (J := 2) i 2 rfl]; exact vp_in_nI (by omega) (by omega)
  refine lv_aload_n hx hb dL_law_343 rfl (lv_at hl 1 rfl) ?_
  refine lv_aload_n hx hb dL_law_344 rfl (lv_at hl 0 rfl) ?_
  refine lv_iload_n hx hb dL_law_345 rfl (lv_at hl 3 rfl) ?_
  refine lv_iconst (v := (1 : Int32)) hx hb dL_law_346 (by decide) ?_
  refine lv_iadd hx hb dL_law_347 ?_
  refine va_sld hx hb hX hbl hbA hS n1 dL_law_348 ?_
  refine lv_aload_n hx hb dL_law_349 rfl (lv_at hl 0 rfl) ?_
  refine lv_iload_n hx hb dL_law_350 rfl (lv_at hl 3 rfl) ?_
  refine lv_iconst (v := (2 : Int32)) hx hb dL_law_351 (by decide) ?_
  refine lv_iadd hx hb dL_law_352 ?_
  refine va_sld hx hb hX hbl hbA hS n2 dL_law_353 ?_
  obtain ⟨r, u1, v1, u2, e1, e2, hI2⟩ := SM_go (fun N n c K f ok => sm_fits ok f (xs (nI i + 1).toNatClampNeg) (xs (nI i + 2).toNatClampNeg)) hI
  refine za_callWi (va_runV (As := [.int (xs (nI i + 1).toNatClampNeg), .int (xs (nI i + 2).toNatClampNeg)]) (rest := []) ⟨hx, hb, hml, hown, hts⟩ (k_X10_fits l (D := D) (cI := cI) (cJ := cJ) (ad := ad) hD e1) (cwV 2 hts gv_X10_fits rfl rfl rfl (by decide +kernel) ⟨Nat.le_of_ble_eq_true rfl, Nat.le_of_ble_eq_true rfl⟩) (xPreV (ci := 10) hK hP rfl zO_0) rfl rfl hl.1 rfl (lv_room (Nat.le_of_ble_eq_true rfl)) dL_law_354 ⟨Nat.le_of_ble_eq_true rfl, Nat.le_of_ble_eq_true rfl⟩) hS (fun H locs hP hS => ?_)
  refine lv_aload_n hx hb dL_law_357 rfl (lv_at hl 2 rfl) ?_
  refine lv_aload_n hx hb dL_law_358 rfl (lv_at hl 0 rfl) ?_
  refine lv_iload_n hx hb dL_law_359 rfl (lv_at hl 3 rfl) ?_
  refine lv_iconst (v := (1 : Int32)) hx hb dL_law_360 (by decide) ?_
  refine lv_iadd hx hb dL_law_361 ?_
  refine va_sld hx hb hX hbl hbA hS n1 dL_law_362 ?_
  refine lv_aload_n hx hb dL_law_363 rfl (lv_at hl 0 rfl) ?_
  refine lv_iload_n hx hb dL_law_364 rfl (lv_at hl 3 rfl) ?_
  refine lv_iconst (v := (2 : Int32)) hx hb dL_law_365 (by decide) ?_
  refine lv_iadd hx hb dL_law_366 ?_
  refine va_sld hx hb hX hbl hbA hS n2 dL_law_367 ?_
  refine za_callWi (va_runV (As := [.int (xs (nI i + 1).toNatClampNeg), .int (xs (nI i + 2).toNatClampNeg)]) (rest := [.int r]) ⟨hx, hb, hml, hown, hts⟩ (k_X11_fits l (D := D) (cI := cI) (cJ := cJ) (ad := ad) hD e2) (cwV 2 hts gv_X11_fits rfl rfl rfl (by decide +kernel) ⟨Nat.le_of_ble_eq_true rfl, Nat.le_of_ble_eq_true rfl⟩) (xPreV (ci := 11) hK hP rfl zO_64) rfl rfl hl.1 rfl (lv_room (Nat.le_of_ble_eq_true rfl)) dL_law_368 ⟨Nat.le_of_ble_eq_true rfl, Nat.le_of_ble_eq_true rfl⟩) hS (fun H locs hP hS => ?_)
  refine lv_icmp_eq (tgt := 1191) hx hb dL_law_371 (by decide) (fun _ => ?_) (fun c9 => absurd rfl c9)
  exact kk u2 v1 H locs ls hI2 hP hS hl
set_option maxHeartbeats 4000000 in
theorem law_c6 (C0 : lw_At p s m meth c b L xs) (hK : xK D cI cJ s) (hD : zD (fun q : Nat => s.heap.size ≤ q) cI cJ ad) {i : Nat} (hi : i + 7 ≤ L) (hL : L ≤ 3584) (kk : lK p l e s m below meth c b D cI cJ ad i 1191) : lK p l e s m below meth c b D cI cJ ad i 376 := by
  obtain ⟨hx, hb, hr, hml, hown, hts, hX, hbl, hlocks, hgv⟩ := C0
  have hbA : ¬ (fun q : Nat => s.heap.size ≤ q) b := Nat.not_le.mpr hbl
  intro u v H locs ls hI hP hS hl
  have n1 : vp_in (nI i + 1) L := by rw [ixj (J := 1) i 1 rfl]; exact vp_in_nI (by omega) (by omega)
  have n2 : vp_in (nI i + 2) L := by rw [ixj (J := 2) i 2 rfl]; exact vp_in_nI (by omega) (by omega)
  refine lv_aload_n hx hb dL_law_376 rfl (lv_at hl 1 rfl) ?_
  refine lv_aload_n hx hb dL_law_377 rfl (lv_at hl 0 rfl) ?_
  refine lv_iload_n hx hb dL_law_378 rfl (lv_at hl 3 rfl) ?_
  refine lv_iconst (v := (1 : Int32)) hx hb dL_law_379 (by decide) ?_
  refine lv_iadd hx hb dL_law_380 ?_
  refine va_sld hx hb hX hbl hbA hS n1 dL_law_381 ?_
  refine lv_aload_n hx hb dL_law_382 rfl (lv_at hl 0 rfl) ?_
  refine lv_iload_n hx hb dL_law_383 rfl (lv_at hl 3 rfl) ?_
  refine lv_iconst (v := (2 : Int32)) hx hb dL_law_384 (by decide) ?_
  refine lv_iadd hx hb dL_law_385 ?_
  refine va_sld hx hb hX hbl hbA hS n2 dL_law_386 ?_
  obtain ⟨r, u1, v1, u2, e1, e2, hI2⟩ := SM_go (fun N n c K f ok => sm_host ok f (xs (nI i + 1).toNatClampNeg) (xs (nI i + 2).toNatClampNeg)) hI
  refine za_callWi (va_runV (As := [.int (xs (nI i + 1).toNatClampNeg), .int (xs (nI i + 2).toNatClampNeg)]) (rest := []) ⟨hx, hb, hml, hown, hts⟩ (k_X10_host l (D := D) (cI := cI) (cJ := cJ) (ad := ad) hD e1) (cwV 2 hts gv_X10_host rfl rfl rfl (by decide +kernel) ⟨Nat.le_of_ble_eq_true rfl, Nat.le_of_ble_eq_true rfl⟩) (xPreV (ci := 10) hK hP rfl zO_0) rfl rfl hl.1 rfl (lv_room (Nat.le_of_ble_eq_true rfl)) dL_law_387 ⟨Nat.le_of_ble_eq_true rfl, Nat.le_of_ble_eq_true rfl⟩) hS (fun H locs hP hS => ?_)
  refine lv_aload_n hx hb dL_law_390 rfl (lv_at hl 2 rfl) ?_
  refine lv_aload_n hx hb dL_law_391 rfl (lv_at hl 0 rfl) ?_
  refine lv_iload_n hx hb dL_law_392 rfl (lv_at hl 3 rfl) ?_
  refine lv_iconst (v := (1 : Int32)) hx hb dL_law_393 (by decide) ?_
  refine lv_iadd hx hb dL_law_394 ?_
  refine va_sld hx hb hX hbl hbA hS n1 dL_law_395 ?_
  refine lv_aload_n hx hb dL_law_396 rfl (lv_at hl 0 rfl) ?_
  refine lv_iload_n hx hb dL_law_397 rfl (lv_at hl 3 rfl) ?_
  refine lv_iconst (v := (2 : Int32)) hx hb dL_law_398 (by decide) ?_
  refine lv_iadd hx hb dL_law_399 ?_
  refine va_sld hx hb hX hbl hbA hS n2 dL_law_400 ?_
  refine za_callWi (va_runV (As := [.int (xs (nI i + 1).toNatClampNeg), .int (xs (nI i + 2).toNatClampNeg)]) (rest := [.int r]) ⟨hx, hb, hml, hown, hts⟩ (k_X11_host l (D := D) (cI := cI) (cJ := cJ) (ad := ad) hD e2) (cwV 2 hts gv_X11_host rfl rfl rfl (by decide +kernel) ⟨Nat.le_of_ble_eq_true rfl, Nat.le_of_ble_eq_true rfl⟩) (xPreV (ci := 11) hK hP rfl zO_64) rfl rfl hl.1 rfl (lv_room (Nat.le_of_ble_eq_true rfl)) dL_law_401 ⟨Nat.le_of_ble_eq_true rfl, Nat.le_of_ble_eq_true rfl⟩) hS (fun H locs hP hS => ?_)
  refine lv_icmp_eq (tgt := 1191) hx hb dL_law_404 (by decide) (fun _ => ?_) (fun c9 => absurd rfl c9)
  exact kk u2 v1 H locs ls hI2 hP hS hl
set_option maxHeartbeats 4000000 in
theorem law_c7 (C0 : lw_At p s m meth c b L xs) (hK : xK D cI cJ s) (hD : zD (fun q : Nat => s.heap.size ≤ q) cI cJ ad) {i : Nat} (hi : i + 7 ≤ L) (hL : L ≤ 3584) (kk : lK p l e s m below meth c b D cI cJ ad i 1191) : lK p l e s m below meth c b D cI cJ ad i 409 := by
  obtain ⟨hx, hb, hr, hml, hown, hts, hX, hbl, hlocks, hgv⟩ := C0
  have hbA : ¬ (fun q : Nat => s.heap.size ≤ q) b := Nat.not_le.mpr hbl
  intro u v H locs ls hI hP hS hl
  have n1 : vp_in (nI i + 1) L := by rw [ixj (J := 1) i 1 rfl]; exact vp_in_nI (by omega) (by omega)
  have n2 : vp_in (nI i + 2) L := by rw [ixj (J := 2) i 2 rfl]; exact vp_in_nI (by omega) (by omega)
  refine lv_aload_n hx hb dL_law_409 rfl (lv_at hl 1 rfl) ?_
  refine lv_aload_n hx hb dL_law_410 rfl (lv_at hl 0 rfl) ?_
  refine lv_iload_n hx hb dL_law_411 rfl (lv_at hl 3 rfl) ?_
  refine lv_iconst (v := (1 : Int32)) hx hb dL_law_412 (by decide) ?_
  refine lv_iadd hx hb dL_law_413 ?_
  refine va_sld hx hb hX hbl hbA hS n1 dL_law_414 ?_
  refine lv_aload_n hx hb dL_law_415 rfl (lv_at hl 0 rfl) ?_
  refine lv_iload_n hx hb dL_law_416 rfl (lv_at hl 3 rfl) ?_
  refine lv_iconst (v := (2 : Int32)) hx hb dL_law_417 (by decide) ?_
  refine lv_iadd hx hb dL_law_418 ?_
  refine va_sld hx hb hX hbl hbA hS n2 dL_law_419 ?_
  obtain ⟨r, u1, v1, u2, e1, e2, hI2⟩ := SM_go (fun N n c K f ok => sm_moved ok f (xs (nI i + 1).toNatClampNeg) (xs (nI i + 2).toNatClampNeg)) hI
  refine za_callWi (va_runV (As := [.int (xs (nI i + 1).toNatClampNeg), .int (xs (nI i + 2).toNatClampNeg)]) (rest := []) ⟨hx, hb, hml, hown, hts⟩ (k_X10_moved l (D := D) (cI := cI) (cJ := cJ) (ad := ad) hD e1) (cwV 2 hts gv_X10_moved rfl rfl rfl (by decide +kernel) ⟨Nat.le_of_ble_eq_true rfl, Nat.le_of_ble_eq_true rfl⟩) (xPreV (ci := 10) hK hP rfl zO_0) rfl rfl hl.1 rfl (lv_room (Nat.le_of_ble_eq_true rfl)) dL_law_420 ⟨Nat.le_of_ble_eq_true rfl, Nat.le_of_ble_eq_true rfl⟩) hS (fun H locs hP hS => ?_)
  refine lv_aload_n hx hb dL_law_423 rfl (lv_at hl 2 rfl) ?_
  refine lv_aload_n hx hb dL_law_424 rfl (lv_at hl 0 rfl) ?_
  refine lv_iload_n hx hb dL_law_425 rfl (lv_at hl 3 rfl) ?_
  refine lv_iconst (v := (1 : Int32)) hx hb dL_law_426 (by decide) ?_
  refine lv_iadd hx hb dL_law_427 ?_
  refine va_sld hx hb hX hbl hbA hS n1 dL_law_428 ?_
  refine lv_aload_n hx hb dL_law_429 rfl (lv_at hl 0 rfl) ?_
  refine lv_iload_n hx hb dL_law_430 rfl (lv_at hl 3 rfl) ?_
  refine lv_iconst (v := (2 : Int32)) hx hb dL_law_431 (by decide) ?_
  refine lv_iadd hx hb dL_law_432 ?_
  refine va_sld hx hb hX hbl hbA hS n2 dL_law_433 ?_
  refine za_callWi (va_runV (As := [.int (xs (nI i + 1).toNatClampNeg), .int (xs (nI i + 2).toNatClampNeg)]) (rest := [.int r]) ⟨hx, hb, hml, hown, hts⟩ (k_X11_moved l (D := D) (cI := cI) (cJ := cJ) (ad := ad) hD e2) (cwV 2 hts gv_X11_moved rfl rfl rfl (by decide +kernel) ⟨Nat.le_of_ble_eq_true rfl, Nat.le_of_ble_eq_true rfl⟩) (xPreV (ci := 11) hK hP rfl zO_64) rfl rfl hl.1 rfl (lv_room (Nat.le_of_ble_eq_true rfl)) dL_law_434 ⟨Nat.le_of_ble_eq_true rfl, Nat.le_of_ble_eq_true rfl⟩) hS (fun H locs hP hS => ?_)
  refine lv_icmp_eq (tgt := 1191) hx hb dL_law_437 (by decide) (fun _ => ?_) (fun c9 => absurd rfl c9)
  exact kk u2 v1 H locs ls hI2 hP hS hl
set_option maxHeartbeats 4000000 in
theorem law_c8 (C0 : lw_At p s m meth c b L xs) (hK : xK D cI cJ s) (hD : zD (fun q : Nat => s.heap.size ≤ q) cI cJ ad) {i : Nat} (hi : i + 7 ≤ L) (hL : L ≤ 3584) (kk : lK p l e s m below meth c b D cI cJ ad i 1191) : lK p l e s m below meth c b D cI cJ ad i 442 := by
  obtain ⟨hx, hb, hr, hml, hown, hts, hX, hbl, hlocks, hgv⟩ := C0
  have hbA : ¬ (fun q : Nat => s.heap.size ≤ q) b := Nat.not_le.mpr hbl
  intro u v H locs ls hI hP hS hl
  have n1 : vp_in (nI i + 1) L := by rw [ixj (J := 1) i 1 rfl]; exact vp_in_nI (by omega) (by omega)
  have n2 : vp_in (nI i + 2) L := by rw [ixj (J := 2) i 2 rfl]; exact vp_in_nI (by omega) (by omega)
  have n3 : vp_in (nI i + 3) L := by rw [ixj (J := 3) i 3 rfl]; exact vp_in_nI (by omega) (by omega)
  refine lv_aload_n hx hb dL_law_442 rfl (lv_at hl 1 rfl) ?_
  refine lv_aload_n hx hb dL_law_443 rfl (lv_at hl 0 rfl) ?_
  refine lv_iload_n hx hb dL_law_444 rfl (lv_at hl 3 rfl) ?_
  refine lv_iconst (v := (1 : Int32)) hx hb dL_law_445 (by decide) ?_
  refine lv_iadd hx hb dL_law_446 ?_
  refine va_sld hx hb hX hbl hbA hS n1 dL_law_447 ?_
  refine lv_aload_n hx hb dL_law_448 rfl (lv_at hl 0 rfl) ?_
  refine lv_iload_n hx hb dL_law_449 rfl (lv_at hl 3 rfl) ?_
  refine lv_iconst (v := (2 : Int32)) hx hb dL_law_450 (by decide) ?_
  refine lv_iadd hx hb dL_law_451 ?_
  refine va_sld hx hb hX hbl hbA hS n2 dL_law_452 ?_
  refine lv_aload_n hx hb dL_law_453 rfl (lv_at hl 0 rfl) ?_
  refine lv_iload_n hx hb dL_law_454 rfl (lv_at hl 3 rfl) ?_
  refine lv_iconst (v := (3 : Int32)) hx hb dL_law_455 (by decide) ?_
  refine lv_iadd hx hb dL_law_456 ?_
  refine va_sld hx hb hX hbl hbA hS n3 dL_law_457 ?_
  obtain ⟨r, u1, v1, u2, e1, e2, hI2⟩ := SM_go (fun N n c K f ok => sm_find ok f (xs (nI i + 1).toNatClampNeg) (xs (nI i + 2).toNatClampNeg) (xs (nI i + 3).toNatClampNeg)) hI
  refine za_callWi (va_runV (As := [.int (xs (nI i + 1).toNatClampNeg), .int (xs (nI i + 2).toNatClampNeg), .int (xs (nI i + 3).toNatClampNeg)]) (rest := []) ⟨hx, hb, hml, hown, hts⟩ (k_X10_find l (D := D) (cI := cI) (cJ := cJ) (ad := ad) hD e1) (cwV 3 hts gv_X10_find rfl rfl rfl (by decide +kernel) ⟨Nat.le_of_ble_eq_true rfl, Nat.le_of_ble_eq_true rfl⟩) (xPreV (ci := 10) hK hP rfl zO_0) rfl rfl hl.1 rfl (lv_room (Nat.le_of_ble_eq_true rfl)) dL_law_458 ⟨Nat.le_of_ble_eq_true rfl, Nat.le_of_ble_eq_true rfl⟩) hS (fun H locs hP hS => ?_)
  refine lv_aload_n hx hb dL_law_461 rfl (lv_at hl 2 rfl) ?_
  refine lv_aload_n hx hb dL_law_462 rfl (lv_at hl 0 rfl) ?_
  refine lv_iload_n hx hb dL_law_463 rfl (lv_at hl 3 rfl) ?_
  refine lv_iconst (v := (1 : Int32)) hx hb dL_law_464 (by decide) ?_
  refine lv_iadd hx hb dL_law_465 ?_
  refine va_sld hx hb hX hbl hbA hS n1 dL_law_466 ?_
  refine lv_aload_n hx hb dL_law_467 rfl (lv_at hl 0 rfl) ?_
  refine lv_iload_n hx hb dL_law_468 rfl (lv_at hl 3 rfl) ?_
  refine lv_iconst (v := (2 : Int32)) hx hb dL_law_469 (by decide) ?_
  refine lv_iadd hx hb dL_law_470 ?_
  refine va_sld hx hb hX hbl hbA hS n2 dL_law_471 ?_
  refine lv_aload_n hx hb dL_law_472 rfl (lv_at hl 0 rfl) ?_
  refine lv_iload_n hx hb dL_law_473 rfl (lv_at hl 3 rfl) ?_
  refine lv_iconst (v := (3 : Int32)) hx hb dL_law_474 (by decide) ?_
  refine lv_iadd hx hb dL_law_475 ?_
  refine va_sld hx hb hX hbl hbA hS n3 dL_law_476 ?_
  refine za_callWi (va_runV (As := [.int (xs (nI i + 1).toNatClampNeg), .int (xs (nI i + 2).toNatClampNeg), .int (xs (nI i + 3).toNatClampNeg)]) (rest := [.int r]) ⟨hx, hb, hml, hown, hts⟩ (k_X11_find l (D := D) (cI := cI) (cJ := cJ) (ad := ad) hD e2) (cwV 3 hts gv_X11_find rfl rfl rfl (by decide +kernel) ⟨Nat.le_of_ble_eq_true rfl, Nat.le_of_ble_eq_true rfl⟩) (xPreV (ci := 11) hK hP rfl zO_64) rfl rfl hl.1 rfl (lv_room (Nat.le_of_ble_eq_true rfl)) dL_law_477 ⟨Nat.le_of_ble_eq_true rfl, Nat.le_of_ble_eq_true rfl⟩) hS (fun H locs hP hS => ?_)
  refine lv_icmp_eq (tgt := 1191) hx hb dL_law_480 (by decide) (fun _ => ?_) (fun c9 => absurd rfl c9)
  exact kk u2 v1 H locs ls hI2 hP hS hl
set_option maxHeartbeats 4000000 in
theorem law_c9 (C0 : lw_At p s m meth c b L xs) (hK : xK D cI cJ s) (hD : zD (fun q : Nat => s.heap.size ≤ q) cI cJ ad) {i : Nat} (hi : i + 7 ≤ L) (hL : L ≤ 3584) (kk : lK p l e s m below meth c b D cI cJ ad i 1191) : lK p l e s m below meth c b D cI cJ ad i 485 := by
  obtain ⟨hx, hb, hr, hml, hown, hts, hX, hbl, hlocks, hgv⟩ := C0
  have hbA : ¬ (fun q : Nat => s.heap.size ≤ q) b := Nat.not_le.mpr hbl
  intro u v H locs ls hI hP hS hl
  have n1 : vp_in (nI i + 1) L := by rw [ixj (J := 1) i 1 rfl]; exact vp_in_nI (by omega) (by omega)
  refine lv_aload_n hx hb dL_law_485 rfl (lv_at hl 1 rfl) ?_
  refine lv_aload_n hx hb dL_law_486 rfl (lv_at hl 0 rfl) ?_
  refine lv_iload_n hx hb dL_law_487 rfl (lv_at hl 3 rfl) ?_
  refine lv_iconst (v := (1 : Int32)) hx hb dL_law_488 (by decide) ?_
  refine lv_iadd hx hb dL_law_489 ?_
  refine va_sld hx hb hX hbl hbA hS n1 dL_law_490 ?_
  obtain ⟨r, u1, v1, u2, e1, e2, hI2⟩ := SM_go (fun N n c K f ok => sm_goes ok f (xs (nI i + 1).toNatClampNeg)) hI
  refine za_callWi (va_runV (As := [.int (xs (nI i + 1).toNatClampNeg)]) (rest := []) ⟨hx, hb, hml, hown, hts⟩ (k_X10_goes l (D := D) (cI := cI) (cJ := cJ) (ad := ad) hD e1) (cwV 1 hts gv_X10_goes rfl rfl rfl (by decide +kernel) ⟨Nat.le_of_ble_eq_true rfl, Nat.le_of_ble_eq_true rfl⟩) (xPreV (ci := 10) hK hP rfl zO_0) rfl rfl hl.1 rfl (lv_room (Nat.le_of_ble_eq_true rfl)) dL_law_491 ⟨Nat.le_of_ble_eq_true rfl, Nat.le_of_ble_eq_true rfl⟩) hS (fun H locs hP hS => ?_)
  refine lv_aload_n hx hb dL_law_494 rfl (lv_at hl 2 rfl) ?_
  refine lv_aload_n hx hb dL_law_495 rfl (lv_at hl 0 rfl) ?_
  refine lv_iload_n hx hb dL_law_496 rfl (lv_at hl 3 rfl) ?_
  refine lv_iconst (v := (1 : Int32)) hx hb dL_law_497 (by decide) ?_
  refine lv_iadd hx hb dL_law_498 ?_
  refine va_sld hx hb hX hbl hbA hS n1 dL_law_499 ?_
  refine za_callWi (va_runV (As := [.int (xs (nI i + 1).toNatClampNeg)]) (rest := [.int r]) ⟨hx, hb, hml, hown, hts⟩ (k_X11_goes l (D := D) (cI := cI) (cJ := cJ) (ad := ad) hD e2) (cwV 1 hts gv_X11_goes rfl rfl rfl (by decide +kernel) ⟨Nat.le_of_ble_eq_true rfl, Nat.le_of_ble_eq_true rfl⟩) (xPreV (ci := 11) hK hP rfl zO_64) rfl rfl hl.1 rfl (lv_room (Nat.le_of_ble_eq_true rfl)) dL_law_500 ⟨Nat.le_of_ble_eq_true rfl, Nat.le_of_ble_eq_true rfl⟩) hS (fun H locs hP hS => ?_)
  refine lv_icmp_eq (tgt := 1191) hx hb dL_law_503 (by decide) (fun _ => ?_) (fun c9 => absurd rfl c9)
  exact kk u2 v1 H locs ls hI2 hP hS hl
set_option maxHeartbeats 4000000 in
theorem law_c10 (C0 : lw_At p s m meth c b L xs) (hK : xK D cI cJ s) (hD : zD (fun q : Nat => s.heap.size ≤ q) cI cJ ad) {i : Nat} (hi : i + 7 ≤ L) (hL : L ≤ 3584) (kk : lK p l e s m below meth c b D cI cJ ad i 1191) : lK p l e s m below meth c b D cI cJ ad i 508 := by
  obtain ⟨hx, hb, hr, hml, hown, hts, hX, hbl, hlocks, hgv⟩ := C0
  have hbA : ¬ (fun q : Nat => s.heap.size ≤ q) b := Nat.not_le.mpr hbl
  intro u v H locs ls hI hP hS hl
  have n1 : vp_in (nI i + 1) L := by rw [ixj (J := 1) i 1 rfl]; exact vp_in_nI (by omega) (by omega)
  refine lv_aload_n hx hb dL_law_508 rfl (lv_at hl 1 rfl) ?_
  refine lv_aload_n hx hb dL_law_509 rfl (lv_at hl 0 rfl) ?_
  refine lv_iload_n hx hb dL_law_510 rfl (lv_at hl 3 rfl) ?_
  refine lv_iconst (v := (1 : Int32)) hx hb dL_law_511 (by decide) ?_
  refine lv_iadd hx hb dL_law_512 ?_
  refine va_sld hx hb hX hbl hbA hS n1 dL_law_513 ?_
  obtain ⟨r, u1, v1, u2, e1, e2, hI2⟩ := SM_go (fun N n c K f ok => sm_by ok f (xs (nI i + 1).toNatClampNeg)) hI
  refine za_callWi (va_runV (As := [.int (xs (nI i + 1).toNatClampNeg)]) (rest := []) ⟨hx, hb, hml, hown, hts⟩ (k_X10_by l (D := D) (cI := cI) (cJ := cJ) (ad := ad) hD e1) (cwV 1 hts gv_X10_by rfl rfl rfl (by decide +kernel) ⟨Nat.le_of_ble_eq_true rfl, Nat.le_of_ble_eq_true rfl⟩) (xPreV (ci := 10) hK hP rfl zO_0) rfl rfl hl.1 rfl (lv_room (Nat.le_of_ble_eq_true rfl)) dL_law_514 ⟨Nat.le_of_ble_eq_true rfl, Nat.le_of_ble_eq_true rfl⟩) hS (fun H locs hP hS => ?_)
  refine lv_aload_n hx hb dL_law_517 rfl (lv_at hl 2 rfl) ?_
  refine lv_aload_n hx hb dL_law_518 rfl (lv_at hl 0 rfl) ?_
  refine lv_iload_n hx hb dL_law_519 rfl (lv_at hl 3 rfl) ?_
  refine lv_iconst (v := (1 : Int32)) hx hb dL_law_520 (by decide) ?_
  refine lv_iadd hx hb dL_law_521 ?_
  refine va_sld hx hb hX hbl hbA hS n1 dL_law_522 ?_
  refine za_callWi (va_runV (As := [.int (xs (nI i + 1).toNatClampNeg)]) (rest := [.int r]) ⟨hx, hb, hml, hown, hts⟩ (k_X11_by l (D := D) (cI := cI) (cJ := cJ) (ad := ad) hD e2) (cwV 1 hts gv_X11_by rfl rfl rfl (by decide +kernel) ⟨Nat.le_of_ble_eq_true rfl, Nat.le_of_ble_eq_true rfl⟩) (xPreV (ci := 11) hK hP rfl zO_64) rfl rfl hl.1 rfl (lv_room (Nat.le_of_ble_eq_true rfl)) dL_law_523 ⟨Nat.le_of_ble_eq_true rfl, Nat.le_of_ble_eq_true rfl⟩) hS (fun H locs hP hS => ?_)
  refine lv_icmp_eq (tgt := 1191) hx hb dL_law_526 (by decide) (fun _ => ?_) (fun c9 => absurd rfl c9)
  exact kk u2 v1 H locs ls hI2 hP hS hl
set_option maxHeartbeats 4000000 in
theorem law_c11 (C0 : lw_At p s m meth c b L xs) (hK : xK D cI cJ s) (hD : zD (fun q : Nat => s.heap.size ≤ q) cI cJ ad) {i : Nat} (hi : i + 7 ≤ L) (hL : L ≤ 3584) (kk : lK p l e s m below meth c b D cI cJ ad i 1191) : lK p l e s m below meth c b D cI cJ ad i 531 := by
  obtain ⟨hx, hb, hr, hml, hown, hts, hX, hbl, hlocks, hgv⟩ := C0
  have hbA : ¬ (fun q : Nat => s.heap.size ≤ q) b := Nat.not_le.mpr hbl
  intro u v H locs ls hI hP hS hl
  have n1 : vp_in (nI i + 1) L := by rw [ixj (J := 1) i 1 rfl]; exact vp_in_nI (by omega) (by omega)
  refine lv_aload_n hx hb dL_law_531 rfl (lv_at hl 1 rfl) ?_
  refine lv_aload_n hx hb dL_law_532 rfl (lv_at hl 0 rfl) ?_
  refine lv_iload_n hx hb dL_law_533 rfl (lv_at hl 3 rfl) ?_
  refine lv_iconst (v := (1 : Int32)) hx hb dL_law_534 (by decide) ?_
  refine lv_iadd hx hb dL_law_535 ?_
  refine va_sld hx hb hX hbl hbA hS n1 dL_law_536 ?_
  obtain ⟨r, u1, v1, u2, e1, e2, hI2⟩ := SM_go (fun N n c K f ok => sm_counts ok f (xs (nI i + 1).toNatClampNeg)) hI
  refine za_callWi (va_runV (As := [.int (xs (nI i + 1).toNatClampNeg)]) (rest := []) ⟨hx, hb, hml, hown, hts⟩ (k_X10_counts l (D := D) (cI := cI) (cJ := cJ) (ad := ad) hD e1) (cwV 1 hts gv_X10_counts rfl rfl rfl (by decide +kernel) ⟨Nat.le_of_ble_eq_true rfl, Nat.le_of_ble_eq_true rfl⟩) (xPreV (ci := 10) hK hP rfl zO_0) rfl rfl hl.1 rfl (lv_room (Nat.le_of_ble_eq_true rfl)) dL_law_537 ⟨Nat.le_of_ble_eq_true rfl, Nat.le_of_ble_eq_true rfl⟩) hS (fun H locs hP hS => ?_)
  refine lv_aload_n hx hb dL_law_540 rfl (lv_at hl 2 rfl) ?_
  refine lv_aload_n hx hb dL_law_541 rfl (lv_at hl 0 rfl) ?_
  refine lv_iload_n hx hb dL_law_542 rfl (lv_at hl 3 rfl) ?_
  refine lv_iconst (v := (1 : Int32)) hx hb dL_law_543 (by decide) ?_
  refine lv_iadd hx hb dL_law_544 ?_
  refine va_sld hx hb hX hbl hbA hS n1 dL_law_545 ?_
  refine za_callWi (va_runV (As := [.int (xs (nI i + 1).toNatClampNeg)]) (rest := [.int r]) ⟨hx, hb, hml, hown, hts⟩ (k_X11_counts l (D := D) (cI := cI) (cJ := cJ) (ad := ad) hD e2) (cwV 1 hts gv_X11_counts rfl rfl rfl (by decide +kernel) ⟨Nat.le_of_ble_eq_true rfl, Nat.le_of_ble_eq_true rfl⟩) (xPreV (ci := 11) hK hP rfl zO_64) rfl rfl hl.1 rfl (lv_room (Nat.le_of_ble_eq_true rfl)) dL_law_546 ⟨Nat.le_of_ble_eq_true rfl, Nat.le_of_ble_eq_true rfl⟩) hS (fun H locs hP hS => ?_)
  refine lv_icmp_eq (tgt := 1191) hx hb dL_law_549 (by decide) (fun _ => ?_) (fun c9 => absurd rfl c9)
  exact kk u2 v1 H locs ls hI2 hP hS hl
set_option maxHeartbeats 4000000 in
theorem law_c12 (C0 : lw_At p s m meth c b L xs) (hK : xK D cI cJ s) (hD : zD (fun q : Nat => s.heap.size ≤ q) cI cJ ad) {i : Nat} (hi : i + 7 ≤ L) (hL : L ≤ 3584) (kk : lK p l e s m below meth c b D cI cJ ad i 1191) : lK p l e s m below meth c b D cI cJ ad i 554 := by
  obtain ⟨hx, hb, hr, hml, hown, hts, hX, hbl, hlocks, hgv⟩ := C0
  have hbA : ¬ (fun q : Nat => s.heap.size ≤ q) b := Nat.not_le.mpr hbl
  intro u v H locs ls hI hP hS hl
  have n1 : vp_in (nI i + 1) L := by rw [ixj (J := 1) i 1 rfl]; exact vp_in_nI (by omega) (by omega)
  refine lv_aload_n hx hb dL_law_554 rfl (lv_at hl 1 rfl) ?_
  refine lv_aload_n hx hb dL_law_555 rfl (lv_at hl 0 rfl) ?_
  refine lv_iload_n hx hb dL_law_556 rfl (lv_at hl 3 rfl) ?_
  refine lv_iconst (v := (1 : Int32)) hx hb dL_law_557 (by decide) ?_
  refine lv_iadd hx hb dL_law_558 ?_
  refine va_sld hx hb hX hbl hbA hS n1 dL_law_559 ?_
  obtain ⟨r, u1, v1, u2, e1, e2, hI2⟩ := SM_go (fun N n c K f ok => sm_finds ok f (xs (nI i + 1).toNatClampNeg)) hI
  refine za_callWi (va_runV (As := [.int (xs (nI i + 1).toNatClampNeg)]) (rest := []) ⟨hx, hb, hml, hown, hts⟩ (k_X10_finds l (D := D) (cI := cI) (cJ := cJ) (ad := ad) hD e1) (cwV 1 hts gv_X10_finds rfl rfl rfl (by decide +kernel) ⟨Nat.le_of_ble_eq_true rfl, Nat.le_of_ble_eq_true rfl⟩) (xPreV (ci := 10) hK hP rfl zO_0) rfl rfl hl.1 rfl (lv_room (Nat.le_of_ble_eq_true rfl)) dL_law_560 ⟨Nat.le_of_ble_eq_true rfl, Nat.le_of_ble_eq_true rfl⟩) hS (fun H locs hP hS => ?_)
  refine lv_aload_n hx hb dL_law_563 rfl (lv_at hl 2 rfl) ?_
  refine lv_aload_n hx hb dL_law_564 rfl (lv_at hl 0 rfl) ?_
  refine lv_iload_n hx hb dL_law_565 rfl (lv_at hl 3 rfl) ?_
  refine lv_iconst (v := (1 : Int32)) hx hb dL_law_566 (by decide) ?_
  refine lv_iadd hx hb dL_law_567 ?_
  refine va_sld hx hb hX hbl hbA hS n1 dL_law_568 ?_
  refine za_callWi (va_runV (As := [.int (xs (nI i + 1).toNatClampNeg)]) (rest := [.int r]) ⟨hx, hb, hml, hown, hts⟩ (k_X11_finds l (D := D) (cI := cI) (cJ := cJ) (ad := ad) hD e2) (cwV 1 hts gv_X11_finds rfl rfl rfl (by decide +kernel) ⟨Nat.le_of_ble_eq_true rfl, Nat.le_of_ble_eq_true rfl⟩) (xPreV (ci := 11) hK hP rfl zO_64) rfl rfl hl.1 rfl (lv_room (Nat.le_of_ble_eq_true rfl)) dL_law_569 ⟨Nat.le_of_ble_eq_true rfl, Nat.le_of_ble_eq_true rfl⟩) hS (fun H locs hP hS => ?_)
  refine lv_icmp_eq (tgt := 1191) hx hb dL_law_572 (by decide) (fun _ => ?_) (fun c9 => absurd rfl c9)
  exact kk u2 v1 H locs ls hI2 hP hS hl
set_option maxHeartbeats 4000000 in
theorem law_c13 (C0 : lw_At p s m meth c b L xs) (hK : xK D cI cJ s) (hD : zD (fun q : Nat => s.heap.size ≤ q) cI cJ ad) {i : Nat} (hi : i + 7 ≤ L) (hL : L ≤ 3584) (kk : lK p l e s m below meth c b D cI cJ ad i 1191) : lK p l e s m below meth c b D cI cJ ad i 577 := by
  obtain ⟨hx, hb, hr, hml, hown, hts, hX, hbl, hlocks, hgv⟩ := C0
  have hbA : ¬ (fun q : Nat => s.heap.size ≤ q) b := Nat.not_le.mpr hbl
  intro u v H locs ls hI hP hS hl
  have n1 : vp_in (nI i + 1) L := by rw [ixj (J := 1) i 1 rfl]; exact vp_in_nI (by omega) (by omega)
  refine lv_aload_n hx hb dL_law_577 rfl (lv_at hl 1 rfl) ?_
  refine lv_aload_n hx hb dL_law_578 rfl (lv_at hl 0 rfl) ?_
  refine lv_iload_n hx hb dL_law_579 rfl (lv_at hl 3 rfl) ?_
  refine lv_iconst (v := (1 : Int32)) hx hb dL_law_580 (by decide) ?_
  refine lv_iadd hx hb dL_law_581 ?_
  refine va_sld hx hb hX hbl hbA hS n1 dL_law_582 ?_
  obtain ⟨r, u1, v1, u2, e1, e2, hI2⟩ := SM_go (fun N n c K f ok => sm_drop ok f (xs (nI i + 1).toNatClampNeg)) hI
  refine za_callWi (va_runV (As := [.int (xs (nI i + 1).toNatClampNeg)]) (rest := []) ⟨hx, hb, hml, hown, hts⟩ (k_X10_drop l (D := D) (cI := cI) (cJ := cJ) (ad := ad) hD e1) (cwV 1 hts gv_X10_drop rfl rfl rfl (by decide +kernel) ⟨Nat.le_of_ble_eq_true rfl, Nat.le_of_ble_eq_true rfl⟩) (xPreV (ci := 10) hK hP rfl zO_0) rfl rfl hl.1 rfl (lv_room (Nat.le_of_ble_eq_true rfl)) dL_law_583 ⟨Nat.le_of_ble_eq_true rfl, Nat.le_of_ble_eq_true rfl⟩) hS (fun H locs hP hS => ?_)
  refine lv_aload_n hx hb dL_law_586 rfl (lv_at hl 2 rfl) ?_
  refine lv_aload_n hx hb dL_law_587 rfl (lv_at hl 0 rfl) ?_
  refine lv_iload_n hx hb dL_law_588 rfl (lv_at hl 3 rfl) ?_
  refine lv_iconst (v := (1 : Int32)) hx hb dL_law_589 (by decide) ?_
  refine lv_iadd hx hb dL_law_590 ?_
  refine va_sld hx hb hX hbl hbA hS n1 dL_law_591 ?_
  refine za_callWi (va_runV (As := [.int (xs (nI i + 1).toNatClampNeg)]) (rest := [.int r]) ⟨hx, hb, hml, hown, hts⟩ (k_X11_drop l (D := D) (cI := cI) (cJ := cJ) (ad := ad) hD e2) (cwV 1 hts gv_X11_drop rfl rfl rfl (by decide +kernel) ⟨Nat.le_of_ble_eq_true rfl, Nat.le_of_ble_eq_true rfl⟩) (xPreV (ci := 11) hK hP rfl zO_64) rfl rfl hl.1 rfl (lv_room (Nat.le_of_ble_eq_true rfl)) dL_law_592 ⟨Nat.le_of_ble_eq_true rfl, Nat.le_of_ble_eq_true rfl⟩) hS (fun H locs hP hS => ?_)
  refine lv_icmp_eq (tgt := 1191) hx hb dL_law_595 (by decide) (fun _ => ?_) (fun c9 => absurd rfl c9)
  exact kk u2 v1 H locs ls hI2 hP hS hl
set_option maxHeartbeats 4000000 in
theorem law_c14 (C0 : lw_At p s m meth c b L xs) (hK : xK D cI cJ s) (hD : zD (fun q : Nat => s.heap.size ≤ q) cI cJ ad) {i : Nat} (hi : i + 7 ≤ L) (hL : L ≤ 3584) (kk : lK p l e s m below meth c b D cI cJ ad i 1191) : lK p l e s m below meth c b D cI cJ ad i 600 := by
  obtain ⟨hx, hb, hr, hml, hown, hts, hX, hbl, hlocks, hgv⟩ := C0
  have hbA : ¬ (fun q : Nat => s.heap.size ≤ q) b := Nat.not_le.mpr hbl
  intro u v H locs ls hI hP hS hl
  have n1 : vp_in (nI i + 1) L := by rw [ixj (J := 1) i 1 rfl]; exact vp_in_nI (by omega) (by omega)
  refine lv_aload_n hx hb dL_law_600 rfl (lv_at hl 1 rfl) ?_
  refine lv_aload_n hx hb dL_law_601 rfl (lv_at hl 0 rfl) ?_
  refine lv_iload_n hx hb dL_law_602 rfl (lv_at hl 3 rfl) ?_
  refine lv_iconst (v := (1 : Int32)) hx hb dL_law_603 (by decide) ?_
  refine lv_iadd hx hb dL_law_604 ?_
  refine va_sld hx hb hX hbl hbA hS n1 dL_law_605 ?_
  obtain ⟨r, u1, v1, u2, e1, e2, hI2⟩ := SM_go (fun N n c K f ok => sm_today ok f (xs (nI i + 1).toNatClampNeg)) hI
  refine za_callWi (va_runV (As := [.int (xs (nI i + 1).toNatClampNeg)]) (rest := []) ⟨hx, hb, hml, hown, hts⟩ (k_X10_today l (D := D) (cI := cI) (cJ := cJ) (ad := ad) hD e1) (cwV 1 hts gv_X10_today rfl rfl rfl (by decide +kernel) ⟨Nat.le_of_ble_eq_true rfl, Nat.le_of_ble_eq_true rfl⟩) (xPreV (ci := 10) hK hP rfl zO_0) rfl rfl hl.1 rfl (lv_room (Nat.le_of_ble_eq_true rfl)) dL_law_606 ⟨Nat.le_of_ble_eq_true rfl, Nat.le_of_ble_eq_true rfl⟩) hS (fun H locs hP hS => ?_)
  refine lv_aload_n hx hb dL_law_609 rfl (lv_at hl 2 rfl) ?_
  refine lv_aload_n hx hb dL_law_610 rfl (lv_at hl 0 rfl) ?_
  refine lv_iload_n hx hb dL_law_611 rfl (lv_at hl 3 rfl) ?_
  refine lv_iconst (v := (1 : Int32)) hx hb dL_law_612 (by decide) ?_
  refine lv_iadd hx hb dL_law_613 ?_
  refine va_sld hx hb hX hbl hbA hS n1 dL_law_614 ?_
  refine za_callWi (va_runV (As := [.int (xs (nI i + 1).toNatClampNeg)]) (rest := [.int r]) ⟨hx, hb, hml, hown, hts⟩ (k_X11_today l (D := D) (cI := cI) (cJ := cJ) (ad := ad) hD e2) (cwV 1 hts gv_X11_today rfl rfl rfl (by decide +kernel) ⟨Nat.le_of_ble_eq_true rfl, Nat.le_of_ble_eq_true rfl⟩) (xPreV (ci := 11) hK hP rfl zO_64) rfl rfl hl.1 rfl (lv_room (Nat.le_of_ble_eq_true rfl)) dL_law_615 ⟨Nat.le_of_ble_eq_true rfl, Nat.le_of_ble_eq_true rfl⟩) hS (fun H locs hP hS => ?_)
  refine lv_icmp_eq (tgt := 1191) hx hb dL_law_618 (by decide) (fun _ => ?_) (fun c9 => absurd rfl c9)
  exact kk u2 v1 H locs ls hI2 hP hS hl
set_option maxHeartbeats 4000000 in
theorem law_c15 (C0 : lw_At p s m meth c b L xs) (hK : xK D cI cJ s) (hD : zD (fun q : Nat => s.heap.size ≤ q) cI cJ ad) {i : Nat} (hi : i + 7 ≤ L) (hL : L ≤ 3584) (kk : lK p l e s m below meth c b D cI cJ ad i 1191) : lK p l e s m below meth c b D cI cJ ad i 623 := by
  obtain ⟨hx, hb, hr, hml, hown, hts, hX, hbl, hlocks, hgv⟩ := C0
  have hbA : ¬ (fun q : Nat => s.heap.size ≤ q) b := Nat.not_le.mpr hbl
  intro u v H locs ls hI hP hS hl
  have n1 : vp_in (nI i + 1) L := by rw [ixj (J := 1) i 1 rfl]; exact vp_in_nI (by omega) (by omega)
  refine lv_aload_n hx hb dL_law_623 rfl (lv_at hl 1 rfl) ?_
  refine lv_aload_n hx hb dL_law_624 rfl (lv_at hl 0 rfl) ?_
  refine lv_iload_n hx hb dL_law_625 rfl (lv_at hl 3 rfl) ?_
  refine lv_iconst (v := (1 : Int32)) hx hb dL_law_626 (by decide) ?_
  refine lv_iadd hx hb dL_law_627 ?_
  refine va_sld hx hb hX hbl hbA hS n1 dL_law_628 ?_
  obtain ⟨r, u1, v1, u2, e1, e2, hI2⟩ := SM_go (fun N n c K f ok => sm_kept ok f (xs (nI i + 1).toNatClampNeg)) hI
  refine za_callWi (va_runV (As := [.int (xs (nI i + 1).toNatClampNeg)]) (rest := []) ⟨hx, hb, hml, hown, hts⟩ (k_X10_kept l (D := D) (cI := cI) (cJ := cJ) (ad := ad) hD e1) (cwV 1 hts gv_X10_kept rfl rfl rfl (by decide +kernel) ⟨Nat.le_of_ble_eq_true rfl, Nat.le_of_ble_eq_true rfl⟩) (xPreV (ci := 10) hK hP rfl zO_0) rfl rfl hl.1 rfl (lv_room (Nat.le_of_ble_eq_true rfl)) dL_law_629 ⟨Nat.le_of_ble_eq_true rfl, Nat.le_of_ble_eq_true rfl⟩) hS (fun H locs hP hS => ?_)
  refine lv_aload_n hx hb dL_law_632 rfl (lv_at hl 2 rfl) ?_
  refine lv_aload_n hx hb dL_law_633 rfl (lv_at hl 0 rfl) ?_
  refine lv_iload_n hx hb dL_law_634 rfl (lv_at hl 3 rfl) ?_
  refine lv_iconst (v := (1 : Int32)) hx hb dL_law_635 (by decide) ?_
  refine lv_iadd hx hb dL_law_636 ?_
  refine va_sld hx hb hX hbl hbA hS n1 dL_law_637 ?_
  refine za_callWi (va_runV (As := [.int (xs (nI i + 1).toNatClampNeg)]) (rest := [.int r]) ⟨hx, hb, hml, hown, hts⟩ (k_X11_kept l (D := D) (cI := cI) (cJ := cJ) (ad := ad) hD e2) (cwV 1 hts gv_X11_kept rfl rfl rfl (by decide +kernel) ⟨Nat.le_of_ble_eq_true rfl, Nat.le_of_ble_eq_true rfl⟩) (xPreV (ci := 11) hK hP rfl zO_64) rfl rfl hl.1 rfl (lv_room (Nat.le_of_ble_eq_true rfl)) dL_law_638 ⟨Nat.le_of_ble_eq_true rfl, Nat.le_of_ble_eq_true rfl⟩) hS (fun H locs hP hS => ?_)
  refine lv_icmp_eq (tgt := 1191) hx hb dL_law_641 (by decide) (fun _ => ?_) (fun c9 => absurd rfl c9)
  exact kk u2 v1 H locs ls hI2 hP hS hl
set_option maxHeartbeats 4000000 in
theorem law_c16 (C0 : lw_At p s m meth c b L xs) (hK : xK D cI cJ s) (hD : zD (fun q : Nat => s.heap.size ≤ q) cI cJ ad) {i : Nat} (hi : i + 7 ≤ L) (hL : L ≤ 3584) (kk : lK p l e s m below meth c b D cI cJ ad i 1191) : lK p l e s m below meth c b D cI cJ ad i 646 := by
  obtain ⟨hx, hb, hr, hml, hown, hts, hX, hbl, hlocks, hgv⟩ := C0
  have hbA : ¬ (fun q : Nat => s.heap.size ≤ q) b := Nat.not_le.mpr hbl
  intro u v H locs ls hI hP hS hl
  have n1 : vp_in (nI i + 1) L := by rw [ixj (J := 1) i 1 rfl]; exact vp_in_nI (by omega) (by omega)
  have n2 : vp_in (nI i + 2) L := by rw [ixj (J := 2) i 2 rfl]; exact vp_in_nI (by omega) (by omega)
  refine lv_aload_n hx hb dL_law_646 rfl (lv_at hl 1 rfl) ?_
  refine lv_aload_n hx hb dL_law_647 rfl (lv_at hl 0 rfl) ?_
  refine lv_iload_n hx hb dL_law_648 rfl (lv_at hl 3 rfl) ?_
  refine lv_iconst (v := (1 : Int32)) hx hb dL_law_649 (by decide) ?_
  refine lv_iadd hx hb dL_law_650 ?_
  refine va_sld hx hb hX hbl hbA hS n1 dL_law_651 ?_
  refine lv_aload_n hx hb dL_law_652 rfl (lv_at hl 0 rfl) ?_
  refine lv_iload_n hx hb dL_law_653 rfl (lv_at hl 3 rfl) ?_
  refine lv_iconst (v := (2 : Int32)) hx hb dL_law_654 (by decide) ?_
  refine lv_iadd hx hb dL_law_655 ?_
  refine va_sld hx hb hX hbl hbA hS n2 dL_law_656 ?_
  obtain ⟨r, u1, v1, u2, e1, e2, hI2⟩ := SM_go (fun N n c K f ok => sm_has ok f (xs (nI i + 1).toNatClampNeg) (xs (nI i + 2).toNatClampNeg)) hI
  refine za_callWi (va_runV (As := [.int (xs (nI i + 1).toNatClampNeg), .int (xs (nI i + 2).toNatClampNeg)]) (rest := []) ⟨hx, hb, hml, hown, hts⟩ (k_X10_has l (D := D) (cI := cI) (cJ := cJ) (ad := ad) hD e1) (cwV 2 hts gv_X10_has rfl rfl rfl (by decide +kernel) ⟨Nat.le_of_ble_eq_true rfl, Nat.le_of_ble_eq_true rfl⟩) (xPreV (ci := 10) hK hP rfl zO_0) rfl rfl hl.1 rfl (lv_room (Nat.le_of_ble_eq_true rfl)) dL_law_657 ⟨Nat.le_of_ble_eq_true rfl, Nat.le_of_ble_eq_true rfl⟩) hS (fun H locs hP hS => ?_)
  refine lv_aload_n hx hb dL_law_660 rfl (lv_at hl 2 rfl) ?_
  refine lv_aload_n hx hb dL_law_661 rfl (lv_at hl 0 rfl) ?_
  refine lv_iload_n hx hb dL_law_662 rfl (lv_at hl 3 rfl) ?_
  refine lv_iconst (v := (1 : Int32)) hx hb dL_law_663 (by decide) ?_
  refine lv_iadd hx hb dL_law_664 ?_
  refine va_sld hx hb hX hbl hbA hS n1 dL_law_665 ?_
  refine lv_aload_n hx hb dL_law_666 rfl (lv_at hl 0 rfl) ?_
  refine lv_iload_n hx hb dL_law_667 rfl (lv_at hl 3 rfl) ?_
  refine lv_iconst (v := (2 : Int32)) hx hb dL_law_668 (by decide) ?_
  refine lv_iadd hx hb dL_law_669 ?_
  refine va_sld hx hb hX hbl hbA hS n2 dL_law_670 ?_
  refine za_callWi (va_runV (As := [.int (xs (nI i + 1).toNatClampNeg), .int (xs (nI i + 2).toNatClampNeg)]) (rest := [.int r]) ⟨hx, hb, hml, hown, hts⟩ (k_X11_has l (D := D) (cI := cI) (cJ := cJ) (ad := ad) hD e2) (cwV 2 hts gv_X11_has rfl rfl rfl (by decide +kernel) ⟨Nat.le_of_ble_eq_true rfl, Nat.le_of_ble_eq_true rfl⟩) (xPreV (ci := 11) hK hP rfl zO_64) rfl rfl hl.1 rfl (lv_room (Nat.le_of_ble_eq_true rfl)) dL_law_671 ⟨Nat.le_of_ble_eq_true rfl, Nat.le_of_ble_eq_true rfl⟩) hS (fun H locs hP hS => ?_)
  refine lv_icmp_eq (tgt := 1191) hx hb dL_law_674 (by decide) (fun _ => ?_) (fun c9 => absurd rfl c9)
  exact kk u2 v1 H locs ls hI2 hP hS hl
set_option maxHeartbeats 4000000 in
theorem law_c17 (C0 : lw_At p s m meth c b L xs) (hK : xK D cI cJ s) (hD : zD (fun q : Nat => s.heap.size ≤ q) cI cJ ad) {i : Nat} (hi : i + 7 ≤ L) (hL : L ≤ 3584) (kk : lK p l e s m below meth c b D cI cJ ad i 1191) : lK p l e s m below meth c b D cI cJ ad i 679 := by
  obtain ⟨hx, hb, hr, hml, hown, hts, hX, hbl, hlocks, hgv⟩ := C0
  have hbA : ¬ (fun q : Nat => s.heap.size ≤ q) b := Nat.not_le.mpr hbl
  intro u v H locs ls hI hP hS hl
  have n1 : vp_in (nI i + 1) L := by rw [ixj (J := 1) i 1 rfl]; exact vp_in_nI (by omega) (by omega)
  have n2 : vp_in (nI i + 2) L := by rw [ixj (J := 2) i 2 rfl]; exact vp_in_nI (by omega) (by omega)
  refine lv_aload_n hx hb dL_law_679 rfl (lv_at hl 1 rfl) ?_
  refine lv_aload_n hx hb dL_law_680 rfl (lv_at hl 0 rfl) ?_
  refine lv_iload_n hx hb dL_law_681 rfl (lv_at hl 3 rfl) ?_
  refine lv_iconst (v := (1 : Int32)) hx hb dL_law_682 (by decide) ?_
  refine lv_iadd hx hb dL_law_683 ?_
  refine va_sld hx hb hX hbl hbA hS n1 dL_law_684 ?_
  refine lv_aload_n hx hb dL_law_685 rfl (lv_at hl 0 rfl) ?_
  refine lv_iload_n hx hb dL_law_686 rfl (lv_at hl 3 rfl) ?_
  refine lv_iconst (v := (2 : Int32)) hx hb dL_law_687 (by decide) ?_
  refine lv_iadd hx hb dL_law_688 ?_
  refine va_sld hx hb hX hbl hbA hS n2 dL_law_689 ?_
  obtain ⟨r, u1, v1, u2, e1, e2, hI2⟩ := SM_go (fun N n c K f ok => sm_measure ok f (xs (nI i + 1).toNatClampNeg) (xs (nI i + 2).toNatClampNeg)) hI
  refine za_callWi (va_runV (As := [.int (xs (nI i + 1).toNatClampNeg), .int (xs (nI i + 2).toNatClampNeg)]) (rest := []) ⟨hx, hb, hml, hown, hts⟩ (k_X10_measure l (D := D) (cI := cI) (cJ := cJ) (ad := ad) hD e1) (cwV 2 hts gv_X10_measure rfl rfl rfl (by decide +kernel) ⟨Nat.le_of_ble_eq_true rfl, Nat.le_of_ble_eq_true rfl⟩) (xPreV (ci := 10) hK hP rfl zO_0) rfl rfl hl.1 rfl (lv_room (Nat.le_of_ble_eq_true rfl)) dL_law_690 ⟨Nat.le_of_ble_eq_true rfl, Nat.le_of_ble_eq_true rfl⟩) hS (fun H locs hP hS => ?_)
  refine lv_aload_n hx hb dL_law_693 rfl (lv_at hl 2 rfl) ?_
  refine lv_aload_n hx hb dL_law_694 rfl (lv_at hl 0 rfl) ?_
  refine lv_iload_n hx hb dL_law_695 rfl (lv_at hl 3 rfl) ?_
  refine lv_iconst (v := (1 : Int32)) hx hb dL_law_696 (by decide) ?_
  refine lv_iadd hx hb dL_law_697 ?_
  refine va_sld hx hb hX hbl hbA hS n1 dL_law_698 ?_
  refine lv_aload_n hx hb dL_law_699 rfl (lv_at hl 0 rfl) ?_
  refine lv_iload_n hx hb dL_law_700 rfl (lv_at hl 3 rfl) ?_
  refine lv_iconst (v := (2 : Int32)) hx hb dL_law_701 (by decide) ?_
  refine lv_iadd hx hb dL_law_702 ?_
  refine va_sld hx hb hX hbl hbA hS n2 dL_law_703 ?_
  refine za_callWi (va_runV (As := [.int (xs (nI i + 1).toNatClampNeg), .int (xs (nI i + 2).toNatClampNeg)]) (rest := [.int r]) ⟨hx, hb, hml, hown, hts⟩ (k_X11_measure l (D := D) (cI := cI) (cJ := cJ) (ad := ad) hD e2) (cwV 2 hts gv_X11_measure rfl rfl rfl (by decide +kernel) ⟨Nat.le_of_ble_eq_true rfl, Nat.le_of_ble_eq_true rfl⟩) (xPreV (ci := 11) hK hP rfl zO_64) rfl rfl hl.1 rfl (lv_room (Nat.le_of_ble_eq_true rfl)) dL_law_704 ⟨Nat.le_of_ble_eq_true rfl, Nat.le_of_ble_eq_true rfl⟩) hS (fun H locs hP hS => ?_)
  refine lv_icmp_eq (tgt := 1191) hx hb dL_law_707 (by decide) (fun _ => ?_) (fun c9 => absurd rfl c9)
  exact kk u2 v1 H locs ls hI2 hP hS hl
set_option maxHeartbeats 4000000 in
theorem law_c18 (C0 : lw_At p s m meth c b L xs) (hK : xK D cI cJ s) (hD : zD (fun q : Nat => s.heap.size ≤ q) cI cJ ad) {i : Nat} (hi : i + 7 ≤ L) (hL : L ≤ 3584) (kk : lK p l e s m below meth c b D cI cJ ad i 1191) : lK p l e s m below meth c b D cI cJ ad i 712 := by
  obtain ⟨hx, hb, hr, hml, hown, hts, hX, hbl, hlocks, hgv⟩ := C0
  have hbA : ¬ (fun q : Nat => s.heap.size ≤ q) b := Nat.not_le.mpr hbl
  intro u v H locs ls hI hP hS hl
  have n1 : vp_in (nI i + 1) L := by rw [ixj (J := 1) i 1 rfl]; exact vp_in_nI (by omega) (by omega)
  refine lv_aload_n hx hb dL_law_712 rfl (lv_at hl 1 rfl) ?_
  refine lv_aload_n hx hb dL_law_713 rfl (lv_at hl 0 rfl) ?_
  refine lv_iload_n hx hb dL_law_714 rfl (lv_at hl 3 rfl) ?_
  refine lv_iconst (v := (1 : Int32)) hx hb dL_law_715 (by decide) ?_
  refine lv_iadd hx hb dL_law_716 ?_
  refine va_sld hx hb hX hbl hbA hS n1 dL_law_717 ?_
  obtain ⟨r, u1, v1, u2, e1, e2, hI2⟩ := SM_go (fun N n c K f ok => sm_all ok f (xs (nI i + 1).toNatClampNeg)) hI
  refine za_callWi (va_runV (As := [.int (xs (nI i + 1).toNatClampNeg)]) (rest := []) ⟨hx, hb, hml, hown, hts⟩ (k_X10_all l (D := D) (cI := cI) (cJ := cJ) (ad := ad) hD e1) (cwV 1 hts gv_X10_all rfl rfl rfl (by decide +kernel) ⟨Nat.le_of_ble_eq_true rfl, Nat.le_of_ble_eq_true rfl⟩) (xPreV (ci := 10) hK hP rfl zO_0) rfl rfl hl.1 rfl (lv_room (Nat.le_of_ble_eq_true rfl)) dL_law_718 ⟨Nat.le_of_ble_eq_true rfl, Nat.le_of_ble_eq_true rfl⟩) hS (fun H locs hP hS => ?_)
  refine lv_aload_n hx hb dL_law_721 rfl (lv_at hl 2 rfl) ?_
  refine lv_aload_n hx hb dL_law_722 rfl (lv_at hl 0 rfl) ?_
  refine lv_iload_n hx hb dL_law_723 rfl (lv_at hl 3 rfl) ?_
  refine lv_iconst (v := (1 : Int32)) hx hb dL_law_724 (by decide) ?_
  refine lv_iadd hx hb dL_law_725 ?_
  refine va_sld hx hb hX hbl hbA hS n1 dL_law_726 ?_
  refine za_callWi (va_runV (As := [.int (xs (nI i + 1).toNatClampNeg)]) (rest := [.int r]) ⟨hx, hb, hml, hown, hts⟩ (k_X11_all l (D := D) (cI := cI) (cJ := cJ) (ad := ad) hD e2) (cwV 1 hts gv_X11_all rfl rfl rfl (by decide +kernel) ⟨Nat.le_of_ble_eq_true rfl, Nat.le_of_ble_eq_true rfl⟩) (xPreV (ci := 11) hK hP rfl zO_64) rfl rfl hl.1 rfl (lv_room (Nat.le_of_ble_eq_true rfl)) dL_law_727 ⟨Nat.le_of_ble_eq_true rfl, Nat.le_of_ble_eq_true rfl⟩) hS (fun H locs hP hS => ?_)
  refine lv_icmp_eq (tgt := 1191) hx hb dL_law_730 (by decide) (fun _ => ?_) (fun c9 => absurd rfl c9)
  exact kk u2 v1 H locs ls hI2 hP hS hl
set_option maxHeartbeats 4000000 in
theorem law_c19 (C0 : lw_At p s m meth c b L xs) (hK : xK D cI cJ s) (hD : zD (fun q : Nat => s.heap.size ≤ q) cI cJ ad) {i : Nat} (hi : i + 7 ≤ L) (hL : L ≤ 3584) (kk : lK p l e s m below meth c b D cI cJ ad i 1191) : lK p l e s m below meth c b D cI cJ ad i 735 := by
  obtain ⟨hx, hb, hr, hml, hown, hts, hX, hbl, hlocks, hgv⟩ := C0
  have hbA : ¬ (fun q : Nat => s.heap.size ≤ q) b := Nat.not_le.mpr hbl
  intro u v H locs ls hI hP hS hl
  have n1 : vp_in (nI i + 1) L := by rw [ixj (J := 1) i 1 rfl]; exact vp_in_nI (by omega) (by omega)
  have n2 : vp_in (nI i + 2) L := by rw [ixj (J := 2) i 2 rfl]; exact vp_in_nI (by omega) (by omega)
  have n3 : vp_in (nI i + 3) L := by rw [ixj (J := 3) i 3 rfl]; exact vp_in_nI (by omega) (by omega)
  have n4 : vp_in (nI i + 4) L := by rw [ixj (J := 4) i 4 rfl]; exact vp_in_nI (by omega) (by omega)
  refine lv_aload_n hx hb dL_law_735 rfl (lv_at hl 1 rfl) ?_
  refine lv_aload_n hx hb dL_law_736 rfl (lv_at hl 0 rfl) ?_
  refine lv_iload_n hx hb dL_law_737 rfl (lv_at hl 3 rfl) ?_
  refine lv_iconst (v := (1 : Int32)) hx hb dL_law_738 (by decide) ?_
  refine lv_iadd hx hb dL_law_739 ?_
  refine va_sld hx hb hX hbl hbA hS n1 dL_law_740 ?_
  refine lv_aload_n hx hb dL_law_741 rfl (lv_at hl 0 rfl) ?_
  refine lv_iload_n hx hb dL_law_742 rfl (lv_at hl 3 rfl) ?_
  refine lv_iconst (v := (2 : Int32)) hx hb dL_law_743 (by decide) ?_
  refine lv_iadd hx hb dL_law_744 ?_
  refine va_sld hx hb hX hbl hbA hS n2 dL_law_745 ?_
  refine lv_aload_n hx hb dL_law_746 rfl (lv_at hl 0 rfl) ?_
  refine lv_iload_n hx hb dL_law_747 rfl (lv_at hl 3 rfl) ?_
  refine lv_iconst (v := (3 : Int32)) hx hb dL_law_748 (by decide) ?_
  refine lv_iadd hx hb dL_law_749 ?_
  refine va_sld hx hb hX hbl hbA hS n3 dL_law_750 ?_
  refine lv_aload_n hx hb dL_law_751 rfl (lv_at hl 0 rfl) ?_
  refine lv_iload_n hx hb dL_law_752 rfl (lv_at hl 3 rfl) ?_
  refine lv_iconst (v := (4 : Int32)) hx hb dL_law_753 (by decide) ?_
  refine lv_iadd hx hb dL_law_754 ?_
  refine va_sld hx hb hX hbl hbA hS n4 dL_law_755 ?_
  obtain ⟨r, u1, v1, u2, e1, e2, hI2⟩ := SM_go (fun N n c K f ok => sm_use ok f (xs (nI i + 1).toNatClampNeg) (xs (nI i + 2).toNatClampNeg) (xs (nI i + 3).toNatClampNeg) (xs (nI i + 4).toNatClampNeg)) hI
  refine za_callWi (va_runV (As := [.int (xs (nI i + 1).toNatClampNeg), .int (xs (nI i + 2).toNatClampNeg), .int (xs (nI i + 3).toNatClampNeg), .int (xs (nI i + 4).toNatClampNeg)]) (rest := []) ⟨hx, hb, hml, hown, hts⟩ (k_X10_use l (D := D) (cI := cI) (cJ := cJ) (ad := ad) hD e1) (cwV 4 hts gv_X10_use rfl rfl rfl (by decide +kernel) ⟨Nat.le_of_ble_eq_true rfl, Nat.le_of_ble_eq_true rfl⟩) (xPreV (ci := 10) hK hP rfl zO_0) rfl rfl hl.1 rfl (lv_room (Nat.le_of_ble_eq_true rfl)) dL_law_756 ⟨Nat.le_of_ble_eq_true rfl, Nat.le_of_ble_eq_true rfl⟩) hS (fun H locs hP hS => ?_)
  refine lv_aload_n hx hb dL_law_759 rfl (lv_at hl 2 rfl) ?_
  refine lv_aload_n hx hb dL_law_760 rfl (lv_at hl 0 rfl) ?_
  refine lv_iload_n hx hb dL_law_761 rfl (lv_at hl 3 rfl) ?_
  refine lv_iconst (v := (1 : Int32)) hx hb dL_law_762 (by decide) ?_
  refine lv_iadd hx hb dL_law_763 ?_
  refine va_sld hx hb hX hbl hbA hS n1 dL_law_764 ?_
  refine lv_aload_n hx hb dL_law_765 rfl (lv_at hl 0 rfl) ?_
  refine lv_iload_n hx hb dL_law_766 rfl (lv_at hl 3 rfl) ?_
  refine lv_iconst (v := (2 : Int32)) hx hb dL_law_767 (by decide) ?_
  refine lv_iadd hx hb dL_law_768 ?_
  refine va_sld hx hb hX hbl hbA hS n2 dL_law_769 ?_
  refine lv_aload_n hx hb dL_law_770 rfl (lv_at hl 0 rfl) ?_
  refine lv_iload_n hx hb dL_law_771 rfl (lv_at hl 3 rfl) ?_
  refine lv_iconst (v := (3 : Int32)) hx hb dL_law_772 (by decide) ?_
  refine lv_iadd hx hb dL_law_773 ?_
  refine va_sld hx hb hX hbl hbA hS n3 dL_law_774 ?_
  refine lv_aload_n hx hb dL_law_775 rfl (lv_at hl 0 rfl) ?_
  refine lv_iload_n hx hb dL_law_776 rfl (lv_at hl 3 rfl) ?_
  refine lv_iconst (v := (4 : Int32)) hx hb dL_law_777 (by decide) ?_
  refine lv_iadd hx hb dL_law_778 ?_
  refine va_sld hx hb hX hbl hbA hS n4 dL_law_779 ?_
  refine za_callWi (va_runV (As := [.int (xs (nI i + 1).toNatClampNeg), .int (xs (nI i + 2).toNatClampNeg), .int (xs (nI i + 3).toNatClampNeg), .int (xs (nI i + 4).toNatClampNeg)]) (rest := [.int r]) ⟨hx, hb, hml, hown, hts⟩ (k_X11_use l (D := D) (cI := cI) (cJ := cJ) (ad := ad) hD e2) (cwV 4 hts gv_X11_use rfl rfl rfl (by decide +kernel) ⟨Nat.le_of_ble_eq_true rfl, Nat.le_of_ble_eq_true rfl⟩) (xPreV (ci := 11) hK hP rfl zO_64) rfl rfl hl.1 rfl (lv_room (Nat.le_of_ble_eq_true rfl)) dL_law_780 ⟨Nat.le_of_ble_eq_true rfl, Nat.le_of_ble_eq_true rfl⟩) hS (fun H locs hP hS => ?_)
  refine lv_icmp_eq (tgt := 1191) hx hb dL_law_783 (by decide) (fun _ => ?_) (fun c9 => absurd rfl c9)
  exact kk u2 v1 H locs ls hI2 hP hS hl
set_option maxHeartbeats 4000000 in
theorem law_c20 (C0 : lw_At p s m meth c b L xs) (hK : xK D cI cJ s) (hD : zD (fun q : Nat => s.heap.size ≤ q) cI cJ ad) {i : Nat} (hi : i + 7 ≤ L) (hL : L ≤ 3584) (kk : lK p l e s m below meth c b D cI cJ ad i 1191) : lK p l e s m below meth c b D cI cJ ad i 788 := by
  obtain ⟨hx, hb, hr, hml, hown, hts, hX, hbl, hlocks, hgv⟩ := C0
  have hbA : ¬ (fun q : Nat => s.heap.size ≤ q) b := Nat.not_le.mpr hbl
  intro u v H locs ls hI hP hS hl
  have n1 : vp_in (nI i + 1) L := by rw [ixj (J := 1) i 1 rfl]; exact vp_in_nI (by omega) (by omega)
  have n2 : vp_in (nI i + 2) L := by rw [ixj (J := 2) i 2 rfl]; exact vp_in_nI (by omega) (by omega)
  refine lv_aload_n hx hb dL_law_788 rfl (lv_at hl 1 rfl) ?_
  refine lv_aload_n hx hb dL_law_789 rfl (lv_at hl 0 rfl) ?_
  refine lv_iload_n hx hb dL_law_790 rfl (lv_at hl 3 rfl) ?_
  refine lv_iconst (v := (1 : Int32)) hx hb dL_law_791 (by decide) ?_
  refine lv_iadd hx hb dL_law_792 ?_
  refine va_sld hx hb hX hbl hbA hS n1 dL_law_793 ?_
  refine lv_aload_n hx hb dL_law_794 rfl (lv_at hl 0 rfl) ?_
  refine lv_iload_n hx hb dL_law_795 rfl (lv_at hl 3 rfl) ?_
  refine lv_iconst (v := (2 : Int32)) hx hb dL_law_796 (by decide) ?_
  refine lv_iadd hx hb dL_law_797 ?_
  refine va_sld hx hb hX hbl hbA hS n2 dL_law_798 ?_
  obtain ⟨r, u1, v1, u2, e1, e2, hI2⟩ := SM_go (fun N n c K f ok => sm_at ok f (xs (nI i + 1).toNatClampNeg) (xs (nI i + 2).toNatClampNeg)) hI
  refine za_callWi (va_runV (As := [.int (xs (nI i + 1).toNatClampNeg), .int (xs (nI i + 2).toNatClampNeg)]) (rest := []) ⟨hx, hb, hml, hown, hts⟩ (k_X10_at l (D := D) (cI := cI) (cJ := cJ) (ad := ad) hD e1) (cwV 2 hts gv_X10_at rfl rfl rfl (by decide +kernel) ⟨Nat.le_of_ble_eq_true rfl, Nat.le_of_ble_eq_true rfl⟩) (xPreV (ci := 10) hK hP rfl zO_0) rfl rfl hl.1 rfl (lv_room (Nat.le_of_ble_eq_true rfl)) dL_law_799 ⟨Nat.le_of_ble_eq_true rfl, Nat.le_of_ble_eq_true rfl⟩) hS (fun H locs hP hS => ?_)
  refine lv_aload_n hx hb dL_law_802 rfl (lv_at hl 2 rfl) ?_
  refine lv_aload_n hx hb dL_law_803 rfl (lv_at hl 0 rfl) ?_
  refine lv_iload_n hx hb dL_law_804 rfl (lv_at hl 3 rfl) ?_
  refine lv_iconst (v := (1 : Int32)) hx hb dL_law_805 (by decide) ?_
  refine lv_iadd hx hb dL_law_806 ?_
  refine va_sld hx hb hX hbl hbA hS n1 dL_law_807 ?_
  refine lv_aload_n hx hb dL_law_808 rfl (lv_at hl 0 rfl) ?_
  refine lv_iload_n hx hb dL_law_809 rfl (lv_at hl 3 rfl) ?_
  refine lv_iconst (v := (2 : Int32)) hx hb dL_law_810 (by decide) ?_
  refine lv_iadd hx hb dL_law_811 ?_
  refine va_sld hx hb hX hbl hbA hS n2 dL_law_812 ?_
  refine za_callWi (va_runV (As := [.int (xs (nI i + 1).toNatClampNeg), .int (xs (nI i + 2).toNatClampNeg)]) (rest := [.int r]) ⟨hx, hb, hml, hown, hts⟩ (k_X11_at l (D := D) (cI := cI) (cJ := cJ) (ad := ad) hD e2) (cwV 2 hts gv_X11_at rfl rfl rfl (by decide +kernel) ⟨Nat.le_of_ble_eq_true rfl, Nat.le_of_ble_eq_true rfl⟩) (xPreV (ci := 11) hK hP rfl zO_64) rfl rfl hl.1 rfl (lv_room (Nat.le_of_ble_eq_true rfl)) dL_law_813 ⟨Nat.le_of_ble_eq_true rfl, Nat.le_of_ble_eq_true rfl⟩) hS (fun H locs hP hS => ?_)
  refine lv_icmp_eq (tgt := 1191) hx hb dL_law_816 (by decide) (fun _ => ?_) (fun c9 => absurd rfl c9)
  exact kk u2 v1 H locs ls hI2 hP hS hl
set_option maxHeartbeats 4000000 in
theorem law_c21 (C0 : lw_At p s m meth c b L xs) (hK : xK D cI cJ s) (hD : zD (fun q : Nat => s.heap.size ≤ q) cI cJ ad) {i : Nat} (hi : i + 7 ≤ L) (hL : L ≤ 3584) (kk : lK p l e s m below meth c b D cI cJ ad i 1191) : lK p l e s m below meth c b D cI cJ ad i 821 := by
  obtain ⟨hx, hb, hr, hml, hown, hts, hX, hbl, hlocks, hgv⟩ := C0
  have hbA : ¬ (fun q : Nat => s.heap.size ≤ q) b := Nat.not_le.mpr hbl
  intro u v H locs ls hI hP hS hl
  have n1 : vp_in (nI i + 1) L := by rw [ixj (J := 1) i 1 rfl]; exact vp_in_nI (by omega) (by omega)
  refine lv_aload_n hx hb dL_law_821 rfl (lv_at hl 1 rfl) ?_
  refine lv_aload_n hx hb dL_law_822 rfl (lv_at hl 0 rfl) ?_
  refine lv_iload_n hx hb dL_law_823 rfl (lv_at hl 3 rfl) ?_
  refine lv_iconst (v := (1 : Int32)) hx hb dL_law_824 (by decide) ?_
  refine lv_iadd hx hb dL_law_825 ?_
  refine va_sld hx hb hX hbl hbA hS n1 dL_law_826 ?_
  obtain ⟨r, u1, v1, u2, e1, e2, hI2⟩ := SM_go (fun N n c K f ok => sm_peak ok f (xs (nI i + 1).toNatClampNeg)) hI
  refine za_callWi (va_runV (As := [.int (xs (nI i + 1).toNatClampNeg)]) (rest := []) ⟨hx, hb, hml, hown, hts⟩ (k_X10_peak l (D := D) (cI := cI) (cJ := cJ) (ad := ad) hD e1) (cwV 1 hts gv_X10_peak rfl rfl rfl (by decide +kernel) ⟨Nat.le_of_ble_eq_true rfl, Nat.le_of_ble_eq_true rfl⟩) (xPreV (ci := 10) hK hP rfl zO_0) rfl rfl hl.1 rfl (lv_room (Nat.le_of_ble_eq_true rfl)) dL_law_827 ⟨Nat.le_of_ble_eq_true rfl, Nat.le_of_ble_eq_true rfl⟩) hS (fun H locs hP hS => ?_)
  refine lv_aload_n hx hb dL_law_830 rfl (lv_at hl 2 rfl) ?_
  refine lv_aload_n hx hb dL_law_831 rfl (lv_at hl 0 rfl) ?_
  refine lv_iload_n hx hb dL_law_832 rfl (lv_at hl 3 rfl) ?_
  refine lv_iconst (v := (1 : Int32)) hx hb dL_law_833 (by decide) ?_
  refine lv_iadd hx hb dL_law_834 ?_
  refine va_sld hx hb hX hbl hbA hS n1 dL_law_835 ?_
  refine za_callWi (va_runV (As := [.int (xs (nI i + 1).toNatClampNeg)]) (rest := [.int r]) ⟨hx, hb, hml, hown, hts⟩ (k_X11_peak l (D := D) (cI := cI) (cJ := cJ) (ad := ad) hD e2) (cwV 1 hts gv_X11_peak rfl rfl rfl (by decide +kernel) ⟨Nat.le_of_ble_eq_true rfl, Nat.le_of_ble_eq_true rfl⟩) (xPreV (ci := 11) hK hP rfl zO_64) rfl rfl hl.1 rfl (lv_room (Nat.le_of_ble_eq_true rfl)) dL_law_836 ⟨Nat.le_of_ble_eq_true rfl, Nat.le_of_ble_eq_true rfl⟩) hS (fun H locs hP hS => ?_)
  refine lv_icmp_eq (tgt := 1191) hx hb dL_law_839 (by decide) (fun _ => ?_) (fun c9 => absurd rfl c9)
  exact kk u2 v1 H locs ls hI2 hP hS hl
set_option maxHeartbeats 4000000 in
theorem law_c22 (C0 : lw_At p s m meth c b L xs) (hK : xK D cI cJ s) (hD : zD (fun q : Nat => s.heap.size ≤ q) cI cJ ad) {i : Nat} (hi : i + 7 ≤ L) (hL : L ≤ 3584) (kk : lK p l e s m below meth c b D cI cJ ad i 1191) : lK p l e s m below meth c b D cI cJ ad i 844 := by
  obtain ⟨hx, hb, hr, hml, hown, hts, hX, hbl, hlocks, hgv⟩ := C0
  have hbA : ¬ (fun q : Nat => s.heap.size ≤ q) b := Nat.not_le.mpr hbl
  intro u v H locs ls hI hP hS hl
  have n1 : vp_in (nI i + 1) L := by rw [ixj (J := 1) i 1 rfl]; exact vp_in_nI (by omega) (by omega)
  have n2 : vp_in (nI i + 2) L := by rw [ixj (J := 2) i 2 rfl]; exact vp_in_nI (by omega) (by omega)
  have n3 : vp_in (nI i + 3) L := by rw [ixj (J := 3) i 3 rfl]; exact vp_in_nI (by omega) (by omega)
  have n4 : vp_in (nI i + 4) L := by rw [ixj (J := 4) i 4 rfl]; exact vp_in_nI (by omega) (by omega)
  have n5 : vp_in (nI i + 5) L := by rw [ixj (J := 5) i 5 rfl]; exact vp_in_nI (by omega) (by omega)
  have n6 : vp_in (nI i + 6) L := by rw [ixj (J := 6) i 6 rfl]; exact vp_in_nI (by omega) (by omega)
  refine lv_aload_n hx hb dL_law_844 rfl (lv_at hl 1 rfl) ?_
  refine lv_aload_n hx hb dL_law_845 rfl (lv_at hl 0 rfl) ?_
  refine lv_iload_n hx hb dL_law_846 rfl (lv_at hl 3 rfl) ?_
  refine lv_iconst (v := (1 : Int32)) hx hb dL_law_847 (by decide) ?_
  refine lv_iadd hx hb dL_law_848 ?_
  refine va_sld hx hb hX hbl hbA hS n1 dL_law_849 ?_
  refine lv_aload_n hx hb dL_law_850 rfl (lv_at hl 0 rfl) ?_
  refine lv_iload_n hx hb dL_law_851 rfl (lv_at hl 3 rfl) ?_
  refine lv_iconst (v := (2 : Int32)) hx hb dL_law_852 (by decide) ?_
  refine lv_iadd hx hb dL_law_853 ?_
  refine va_sld hx hb hX hbl hbA hS n2 dL_law_854 ?_
  refine lv_aload_n hx hb dL_law_855 rfl (lv_at hl 0 rfl) ?_
  refine lv_iload_n hx hb dL_law_856 rfl (lv_at hl 3 rfl) ?_
  refine lv_iconst (v := (3 : Int32)) hx hb dL_law_857 (by decide) ?_
  refine lv_iadd hx hb dL_law_858 ?_
  refine va_sld hx hb hX hbl hbA hS n3 dL_law_859 ?_
  refine lv_aload_n hx hb dL_law_860 rfl (lv_at hl 0 rfl) ?_
  refine lv_iload_n hx hb dL_law_861 rfl (lv_at hl 3 rfl) ?_
  refine lv_iconst (v := (4 : Int32)) hx hb dL_law_862 (by decide) ?_
  refine lv_iadd hx hb dL_law_863 ?_
  refine va_sld hx hb hX hbl hbA hS n4 dL_law_864 ?_
  refine lv_aload_n hx hb dL_law_865 rfl (lv_at hl 0 rfl) ?_
  refine lv_iload_n hx hb dL_law_866 rfl (lv_at hl 3 rfl) ?_
  refine lv_iconst (v := (5 : Int32)) hx hb dL_law_867 (by decide) ?_
  refine lv_iadd hx hb dL_law_868 ?_
  refine va_sld hx hb hX hbl hbA hS n5 dL_law_869 ?_
  refine lv_aload_n hx hb dL_law_870 rfl (lv_at hl 0 rfl) ?_
  refine lv_iload_n hx hb dL_law_871 rfl (lv_at hl 3 rfl) ?_
  refine lv_bipush (v := (6 : Int32)) hx hb dL_law_872 (by decide) ?_
  refine lv_iadd hx hb dL_law_874 ?_
  refine va_sld hx hb hX hbl hbA hS n6 dL_law_875 ?_
  obtain ⟨r, u1, v1, u2, e1, e2, hI2⟩ := SM_go (fun N n c K f ok => sm_right ok f (xs (nI i + 1).toNatClampNeg) (xs (nI i + 2).toNatClampNeg) (xs (nI i + 3).toNatClampNeg) (xs (nI i + 4).toNatClampNeg) (xs (nI i + 5).toNatClampNeg) (xs (nI i + 6).toNatClampNeg)) hI
  refine za_callWi (va_runV (As := [.int (xs (nI i + 1).toNatClampNeg), .int (xs (nI i + 2).toNatClampNeg), .int (xs (nI i + 3).toNatClampNeg), .int (xs (nI i + 4).toNatClampNeg), .int (xs (nI i + 5).toNatClampNeg), .int (xs (nI i + 6).toNatClampNeg)]) (rest := []) ⟨hx, hb, hml, hown, hts⟩ (k_X10_right l (D := D) (cI := cI) (cJ := cJ) (ad := ad) hD e1) (cwV 6 hts gv_X10_right rfl rfl rfl (by decide +kernel) ⟨Nat.le_of_ble_eq_true rfl, Nat.le_of_ble_eq_true rfl⟩) (xPreV (ci := 10) hK hP rfl zO_0) rfl rfl hl.1 rfl (lv_room (Nat.le_of_ble_eq_true rfl)) dL_law_876 ⟨Nat.le_of_ble_eq_true rfl, Nat.le_of_ble_eq_true rfl⟩) hS (fun H locs hP hS => ?_)
  refine lv_aload_n hx hb dL_law_879 rfl (lv_at hl 2 rfl) ?_
  refine lv_aload_n hx hb dL_law_880 rfl (lv_at hl 0 rfl) ?_
  refine lv_iload_n hx hb dL_law_881 rfl (lv_at hl 3 rfl) ?_
  refine lv_iconst (v := (1 : Int32)) hx hb dL_law_882 (by decide) ?_
  refine lv_iadd hx hb dL_law_883 ?_
  refine va_sld hx hb hX hbl hbA hS n1 dL_law_884 ?_
  refine lv_aload_n hx hb dL_law_885 rfl (lv_at hl 0 rfl) ?_
  refine lv_iload_n hx hb dL_law_886 rfl (lv_at hl 3 rfl) ?_
  refine lv_iconst (v := (2 : Int32)) hx hb dL_law_887 (by decide) ?_
  refine lv_iadd hx hb dL_law_888 ?_
  refine va_sld hx hb hX hbl hbA hS n2 dL_law_889 ?_
  refine lv_aload_n hx hb dL_law_890 rfl (lv_at hl 0 rfl) ?_
  refine lv_iload_n hx hb dL_law_891 rfl (lv_at hl 3 rfl) ?_
  refine lv_iconst (v := (3 : Int32)) hx hb dL_law_892 (by decide) ?_
  refine lv_iadd hx hb dL_law_893 ?_
  refine va_sld hx hb hX hbl hbA hS n3 dL_law_894 ?_
  refine lv_aload_n hx hb dL_law_895 rfl (lv_at hl 0 rfl) ?_
  refine lv_iload_n hx hb dL_law_896 rfl (lv_at hl 3 rfl) ?_
  refine lv_iconst (v := (4 : Int32)) hx hb dL_law_897 (by decide) ?_
  refine lv_iadd hx hb dL_law_898 ?_
  refine va_sld hx hb hX hbl hbA hS n4 dL_law_899 ?_
  refine lv_aload_n hx hb dL_law_900 rfl (lv_at hl 0 rfl) ?_
  refine lv_iload_n hx hb dL_law_901 rfl (lv_at hl 3 rfl) ?_
  refine lv_iconst (v := (5 : Int32)) hx hb dL_law_902 (by decide) ?_
  refine lv_iadd hx hb dL_law_903 ?_
  refine va_sld hx hb hX hbl hbA hS n5 dL_law_904 ?_
  refine lv_aload_n hx hb dL_law_905 rfl (lv_at hl 0 rfl) ?_
  refine lv_iload_n hx hb dL_law_906 rfl (lv_at hl 3 rfl) ?_
  refine lv_bipush (v := (6 : Int32)) hx hb dL_law_907 (by decide) ?_
  refine lv_iadd hx hb dL_law_909 ?_
  refine va_sld hx hb hX hbl hbA hS n6 dL_law_910 ?_
  refine za_callWi (va_runV (As := [.int (xs (nI i + 1).toNatClampNeg), .int (xs (nI i + 2).toNatClampNeg), .int (xs (nI i + 3).toNatClampNeg), .int (xs (nI i + 4).toNatClampNeg), .int (xs (nI i + 5).toNatClampNeg), .int (xs (nI i + 6).toNatClampNeg)]) (rest := [.int r]) ⟨hx, hb, hml, hown, hts⟩ (k_X11_right l (D := D) (cI := cI) (cJ := cJ) (ad := ad) hD e2) (cwV 6 hts gv_X11_right rfl rfl rfl (by decide +kernel) ⟨Nat.le_of_ble_eq_true rfl, Nat.le_of_ble_eq_true rfl⟩) (xPreV (ci := 11) hK hP rfl zO_64) rfl rfl hl.1 rfl (lv_room (Nat.le_of_ble_eq_true rfl)) dL_law_911 ⟨Nat.le_of_ble_eq_true rfl, Nat.le_of_ble_eq_true rfl⟩) hS (fun H locs hP hS => ?_)
  refine lv_icmp_eq (tgt := 1191) hx hb dL_law_914 (by decide) (fun _ => ?_) (fun c9 => absurd rfl c9)
  exact kk u2 v1 H locs ls hI2 hP hS hl
set_option maxHeartbeats 4000000 in
theorem law_c23 (C0 : lw_At p s m meth c b L xs) (hK : xK D cI cJ s) (hD : zD (fun q : Nat => s.heap.size ≤ q) cI cJ ad) {i : Nat} (hi : i + 7 ≤ L) (hL : L ≤ 3584) (kk : lK p l e s m below meth c b D cI cJ ad i 1191) : lK p l e s m below meth c b D cI cJ ad i 919 := by
  obtain ⟨hx, hb, hr, hml, hown, hts, hX, hbl, hlocks, hgv⟩ := C0
  have hbA : ¬ (fun q : Nat => s.heap.size ≤ q) b := Nat.not_le.mpr hbl
  intro u v H locs ls hI hP hS hl
  have n1 : vp_in (nI i + 1) L := by rw [ixj (J := 1) i 1 rfl]; exact vp_in_nI (by omega) (by omega)
  have n2 : vp_in (nI i + 2) L := by rw [ixj (J := 2) i 2 rfl]; exact vp_in_nI (by omega) (by omega)
  refine lv_aload_n hx hb dL_law_919 rfl (lv_at hl 1 rfl) ?_
  refine lv_aload_n hx hb dL_law_920 rfl (lv_at hl 0 rfl) ?_
  refine lv_iload_n hx hb dL_law_921 rfl (lv_at hl 3 rfl) ?_
  refine lv_iconst (v := (1 : Int32)) hx hb dL_law_922 (by decide) ?_
  refine lv_iadd hx hb dL_law_923 ?_
  refine va_sld hx hb hX hbl hbA hS n1 dL_law_924 ?_
  refine lv_aload_n hx hb dL_law_925 rfl (lv_at hl 0 rfl) ?_
  refine lv_iload_n hx hb dL_law_926 rfl (lv_at hl 3 rfl) ?_
  refine lv_iconst (v := (2 : Int32)) hx hb dL_law_927 (by decide) ?_
  refine lv_iadd hx hb dL_law_928 ?_
  refine va_sld hx hb hX hbl hbA hS n2 dL_law_929 ?_
  obtain ⟨r, u1, v1, u2, e1, e2, hI2⟩ := SM_go (fun N n c K f ok => sm_amount ok f (xs (nI i + 1).toNatClampNeg) (xs (nI i + 2).toNatClampNeg)) hI
  refine za_callWi (va_runV (As := [.int (xs (nI i + 1).toNatClampNeg), .int (xs (nI i + 2).toNatClampNeg)]) (rest := []) ⟨hx, hb, hml, hown, hts⟩ (k_X10_amount l (D := D) (cI := cI) (cJ := cJ) (ad := ad) hD e1) (cwV 2 hts gv_X10_amount rfl rfl rfl (by decide +kernel) ⟨Nat.le_of_ble_eq_true rfl, Nat.le_of_ble_eq_true rfl⟩) (xPreV (ci := 10) hK hP rfl zO_0) rfl rfl hl.1 rfl (lv_room (Nat.le_of_ble_eq_true rfl)) dL_law_930 ⟨Nat.le_of_ble_eq_true rfl, Nat.le_of_ble_eq_true rfl⟩) hS (fun H locs hP hS => ?_)
  refine lv_aload_n hx hb dL_law_933 rfl (lv_at hl 2 rfl) ?_
  refine lv_aload_n hx hb dL_law_934 rfl (lv_at hl 0 rfl) ?_
  refine lv_iload_n hx hb dL_law_935 rfl (lv_at hl 3 rfl) ?_
  refine lv_iconst (v := (1 : Int32)) hx hb dL_law_936 (by decide) ?_
  refine lv_iadd hx hb dL_law_937 ?_
  refine va_sld hx hb hX hbl hbA hS n1 dL_law_938 ?_
  refine lv_aload_n hx hb dL_law_939 rfl (lv_at hl 0 rfl) ?_
  refine lv_iload_n hx hb dL_law_940 rfl (lv_at hl 3 rfl) ?_
  refine lv_iconst (v := (2 : Int32)) hx hb dL_law_941 (by decide) ?_
  refine lv_iadd hx hb dL_law_942 ?_
  refine va_sld hx hb hX hbl hbA hS n2 dL_law_943 ?_
  refine za_callWi (va_runV (As := [.int (xs (nI i + 1).toNatClampNeg), .int (xs (nI i + 2).toNatClampNeg)]) (rest := [.int r]) ⟨hx, hb, hml, hown, hts⟩ (k_X11_amount l (D := D) (cI := cI) (cJ := cJ) (ad := ad) hD e2) (cwV 2 hts gv_X11_amount rfl rfl rfl (by decide +kernel) ⟨Nat.le_of_ble_eq_true rfl, Nat.le_of_ble_eq_true rfl⟩) (xPreV (ci := 11) hK hP rfl zO_64) rfl rfl hl.1 rfl (lv_room (Nat.le_of_ble_eq_true rfl)) dL_law_944 ⟨Nat.le_of_ble_eq_true rfl, Nat.le_of_ble_eq_true rfl⟩) hS (fun H locs hP hS => ?_)
  refine lv_icmp_eq (tgt := 1191) hx hb dL_law_947 (by decide) (fun _ => ?_) (fun c9 => absurd rfl c9)
  exact kk u2 v1 H locs ls hI2 hP hS hl
set_option maxHeartbeats 4000000 in
theorem law_c24 (C0 : lw_At p s m meth c b L xs) (hK : xK D cI cJ s) (hD : zD (fun q : Nat => s.heap.size ≤ q) cI cJ ad) {i : Nat} (hi : i + 7 ≤ L) (hL : L ≤ 3584) (kk : lK p l e s m below meth c b D cI cJ ad i 1191) : lK p l e s m below meth c b D cI cJ ad i 952 := by
  obtain ⟨hx, hb, hr, hml, hown, hts, hX, hbl, hlocks, hgv⟩ := C0
  have hbA : ¬ (fun q : Nat => s.heap.size ≤ q) b := Nat.not_le.mpr hbl
  intro u v H locs ls hI hP hS hl
  have n1 : vp_in (nI i + 1) L := by rw [ixj (J := 1) i 1 rfl]; exact vp_in_nI (by omega) (by omega)
  have n2 : vp_in (nI i + 2) L := by rw [ixj (J := 2) i 2 rfl]; exact vp_in_nI (by omega) (by omega)
  refine lv_aload_n hx hb dL_law_952 rfl (lv_at hl 1 rfl) ?_
  refine lv_aload_n hx hb dL_law_953 rfl (lv_at hl 0 rfl) ?_
  refine lv_iload_n hx hb dL_law_954 rfl (lv_at hl 3 rfl) ?_
  refine lv_iconst (v := (1 : Int32)) hx hb dL_law_955 (by decide) ?_
  refine lv_iadd hx hb dL_law_956 ?_
  refine va_sld hx hb hX hbl hbA hS n1 dL_law_957 ?_
  refine lv_aload_n hx hb dL_law_958 rfl (lv_at hl 0 rfl) ?_
  refine lv_iload_n hx hb dL_law_959 rfl (lv_at hl 3 rfl) ?_
  refine lv_iconst (v := (2 : Int32)) hx hb dL_law_960 (by decide) ?_
  refine lv_iadd hx hb dL_law_961 ?_
  refine va_sld hx hb hX hbl hbA hS n2 dL_law_962 ?_
  obtain ⟨r, u1, v1, u2, e1, e2, hI2⟩ := SM_go (fun N n c K f ok => sm_may ok f (xs (nI i + 1).toNatClampNeg) (xs (nI i + 2).toNatClampNeg)) hI
  refine za_callWi (va_runV (As := [.int (xs (nI i + 1).toNatClampNeg), .int (xs (nI i + 2).toNatClampNeg)]) (rest := []) ⟨hx, hb, hml, hown, hts⟩ (k_X10_may l (D := D) (cI := cI) (cJ := cJ) (ad := ad) hD e1) (cwV 2 hts gv_X10_may rfl rfl rfl (by decide +kernel) ⟨Nat.le_of_ble_eq_true rfl, Nat.le_of_ble_eq_true rfl⟩) (xPreV (ci := 10) hK hP rfl zO_0) rfl rfl hl.1 rfl (lv_room (Nat.le_of_ble_eq_true rfl)) dL_law_963 ⟨Nat.le_of_ble_eq_true rfl, Nat.le_of_ble_eq_true rfl⟩) hS (fun H locs hP hS => ?_)
  refine lv_aload_n hx hb dL_law_966 rfl (lv_at hl 2 rfl) ?_
  refine lv_aload_n hx hb dL_law_967 rfl (lv_at hl 0 rfl) ?_
  refine lv_iload_n hx hb dL_law_968 rfl (lv_at hl 3 rfl) ?_
  refine lv_iconst (v := (1 : Int32)) hx hb dL_law_969 (by decide) ?_
  refine lv_iadd hx hb dL_law_970 ?_
  refine va_sld hx hb hX hbl hbA hS n1 dL_law_971 ?_
  refine lv_aload_n hx hb dL_law_972 rfl (lv_at hl 0 rfl) ?_
  refine lv_iload_n hx hb dL_law_973 rfl (lv_at hl 3 rfl) ?_
  refine lv_iconst (v := (2 : Int32)) hx hb dL_law_974 (by decide) ?_
  refine lv_iadd hx hb dL_law_975 ?_
  refine va_sld hx hb hX hbl hbA hS n2 dL_law_976 ?_
  refine za_callWi (va_runV (As := [.int (xs (nI i + 1).toNatClampNeg), .int (xs (nI i + 2).toNatClampNeg)]) (rest := [.int r]) ⟨hx, hb, hml, hown, hts⟩ (k_X11_may l (D := D) (cI := cI) (cJ := cJ) (ad := ad) hD e2) (cwV 2 hts gv_X11_may rfl rfl rfl (by decide +kernel) ⟨Nat.le_of_ble_eq_true rfl, Nat.le_of_ble_eq_true rfl⟩) (xPreV (ci := 11) hK hP rfl zO_64) rfl rfl hl.1 rfl (lv_room (Nat.le_of_ble_eq_true rfl)) dL_law_977 ⟨Nat.le_of_ble_eq_true rfl, Nat.le_of_ble_eq_true rfl⟩) hS (fun H locs hP hS => ?_)
  refine lv_icmp_eq (tgt := 1191) hx hb dL_law_980 (by decide) (fun _ => ?_) (fun c9 => absurd rfl c9)
  exact kk u2 v1 H locs ls hI2 hP hS hl
set_option maxHeartbeats 4000000 in
theorem law_c25 (C0 : lw_At p s m meth c b L xs) (hK : xK D cI cJ s) (hD : zD (fun q : Nat => s.heap.size ≤ q) cI cJ ad) {i : Nat} (hi : i + 7 ≤ L) (hL : L ≤ 3584) (kk : lK p l e s m below meth c b D cI cJ ad i 1191) : lK p l e s m below meth c b D cI cJ ad i 985 := by
  obtain ⟨hx, hb, hr, hml, hown, hts, hX, hbl, hlocks, hgv⟩ := C0
  have hbA : ¬ (fun q : Nat => s.heap.size ≤ q) b := Nat.not_le.mpr hbl
  intro u v H locs ls hI hP hS hl
  refine lv_aload_n hx hb dL_law_985 rfl (lv_at hl 1 rfl) ?_
  obtain ⟨r, u1, v1, u2, e1, e2, hI2⟩ := SM_go (fun N n c K f ok => sm_needs ok f) hI
  refine za_callWi (va_runV (As := []) (rest := []) ⟨hx, hb, hml, hown, hts⟩ (k_X10_needs l (D := D) (cI := cI) (cJ := cJ) (ad := ad) hD e1) (cwV 0 hts gv_X10_needs rfl rfl rfl (by decide +kernel) ⟨Nat.le_of_ble_eq_true rfl, Nat.le_of_ble_eq_true rfl⟩) (xPreV (ci := 10) hK hP rfl zO_0) rfl rfl hl.1 rfl (lv_room (Nat.le_of_ble_eq_true rfl)) dL_law_986 ⟨Nat.le_of_ble_eq_true rfl, Nat.le_of_ble_eq_true rfl⟩) hS (fun H locs hP hS => ?_)
  refine lv_aload_n hx hb dL_law_989 rfl (lv_at hl 2 rfl) ?_
  refine za_callWi (va_runV (As := []) (rest := [.int r]) ⟨hx, hb, hml, hown, hts⟩ (k_X11_needs l (D := D) (cI := cI) (cJ := cJ) (ad := ad) hD e2) (cwV 0 hts gv_X11_needs rfl rfl rfl (by decide +kernel) ⟨Nat.le_of_ble_eq_true rfl, Nat.le_of_ble_eq_true rfl⟩) (xPreV (ci := 11) hK hP rfl zO_64) rfl rfl hl.1 rfl (lv_room (Nat.le_of_ble_eq_true rfl)) dL_law_990 ⟨Nat.le_of_ble_eq_true rfl, Nat.le_of_ble_eq_true rfl⟩) hS (fun H locs hP hS => ?_)
  refine lv_icmp_eq (tgt := 1191) hx hb dL_law_993 (by decide) (fun _ => ?_) (fun c9 => absurd rfl c9)
  exact kk u2 v1 H locs ls hI2 hP hS hl
set_option maxHeartbeats 4000000 in
theorem law_c26 (C0 : lw_At p s m meth c b L xs) (hK : xK D cI cJ s) (hD : zD (fun q : Nat => s.heap.size ≤ q) cI cJ ad) {i : Nat} (hi : i + 7 ≤ L) (hL : L ≤ 3584) (kk : lK p l e s m below meth c b D cI cJ ad i 1191) : lK p l e s m below meth c b D cI cJ ad i 998 := by
  obtain ⟨hx, hb, hr, hml, hown, hts, hX, hbl, hlocks, hgv⟩ := C0
  have hbA : ¬ (fun q : Nat => s.heap.size ≤ q) b := Nat.not_le.mpr hbl
  intro u v H locs ls hI hP hS hl
  refine lv_aload_n hx hb dL_law_998 rfl (lv_at hl 1 rfl) ?_
  obtain ⟨r, u1, v1, u2, e1, e2, hI2⟩ := SM_go (fun N n c K f ok => sm_lack ok f) hI
  refine za_callWi (va_runV (As := []) (rest := []) ⟨hx, hb, hml, hown, hts⟩ (k_X10_lack l (D := D) (cI := cI) (cJ := cJ) (ad := ad) hD e1) (cwV 0 hts gv_X10_lack rfl rfl rfl (by decide +kernel) ⟨Nat.le_of_ble_eq_true rfl, Nat.le_of_ble_eq_true rfl⟩) (xPreV (ci := 10) hK hP rfl zO_0) rfl rfl hl.1 rfl (lv_room (Nat.le_of_ble_eq_true rfl)) dL_law_999 ⟨Nat.le_of_ble_eq_true rfl, Nat.le_of_ble_eq_true rfl⟩) hS (fun H locs hP hS => ?_)
  refine lv_aload_n hx hb dL_law_1002 rfl (lv_at hl 2 rfl) ?_
  refine za_callWi (va_runV (As := []) (rest := [.int r]) ⟨hx, hb, hml, hown, hts⟩ (k_X11_lack l (D := D) (cI := cI) (cJ := cJ) (ad := ad) hD e2) (cwV 0 hts gv_X11_lack rfl rfl rfl (by decide +kernel) ⟨Nat.le_of_ble_eq_true rfl, Nat.le_of_ble_eq_true rfl⟩) (xPreV (ci := 11) hK hP rfl zO_64) rfl rfl hl.1 rfl (lv_room (Nat.le_of_ble_eq_true rfl)) dL_law_1003 ⟨Nat.le_of_ble_eq_true rfl, Nat.le_of_ble_eq_true rfl⟩) hS (fun H locs hP hS => ?_)
  refine lv_icmp_eq (tgt := 1191) hx hb dL_law_1006 (by decide) (fun _ => ?_) (fun c9 => absurd rfl c9)
  exact kk u2 v1 H locs ls hI2 hP hS hl
set_option maxHeartbeats 4000000 in
theorem law_c27 (C0 : lw_At p s m meth c b L xs) (hK : xK D cI cJ s) (hD : zD (fun q : Nat => s.heap.size ≤ q) cI cJ ad) {i : Nat} (hi : i + 7 ≤ L) (hL : L ≤ 3584) (kk : lK p l e s m below meth c b D cI cJ ad i 1191) : lK p l e s m below meth c b D cI cJ ad i 1011 := by
  obtain ⟨hx, hb, hr, hml, hown, hts, hX, hbl, hlocks, hgv⟩ := C0
  have hbA : ¬ (fun q : Nat => s.heap.size ≤ q) b := Nat.not_le.mpr hbl
  intro u v H locs ls hI hP hS hl
  refine lv_aload_n hx hb dL_law_1011 rfl (lv_at hl 1 rfl) ?_
  obtain ⟨r, u1, v1, u2, e1, e2, hI2⟩ := SM_go (fun N n c K f ok => sm_cost ok f) hI
  refine za_callWi (va_runV (As := []) (rest := []) ⟨hx, hb, hml, hown, hts⟩ (k_X10_cost l (D := D) (cI := cI) (cJ := cJ) (ad := ad) hD e1) (cwV 0 hts gv_X10_cost rfl rfl rfl (by decide +kernel) ⟨Nat.le_of_ble_eq_true rfl, Nat.le_of_ble_eq_true rfl⟩) (xPreV (ci := 10) hK hP rfl zO_0) rfl rfl hl.1 rfl (lv_room (Nat.le_of_ble_eq_true rfl)) dL_law_1012 ⟨Nat.le_of_ble_eq_true rfl, Nat.le_of_ble_eq_true rfl⟩) hS (fun H locs hP hS => ?_)
  refine lv_aload_n hx hb dL_law_1015 rfl (lv_at hl 2 rfl) ?_
  refine za_callWi (va_runV (As := []) (rest := [.int r]) ⟨hx, hb, hml, hown, hts⟩ (k_X11_cost l (D := D) (cI := cI) (cJ := cJ) (ad := ad) hD e2) (cwV 0 hts gv_X11_cost rfl rfl rfl (by decide +kernel) ⟨Nat.le_of_ble_eq_true rfl, Nat.le_of_ble_eq_true rfl⟩) (xPreV (ci := 11) hK hP rfl zO_64) rfl rfl hl.1 rfl (lv_room (Nat.le_of_ble_eq_true rfl)) dL_law_1016 ⟨Nat.le_of_ble_eq_true rfl, Nat.le_of_ble_eq_true rfl⟩) hS (fun H locs hP hS => ?_)
  refine lv_icmp_eq (tgt := 1191) hx hb dL_law_1019 (by decide) (fun _ => ?_) (fun c9 => absurd rfl c9)
  exact kk u2 v1 H locs ls hI2 hP hS hl
set_option maxHeartbeats 4000000 in
theorem law_c28 (C0 : lw_At p s m meth c b L xs) (hK : xK D cI cJ s) (hD : zD (fun q : Nat => s.heap.size ≤ q) cI cJ ad) {i : Nat} (hi : i + 7 ≤ L) (hL : L ≤ 3584) (kk : lK p l e s m below meth c b D cI cJ ad i 1191) : lK p l e s m below meth c b D cI cJ ad i 1024 := by
  obtain ⟨hx, hb, hr, hml, hown, hts, hX, hbl, hlocks, hgv⟩ := C0
  have hbA : ¬ (fun q : Nat => s.heap.size ≤ q) b := Nat.not_le.mpr hbl
  intro u v H locs ls hI hP hS hl
  have n1 : vp_in (nI i + 1) L := by rw [ixj (J := 1) i 1 rfl]; exact vp_in_nI (by omega) (by omega)
  have n2 : vp_in (nI i + 2) L := by rw [ixj (J := 2) i 2 rfl]; exact vp_in_nI (by omega) (by omega)
  refine lv_aload_n hx hb dL_law_1024 rfl (lv_at hl 1 rfl) ?_
  refine lv_aload_n hx hb dL_law_1025 rfl (lv_at hl 0 rfl) ?_
  refine lv_iload_n hx hb dL_law_1026 rfl (lv_at hl 3 rfl) ?_
  refine lv_iconst (v := (1 : Int32)) hx hb dL_law_1027 (by decide) ?_
  refine lv_iadd hx hb dL_law_1028 ?_
  refine va_sld hx hb hX hbl hbA hS n1 dL_law_1029 ?_
  refine lv_aload_n hx hb dL_law_1030 rfl (lv_at hl 0 rfl) ?_
  refine lv_iload_n hx hb dL_law_1031 rfl (lv_at hl 3 rfl) ?_
  refine lv_iconst (v := (2 : Int32)) hx hb dL_law_1032 (by decide) ?_
  refine lv_iadd hx hb dL_law_1033 ?_
  refine va_sld hx hb hX hbl hbA hS n2 dL_law_1034 ?_
  refine lv_if_eq (tgt := 1042) hx hb dL_law_1035 (by decide) (fun c1 => ?_) (fun c1 => ?_)
  · refine lv_iconst (v := (0 : Int32)) hx hb dL_law_1042 (by decide) ?_
    obtain ⟨r, u1, v1, u2, e1, e2, hI2⟩ := SM_go (fun N n c K f ok => sm_of ok f (xs (nI i + 1).toNatClampNeg) (0 : Int32)) hI
    refine za_callWi (va_runV (As := [.int (xs (nI i + 1).toNatClampNeg), .int (0 : Int32)]) (rest := []) ⟨hx, hb, hml, hown, hts⟩ (k_X10_of l (D := D) (cI := cI) (cJ := cJ) (ad := ad) hD e1) (cwV 2 hts gv_X10_of rfl rfl rfl (by decide +kernel) ⟨Nat.le_of_ble_eq_true rfl, Nat.le_of_ble_eq_true rfl⟩) (xPreV (ci := 10) hK hP rfl zO_0) rfl rfl hl.1 rfl (lv_room (Nat.le_of_ble_eq_true rfl)) dL_law_1043 ⟨Nat.le_of_ble_eq_true rfl, Nat.le_of_ble_eq_true rfl⟩) hS (fun H locs hP hS => ?_)
    refine lv_aload_n hx hb dL_law_1046 rfl (lv_at hl 2 rfl) ?_
    refine lv_aload_n hx hb dL_law_1047 rfl (lv_at hl 0 rfl) ?_
    refine lv_iload_n hx hb dL_law_1048 rfl (lv_at hl 3 rfl) ?_
    refine lv_iconst (v := (1 : Int32)) hx hb dL_law_1049 (by decide) ?_
    refine lv_iadd hx hb dL_law_1050 ?_
    refine va_sld hx hb hX hbl hbA hS n1 dL_law_1051 ?_
    refine lv_aload_n hx hb dL_law_1052 rfl (lv_at hl 0 rfl) ?_
    refine lv_iload_n hx hb dL_law_1053 rfl (lv_at hl 3 rfl) ?_
    refine lv_iconst (v := (2 : Int32)) hx hb dL_law_1054 (by decide) ?_
    refine lv_iadd hx hb dL_law_1055 ?_
    refine va_sld hx hb hX hbl hbA hS n2 dL_law_1056 ?_
    refine lv_if_eq (tgt := 1064) hx hb dL_law_1057 (by decide) (fun _ => ?_) (fun c9 => absurd c1 c9)
    refine lv_iconst (v := (0 : Int32)) hx hb dL_law_1064 (by decide) ?_
    refine za_callWi (va_runV (As := [.int (xs (nI i + 1).toNatClampNeg), .int (0 : Int32)]) (rest := [.int r]) ⟨hx, hb, hml, hown, hts⟩ (k_X11_of l (D := D) (cI := cI) (cJ := cJ) (ad := ad) hD e2) (cwV 2 hts gv_X11_of rfl rfl rfl (by decide +kernel) ⟨Nat.le_of_ble_eq_true rfl, Nat.le_of_ble_eq_true rfl⟩) (xPreV (ci := 11) hK hP rfl zO_64) rfl rfl hl.1 rfl (lv_room (Nat.le_of_ble_eq_true rfl)) dL_law_1065 ⟨Nat.le_of_ble_eq_true rfl, Nat.le_of_ble_eq_true rfl⟩) hS (fun H locs hP hS => ?_)
    refine lv_icmp_eq (tgt := 1191) hx hb dL_law_1068 (by decide) (fun _ => ?_) (fun c9 => absurd rfl c9)
    exact kk u2 v1 H locs ls hI2 hP hS hl
  · refine lv_iconst (v := (1 : Int32)) hx hb dL_law_1038 (by decide) ?_
    refine lv_goto (tgt := 1043) hx hb dL_law_1039 (by decide) ?_
    obtain ⟨r, u1, v1, u2, e1, e2, hI2⟩ := SM_go (fun N n c K f ok => sm_of ok f (xs (nI i + 1).toNatClampNeg) (1 : Int32)) hI
    refine za_callWi (va_runV (As := [.int (xs (nI i + 1).toNatClampNeg), .int (1 : Int32)]) (rest := []) ⟨hx, hb, hml, hown, hts⟩ (k_X10_of l (D := D) (cI := cI) (cJ := cJ) (ad := ad) hD e1) (cwV 2 hts gv_X10_of rfl rfl rfl (by decide +kernel) ⟨Nat.le_of_ble_eq_true rfl, Nat.le_of_ble_eq_true rfl⟩) (xPreV (ci := 10) hK hP rfl zO_0) rfl rfl hl.1 rfl (lv_room (Nat.le_of_ble_eq_true rfl)) dL_law_1043 ⟨Nat.le_of_ble_eq_true rfl, Nat.le_of_ble_eq_true rfl⟩) hS (fun H locs hP hS => ?_)
    refine lv_aload_n hx hb dL_law_1046 rfl (lv_at hl 2 rfl) ?_
    refine lv_aload_n hx hb dL_law_1047 rfl (lv_at hl 0 rfl) ?_
    refine lv_iload_n hx hb dL_law_1048 rfl (lv_at hl 3 rfl) ?_
    refine lv_iconst (v := (1 : Int32)) hx hb dL_law_1049 (by decide) ?_
    refine lv_iadd hx hb dL_law_1050 ?_
    refine va_sld hx hb hX hbl hbA hS n1 dL_law_1051 ?_
    refine lv_aload_n hx hb dL_law_1052 rfl (lv_at hl 0 rfl) ?_
    refine lv_iload_n hx hb dL_law_1053 rfl (lv_at hl 3 rfl) ?_
    refine lv_iconst (v := (2 : Int32)) hx hb dL_law_1054 (by decide) ?_
    refine lv_iadd hx hb dL_law_1055 ?_
    refine va_sld hx hb hX hbl hbA hS n2 dL_law_1056 ?_
    refine lv_if_eq (tgt := 1064) hx hb dL_law_1057 (by decide) (fun c9 => absurd c9 c1) (fun _ => ?_)
    refine lv_iconst (v := (1 : Int32)) hx hb dL_law_1060 (by decide) ?_
    refine lv_goto (tgt := 1065) hx hb dL_law_1061 (by decide) ?_
    refine za_callWi (va_runV (As := [.int (xs (nI i + 1).toNatClampNeg), .int (1 : Int32)]) (rest := [.int r]) ⟨hx, hb, hml, hown, hts⟩ (k_X11_of l (D := D) (cI := cI) (cJ := cJ) (ad := ad) hD e2) (cwV 2 hts gv_X11_of rfl rfl rfl (by decide +kernel) ⟨Nat.le_of_ble_eq_true rfl, Nat.le_of_ble_eq_true rfl⟩) (xPreV (ci := 11) hK hP rfl zO_64) rfl rfl hl.1 rfl (lv_room (Nat.le_of_ble_eq_true rfl)) dL_law_1065 ⟨Nat.le_of_ble_eq_true rfl, Nat.le_of_ble_eq_true rfl⟩) hS (fun H locs hP hS => ?_)
    refine lv_icmp_eq (tgt := 1191) hx hb dL_law_1068 (by decide) (fun _ => ?_) (fun c9 => absurd rfl c9)
    exact kk u2 v1 H locs ls hI2 hP hS hl
set_option maxHeartbeats 4000000 in
theorem law_c29 (C0 : lw_At p s m meth c b L xs) (hK : xK D cI cJ s) (hD : zD (fun q : Nat => s.heap.size ≤ q) cI cJ ad) {i : Nat} (hi : i + 7 ≤ L) (hL : L ≤ 3584) (kk : lK p l e s m below meth c b D cI cJ ad i 1191) : lK p l e s m below meth c b D cI cJ ad i 1073 := by
  obtain ⟨hx, hb, hr, hml, hown, hts, hX, hbl, hlocks, hgv⟩ := C0
  have hbA : ¬ (fun q : Nat => s.heap.size ≤ q) b := Nat.not_le.mpr hbl
  intro u v H locs ls hI hP hS hl
  have n1 : vp_in (nI i + 1) L := by rw [ixj (J := 1) i 1 rfl]; exact vp_in_nI (by omega) (by omega)
  refine lv_aload_n hx hb dL_law_1073 rfl (lv_at hl 1 rfl) ?_
  refine lv_aload_n hx hb dL_law_1074 rfl (lv_at hl 0 rfl) ?_
  refine lv_iload_n hx hb dL_law_1075 rfl (lv_at hl 3 rfl) ?_
  refine lv_iconst (v := (1 : Int32)) hx hb dL_law_1076 (by decide) ?_
  refine lv_iadd hx hb dL_law_1077 ?_
  refine va_sld hx hb hX hbl hbA hS n1 dL_law_1078 ?_
  obtain ⟨r, u1, v1, u2, e1, e2, hI2⟩ := SM_go (fun N n c K f ok => sm_without ok f (xs (nI i + 1).toNatClampNeg)) hI
  refine za_callWi (va_runV (As := [.int (xs (nI i + 1).toNatClampNeg)]) (rest := []) ⟨hx, hb, hml, hown, hts⟩ (k_X10_without l (D := D) (cI := cI) (cJ := cJ) (ad := ad) hD e1) (cwV 1 hts gv_X10_without rfl rfl rfl (by decide +kernel) ⟨Nat.le_of_ble_eq_true rfl, Nat.le_of_ble_eq_true rfl⟩) (xPreV (ci := 10) hK hP rfl zO_0) rfl rfl hl.1 rfl (lv_room (Nat.le_of_ble_eq_true rfl)) dL_law_1079 ⟨Nat.le_of_ble_eq_true rfl, Nat.le_of_ble_eq_true rfl⟩) hS (fun H locs hP hS => ?_)
  refine lv_aload_n hx hb dL_law_1082 rfl (lv_at hl 2 rfl) ?_
  refine lv_aload_n hx hb dL_law_1083 rfl (lv_at hl 0 rfl) ?_
  refine lv_iload_n hx hb dL_law_1084 rfl (lv_at hl 3 rfl) ?_
  refine lv_iconst (v := (1 : Int32)) hx hb dL_law_1085 (by decide) ?_
  refine lv_iadd hx hb dL_law_1086 ?_
  refine va_sld hx hb hX hbl hbA hS n1 dL_law_1087 ?_
  refine za_callWi (va_runV (As := [.int (xs (nI i + 1).toNatClampNeg)]) (rest := [.int r]) ⟨hx, hb, hml, hown, hts⟩ (k_X11_without l (D := D) (cI := cI) (cJ := cJ) (ad := ad) hD e2) (cwV 1 hts gv_X11_without rfl rfl rfl (by decide +kernel) ⟨Nat.le_of_ble_eq_true rfl, Nat.le_of_ble_eq_true rfl⟩) (xPreV (ci := 11) hK hP rfl zO_64) rfl rfl hl.1 rfl (lv_room (Nat.le_of_ble_eq_true rfl)) dL_law_1088 ⟨Nat.le_of_ble_eq_true rfl, Nat.le_of_ble_eq_true rfl⟩) hS (fun H locs hP hS => ?_)
  refine lv_icmp_eq (tgt := 1191) hx hb dL_law_1091 (by decide) (fun _ => ?_) (fun c9 => absurd rfl c9)
  exact kk u2 v1 H locs ls hI2 hP hS hl
set_option maxHeartbeats 4000000 in
theorem law_c30 (C0 : lw_At p s m meth c b L xs) (hK : xK D cI cJ s) (hD : zD (fun q : Nat => s.heap.size ≤ q) cI cJ ad) {i : Nat} (hi : i + 7 ≤ L) (hL : L ≤ 3584) (kk : lK p l e s m below meth c b D cI cJ ad i 1191) : lK p l e s m below meth c b D cI cJ ad i 1096 := by
  obtain ⟨hx, hb, hr, hml, hown, hts, hX, hbl, hlocks, hgv⟩ := C0
  have hbA : ¬ (fun q : Nat => s.heap.size ≤ q) b := Nat.not_le.mpr hbl
  intro u v H locs ls hI hP hS hl
  have n1 : vp_in (nI i + 1) L := by rw [ixj (J := 1) i 1 rfl]; exact vp_in_nI (by omega) (by omega)
  refine lv_aload_n hx hb dL_law_1096 rfl (lv_at hl 1 rfl) ?_
  refine lv_aload_n hx hb dL_law_1097 rfl (lv_at hl 0 rfl) ?_
  refine lv_iload_n hx hb dL_law_1098 rfl (lv_at hl 3 rfl) ?_
  refine lv_iconst (v := (1 : Int32)) hx hb dL_law_1099 (by decide) ?_
  refine lv_iadd hx hb dL_law_1100 ?_
  refine va_sld hx hb hX hbl hbA hS n1 dL_law_1101 ?_
  obtain ⟨r, u1, v1, u2, e1, e2, hI2⟩ := SM_go (fun N n c K f ok => sm_spared ok f (xs (nI i + 1).toNatClampNeg)) hI
  refine za_callWi (va_runV (As := [.int (xs (nI i + 1).toNatClampNeg)]) (rest := []) ⟨hx, hb, hml, hown, hts⟩ (k_X10_spared l (D := D) (cI := cI) (cJ := cJ) (ad := ad) hD e1) (cwV 1 hts gv_X10_spared rfl rfl rfl (by decide +kernel) ⟨Nat.le_of_ble_eq_true rfl, Nat.le_of_ble_eq_true rfl⟩) (xPreV (ci := 10) hK hP rfl zO_0) rfl rfl hl.1 rfl (lv_room (Nat.le_of_ble_eq_true rfl)) dL_law_1102 ⟨Nat.le_of_ble_eq_true rfl, Nat.le_of_ble_eq_true rfl⟩) hS (fun H locs hP hS => ?_)
  refine lv_aload_n hx hb dL_law_1105 rfl (lv_at hl 2 rfl) ?_
  refine lv_aload_n hx hb dL_law_1106 rfl (lv_at hl 0 rfl) ?_
  refine lv_iload_n hx hb dL_law_1107 rfl (lv_at hl 3 rfl) ?_
  refine lv_iconst (v := (1 : Int32)) hx hb dL_law_1108 (by decide) ?_
  refine lv_iadd hx hb dL_law_1109 ?_
  refine va_sld hx hb hX hbl hbA hS n1 dL_law_1110 ?_
  refine za_callWi (va_runV (As := [.int (xs (nI i + 1).toNatClampNeg)]) (rest := [.int r]) ⟨hx, hb, hml, hown, hts⟩ (k_X11_spared l (D := D) (cI := cI) (cJ := cJ) (ad := ad) hD e2) (cwV 1 hts gv_X11_spared rfl rfl rfl (by decide +kernel) ⟨Nat.le_of_ble_eq_true rfl, Nat.le_of_ble_eq_true rfl⟩) (xPreV (ci := 11) hK hP rfl zO_64) rfl rfl hl.1 rfl (lv_room (Nat.le_of_ble_eq_true rfl)) dL_law_1111 ⟨Nat.le_of_ble_eq_true rfl, Nat.le_of_ble_eq_true rfl⟩) hS (fun H locs hP hS => ?_)
  refine lv_icmp_eq (tgt := 1191) hx hb dL_law_1114 (by decide) (fun _ => ?_) (fun c9 => absurd rfl c9)
  exact kk u2 v1 H locs ls hI2 hP hS hl
set_option maxHeartbeats 4000000 in
theorem law_c31 (C0 : lw_At p s m meth c b L xs) (hK : xK D cI cJ s) (hD : zD (fun q : Nat => s.heap.size ≤ q) cI cJ ad) {i : Nat} (hi : i + 7 ≤ L) (hL : L ≤ 3584) (kk : lK p l e s m below meth c b D cI cJ ad i 1191) : lK p l e s m below meth c b D cI cJ ad i 1119 := by
  obtain ⟨hx, hb, hr, hml, hown, hts, hX, hbl, hlocks, hgv⟩ := C0
  have hbA : ¬ (fun q : Nat => s.heap.size ≤ q) b := Nat.not_le.mpr hbl
  intro u v H locs ls hI hP hS hl
  have n1 : vp_in (nI i + 1) L := by rw [ixj (J := 1) i 1 rfl]; exact vp_in_nI (by omega) (by omega)
  refine lv_aload_n hx hb dL_law_1119 rfl (lv_at hl 1 rfl) ?_
  refine lv_aload_n hx hb dL_law_1120 rfl (lv_at hl 0 rfl) ?_
  refine lv_iload_n hx hb dL_law_1121 rfl (lv_at hl 3 rfl) ?_
  refine lv_iconst (v := (1 : Int32)) hx hb dL_law_1122 (by decide) ?_
  refine lv_iadd hx hb dL_law_1123 ?_
  refine va_sld hx hb hX hbl hbA hS n1 dL_law_1124 ?_
  obtain ⟨r, u1, v1, u2, e1, e2, hI2⟩ := SM_go (fun N n c K f ok => sm_when ok f (xs (nI i + 1).toNatClampNeg)) hI
  refine za_callWi (va_runV (As := [.int (xs (nI i + 1).toNatClampNeg)]) (rest := []) ⟨hx, hb, hml, hown, hts⟩ (k_X10_when l (D := D) (cI := cI) (cJ := cJ) (ad := ad) hD e1) (cwV 1 hts gv_X10_when rfl rfl rfl (by decide +kernel) ⟨Nat.le_of_ble_eq_true rfl, Nat.le_of_ble_eq_true rfl⟩) (xPreV (ci := 10) hK hP rfl zO_0) rfl rfl hl.1 rfl (lv_room (Nat.le_of_ble_eq_true rfl)) dL_law_1125 ⟨Nat.le_of_ble_eq_true rfl, Nat.le_of_ble_eq_true rfl⟩) hS (fun H locs hP hS => ?_)
  refine lv_aload_n hx hb dL_law_1128 rfl (lv_at hl 2 rfl) ?_
  refine lv_aload_n hx hb dL_law_1129 rfl (lv_at hl 0 rfl) ?_
  refine lv_iload_n hx hb dL_law_1130 rfl (lv_at hl 3 rfl) ?_
  refine lv_iconst (v := (1 : Int32)) hx hb dL_law_1131 (by decide) ?_
  refine lv_iadd hx hb dL_law_1132 ?_
  refine va_sld hx hb hX hbl hbA hS n1 dL_law_1133 ?_
  refine za_callWi (va_runV (As := [.int (xs (nI i + 1).toNatClampNeg)]) (rest := [.int r]) ⟨hx, hb, hml, hown, hts⟩ (k_X11_when l (D := D) (cI := cI) (cJ := cJ) (ad := ad) hD e2) (cwV 1 hts gv_X11_when rfl rfl rfl (by decide +kernel) ⟨Nat.le_of_ble_eq_true rfl, Nat.le_of_ble_eq_true rfl⟩) (xPreV (ci := 11) hK hP rfl zO_64) rfl rfl hl.1 rfl (lv_room (Nat.le_of_ble_eq_true rfl)) dL_law_1134 ⟨Nat.le_of_ble_eq_true rfl, Nat.le_of_ble_eq_true rfl⟩) hS (fun H locs hP hS => ?_)
  refine lv_icmp_eq (tgt := 1191) hx hb dL_law_1137 (by decide) (fun _ => ?_) (fun c9 => absurd rfl c9)
  exact kk u2 v1 H locs ls hI2 hP hS hl
set_option maxHeartbeats 4000000 in
theorem law_c32 (C0 : lw_At p s m meth c b L xs) (hK : xK D cI cJ s) (hD : zD (fun q : Nat => s.heap.size ≤ q) cI cJ ad) {i : Nat} (hi : i + 7 ≤ L) (hL : L ≤ 3584) (kk : lK p l e s m below meth c b D cI cJ ad i 1191) : lK p l e s m below meth c b D cI cJ ad i 1142 := by
  obtain ⟨hx, hb, hr, hml, hown, hts, hX, hbl, hlocks, hgv⟩ := C0
  have hbA : ¬ (fun q : Nat => s.heap.size ≤ q) b := Nat.not_le.mpr hbl
  intro u v H locs ls hI hP hS hl
  refine lv_aload_n hx hb dL_law_1142 rfl (lv_at hl 1 rfl) ?_
  obtain ⟨r, u1, v1, u2, e1, e2, hI2⟩ := SM_go (fun N n c K f ok => sm_keep ok f) hI
  refine za_callWi (va_runV (As := []) (rest := []) ⟨hx, hb, hml, hown, hts⟩ (k_X10_keep l (D := D) (cI := cI) (cJ := cJ) (ad := ad) hD e1) (cwV 0 hts gv_X10_keep rfl rfl rfl (by decide +kernel) ⟨Nat.le_of_ble_eq_true rfl, Nat.le_of_ble_eq_true rfl⟩) (xPreV (ci := 10) hK hP rfl zO_0) rfl rfl hl.1 rfl (lv_room (Nat.le_of_ble_eq_true rfl)) dL_law_1143 ⟨Nat.le_of_ble_eq_true rfl, Nat.le_of_ble_eq_true rfl⟩) hS (fun H locs hP hS => ?_)
  refine lv_aload_n hx hb dL_law_1146 rfl (lv_at hl 2 rfl) ?_
  refine za_callWi (va_runV (As := []) (rest := [.int r]) ⟨hx, hb, hml, hown, hts⟩ (k_X11_keep l (D := D) (cI := cI) (cJ := cJ) (ad := ad) hD e2) (cwV 0 hts gv_X11_keep rfl rfl rfl (by decide +kernel) ⟨Nat.le_of_ble_eq_true rfl, Nat.le_of_ble_eq_true rfl⟩) (xPreV (ci := 11) hK hP rfl zO_64) rfl rfl hl.1 rfl (lv_room (Nat.le_of_ble_eq_true rfl)) dL_law_1147 ⟨Nat.le_of_ble_eq_true rfl, Nat.le_of_ble_eq_true rfl⟩) hS (fun H locs hP hS => ?_)
  refine lv_icmp_eq (tgt := 1191) hx hb dL_law_1150 (by decide) (fun _ => ?_) (fun c9 => absurd rfl c9)
  exact kk u2 v1 H locs ls hI2 hP hS hl
set_option maxHeartbeats 4000000 in
theorem law_c33 (C0 : lw_At p s m meth c b L xs) (hK : xK D cI cJ s) (hD : zD (fun q : Nat => s.heap.size ≤ q) cI cJ ad) {i : Nat} (hi : i + 7 ≤ L) (hL : L ≤ 3584) (kk : lK p l e s m below meth c b D cI cJ ad i 1191) : lK p l e s m below meth c b D cI cJ ad i 1155 := by
  obtain ⟨hx, hb, hr, hml, hown, hts, hX, hbl, hlocks, hgv⟩ := C0
  have hbA : ¬ (fun q : Nat => s.heap.size ≤ q) b := Nat.not_le.mpr hbl
  intro u v H locs ls hI hP hS hl
  refine lv_aload_n hx hb dL_law_1155 rfl (lv_at hl 1 rfl) ?_
  obtain ⟨r, u1, v1, u2, e1, e2, hI2⟩ := SM_go (fun N n c K f ok => sm_back ok f) hI
  refine za_callWi (va_runV (As := []) (rest := []) ⟨hx, hb, hml, hown, hts⟩ (k_X10_back l (D := D) (cI := cI) (cJ := cJ) (ad := ad) hD e1) (cwV 0 hts gv_X10_back rfl rfl rfl (by decide +kernel) ⟨Nat.le_of_ble_eq_true rfl, Nat.le_of_ble_eq_true rfl⟩) (xPreV (ci := 10) hK hP rfl zO_0) rfl rfl hl.1 rfl (lv_room (Nat.le_of_ble_eq_true rfl)) dL_law_1156 ⟨Nat.le_of_ble_eq_true rfl, Nat.le_of_ble_eq_true rfl⟩) hS (fun H locs hP hS => ?_)
  refine lv_aload_n hx hb dL_law_1159 rfl (lv_at hl 2 rfl) ?_
  refine za_callWi (va_runV (As := []) (rest := [.int r]) ⟨hx, hb, hml, hown, hts⟩ (k_X11_back l (D := D) (cI := cI) (cJ := cJ) (ad := ad) hD e2) (cwV 0 hts gv_X11_back rfl rfl rfl (by decide +kernel) ⟨Nat.le_of_ble_eq_true rfl, Nat.le_of_ble_eq_true rfl⟩) (xPreV (ci := 11) hK hP rfl zO_64) rfl rfl hl.1 rfl (lv_room (Nat.le_of_ble_eq_true rfl)) dL_law_1160 ⟨Nat.le_of_ble_eq_true rfl, Nat.le_of_ble_eq_true rfl⟩) hS (fun H locs hP hS => ?_)
  refine lv_icmp_eq (tgt := 1191) hx hb dL_law_1163 (by decide) (fun _ => ?_) (fun c9 => absurd rfl c9)
  exact kk u2 v1 H locs ls hI2 hP hS hl
set_option maxHeartbeats 4000000 in
theorem law_c34 (C0 : lw_At p s m meth c b L xs) (hK : xK D cI cJ s) (hD : zD (fun q : Nat => s.heap.size ≤ q) cI cJ ad) {i : Nat} (hi : i + 7 ≤ L) (hL : L ≤ 3584) (kk : lK p l e s m below meth c b D cI cJ ad i 1191) : lK p l e s m below meth c b D cI cJ ad i 1168 := by
  obtain ⟨hx, hb, hr, hml, hown, hts, hX, hbl, hlocks, hgv⟩ := C0
  have hbA : ¬ (fun q : Nat => s.heap.size ≤ q) b := Nat.not_le.mpr hbl
  intro u v H locs ls hI hP hS hl
  have n1 : vp_in (nI i + 1) L := by rw [ixj (J := 1) i 1 rfl]; exact vp_in_nI (by omega) (by omega)
  refine lv_aload_n hx hb dL_law_1168 rfl (lv_at hl 1 rfl) ?_
  refine lv_aload_n hx hb dL_law_1169 rfl (lv_at hl 0 rfl) ?_
  refine lv_iload_n hx hb dL_law_1170 rfl (lv_at hl 3 rfl) ?_
  refine lv_iconst (v := (1 : Int32)) hx hb dL_law_1171 (by decide) ?_
  refine lv_iadd hx hb dL_law_1172 ?_
  refine va_sld hx hb hX hbl hbA hS n1 dL_law_1173 ?_
  obtain ⟨r, u1, v1, u2, e1, e2, hI2⟩ := SM_go (fun N n c K f ok => sm_told ok f (xs (nI i + 1).toNatClampNeg)) hI
  refine za_callWi (va_runV (As := [.int (xs (nI i + 1).toNatClampNeg)]) (rest := []) ⟨hx, hb, hml, hown, hts⟩ (k_X10_told l (D := D) (cI := cI) (cJ := cJ) (ad := ad) hD e1) (cwV 1 hts gv_X10_told rfl rfl rfl (by decide +kernel) ⟨Nat.le_of_ble_eq_true rfl, Nat.le_of_ble_eq_true rfl⟩) (xPreV (ci := 10) hK hP rfl zO_0) rfl rfl hl.1 rfl (lv_room (Nat.le_of_ble_eq_true rfl)) dL_law_1174 ⟨Nat.le_of_ble_eq_true rfl, Nat.le_of_ble_eq_true rfl⟩) hS (fun H locs hP hS => ?_)
  refine lv_aload_n hx hb dL_law_1177 rfl (lv_at hl 2 rfl) ?_
  refine lv_aload_n hx hb dL_law_1178 rfl (lv_at hl 0 rfl) ?_
  refine lv_iload_n hx hb dL_law_1179 rfl (lv_at hl 3 rfl) ?_
  refine lv_iconst (v := (1 : Int32)) hx hb dL_law_1180 (by decide) ?_
  refine lv_iadd hx hb dL_law_1181 ?_
  refine va_sld hx hb hX hbl hbA hS n1 dL_law_1182 ?_
  refine za_callWi (va_runV (As := [.int (xs (nI i + 1).toNatClampNeg)]) (rest := [.int r]) ⟨hx, hb, hml, hown, hts⟩ (k_X11_told l (D := D) (cI := cI) (cJ := cJ) (ad := ad) hD e2) (cwV 1 hts gv_X11_told rfl rfl rfl (by decide +kernel) ⟨Nat.le_of_ble_eq_true rfl, Nat.le_of_ble_eq_true rfl⟩) (xPreV (ci := 11) hK hP rfl zO_64) rfl rfl hl.1 rfl (lv_room (Nat.le_of_ble_eq_true rfl)) dL_law_1183 ⟨Nat.le_of_ble_eq_true rfl, Nat.le_of_ble_eq_true rfl⟩) hS (fun H locs hP hS => ?_)
  refine lv_icmp_eq (tgt := 1191) hx hb dL_law_1186 (by decide) (fun _ => ?_) (fun c9 => absurd rfl c9)
  exact kk u2 v1 H locs ls hI2 hP hS hl
end LAWC
