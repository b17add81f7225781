theorem ql_125 : lw_tbl[125]? = some (Cond.classLink RL 7 RX12) := by decide +kernel
theorem ql_127 : lw_tbl[127]? = some (Cond.methodLink RL 9 yX12_init) := by decide +kernel
theorem ql_128 : lw_tbl[128]? = some (Cond.instanceMethod yX12_init) := by decide +kernel
theorem ql_129 : lw_tbl[129]? = some (Cond.code yX12_init cX12_init 1 none) := by decide +kernel
theorem ql_424 : lw_tbl[424]? = some (Cond.methodLink RL 13 yX12_grid) := by decide +kernel
theorem ql_425 : lw_tbl[425]? = some (Cond.instanceMethod yX12_grid) := by decide +kernel
theorem ql_426 : lw_tbl[426]? = some (Cond.selects yX12_grid.cls yX12_grid yX12_grid) := by decide +kernel
theorem ql_427 : lw_tbl[427]? = some (Cond.code yX12_grid cX12_grid 3 (some .int)) := by decide +kernel
theorem ql_447 : lw_tbl[447]? = some (Cond.methodLink RL 18 yX12_drop) := by decide +kernel
theorem ql_448 : lw_tbl[448]? = some (Cond.instanceMethod yX12_drop) := by decide +kernel
theorem ql_449 : lw_tbl[449]? = some (Cond.selects yX12_drop.cls yX12_drop yX12_drop) := by decide +kernel
theorem ql_450 : lw_tbl[450]? = some (Cond.code yX12_drop cX12_drop 2 (some .int)) := by decide +kernel
theorem ql_459 : lw_tbl[459]? = some (Cond.methodLink RL 23 yX12_row) := by decide +kernel
theorem ql_460 : lw_tbl[460]? = some (Cond.instanceMethod yX12_row) := by decide +kernel
theorem ql_461 : lw_tbl[461]? = some (Cond.selects yX12_row.cls yX12_row yX12_row) := by decide +kernel
theorem ql_462 : lw_tbl[462]? = some (Cond.code yX12_row cX12_row 5 (some .int)) := by decide +kernel
theorem ql_501 : lw_tbl[501]? = some (Cond.methodLink RL 28 yX12_thing) := by decide +kernel
theorem ql_502 : lw_tbl[502]? = some (Cond.instanceMethod yX12_thing) := by decide +kernel
theorem ql_503 : lw_tbl[503]? = some (Cond.selects yX12_thing.cls yX12_thing yX12_thing) := by decide +kernel
theorem ql_504 : lw_tbl[504]? = some (Cond.code yX12_thing cX12_thing 4 (some .int)) := by decide +kernel
theorem ql_509 : lw_tbl[509]? = some (Cond.methodLink RL 33 yX12_share) := by decide +kernel
theorem ql_510 : lw_tbl[510]? = some (Cond.instanceMethod yX12_share) := by decide +kernel
theorem ql_511 : lw_tbl[511]? = some (Cond.selects yX12_share.cls yX12_share yX12_share) := by decide +kernel
theorem ql_512 : lw_tbl[512]? = some (Cond.code yX12_share cX12_share 5 (some .int)) := by decide +kernel
theorem ql_529 : lw_tbl[529]? = some (Cond.methodLink RL 37 yX12_swap) := by decide +kernel
theorem ql_530 : lw_tbl[530]? = some (Cond.instanceMethod yX12_swap) := by decide +kernel
theorem ql_531 : lw_tbl[531]? = some (Cond.selects yX12_swap.cls yX12_swap yX12_swap) := by decide +kernel
theorem ql_532 : lw_tbl[532]? = some (Cond.code yX12_swap cX12_swap 5 (some .int)) := by decide +kernel
theorem ql_537 : lw_tbl[537]? = some (Cond.methodLink RL 41 yX12_holds) := by decide +kernel
theorem ql_538 : lw_tbl[538]? = some (Cond.instanceMethod yX12_holds) := by decide +kernel
theorem ql_539 : lw_tbl[539]? = some (Cond.selects yX12_holds.cls yX12_holds yX12_holds) := by decide +kernel
theorem ql_540 : lw_tbl[540]? = some (Cond.code yX12_holds cX12_holds 3 (some .int)) := by decide +kernel
theorem ql_542 : lw_tbl[542]? = some (Cond.methodLink RL 45 yX12_same) := by decide +kernel
theorem ql_543 : lw_tbl[543]? = some (Cond.instanceMethod yX12_same) := by decide +kernel
theorem ql_544 : lw_tbl[544]? = some (Cond.selects yX12_same.cls yX12_same yX12_same) := by decide +kernel
theorem ql_545 : lw_tbl[545]? = some (Cond.code yX12_same cX12_same 5 (some .int)) := by decide +kernel
theorem ql_554 : lw_tbl[554]? = some (Cond.methodLink RL 49 yX12_size) := by decide +kernel
theorem ql_555 : lw_tbl[555]? = some (Cond.instanceMethod yX12_size) := by decide +kernel
theorem ql_556 : lw_tbl[556]? = some (Cond.selects yX12_size.cls yX12_size yX12_size) := by decide +kernel
theorem ql_557 : lw_tbl[557]? = some (Cond.code yX12_size cX12_size 3 (some .int)) := by decide +kernel
theorem ql_562 : lw_tbl[562]? = some (Cond.methodLink RL 53 yX12_read) := by decide +kernel
theorem ql_563 : lw_tbl[563]? = some (Cond.instanceMethod yX12_read) := by decide +kernel
theorem ql_564 : lw_tbl[564]? = some (Cond.selects yX12_read.cls yX12_read yX12_read) := by decide +kernel
theorem ql_565 : lw_tbl[565]? = some (Cond.code yX12_read cX12_read 5 (some .int)) := by decide +kernel
theorem ql_614 : lw_tbl[614]? = some (Cond.methodLink RL 59 yX12_write) := by decide +kernel
theorem ql_615 : lw_tbl[615]? = some (Cond.instanceMethod yX12_write) := by decide +kernel
theorem ql_616 : lw_tbl[616]? = some (Cond.selects yX12_write.cls yX12_write yX12_write) := by decide +kernel
theorem ql_617 : lw_tbl[617]? = some (Cond.code yX12_write cX12_write 7 (some .int)) := by decide +kernel
theorem ql_641 : lw_tbl[641]? = some (Cond.methodLink RL 64 yX12_put) := by decide +kernel
theorem ql_642 : lw_tbl[642]? = some (Cond.instanceMethod yX12_put) := by decide +kernel
theorem ql_643 : lw_tbl[643]? = some (Cond.selects yX12_put.cls yX12_put yX12_put) := by decide +kernel
theorem ql_644 : lw_tbl[644]? = some (Cond.code yX12_put cX12_put 7 (some .int)) := by decide +kernel
theorem ql_646 : lw_tbl[646]? = some (Cond.methodLink RL 68 yX12_find) := by decide +kernel
theorem ql_647 : lw_tbl[647]? = some (Cond.instanceMethod yX12_find) := by decide +kernel
theorem ql_648 : lw_tbl[648]? = some (Cond.selects yX12_find.cls yX12_find yX12_find) := by decide +kernel
theorem ql_649 : lw_tbl[649]? = some (Cond.code yX12_find cX12_find 6 (some .int)) := by decide +kernel
theorem ql_661 : lw_tbl[661]? = some (Cond.methodLink RL 73 yX12_alike) := by decide +kernel
theorem ql_662 : lw_tbl[662]? = some (Cond.instanceMethod yX12_alike) := by decide +kernel
theorem ql_663 : lw_tbl[663]? = some (Cond.selects yX12_alike.cls yX12_alike yX12_alike) := by decide +kernel
theorem ql_664 : lw_tbl[664]? = some (Cond.code yX12_alike cX12_alike 5 (some .int)) := by decide +kernel
theorem ql_669 : lw_tbl[669]? = some (Cond.methodLink RL 77 yX12_cut) := by decide +kernel
theorem ql_670 : lw_tbl[670]? = some (Cond.instanceMethod yX12_cut) := by decide +kernel
theorem ql_671 : lw_tbl[671]? = some (Cond.selects yX12_cut.cls yX12_cut yX12_cut) := by decide +kernel
theorem ql_672 : lw_tbl[672]? = some (Cond.code yX12_cut cX12_cut 6 (some .int)) := by decide +kernel
theorem ql_683 : lw_tbl[683]? = some (Cond.methodLink RL 82 yX12_cast) := by decide +kernel
theorem ql_684 : lw_tbl[684]? = some (Cond.instanceMethod yX12_cast) := by decide +kernel
theorem ql_685 : lw_tbl[685]? = some (Cond.selects yX12_cast.cls yX12_cast yX12_cast) := by decide +kernel
theorem ql_686 : lw_tbl[686]? = some (Cond.code yX12_cast cX12_cast 4 (some .int)) := by decide +kernel
theorem ql_692 : lw_tbl[692]? = some (Cond.methodLink RL 86 yX12_pour) := by decide +kernel
theorem ql_693 : lw_tbl[693]? = some (Cond.instanceMethod yX12_pour) := by decide +kernel
theorem ql_694 : lw_tbl[694]? = some (Cond.selects yX12_pour.cls yX12_pour yX12_pour) := by decide +kernel
theorem ql_695 : lw_tbl[695]? = some (Cond.code yX12_pour cX12_pour 5 (some .int)) := by decide +kernel
theorem ql_700 : lw_tbl[700]? = some (Cond.methodLink RL 90 yX12_join) := by decide +kernel
theorem ql_701 : lw_tbl[701]? = some (Cond.instanceMethod yX12_join) := by decide +kernel
theorem ql_702 : lw_tbl[702]? = some (Cond.selects yX12_join.cls yX12_join yX12_join) := by decide +kernel
theorem ql_703 : lw_tbl[703]? = some (Cond.code yX12_join cX12_join 4 (some .int)) := by decide +kernel
theorem ql_711 : lw_tbl[711]? = some (Cond.methodLink RL 94 yX12_flip) := by decide +kernel
theorem ql_712 : lw_tbl[712]? = some (Cond.instanceMethod yX12_flip) := by decide +kernel
theorem ql_713 : lw_tbl[713]? = some (Cond.selects yX12_flip.cls yX12_flip yX12_flip) := by decide +kernel
theorem ql_714 : lw_tbl[714]? = some (Cond.code yX12_flip cX12_flip 3 (some .int)) := by decide +kernel
theorem ql_726 : lw_tbl[726]? = some (Cond.methodLink RL 98 yX12_roll) := by decide +kernel
theorem ql_727 : lw_tbl[727]? = some (Cond.instanceMethod yX12_roll) := by decide +kernel
theorem ql_728 : lw_tbl[728]? = some (Cond.selects yX12_roll.cls yX12_roll yX12_roll) := by decide +kernel
theorem ql_729 : lw_tbl[729]? = some (Cond.code yX12_roll cX12_roll 4 (some .int)) := by decide +kernel
theorem ql_737 : lw_tbl[737]? = some (Cond.methodLink RL 102 yX12_order) := by decide +kernel
theorem ql_738 : lw_tbl[738]? = some (Cond.instanceMethod yX12_order) := by decide +kernel
theorem ql_739 : lw_tbl[739]? = some (Cond.selects yX12_order.cls yX12_order yX12_order) := by decide +kernel
theorem ql_740 : lw_tbl[740]? = some (Cond.code yX12_order cX12_order 3 (some .int)) := by decide +kernel
theorem ql_753 : lw_tbl[753]? = some (Cond.methodLink RL 106 yX12_add) := by decide +kernel
theorem ql_754 : lw_tbl[754]? = some (Cond.instanceMethod yX12_add) := by decide +kernel
theorem ql_755 : lw_tbl[755]? = some (Cond.selects yX12_add.cls yX12_add yX12_add) := by decide +kernel
theorem ql_756 : lw_tbl[756]? = some (Cond.code yX12_add cX12_add 5 (some .int)) := by decide +kernel
theorem ql_763 : lw_tbl[763]? = some (Cond.methodLink RL 110 yX12_above) := by decide +kernel
theorem ql_764 : lw_tbl[764]? = some (Cond.instanceMethod yX12_above) := by decide +kernel
theorem ql_765 : lw_tbl[765]? = some (Cond.selects yX12_above.cls yX12_above yX12_above) := by decide +kernel
theorem ql_766 : lw_tbl[766]? = some (Cond.code yX12_above cX12_above 7 (some .int)) := by decide +kernel
theorem ql_776 : lw_tbl[776]? = some (Cond.methodLink RL 115 yX12_pick) := by decide +kernel
theorem ql_777 : lw_tbl[777]? = some (Cond.instanceMethod yX12_pick) := by decide +kernel
theorem ql_778 : lw_tbl[778]? = some (Cond.selects yX12_pick.cls yX12_pick yX12_pick) := by decide +kernel
theorem ql_779 : lw_tbl[779]? = some (Cond.code yX12_pick cX12_pick 4 (some .int)) := by decide +kernel
theorem ql_784 : lw_tbl[784]? = some (Cond.methodLink RL 119 yX12_flat) := by decide +kernel
theorem ql_785 : lw_tbl[785]? = some (Cond.instanceMethod yX12_flat) := by decide +kernel
theorem ql_786 : lw_tbl[786]? = some (Cond.selects yX12_flat.cls yX12_flat yX12_flat) := by decide +kernel
theorem ql_787 : lw_tbl[787]? = some (Cond.code yX12_flat cX12_flat 4 (some .int)) := by decide +kernel
theorem ql_800 : lw_tbl[800]? = some (Cond.methodLink RL 123 yX12_deal) := by decide +kernel
theorem ql_801 : lw_tbl[801]? = some (Cond.instanceMethod yX12_deal) := by decide +kernel
theorem ql_802 : lw_tbl[802]? = some (Cond.selects yX12_deal.cls yX12_deal yX12_deal) := by decide +kernel
theorem ql_803 : lw_tbl[803]? = some (Cond.code yX12_deal cX12_deal 5 (some .int)) := by decide +kernel
theorem ql_818 : lw_tbl[818]? = some (Cond.methodLink RL 127 yX12_turn) := by decide +kernel
theorem ql_819 : lw_tbl[819]? = some (Cond.instanceMethod yX12_turn) := by decide +kernel
theorem ql_820 : lw_tbl[820]? = some (Cond.selects yX12_turn.cls yX12_turn yX12_turn) := by decide +kernel
theorem ql_821 : lw_tbl[821]? = some (Cond.code yX12_turn cX12_turn 3 (some .int)) := by decide +kernel
theorem ql_843 : lw_tbl[843]? = some (Cond.methodLink RL 131 yX12_times) := by decide +kernel
theorem ql_844 : lw_tbl[844]? = some (Cond.instanceMethod yX12_times) := by decide +kernel
theorem ql_845 : lw_tbl[845]? = some (Cond.selects yX12_times.cls yX12_times yX12_times) := by decide +kernel
theorem ql_846 : lw_tbl[846]? = some (Cond.code yX12_times cX12_times 4 (some .int)) := by decide +kernel
theorem ql_860 : lw_tbl[860]? = some (Cond.methodLink RL 135 yX12_fold) := by decide +kernel
theorem ql_861 : lw_tbl[861]? = some (Cond.instanceMethod yX12_fold) := by decide +kernel
theorem ql_862 : lw_tbl[862]? = some (Cond.selects yX12_fold.cls yX12_fold yX12_fold) := by decide +kernel
theorem ql_863 : lw_tbl[863]? = some (Cond.code yX12_fold cX12_fold 6 (some .int)) := by decide +kernel
theorem ql_906 : lw_tbl[906]? = some (Cond.methodLink RL 139 yX12_dot) := by decide +kernel
theorem ql_907 : lw_tbl[907]? = some (Cond.instanceMethod yX12_dot) := by decide +kernel
theorem ql_908 : lw_tbl[908]? = some (Cond.selects yX12_dot.cls yX12_dot yX12_dot) := by decide +kernel
theorem ql_909 : lw_tbl[909]? = some (Cond.code yX12_dot cX12_dot 6 (some .int)) := by decide +kernel
theorem ql_916 : lw_tbl[916]? = some (Cond.methodLink RL 143 yX12_trail) := by decide +kernel
theorem ql_917 : lw_tbl[917]? = some (Cond.instanceMethod yX12_trail) := by decide +kernel
theorem ql_918 : lw_tbl[918]? = some (Cond.selects yX12_trail.cls yX12_trail yX12_trail) := by decide +kernel
theorem ql_919 : lw_tbl[919]? = some (Cond.code yX12_trail cX12_trail 2 (some .int)) := by decide +kernel
theorem ql_947 : lw_tbl[947]? = some (Cond.methodLink RL 147 yX12_patch) := by decide +kernel
theorem ql_948 : lw_tbl[948]? = some (Cond.instanceMethod yX12_patch) := by decide +kernel
theorem ql_949 : lw_tbl[949]? = some (Cond.selects yX12_patch.cls yX12_patch yX12_patch) := by decide +kernel
theorem ql_950 : lw_tbl[950]? = some (Cond.code yX12_patch cX12_patch 4 (some .int)) := by decide +kernel
theorem ql_973 : lw_tbl[973]? = some (Cond.methodLink RL 151 yX12_patches) := by decide +kernel
theorem ql_974 : lw_tbl[974]? = some (Cond.instanceMethod yX12_patches) := by decide +kernel
theorem ql_975 : lw_tbl[975]? = some (Cond.selects yX12_patches.cls yX12_patches yX12_patches) := by decide +kernel
theorem ql_976 : lw_tbl[976]? = some (Cond.code yX12_patches cX12_patches 2 (some .int)) := by decide +kernel
theorem ql_984 : lw_tbl[984]? = some (Cond.methodLink RL 155 yX12_paint) := by decide +kernel
theorem ql_985 : lw_tbl[985]? = some (Cond.instanceMethod yX12_paint) := by decide +kernel
theorem ql_986 : lw_tbl[986]? = some (Cond.selects yX12_paint.cls yX12_paint yX12_paint) := by decide +kernel
theorem ql_987 : lw_tbl[987]? = some (Cond.code yX12_paint cX12_paint 7 (some .int)) := by decide +kernel
theorem ql_996 : lw_tbl[996]? = some (Cond.methodLink RL 159 yX12_block) := by decide +kernel
theorem ql_997 : lw_tbl[997]? = some (Cond.instanceMethod yX12_block) := by decide +kernel
theorem ql_998 : lw_tbl[998]? = some (Cond.selects yX12_block.cls yX12_block yX12_block) := by decide +kernel
theorem ql_999 : lw_tbl[999]? = some (Cond.code yX12_block cX12_block 2 (some .int)) := by decide +kernel
theorem ql_1012 : lw_tbl[1012]? = some (Cond.methodLink RL 163 yX12_lies) := by decide +kernel
theorem ql_1013 : lw_tbl[1013]? = some (Cond.instanceMethod yX12_lies) := by decide +kernel
theorem ql_1014 : lw_tbl[1014]? = some (Cond.selects yX12_lies.cls yX12_lies yX12_lies) := by decide +kernel
theorem ql_1015 : lw_tbl[1015]? = some (Cond.code yX12_lies cX12_lies 4 (some .int)) := by decide +kernel
theorem ql_1030 : lw_tbl[1030]? = some (Cond.methodLink RL 167 yX12_type) := by decide +kernel
theorem ql_1031 : lw_tbl[1031]? = some (Cond.instanceMethod yX12_type) := by decide +kernel
theorem ql_1032 : lw_tbl[1032]? = some (Cond.selects yX12_type.cls yX12_type yX12_type) := by decide +kernel
theorem ql_1033 : lw_tbl[1033]? = some (Cond.code yX12_type cX12_type 2 (some .int)) := by decide +kernel
theorem ql_1038 : lw_tbl[1038]? = some (Cond.methodLink RL 171 yX12_clear) := by decide +kernel
theorem ql_1039 : lw_tbl[1039]? = some (Cond.instanceMethod yX12_clear) := by decide +kernel
theorem ql_1040 : lw_tbl[1040]? = some (Cond.selects yX12_clear.cls yX12_clear yX12_clear) := by decide +kernel
theorem ql_1041 : lw_tbl[1041]? = some (Cond.code yX12_clear cX12_clear 1 (some .int)) := by decide +kernel
theorem ql_1046 : lw_tbl[1046]? = some (Cond.methodLink RL 176 yX12_plan) := by decide +kernel
theorem ql_1047 : lw_tbl[1047]? = some (Cond.instanceMethod yX12_plan) := by decide +kernel
theorem ql_1048 : lw_tbl[1048]? = some (Cond.selects yX12_plan.cls yX12_plan yX12_plan) := by decide +kernel
theorem ql_1049 : lw_tbl[1049]? = some (Cond.code yX12_plan cX12_plan 4 (some .int)) := by decide +kernel
theorem ql_1158 : lw_tbl[1158]? = some (Cond.methodLink RL 180 yX12_least) := by decide +kernel
theorem ql_1159 : lw_tbl[1159]? = some (Cond.instanceMethod yX12_least) := by decide +kernel
theorem ql_1160 : lw_tbl[1160]? = some (Cond.selects yX12_least.cls yX12_least yX12_least) := by decide +kernel
theorem ql_1161 : lw_tbl[1161]? = some (Cond.code yX12_least cX12_least 3 (some .int)) := by decide +kernel
theorem ql_1164 : lw_tbl[1164]? = some (Cond.methodLink RL 184 yX12_fits) := by decide +kernel
theorem ql_1165 : lw_tbl[1165]? = some (Cond.instanceMethod yX12_fits) := by decide +kernel
theorem ql_1166 : lw_tbl[1166]? = some (Cond.selects yX12_fits.cls yX12_fits yX12_fits) := by decide +kernel
theorem ql_1167 : lw_tbl[1167]? = some (Cond.code yX12_fits cX12_fits 3 (some .int)) := by decide +kernel
theorem ql_1175 : lw_tbl[1175]? = some (Cond.methodLink RL 188 yX12_sees) := by decide +kernel
theorem ql_1176 : lw_tbl[1176]? = some (Cond.instanceMethod yX12_sees) := by decide +kernel
theorem ql_1177 : lw_tbl[1177]? = some (Cond.selects yX12_sees.cls yX12_sees yX12_sees) := by decide +kernel
theorem ql_1178 : lw_tbl[1178]? = some (Cond.code yX12_sees cX12_sees 3 (some .int)) := by decide +kernel
theorem ql_1184 : lw_tbl[1184]? = some (Cond.methodLink RL 192 yX12_forget) := by decide +kernel
theorem ql_1185 : lw_tbl[1185]? = some (Cond.instanceMethod yX12_forget) := by decide +kernel
theorem ql_1186 : lw_tbl[1186]? = some (Cond.selects yX12_forget.cls yX12_forget yX12_forget) := by decide +kernel
theorem ql_1187 : lw_tbl[1187]? = some (Cond.code yX12_forget cX12_forget 1 (some .int)) := by decide +kernel
theorem ql_1192 : lw_tbl[1192]? = some (Cond.methodLink RL 196 yX12_left) := by decide +kernel
theorem ql_1193 : lw_tbl[1193]? = some (Cond.instanceMethod yX12_left) := by decide +kernel
theorem ql_1194 : lw_tbl[1194]? = some (Cond.selects yX12_left.cls yX12_left yX12_left) := by decide +kernel
theorem ql_1195 : lw_tbl[1195]? = some (Cond.code yX12_left cX12_left 1 (some .int)) := by decide +kernel
theorem ql_1205 : lw_tbl[1205]? = some (Cond.methodLink RL 200 yX12_next) := by decide +kernel
theorem ql_1206 : lw_tbl[1206]? = some (Cond.instanceMethod yX12_next) := by decide +kernel
theorem ql_1207 : lw_tbl[1207]? = some (Cond.selects yX12_next.cls yX12_next yX12_next) := by decide +kernel
theorem ql_1208 : lw_tbl[1208]? = some (Cond.code yX12_next cX12_next 1 (some .int)) := by decide +kernel
theorem ql_1224 : lw_tbl[1224]? = some (Cond.methodLink RL 204 yX12_keep) := by decide +kernel
theorem ql_1225 : lw_tbl[1225]? = some (Cond.instanceMethod yX12_keep) := by decide +kernel
theorem ql_1226 : lw_tbl[1226]? = some (Cond.selects yX12_keep.cls yX12_keep yX12_keep) := by decide +kernel
theorem ql_1227 : lw_tbl[1227]? = some (Cond.code yX12_keep cX12_keep 2 (some .int)) := by decide +kernel
theorem ql_1235 : lw_tbl[1235]? = some (Cond.methodLink RL 208 yX12_back) := by decide +kernel
theorem ql_1236 : lw_tbl[1236]? = some (Cond.instanceMethod yX12_back) := by decide +kernel
theorem ql_1237 : lw_tbl[1237]? = some (Cond.selects yX12_back.cls yX12_back yX12_back) := by decide +kernel
theorem ql_1238 : lw_tbl[1238]? = some (Cond.code yX12_back cX12_back 2 (some .int)) := by decide +kernel
theorem ql_1239 : lw_tbl[1239]? = some (Cond.methodLink RL 212 yX12_told) := by decide +kernel
theorem ql_1240 : lw_tbl[1240]? = some (Cond.instanceMethod yX12_told) := by decide +kernel
theorem ql_1241 : lw_tbl[1241]? = some (Cond.selects yX12_told.cls yX12_told yX12_told) := by decide +kernel
theorem ql_1242 : lw_tbl[1242]? = some (Cond.code yX12_told cX12_told 1 (some .long)) := by decide +kernel
theorem ql_1243 : lw_tbl[1243]? = some (Cond.methodLink RL 217 yX12_first) := by decide +kernel
theorem ql_1244 : lw_tbl[1244]? = some (Cond.instanceMethod yX12_first) := by decide +kernel
theorem ql_1245 : lw_tbl[1245]? = some (Cond.selects yX12_first.cls yX12_first yX12_first) := by decide +kernel
theorem ql_1246 : lw_tbl[1246]? = some (Cond.code yX12_first cX12_first 1 (some .int)) := by decide +kernel
theorem ql_1247 : lw_tbl[1247]? = some (Cond.methodLink RL 221 yX12_passed) := by decide +kernel
theorem ql_1248 : lw_tbl[1248]? = some (Cond.instanceMethod yX12_passed) := by decide +kernel
theorem ql_1249 : lw_tbl[1249]? = some (Cond.selects yX12_passed.cls yX12_passed yX12_passed) := by decide +kernel
theorem ql_1250 : lw_tbl[1250]? = some (Cond.code yX12_passed cX12_passed 1 (some .int)) := by decide +kernel
theorem ql_1251 : lw_tbl[1251]? = some (Cond.methodLink RL 225 yX12_refusals) := by decide +kernel
theorem ql_1252 : lw_tbl[1252]? = some (Cond.instanceMethod yX12_refusals) := by decide +kernel
theorem ql_1253 : lw_tbl[1253]? = some (Cond.selects yX12_refusals.cls yX12_refusals yX12_refusals) := by decide +kernel
theorem ql_1254 : lw_tbl[1254]? = some (Cond.code yX12_refusals cX12_refusals 2 (some .int)) := by decide +kernel
theorem ql_1255 : lw_tbl[1255]? = some (Cond.methodLink RL 229 yX12_count) := by decide +kernel
theorem ql_1256 : lw_tbl[1256]? = some (Cond.instanceMethod yX12_count) := by decide +kernel
theorem ql_1257 : lw_tbl[1257]? = some (Cond.selects yX12_count.cls yX12_count yX12_count) := by decide +kernel
theorem ql_1258 : lw_tbl[1258]? = some (Cond.code yX12_count cX12_count 2 (some .int)) := by decide +kernel
theorem ql_1275 : lw_tbl[1275]? = some (Cond.methodLink RL 233 yX12_kinds) := by decide +kernel
theorem ql_1276 : lw_tbl[1276]? = some (Cond.instanceMethod yX12_kinds) := by decide +kernel
theorem ql_1277 : lw_tbl[1277]? = some (Cond.selects yX12_kinds.cls yX12_kinds yX12_kinds) := by decide +kernel
theorem ql_1278 : lw_tbl[1278]? = some (Cond.code yX12_kinds cX12_kinds 2 (some .int)) := by decide +kernel
theorem ql_1283 : lw_tbl[1283]? = some (Cond.methodLink RL 237 yX12_digest) := by decide +kernel
theorem ql_1284 : lw_tbl[1284]? = some (Cond.instanceMethod yX12_digest) := by decide +kernel
theorem ql_1285 : lw_tbl[1285]? = some (Cond.selects yX12_digest.cls yX12_digest yX12_digest) := by decide +kernel
theorem ql_1286 : lw_tbl[1286]? = some (Cond.code yX12_digest cX12_digest 1 (some .long)) := by decide +kernel
theorem ql_1298 : lw_tbl[1298]? = some (Cond.classLink RL 10 RX13) := by decide +kernel
theorem ql_1300 : lw_tbl[1300]? = some (Cond.methodLink RL 12 yX13_init) := by decide +kernel
theorem ql_1301 : lw_tbl[1301]? = some (Cond.instanceMethod yX13_init) := by decide +kernel
theorem ql_1302 : lw_tbl[1302]? = some (Cond.code yX13_init cX13_init 1 none) := by decide +kernel
theorem ql_1443 : lw_tbl[1443]? = some (Cond.methodLink RL 17 yX13_grid) := by decide +kernel
theorem ql_1444 : lw_tbl[1444]? = some (Cond.instanceMethod yX13_grid) := by decide +kernel
theorem ql_1445 : lw_tbl[1445]? = some (Cond.selects yX13_grid.cls yX13_grid yX13_grid) := by decide +kernel
theorem ql_1446 : lw_tbl[1446]? = some (Cond.code yX13_grid cX13_grid 3 (some .int)) := by decide +kernel
theorem ql_1469 : lw_tbl[1469]? = some (Cond.methodLink RL 22 yX13_drop) := by decide +kernel
theorem ql_1470 : lw_tbl[1470]? = some (Cond.instanceMethod yX13_drop) := by decide +kernel
theorem ql_1471 : lw_tbl[1471]? = some (Cond.selects yX13_drop.cls yX13_drop yX13_drop) := by decide +kernel
theorem ql_1472 : lw_tbl[1472]? = some (Cond.code yX13_drop cX13_drop 2 (some .int)) := by decide +kernel
theorem ql_1477 : lw_tbl[1477]? = some (Cond.methodLink RL 27 yX13_row) := by decide +kernel
theorem ql_1478 : lw_tbl[1478]? = some (Cond.instanceMethod yX13_row) := by decide +kernel
theorem ql_1479 : lw_tbl[1479]? = some (Cond.selects yX13_row.cls yX13_row yX13_row) := by decide +kernel
theorem ql_1480 : lw_tbl[1480]? = some (Cond.code yX13_row cX13_row 5 (some .int)) := by decide +kernel
theorem ql_1500 : lw_tbl[1500]? = some (Cond.methodLink RL 32 yX13_thing) := by decide +kernel
theorem ql_1501 : lw_tbl[1501]? = some (Cond.instanceMethod yX13_thing) := by decide +kernel
theorem ql_1502 : lw_tbl[1502]? = some (Cond.selects yX13_thing.cls yX13_thing yX13_thing) := by decide +kernel
theorem ql_1503 : lw_tbl[1503]? = some (Cond.code yX13_thing cX13_thing 4 (some .int)) := by decide +kernel
theorem ql_1508 : lw_tbl[1508]? = some (Cond.methodLink RL 36 yX13_share) := by decide +kernel
theorem ql_1509 : lw_tbl[1509]? = some (Cond.instanceMethod yX13_share) := by decide +kernel
theorem ql_1510 : lw_tbl[1510]? = some (Cond.selects yX13_share.cls yX13_share yX13_share) := by decide +kernel
theorem ql_1511 : lw_tbl[1511]? = some (Cond.code yX13_share cX13_share 5 (some .int)) := by decide +kernel
theorem ql_1528 : lw_tbl[1528]? = some (Cond.methodLink RL 40 yX13_swap) := by decide +kernel
theorem ql_1529 : lw_tbl[1529]? = some (Cond.instanceMethod yX13_swap) := by decide +kernel
theorem ql_1530 : lw_tbl[1530]? = some (Cond.selects yX13_swap.cls yX13_swap yX13_swap) := by decide +kernel
theorem ql_1531 : lw_tbl[1531]? = some (Cond.code yX13_swap cX13_swap 5 (some .int)) := by decide +kernel
theorem ql_1536 : lw_tbl[1536]? = some (Cond.methodLink RL 44 yX13_holds) := by decide +kernel
theorem ql_1537 : lw_tbl[1537]? = some (Cond.instanceMethod yX13_holds) := by decide +kernel
theorem ql_1538 : lw_tbl[1538]? = some (Cond.selects yX13_holds.cls yX13_holds yX13_holds) := by decide +kernel
theorem ql_1539 : lw_tbl[1539]? = some (Cond.code yX13_holds cX13_holds 3 (some .int)) := by decide +kernel
theorem ql_1544 : lw_tbl[1544]? = some (Cond.methodLink RL 48 yX13_same) := by decide +kernel
theorem ql_1545 : lw_tbl[1545]? = some (Cond.instanceMethod yX13_same) := by decide +kernel
theorem ql_1546 : lw_tbl[1546]? = some (Cond.selects yX13_same.cls yX13_same yX13_same) := by decide +kernel
theorem ql_1547 : lw_tbl[1547]? = some (Cond.code yX13_same cX13_same 5 (some .int)) := by decide +kernel
theorem ql_1560 : lw_tbl[1560]? = some (Cond.methodLink RL 52 yX13_size) := by decide +kernel
theorem ql_1561 : lw_tbl[1561]? = some (Cond.instanceMethod yX13_size) := by decide +kernel
theorem ql_1562 : lw_tbl[1562]? = some (Cond.selects yX13_size.cls yX13_size yX13_size) := by decide +kernel
theorem ql_1563 : lw_tbl[1563]? = some (Cond.code yX13_size cX13_size 3 (some .int)) := by decide +kernel
theorem ql_1568 : lw_tbl[1568]? = some (Cond.methodLink RL 56 yX13_read) := by decide +kernel
theorem ql_1569 : lw_tbl[1569]? = some (Cond.instanceMethod yX13_read) := by decide +kernel
theorem ql_1570 : lw_tbl[1570]? = some (Cond.selects yX13_read.cls yX13_read yX13_read) := by decide +kernel
theorem ql_1571 : lw_tbl[1571]? = some (Cond.code yX13_read cX13_read 5 (some .int)) := by decide +kernel
theorem ql_1607 : lw_tbl[1607]? = some (Cond.methodLink RL 63 yX13_write) := by decide +kernel
theorem ql_1608 : lw_tbl[1608]? = some (Cond.instanceMethod yX13_write) := by decide +kernel
theorem ql_1609 : lw_tbl[1609]? = some (Cond.selects yX13_write.cls yX13_write yX13_write) := by decide +kernel
theorem ql_1610 : lw_tbl[1610]? = some (Cond.code yX13_write cX13_write 7 (some .int)) := by decide +kernel
theorem ql_1629 : lw_tbl[1629]? = some (Cond.methodLink RL 67 yX13_put) := by decide +kernel
theorem ql_1630 : lw_tbl[1630]? = some (Cond.instanceMethod yX13_put) := by decide +kernel
theorem ql_1631 : lw_tbl[1631]? = some (Cond.selects yX13_put.cls yX13_put yX13_put) := by decide +kernel
theorem ql_1632 : lw_tbl[1632]? = some (Cond.code yX13_put cX13_put 7 (some .int)) := by decide +kernel
theorem ql_1640 : lw_tbl[1640]? = some (Cond.methodLink RL 72 yX13_find) := by decide +kernel
theorem ql_1641 : lw_tbl[1641]? = some (Cond.instanceMethod yX13_find) := by decide +kernel
theorem ql_1642 : lw_tbl[1642]? = some (Cond.selects yX13_find.cls yX13_find yX13_find) := by decide +kernel
theorem ql_1643 : lw_tbl[1643]? = some (Cond.code yX13_find cX13_find 6 (some .int)) := by decide +kernel
theorem ql_1657 : lw_tbl[1657]? = some (Cond.methodLink RL 76 yX13_alike) := by decide +kernel
theorem ql_1658 : lw_tbl[1658]? = some (Cond.instanceMethod yX13_alike) := by decide +kernel
theorem ql_1659 : lw_tbl[1659]? = some (Cond.selects yX13_alike.cls yX13_alike yX13_alike) := by decide +kernel
theorem ql_1660 : lw_tbl[1660]? = some (Cond.code yX13_alike cX13_alike 5 (some .int)) := by decide +kernel
theorem ql_1673 : lw_tbl[1673]? = some (Cond.methodLink RL 81 yX13_cut) := by decide +kernel
theorem ql_1674 : lw_tbl[1674]? = some (Cond.instanceMethod yX13_cut) := by decide +kernel
theorem ql_1675 : lw_tbl[1675]? = some (Cond.selects yX13_cut.cls yX13_cut yX13_cut) := by decide +kernel
theorem ql_1676 : lw_tbl[1676]? = some (Cond.code yX13_cut cX13_cut 6 (some .int)) := by decide +kernel
theorem ql_1685 : lw_tbl[1685]? = some (Cond.methodLink RL 85 yX13_cast) := by decide +kernel
theorem ql_1686 : lw_tbl[1686]? = some (Cond.instanceMethod yX13_cast) := by decide +kernel
theorem ql_1687 : lw_tbl[1687]? = some (Cond.selects yX13_cast.cls yX13_cast yX13_cast) := by decide +kernel
theorem ql_1688 : lw_tbl[1688]? = some (Cond.code yX13_cast cX13_cast 4 (some .int)) := by decide +kernel
theorem ql_1693 : lw_tbl[1693]? = some (Cond.methodLink RL 89 yX13_pour) := by decide +kernel
theorem ql_1694 : lw_tbl[1694]? = some (Cond.instanceMethod yX13_pour) := by decide +kernel
theorem ql_1695 : lw_tbl[1695]? = some (Cond.selects yX13_pour.cls yX13_pour yX13_pour) := by decide +kernel
theorem ql_1696 : lw_tbl[1696]? = some (Cond.code yX13_pour cX13_pour 5 (some .int)) := by decide +kernel
theorem ql_1701 : lw_tbl[1701]? = some (Cond.methodLink RL 93 yX13_join) := by decide +kernel
theorem ql_1702 : lw_tbl[1702]? = some (Cond.instanceMethod yX13_join) := by decide +kernel
theorem ql_1703 : lw_tbl[1703]? = some (Cond.selects yX13_join.cls yX13_join yX13_join) := by decide +kernel
theorem ql_1704 : lw_tbl[1704]? = some (Cond.code yX13_join cX13_join 4 (some .int)) := by decide +kernel
theorem ql_1712 : lw_tbl[1712]? = some (Cond.methodLink RL 97 yX13_flip) := by decide +kernel
theorem ql_1713 : lw_tbl[1713]? = some (Cond.instanceMethod yX13_flip) := by decide +kernel
theorem ql_1714 : lw_tbl[1714]? = some (Cond.selects yX13_flip.cls yX13_flip yX13_flip) := by decide +kernel
theorem ql_1715 : lw_tbl[1715]? = some (Cond.code yX13_flip cX13_flip 3 (some .int)) := by decide +kernel
theorem ql_1728 : lw_tbl[1728]? = some (Cond.methodLink RL 101 yX13_roll) := by decide +kernel
theorem ql_1729 : lw_tbl[1729]? = some (Cond.instanceMethod yX13_roll) := by decide +kernel
theorem ql_1730 : lw_tbl[1730]? = some (Cond.selects yX13_roll.cls yX13_roll yX13_roll) := by decide +kernel
theorem ql_1731 : lw_tbl[1731]? = some (Cond.code yX13_roll cX13_roll 4 (some .int)) := by decide +kernel
theorem ql_1736 : lw_tbl[1736]? = some (Cond.methodLink RL 105 yX13_order) := by decide +kernel
theorem ql_1737 : lw_tbl[1737]? = some (Cond.instanceMethod yX13_order) := by decide +kernel
theorem ql_1738 : lw_tbl[1738]? = some (Cond.selects yX13_order.cls yX13_order yX13_order) := by decide +kernel
theorem ql_1739 : lw_tbl[1739]? = some (Cond.code yX13_order cX13_order 3 (some .int)) := by decide +kernel
theorem ql_1748 : lw_tbl[1748]? = some (Cond.methodLink RL 109 yX13_add) := by decide +kernel
theorem ql_1749 : lw_tbl[1749]? = some (Cond.instanceMethod yX13_add) := by decide +kernel
theorem ql_1750 : lw_tbl[1750]? = some (Cond.selects yX13_add.cls yX13_add yX13_add) := by decide +kernel
theorem ql_1751 : lw_tbl[1751]? = some (Cond.code yX13_add cX13_add 5 (some .int)) := by decide +kernel
theorem ql_1760 : lw_tbl[1760]? = some (Cond.methodLink RL 114 yX13_above) := by decide +kernel
theorem ql_1761 : lw_tbl[1761]? = some (Cond.instanceMethod yX13_above) := by decide +kernel
theorem ql_1762 : lw_tbl[1762]? = some (Cond.selects yX13_above.cls yX13_above yX13_above) := by decide +kernel
theorem ql_1763 : lw_tbl[1763]? = some (Cond.code yX13_above cX13_above 7 (some .int)) := by decide +kernel
theorem ql_1772 : lw_tbl[1772]? = some (Cond.methodLink RL 118 yX13_pick) := by decide +kernel
theorem ql_1773 : lw_tbl[1773]? = some (Cond.instanceMethod yX13_pick) := by decide +kernel
theorem ql_1774 : lw_tbl[1774]? = some (Cond.selects yX13_pick.cls yX13_pick yX13_pick) := by decide +kernel
theorem ql_1775 : lw_tbl[1775]? = some (Cond.code yX13_pick cX13_pick 4 (some .int)) := by decide +kernel
theorem ql_1780 : lw_tbl[1780]? = some (Cond.methodLink RL 122 yX13_flat) := by decide +kernel
theorem ql_1781 : lw_tbl[1781]? = some (Cond.instanceMethod yX13_flat) := by decide +kernel
theorem ql_1782 : lw_tbl[1782]? = some (Cond.selects yX13_flat.cls yX13_flat yX13_flat) := by decide +kernel
theorem ql_1783 : lw_tbl[1783]? = some (Cond.code yX13_flat cX13_flat 4 (some .int)) := by decide +kernel
theorem ql_1792 : lw_tbl[1792]? = some (Cond.methodLink RL 126 yX13_deal) := by decide +kernel
theorem ql_1793 : lw_tbl[1793]? = some (Cond.instanceMethod yX13_deal) := by decide +kernel
theorem ql_1794 : lw_tbl[1794]? = some (Cond.selects yX13_deal.cls yX13_deal yX13_deal) := by decide +kernel
theorem ql_1795 : lw_tbl[1795]? = some (Cond.code yX13_deal cX13_deal 5 (some .int)) := by decide +kernel
theorem ql_1804 : lw_tbl[1804]? = some (Cond.methodLink RL 130 yX13_turn) := by decide +kernel
theorem ql_1805 : lw_tbl[1805]? = some (Cond.instanceMethod yX13_turn) := by decide +kernel
theorem ql_1806 : lw_tbl[1806]? = some (Cond.selects yX13_turn.cls yX13_turn yX13_turn) := by decide +kernel
theorem ql_1807 : lw_tbl[1807]? = some (Cond.code yX13_turn cX13_turn 3 (some .int)) := by decide +kernel
theorem ql_1824 : lw_tbl[1824]? = some (Cond.methodLink RL 134 yX13_times) := by decide +kernel
theorem ql_1825 : lw_tbl[1825]? = some (Cond.instanceMethod yX13_times) := by decide +kernel
theorem ql_1826 : lw_tbl[1826]? = some (Cond.selects yX13_times.cls yX13_times yX13_times) := by decide +kernel
theorem ql_1827 : lw_tbl[1827]? = some (Cond.code yX13_times cX13_times 4 (some .int)) := by decide +kernel
theorem ql_1840 : lw_tbl[1840]? = some (Cond.methodLink RL 138 yX13_fold) := by decide +kernel
theorem ql_1841 : lw_tbl[1841]? = some (Cond.instanceMethod yX13_fold) := by decide +kernel
theorem ql_1842 : lw_tbl[1842]? = some (Cond.selects yX13_fold.cls yX13_fold yX13_fold) := by decide +kernel
theorem ql_1843 : lw_tbl[1843]? = some (Cond.code yX13_fold cX13_fold 6 (some .int)) := by decide +kernel
theorem ql_1866 : lw_tbl[1866]? = some (Cond.methodLink RL 142 yX13_dot) := by decide +kernel
theorem ql_1867 : lw_tbl[1867]? = some (Cond.instanceMethod yX13_dot) := by decide +kernel
theorem ql_1868 : lw_tbl[1868]? = some (Cond.selects yX13_dot.cls yX13_dot yX13_dot) := by decide +kernel
theorem ql_1869 : lw_tbl[1869]? = some (Cond.code yX13_dot cX13_dot 6 (some .int)) := by decide +kernel
theorem ql_1874 : lw_tbl[1874]? = some (Cond.methodLink RL 146 yX13_trail) := by decide +kernel
theorem ql_1875 : lw_tbl[1875]? = some (Cond.instanceMethod yX13_trail) := by decide +kernel
theorem ql_1876 : lw_tbl[1876]? = some (Cond.selects yX13_trail.cls yX13_trail yX13_trail) := by decide +kernel
theorem ql_1877 : lw_tbl[1877]? = some (Cond.code yX13_trail cX13_trail 2 (some .int)) := by decide +kernel
theorem ql_1886 : lw_tbl[1886]? = some (Cond.methodLink RL 150 yX13_patch) := by decide +kernel
theorem ql_1887 : lw_tbl[1887]? = some (Cond.instanceMethod yX13_patch) := by decide +kernel
theorem ql_1888 : lw_tbl[1888]? = some (Cond.selects yX13_patch.cls yX13_patch yX13_patch) := by decide +kernel
theorem ql_1889 : lw_tbl[1889]? = some (Cond.code yX13_patch cX13_patch 4 (some .int)) := by decide +kernel
theorem ql_1915 : lw_tbl[1915]? = some (Cond.methodLink RL 154 yX13_patches) := by decide +kernel
theorem ql_1916 : lw_tbl[1916]? = some (Cond.instanceMethod yX13_patches) := by decide +kernel
theorem ql_1917 : lw_tbl[1917]? = some (Cond.selects yX13_patches.cls yX13_patches yX13_patches) := by decide +kernel
theorem ql_1918 : lw_tbl[1918]? = some (Cond.code yX13_patches cX13_patches 2 (some .int)) := by decide +kernel
theorem ql_1923 : lw_tbl[1923]? = some (Cond.methodLink RL 158 yX13_paint) := by decide +kernel
theorem ql_1924 : lw_tbl[1924]? = some (Cond.instanceMethod yX13_paint) := by decide +kernel
theorem ql_1925 : lw_tbl[1925]? = some (Cond.selects yX13_paint.cls yX13_paint yX13_paint) := by decide +kernel
theorem ql_1926 : lw_tbl[1926]? = some (Cond.code yX13_paint cX13_paint 7 (some .int)) := by decide +kernel
theorem ql_1931 : lw_tbl[1931]? = some (Cond.methodLink RL 162 yX13_block) := by decide +kernel
theorem ql_1932 : lw_tbl[1932]? = some (Cond.instanceMethod yX13_block) := by decide +kernel
theorem ql_1933 : lw_tbl[1933]? = some (Cond.selects yX13_block.cls yX13_block yX13_block) := by decide +kernel
theorem ql_1934 : lw_tbl[1934]? = some (Cond.code yX13_block cX13_block 2 (some .int)) := by decide +kernel
theorem ql_1944 : lw_tbl[1944]? = some (Cond.methodLink RL 166 yX13_lies) := by decide +kernel
theorem ql_1945 : lw_tbl[1945]? = some (Cond.instanceMethod yX13_lies) := by decide +kernel
theorem ql_1946 : lw_tbl[1946]? = some (Cond.selects yX13_lies.cls yX13_lies yX13_lies) := by decide +kernel
theorem ql_1947 : lw_tbl[1947]? = some (Cond.code yX13_lies cX13_lies 4 (some .int)) := by decide +kernel
theorem ql_1956 : lw_tbl[1956]? = some (Cond.methodLink RL 207 yX13_keep) := by decide +kernel
theorem ql_1957 : lw_tbl[1957]? = some (Cond.instanceMethod yX13_keep) := by decide +kernel
theorem ql_1958 : lw_tbl[1958]? = some (Cond.selects yX13_keep.cls yX13_keep yX13_keep) := by decide +kernel
theorem ql_1959 : lw_tbl[1959]? = some (Cond.code yX13_keep cX13_keep 2 (some .int)) := by decide +kernel
theorem ql_1968 : lw_tbl[1968]? = some (Cond.methodLink RL 211 yX13_back) := by decide +kernel
theorem ql_1969 : lw_tbl[1969]? = some (Cond.instanceMethod yX13_back) := by decide +kernel
theorem ql_1970 : lw_tbl[1970]? = some (Cond.selects yX13_back.cls yX13_back yX13_back) := by decide +kernel
theorem ql_1971 : lw_tbl[1971]? = some (Cond.code yX13_back cX13_back 2 (some .int)) := by decide +kernel
theorem ql_1976 : lw_tbl[1976]? = some (Cond.methodLink RL 170 yX13_type) := by decide +kernel
theorem ql_1977 : lw_tbl[1977]? = some (Cond.instanceMethod yX13_type) := by decide +kernel
theorem ql_1978 : lw_tbl[1978]? = some (Cond.selects yX13_type.cls yX13_type yX13_type) := by decide +kernel
theorem ql_1979 : lw_tbl[1979]? = some (Cond.code yX13_type cX13_type 2 (some .int)) := by decide +kernel
theorem ql_1980 : lw_tbl[1980]? = some (Cond.methodLink RL 175 yX13_clear) := by decide +kernel
theorem ql_1981 : lw_tbl[1981]? = some (Cond.instanceMethod yX13_clear) := by decide +kernel
theorem ql_1982 : lw_tbl[1982]? = some (Cond.selects yX13_clear.cls yX13_clear yX13_clear) := by decide +kernel
theorem ql_1983 : lw_tbl[1983]? = some (Cond.code yX13_clear cX13_clear 2 (some .int)) := by decide +kernel
theorem ql_1984 : lw_tbl[1984]? = some (Cond.methodLink RL 179 yX13_plan) := by decide +kernel
theorem ql_1985 : lw_tbl[1985]? = some (Cond.instanceMethod yX13_plan) := by decide +kernel
theorem ql_1986 : lw_tbl[1986]? = some (Cond.selects yX13_plan.cls yX13_plan yX13_plan) := by decide +kernel
theorem ql_1987 : lw_tbl[1987]? = some (Cond.code yX13_plan cX13_plan 1 (some .int)) := by decide +kernel
theorem ql_2040 : lw_tbl[2040]? = some (Cond.methodLink RL 183 yX13_least) := by decide +kernel
theorem ql_2041 : lw_tbl[2041]? = some (Cond.instanceMethod yX13_least) := by decide +kernel
theorem ql_2042 : lw_tbl[2042]? = some (Cond.selects yX13_least.cls yX13_least yX13_least) := by decide +kernel
theorem ql_2043 : lw_tbl[2043]? = some (Cond.code yX13_least cX13_least 3 (some .int)) := by decide +kernel
theorem ql_2044 : lw_tbl[2044]? = some (Cond.methodLink RL 187 yX13_fits) := by decide +kernel
theorem ql_2045 : lw_tbl[2045]? = some (Cond.instanceMethod yX13_fits) := by decide +kernel
theorem ql_2046 : lw_tbl[2046]? = some (Cond.selects yX13_fits.cls yX13_fits yX13_fits) := by decide +kernel
theorem ql_2047 : lw_tbl[2047]? = some (Cond.code yX13_fits cX13_fits 3 (some .int)) := by decide +kernel
theorem ql_2051 : lw_tbl[2051]? = some (Cond.methodLink RL 191 yX13_sees) := by decide +kernel
theorem ql_2052 : lw_tbl[2052]? = some (Cond.instanceMethod yX13_sees) := by decide +kernel
theorem ql_2053 : lw_tbl[2053]? = some (Cond.selects yX13_sees.cls yX13_sees yX13_sees) := by decide +kernel
theorem ql_2054 : lw_tbl[2054]? = some (Cond.code yX13_sees cX13_sees 3 (some .int)) := by decide +kernel
theorem ql_2055 : lw_tbl[2055]? = some (Cond.methodLink RL 195 yX13_forget) := by decide +kernel
theorem ql_2056 : lw_tbl[2056]? = some (Cond.instanceMethod yX13_forget) := by decide +kernel
theorem ql_2057 : lw_tbl[2057]? = some (Cond.selects yX13_forget.cls yX13_forget yX13_forget) := by decide +kernel
theorem ql_2058 : lw_tbl[2058]? = some (Cond.code yX13_forget cX13_forget 2 (some .int)) := by decide +kernel
theorem ql_2059 : lw_tbl[2059]? = some (Cond.methodLink RL 199 yX13_left) := by decide +kernel
theorem ql_2060 : lw_tbl[2060]? = some (Cond.instanceMethod yX13_left) := by decide +kernel
theorem ql_2061 : lw_tbl[2061]? = some (Cond.selects yX13_left.cls yX13_left yX13_left) := by decide +kernel
theorem ql_2062 : lw_tbl[2062]? = some (Cond.code yX13_left cX13_left 1 (some .int)) := by decide +kernel
theorem ql_2067 : lw_tbl[2067]? = some (Cond.methodLink RL 203 yX13_next) := by decide +kernel
theorem ql_2068 : lw_tbl[2068]? = some (Cond.instanceMethod yX13_next) := by decide +kernel
theorem ql_2069 : lw_tbl[2069]? = some (Cond.selects yX13_next.cls yX13_next yX13_next) := by decide +kernel
theorem ql_2070 : lw_tbl[2070]? = some (Cond.code yX13_next cX13_next 8 (some .int)) := by decide +kernel
theorem ql_2071 : lw_tbl[2071]? = some (Cond.methodLink RL 216 yX13_told) := by decide +kernel
theorem ql_2072 : lw_tbl[2072]? = some (Cond.instanceMethod yX13_told) := by decide +kernel
theorem ql_2073 : lw_tbl[2073]? = some (Cond.selects yX13_told.cls yX13_told yX13_told) := by decide +kernel
theorem ql_2074 : lw_tbl[2074]? = some (Cond.code yX13_told cX13_told 1 (some .long)) := by decide +kernel
theorem ql_2075 : lw_tbl[2075]? = some (Cond.methodLink RL 220 yX13_first) := by decide +kernel
theorem ql_2076 : lw_tbl[2076]? = some (Cond.instanceMethod yX13_first) := by decide +kernel
theorem ql_2077 : lw_tbl[2077]? = some (Cond.selects yX13_first.cls yX13_first yX13_first) := by decide +kernel
theorem ql_2078 : lw_tbl[2078]? = some (Cond.code yX13_first cX13_first 1 (some .int)) := by decide +kernel
theorem ql_2079 : lw_tbl[2079]? = some (Cond.methodLink RL 224 yX13_passed) := by decide +kernel
theorem ql_2080 : lw_tbl[2080]? = some (Cond.instanceMethod yX13_passed) := by decide +kernel
theorem ql_2081 : lw_tbl[2081]? = some (Cond.selects yX13_passed.cls yX13_passed yX13_passed) := by decide +kernel
theorem ql_2082 : lw_tbl[2082]? = some (Cond.code yX13_passed cX13_passed 1 (some .int)) := by decide +kernel
theorem ql_2083 : lw_tbl[2083]? = some (Cond.methodLink RL 228 yX13_refusals) := by decide +kernel
theorem ql_2084 : lw_tbl[2084]? = some (Cond.instanceMethod yX13_refusals) := by decide +kernel
theorem ql_2085 : lw_tbl[2085]? = some (Cond.selects yX13_refusals.cls yX13_refusals yX13_refusals) := by decide +kernel
theorem ql_2086 : lw_tbl[2086]? = some (Cond.code yX13_refusals cX13_refusals 2 (some .int)) := by decide +kernel
theorem ql_2087 : lw_tbl[2087]? = some (Cond.methodLink RL 232 yX13_count) := by decide +kernel
theorem ql_2088 : lw_tbl[2088]? = some (Cond.instanceMethod yX13_count) := by decide +kernel
theorem ql_2089 : lw_tbl[2089]? = some (Cond.selects yX13_count.cls yX13_count yX13_count) := by decide +kernel
theorem ql_2090 : lw_tbl[2090]? = some (Cond.code yX13_count cX13_count 2 (some .int)) := by decide +kernel
theorem ql_2107 : lw_tbl[2107]? = some (Cond.methodLink RL 236 yX13_kinds) := by decide +kernel
theorem ql_2108 : lw_tbl[2108]? = some (Cond.instanceMethod yX13_kinds) := by decide +kernel
theorem ql_2109 : lw_tbl[2109]? = some (Cond.selects yX13_kinds.cls yX13_kinds yX13_kinds) := by decide +kernel
theorem ql_2110 : lw_tbl[2110]? = some (Cond.code yX13_kinds cX13_kinds 4 (some .int)) := by decide +kernel
theorem ql_2111 : lw_tbl[2111]? = some (Cond.methodLink RL 240 yX13_digest) := by decide +kernel
theorem ql_2112 : lw_tbl[2112]? = some (Cond.instanceMethod yX13_digest) := by decide +kernel
theorem ql_2113 : lw_tbl[2113]? = some (Cond.selects yX13_digest.cls yX13_digest yX13_digest) := by decide +kernel
theorem ql_2114 : lw_tbl[2114]? = some (Cond.code yX13_digest cX13_digest 5 (some .long)) := by decide +kernel
theorem ql_2121 : lw_tbl[2121]? = some (Cond.constantLong RL 57 (4294967295 : Int64)) := by decide +kernel
theorem kRL_7 : Cond.classLink RL 7 RX12 ∈ lw_ok := (lw_okof 125 ql_125 rfl)
theorem wc_X12_init : Cond.code yX12_init cX12_init 1 none ∈ lw_ok := (lw_okof 129 ql_129 rfl)
theorem wi_X12_init : Cond.instanceMethod yX12_init ∈ lw_ok := (lw_okof 128 ql_128 rfl)
theorem wd_X12_init : yX12_init.cls ≠ "java/lang/invoke/MethodHandle" ∧ yX12_init.cls ≠ "java/lang/invoke/VarHandle" ∧ (parseMethodDescriptor yX12_init.desc).map (fun d => d.parameters.length) = some 0 := by decide +kernel
theorem kRL_9 : dnLI RL 9 0 yX12_init cX12_init 1 := ⟨(lw_okof 127 ql_127 rfl), wi_X12_init, wn_KindGrids, wc_X12_init, rfl, wd_X12_init⟩
theorem kRL_10 : Cond.classLink RL 10 RX13 ∈ lw_ok := (lw_okof 1298 ql_1298 rfl)
theorem wc_X13_init : Cond.code yX13_init cX13_init 1 none ∈ lw_ok := (lw_okof 1302 ql_1302 rfl)
theorem wi_X13_init : Cond.instanceMethod yX13_init ∈ lw_ok := (lw_okof 1301 ql_1301 rfl)
theorem wd_X13_init : yX13_init.cls ≠ "java/lang/invoke/MethodHandle" ∧ yX13_init.cls ≠ "java/lang/invoke/VarHandle" ∧ (parseMethodDescriptor yX13_init.desc).map (fun d => d.parameters.length) = some 0 := by decide +kernel
theorem kRL_12 : dnLI RL 12 0 yX13_init cX13_init 1 := ⟨(lw_okof 1300 ql_1300 rfl), wi_X13_init, wn_KindGridsModel, wc_X13_init, rfl, wd_X13_init⟩
theorem wc_X12_grid : Cond.code yX12_grid cX12_grid 3 (some .int) ∈ lw_ok := (lw_okof 427 ql_427 rfl)
theorem wi_X12_grid : Cond.instanceMethod yX12_grid ∈ lw_ok := (lw_okof 425 ql_425 rfl)
theorem wd_X12_grid : yX12_grid.cls ≠ "java/lang/invoke/MethodHandle" ∧ yX12_grid.cls ≠ "java/lang/invoke/VarHandle" ∧ (parseMethodDescriptor yX12_grid.desc).map (fun d => d.parameters.length) = some 2 := by decide +kernel
theorem ws_X12_grid : Cond.selects yX12_grid.cls yX12_grid yX12_grid ∈ lw_ok := (lw_okof 426 ql_426 rfl)
theorem kRL_13 : dnLV RL 13 2 10 yX12_grid cX12_grid 3 (some .int) := ⟨(lw_okof 424 ql_424 rfl), wi_X12_grid, ws_X12_grid, wn_KindGrids, wc_X12_grid, wd_X12_grid, by decide, _, rfl, rfl⟩
theorem wc_X13_grid : Cond.code yX13_grid cX13_grid 3 (some .int) ∈ lw_ok := (lw_okof 1446 ql_1446 rfl)
theorem wi_X13_grid : Cond.instanceMethod yX13_grid ∈ lw_ok := (lw_okof 1444 ql_1444 rfl)
theorem wd_X13_grid : yX13_grid.cls ≠ "java/lang/invoke/MethodHandle" ∧ yX13_grid.cls ≠ "java/lang/invoke/VarHandle" ∧ (parseMethodDescriptor yX13_grid.desc).map (fun d => d.parameters.length) = some 2 := by decide +kernel
theorem ws_X13_grid : Cond.selects yX13_grid.cls yX13_grid yX13_grid ∈ lw_ok := (lw_okof 1445 ql_1445 rfl)
theorem kRL_17 : dnLV RL 17 2 11 yX13_grid cX13_grid 3 (some .int) := ⟨(lw_okof 1443 ql_1443 rfl), wi_X13_grid, ws_X13_grid, wn_KindGridsModel, wc_X13_grid, wd_X13_grid, by decide, _, rfl, rfl⟩
theorem wc_X12_drop : Cond.code yX12_drop cX12_drop 2 (some .int) ∈ lw_ok := (lw_okof 450 ql_450 rfl)
theorem wi_X12_drop : Cond.instanceMethod yX12_drop ∈ lw_ok := (lw_okof 448 ql_448 rfl)
theorem wd_X12_drop : yX12_drop.cls ≠ "java/lang/invoke/MethodHandle" ∧ yX12_drop.cls ≠ "java/lang/invoke/VarHandle" ∧ (parseMethodDescriptor yX12_drop.desc).map (fun d => d.parameters.length) = some 1 := by decide +kernel
theorem ws_X12_drop : Cond.selects yX12_drop.cls yX12_drop yX12_drop ∈ lw_ok := (lw_okof 449 ql_449 rfl)
theorem kRL_18 : dnLV RL 18 1 10 yX12_drop cX12_drop 2 (some .int) := ⟨(lw_okof 447 ql_447 rfl), wi_X12_drop, ws_X12_drop, wn_KindGrids, wc_X12_drop, wd_X12_drop, by decide, _, rfl, rfl⟩
theorem wc_X13_drop : Cond.code yX13_drop cX13_drop 2 (some .int) ∈ lw_ok := (lw_okof 1472 ql_1472 rfl)
theorem wi_X13_drop : Cond.instanceMethod yX13_drop ∈ lw_ok := (lw_okof 1470 ql_1470 rfl)
theorem wd_X13_drop : yX13_drop.cls ≠ "java/lang/invoke/MethodHandle" ∧ yX13_drop.cls ≠ "java/lang/invoke/VarHandle" ∧ (parseMethodDescriptor yX13_drop.desc).map (fun d => d.parameters.length) = some 1 := by decide +kernel
theorem ws_X13_drop : Cond.selects yX13_drop.cls yX13_drop yX13_drop ∈ lw_ok := (lw_okof 1471 ql_1471 rfl)
theorem kRL_22 : dnLV RL 22 1 11 yX13_drop cX13_drop 2 (some .int) := ⟨(lw_okof 1469 ql_1469 rfl), wi_X13_drop, ws_X13_drop, wn_KindGridsModel, wc_X13_drop, wd_X13_drop, by decide, _, rfl, rfl⟩
theorem wc_X12_row : Cond.code yX12_row cX12_row 5 (some .int) ∈ lw_ok := (lw_okof 462 ql_462 rfl)
theorem wi_X12_row : Cond.instanceMethod yX12_row ∈ lw_ok := (lw_okof 460 ql_460 rfl)
theorem wd_X12_row : yX12_row.cls ≠ "java/lang/invoke/MethodHandle" ∧ yX12_row.cls ≠ "java/lang/invoke/VarHandle" ∧ (parseMethodDescriptor yX12_row.desc).map (fun d => d.parameters.length) = some 4 := by decide +kernel
theorem ws_X12_row : Cond.selects yX12_row.cls yX12_row yX12_row ∈ lw_ok := (lw_okof 461 ql_461 rfl)
theorem kRL_23 : dnLV RL 23 4 10 yX12_row cX12_row 5 (some .int) := ⟨(lw_okof 459 ql_459 rfl), wi_X12_row, ws_X12_row, wn_KindGrids, wc_X12_row, wd_X12_row, by decide, _, rfl, rfl⟩
theorem wc_X13_row : Cond.code yX13_row cX13_row 5 (some .int) ∈ lw_ok := (lw_okof 1480 ql_1480 rfl)
theorem wi_X13_row : Cond.instanceMethod yX13_row ∈ lw_ok := (lw_okof 1478 ql_1478 rfl)
theorem wd_X13_row : yX13_row.cls ≠ "java/lang/invoke/MethodHandle" ∧ yX13_row.cls ≠ "java/lang/invoke/VarHandle" ∧ (parseMethodDescriptor yX13_row.desc).map (fun d => d.parameters.length) = some 4 := by decide +kernel
theorem ws_X13_row : Cond.selects yX13_row.cls yX13_row yX13_row ∈ lw_ok := (lw_okof 1479 ql_1479 rfl)
theorem kRL_27 : dnLV RL 27 4 11 yX13_row cX13_row 5 (some .int) := ⟨(lw_okof 1477 ql_1477 rfl), wi_X13_row, ws_X13_row, wn_KindGridsModel, wc_X13_row, wd_X13_row, by decide, _, rfl, rfl⟩
theorem wc_X12_thing : Cond.code yX12_thing cX12_thing 4 (some .int) ∈ lw_ok := (lw_okof 504 ql_504 rfl)
theorem wi_X12_thing : Cond.instanceMethod yX12_thing ∈ lw_ok := (lw_okof 502 ql_502 rfl)
theorem wd_X12_thing : yX12_thing.cls ≠ "java/lang/invoke/MethodHandle" ∧ yX12_thing.cls ≠ "java/lang/invoke/VarHandle" ∧ (parseMethodDescriptor yX12_thing.desc).map (fun d => d.parameters.length) = some 3 := by decide +kernel
theorem ws_X12_thing : Cond.selects yX12_thing.cls yX12_thing yX12_thing ∈ lw_ok := (lw_okof 503 ql_503 rfl)
theorem kRL_28 : dnLV RL 28 3 10 yX12_thing cX12_thing 4 (some .int) := ⟨(lw_okof 501 ql_501 rfl), wi_X12_thing, ws_X12_thing, wn_KindGrids, wc_X12_thing, wd_X12_thing, by decide, _, rfl, rfl⟩
theorem wc_X13_thing : Cond.code yX13_thing cX13_thing 4 (some .int) ∈ lw_ok := (lw_okof 1503 ql_1503 rfl)
theorem wi_X13_thing : Cond.instanceMethod yX13_thing ∈ lw_ok := (lw_okof 1501 ql_1501 rfl)
theorem wd_X13_thing : yX13_thing.cls ≠ "java/lang/invoke/MethodHandle" ∧ yX13_thing.cls ≠ "java/lang/invoke/VarHandle" ∧ (parseMethodDescriptor yX13_thing.desc).map (fun d => d.parameters.length) = some 3 := by decide +kernel
theorem ws_X13_thing : Cond.selects yX13_thing.cls yX13_thing yX13_thing ∈ lw_ok := (lw_okof 1502 ql_1502 rfl)
theorem kRL_32 : dnLV RL 32 3 11 yX13_thing cX13_thing 4 (some .int) := ⟨(lw_okof 1500 ql_1500 rfl), wi_X13_thing, ws_X13_thing, wn_KindGridsModel, wc_X13_thing, wd_X13_thing, by decide, _, rfl, rfl⟩
theorem wc_X12_share : Cond.code yX12_share cX12_share 5 (some .int) ∈ lw_ok := (lw_okof 512 ql_512 rfl)
theorem wi_X12_share : Cond.instanceMethod yX12_share ∈ lw_ok := (lw_okof 510 ql_510 rfl)
theorem wd_X12_share : yX12_share.cls ≠ "java/lang/invoke/MethodHandle" ∧ yX12_share.cls ≠ "java/lang/invoke/VarHandle" ∧ (parseMethodDescriptor yX12_share.desc).map (fun d => d.parameters.length) = some 4 := by decide +kernel
theorem ws_X12_share : Cond.selects yX12_share.cls yX12_share yX12_share ∈ lw_ok := (lw_okof 511 ql_511 rfl)
theorem kRL_33 : dnLV RL 33 4 10 yX12_share cX12_share 5 (some .int) := ⟨(lw_okof 509 ql_509 rfl), wi_X12_share, ws_X12_share, wn_KindGrids, wc_X12_share, wd_X12_share, by decide, _, rfl, rfl⟩
theorem wc_X13_share : Cond.code yX13_share cX13_share 5 (some .int) ∈ lw_ok := (lw_okof 1511 ql_1511 rfl)
theorem wi_X13_share : Cond.instanceMethod yX13_share ∈ lw_ok := (lw_okof 1509 ql_1509 rfl)
theorem wd_X13_share : yX13_share.cls ≠ "java/lang/invoke/MethodHandle" ∧ yX13_share.cls ≠ "java/lang/invoke/VarHandle" ∧ (parseMethodDescriptor yX13_share.desc).map (fun d => d.parameters.length) = some 4 := by decide +kernel
theorem ws_X13_share : Cond.selects yX13_share.cls yX13_share yX13_share ∈ lw_ok := (lw_okof 1510 ql_1510 rfl)
theorem kRL_36 : dnLV RL 36 4 11 yX13_share cX13_share 5 (some .int) := ⟨(lw_okof 1508 ql_1508 rfl), wi_X13_share, ws_X13_share, wn_KindGridsModel, wc_X13_share, wd_X13_share, by decide, _, rfl, rfl⟩
theorem wc_X12_swap : Cond.code yX12_swap cX12_swap 5 (some .int) ∈ lw_ok := (lw_okof 532 ql_532 rfl)
theorem wi_X12_swap : Cond.instanceMethod yX12_swap ∈ lw_ok := (lw_okof 530 ql_530 rfl)
theorem wd_X12_swap : yX12_swap.cls ≠ "java/lang/invoke/MethodHandle" ∧ yX12_swap.cls ≠ "java/lang/invoke/VarHandle" ∧ (parseMethodDescriptor yX12_swap.desc).map (fun d => d.parameters.length) = some 4 := by decide +kernel
theorem ws_X12_swap : Cond.selects yX12_swap.cls yX12_swap yX12_swap ∈ lw_ok := (lw_okof 531 ql_531 rfl)
theorem kRL_37 : dnLV RL 37 4 10 yX12_swap cX12_swap 5 (some .int) := ⟨(lw_okof 529 ql_529 rfl), wi_X12_swap, ws_X12_swap, wn_KindGrids, wc_X12_swap, wd_X12_swap, by decide, _, rfl, rfl⟩
theorem wc_X13_swap : Cond.code yX13_swap cX13_swap 5 (some .int) ∈ lw_ok := (lw_okof 1531 ql_1531 rfl)
theorem wi_X13_swap : Cond.instanceMethod yX13_swap ∈ lw_ok := (lw_okof 1529 ql_1529 rfl)
theorem wd_X13_swap : yX13_swap.cls ≠ "java/lang/invoke/MethodHandle" ∧ yX13_swap.cls ≠ "java/lang/invoke/VarHandle" ∧ (parseMethodDescriptor yX13_swap.desc).map (fun d => d.parameters.length) = some 4 := by decide +kernel
theorem ws_X13_swap : Cond.selects yX13_swap.cls yX13_swap yX13_swap ∈ lw_ok := (lw_okof 1530 ql_1530 rfl)
theorem kRL_40 : dnLV RL 40 4 11 yX13_swap cX13_swap 5 (some .int) := ⟨(lw_okof 1528 ql_1528 rfl), wi_X13_swap, ws_X13_swap, wn_KindGridsModel, wc_X13_swap, wd_X13_swap, by decide, _, rfl, rfl⟩
theorem wc_X12_holds : Cond.code yX12_holds cX12_holds 3 (some .int) ∈ lw_ok := (lw_okof 540 ql_540 rfl)
theorem wi_X12_holds : Cond.instanceMethod yX12_holds ∈ lw_ok := (lw_okof 538 ql_538 rfl)
theorem wd_X12_holds : yX12_holds.cls ≠ "java/lang/invoke/MethodHandle" ∧ yX12_holds.cls ≠ "java/lang/invoke/VarHandle" ∧ (parseMethodDescriptor yX12_holds.desc).map (fun d => d.parameters.length) = some 2 := by decide +kernel
theorem ws_X12_holds : Cond.selects yX12_holds.cls yX12_holds yX12_holds ∈ lw_ok := (lw_okof 539 ql_539 rfl)
theorem kRL_41 : dnLV RL 41 2 10 yX12_holds cX12_holds 3 (some .int) := ⟨(lw_okof 537 ql_537 rfl), wi_X12_holds, ws_X12_holds, wn_KindGrids, wc_X12_holds, wd_X12_holds, by decide, _, rfl, rfl⟩
theorem wc_X13_holds : Cond.code yX13_holds cX13_holds 3 (some .int) ∈ lw_ok := (lw_okof 1539 ql_1539 rfl)
theorem wi_X13_holds : Cond.instanceMethod yX13_holds ∈ lw_ok := (lw_okof 1537 ql_1537 rfl)
theorem wd_X13_holds : yX13_holds.cls ≠ "java/lang/invoke/MethodHandle" ∧ yX13_holds.cls ≠ "java/lang/invoke/VarHandle" ∧ (parseMethodDescriptor yX13_holds.desc).map (fun d => d.parameters.length) = some 2 := by decide +kernel
theorem ws_X13_holds : Cond.selects yX13_holds.cls yX13_holds yX13_holds ∈ lw_ok := (lw_okof 1538 ql_1538 rfl)
theorem kRL_44 : dnLV RL 44 2 11 yX13_holds cX13_holds 3 (some .int) := ⟨(lw_okof 1536 ql_1536 rfl), wi_X13_holds, ws_X13_holds, wn_KindGridsModel, wc_X13_holds, wd_X13_holds, by decide, _, rfl, rfl⟩
theorem wc_X12_same : Cond.code yX12_same cX12_same 5 (some .int) ∈ lw_ok := (lw_okof 545 ql_545 rfl)
theorem wi_X12_same : Cond.instanceMethod yX12_same ∈ lw_ok := (lw_okof 543 ql_543 rfl)
theorem wd_X12_same : yX12_same.cls ≠ "java/lang/invoke/MethodHandle" ∧ yX12_same.cls ≠ "java/lang/invoke/VarHandle" ∧ (parseMethodDescriptor yX12_same.desc).map (fun d => d.parameters.length) = some 4 := by decide +kernel
theorem ws_X12_same : Cond.selects yX12_same.cls yX12_same yX12_same ∈ lw_ok := (lw_okof 544 ql_544 rfl)
theorem kRL_45 : dnLV RL 45 4 10 yX12_same cX12_same 5 (some .int) := ⟨(lw_okof 542 ql_542 rfl), wi_X12_same, ws_X12_same, wn_KindGrids, wc_X12_same, wd_X12_same, by decide, _, rfl, rfl⟩
theorem wc_X13_same : Cond.code yX13_same cX13_same 5 (some .int) ∈ lw_ok := (lw_okof 1547 ql_1547 rfl)
theorem wi_X13_same : Cond.instanceMethod yX13_same ∈ lw_ok := (lw_okof 1545 ql_1545 rfl)
theorem wd_X13_same : yX13_same.cls ≠ "java/lang/invoke/MethodHandle" ∧ yX13_same.cls ≠ "java/lang/invoke/VarHandle" ∧ (parseMethodDescriptor yX13_same.desc).map (fun d => d.parameters.length) = some 4 := by decide +kernel
theorem ws_X13_same : Cond.selects yX13_same.cls yX13_same yX13_same ∈ lw_ok := (lw_okof 1546 ql_1546 rfl)
theorem kRL_48 : dnLV RL 48 4 11 yX13_same cX13_same 5 (some .int) := ⟨(lw_okof 1544 ql_1544 rfl), wi_X13_same, ws_X13_same, wn_KindGridsModel, wc_X13_same, wd_X13_same, by decide, _, rfl, rfl⟩
theorem wc_X12_size : Cond.code yX12_size cX12_size 3 (some .int) ∈ lw_ok := (lw_okof 557 ql_557 rfl)
theorem wi_X12_size : Cond.instanceMethod yX12_size ∈ lw_ok := (lw_okof 555 ql_555 rfl)
theorem wd_X12_size : yX12_size.cls ≠ "java/lang/invoke/MethodHandle" ∧ yX12_size.cls ≠ "java/lang/invoke/VarHandle" ∧ (parseMethodDescriptor yX12_size.desc).map (fun d => d.parameters.length) = some 2 := by decide +kernel
theorem ws_X12_size : Cond.selects yX12_size.cls yX12_size yX12_size ∈ lw_ok := (lw_okof 556 ql_556 rfl)
theorem kRL_49 : dnLV RL 49 2 10 yX12_size cX12_size 3 (some .int) := ⟨(lw_okof 554 ql_554 rfl), wi_X12_size, ws_X12_size, wn_KindGrids, wc_X12_size, wd_X12_size, by decide, _, rfl, rfl⟩
theorem wc_X13_size : Cond.code yX13_size cX13_size 3 (some .int) ∈ lw_ok := (lw_okof 1563 ql_1563 rfl)
theorem wi_X13_size : Cond.instanceMethod yX13_size ∈ lw_ok := (lw_okof 1561 ql_1561 rfl)
theorem wd_X13_size : yX13_size.cls ≠ "java/lang/invoke/MethodHandle" ∧ yX13_size.cls ≠ "java/lang/invoke/VarHandle" ∧ (parseMethodDescriptor yX13_size.desc).map (fun d => d.parameters.length) = some 2 := by decide +kernel
theorem ws_X13_size : Cond.selects yX13_size.cls yX13_size yX13_size ∈ lw_ok := (lw_okof 1562 ql_1562 rfl)
theorem kRL_52 : dnLV RL 52 2 11 yX13_size cX13_size 3 (some .int) := ⟨(lw_okof 1560 ql_1560 rfl), wi_X13_size, ws_X13_size, wn_KindGridsModel, wc_X13_size, wd_X13_size, by decide, _, rfl, rfl⟩
theorem wc_X12_read : Cond.code yX12_read cX12_read 5 (some .int) ∈ lw_ok := (lw_okof 565 ql_565 rfl)
theorem wi_X12_read : Cond.instanceMethod yX12_read ∈ lw_ok := (lw_okof 563 ql_563 rfl)
theorem wd_X12_read : yX12_read.cls ≠ "java/lang/invoke/MethodHandle" ∧ yX12_read.cls ≠ "java/lang/invoke/VarHandle" ∧ (parseMethodDescriptor yX12_read.desc).map (fun d => d.parameters.length) = some 4 := by decide +kernel
theorem ws_X12_read : Cond.selects yX12_read.cls yX12_read yX12_read ∈ lw_ok := (lw_okof 564 ql_564 rfl)
theorem kRL_53 : dnLV RL 53 4 10 yX12_read cX12_read 5 (some .int) := ⟨(lw_okof 562 ql_562 rfl), wi_X12_read, ws_X12_read, wn_KindGrids, wc_X12_read, wd_X12_read, by decide, _, rfl, rfl⟩
theorem wc_X13_read : Cond.code yX13_read cX13_read 5 (some .int) ∈ lw_ok := (lw_okof 1571 ql_1571 rfl)
theorem wi_X13_read : Cond.instanceMethod yX13_read ∈ lw_ok := (lw_okof 1569 ql_1569 rfl)
theorem wd_X13_read : yX13_read.cls ≠ "java/lang/invoke/MethodHandle" ∧ yX13_read.cls ≠ "java/lang/invoke/VarHandle" ∧ (parseMethodDescriptor yX13_read.desc).map (fun d => d.parameters.length) = some 4 := by decide +kernel
theorem ws_X13_read : Cond.selects yX13_read.cls yX13_read yX13_read ∈ lw_ok := (lw_okof 1570 ql_1570 rfl)
theorem kRL_56 : dnLV RL 56 4 11 yX13_read cX13_read 5 (some .int) := ⟨(lw_okof 1568 ql_1568 rfl), wi_X13_read, ws_X13_read, wn_KindGridsModel, wc_X13_read, wd_X13_read, by decide, _, rfl, rfl⟩
theorem kRL_57 : Cond.constantLong RL 57 (4294967295 : Int64) ∈ lw_ok := (lw_okof 2121 ql_2121 rfl)
theorem wc_X12_write : Cond.code yX12_write cX12_write 7 (some .int) ∈ lw_ok := (lw_okof 617 ql_617 rfl)
theorem wi_X12_write : Cond.instanceMethod yX12_write ∈ lw_ok := (lw_okof 615 ql_615 rfl)
theorem wd_X12_write : yX12_write.cls ≠ "java/lang/invoke/MethodHandle" ∧ yX12_write.cls ≠ "java/lang/invoke/VarHandle" ∧ (parseMethodDescriptor yX12_write.desc).map (fun d => d.parameters.length) = some 5 := by decide +kernel
theorem ws_X12_write : Cond.selects yX12_write.cls yX12_write yX12_write ∈ lw_ok := (lw_okof 616 ql_616 rfl)
theorem kRL_59 : dnLV RL 59 5 10 yX12_write cX12_write 7 (some .int) := ⟨(lw_okof 614 ql_614 rfl), wi_X12_write, ws_X12_write, wn_KindGrids, wc_X12_write, wd_X12_write, by decide, _, rfl, rfl⟩
theorem wc_X13_write : Cond.code yX13_write cX13_write 7 (some .int) ∈ lw_ok := (lw_okof 1610 ql_1610 rfl)
theorem wi_X13_write : Cond.instanceMethod yX13_write ∈ lw_ok := (lw_okof 1608 ql_1608 rfl)
theorem wd_X13_write : yX13_write.cls ≠ "java/lang/invoke/MethodHandle" ∧ yX13_write.cls ≠ "java/lang/invoke/VarHandle" ∧ (parseMethodDescriptor yX13_write.desc).map (fun d => d.parameters.length) = some 5 := by decide +kernel
theorem ws_X13_write : Cond.selects yX13_write.cls yX13_write yX13_write ∈ lw_ok := (lw_okof 1609 ql_1609 rfl)
theorem kRL_63 : dnLV RL 63 5 11 yX13_write cX13_write 7 (some .int) := ⟨(lw_okof 1607 ql_1607 rfl), wi_X13_write, ws_X13_write, wn_KindGridsModel, wc_X13_write, wd_X13_write, by decide, _, rfl, rfl⟩
theorem wc_X12_put : Cond.code yX12_put cX12_put 7 (some .int) ∈ lw_ok := (lw_okof 644 ql_644 rfl)
theorem wi_X12_put : Cond.instanceMethod yX12_put ∈ lw_ok := (lw_okof 642 ql_642 rfl)
theorem wd_X12_put : yX12_put.cls ≠ "java/lang/invoke/MethodHandle" ∧ yX12_put.cls ≠ "java/lang/invoke/VarHandle" ∧ (parseMethodDescriptor yX12_put.desc).map (fun d => d.parameters.length) = some 5 := by decide +kernel
theorem ws_X12_put : Cond.selects yX12_put.cls yX12_put yX12_put ∈ lw_ok := (lw_okof 643 ql_643 rfl)
theorem kRL_64 : dnLV RL 64 5 10 yX12_put cX12_put 7 (some .int) := ⟨(lw_okof 641 ql_641 rfl), wi_X12_put, ws_X12_put, wn_KindGrids, wc_X12_put, wd_X12_put, by decide, _, rfl, rfl⟩
theorem wc_X13_put : Cond.code yX13_put cX13_put 7 (some .int) ∈ lw_ok := (lw_okof 1632 ql_1632 rfl)
theorem wi_X13_put : Cond.instanceMethod yX13_put ∈ lw_ok := (lw_okof 1630 ql_1630 rfl)
theorem wd_X13_put : yX13_put.cls ≠ "java/lang/invoke/MethodHandle" ∧ yX13_put.cls ≠ "java/lang/invoke/VarHandle" ∧ (parseMethodDescriptor yX13_put.desc).map (fun d => d.parameters.length) = some 5 := by decide +kernel
theorem ws_X13_put : Cond.selects yX13_put.cls yX13_put yX13_put ∈ lw_ok := (lw_okof 1631 ql_1631 rfl)
theorem kRL_67 : dnLV RL 67 5 11 yX13_put cX13_put 7 (some .int) := ⟨(lw_okof 1629 ql_1629 rfl), wi_X13_put, ws_X13_put, wn_KindGridsModel, wc_X13_put, wd_X13_put, by decide, _, rfl, rfl⟩
theorem wc_X12_find : Cond.code yX12_find cX12_find 6 (some .int) ∈ lw_ok := (lw_okof 649 ql_649 rfl)
theorem wi_X12_find : Cond.instanceMethod yX12_find ∈ lw_ok := (lw_okof 647 ql_647 rfl)
theorem wd_X12_find : yX12_find.cls ≠ "java/lang/invoke/MethodHandle" ∧ yX12_find.cls ≠ "java/lang/invoke/VarHandle" ∧ (parseMethodDescriptor yX12_find.desc).map (fun d => d.parameters.length) = some 4 := by decide +kernel
theorem ws_X12_find : Cond.selects yX12_find.cls yX12_find yX12_find ∈ lw_ok := (lw_okof 648 ql_648 rfl)
theorem kRL_68 : dnLV RL 68 4 10 yX12_find cX12_find 6 (some .int) := ⟨(lw_okof 646 ql_646 rfl), wi_X12_find, ws_X12_find, wn_KindGrids, wc_X12_find, wd_X12_find, by decide, _, rfl, rfl⟩
theorem wc_X13_find : Cond.code yX13_find cX13_find 6 (some .int) ∈ lw_ok := (lw_okof 1643 ql_1643 rfl)
theorem wi_X13_find : Cond.instanceMethod yX13_find ∈ lw_ok := (lw_okof 1641 ql_1641 rfl)
theorem wd_X13_find : yX13_find.cls ≠ "java/lang/invoke/MethodHandle" ∧ yX13_find.cls ≠ "java/lang/invoke/VarHandle" ∧ (parseMethodDescriptor yX13_find.desc).map (fun d => d.parameters.length) = some 4 := by decide +kernel
theorem ws_X13_find : Cond.selects yX13_find.cls yX13_find yX13_find ∈ lw_ok := (lw_okof 1642 ql_1642 rfl)
theorem kRL_72 : dnLV RL 72 4 11 yX13_find cX13_find 6 (some .int) := ⟨(lw_okof 1640 ql_1640 rfl), wi_X13_find, ws_X13_find, wn_KindGridsModel, wc_X13_find, wd_X13_find, by decide, _, rfl, rfl⟩
theorem wc_X12_alike : Cond.code yX12_alike cX12_alike 5 (some .int) ∈ lw_ok := (lw_okof 664 ql_664 rfl)
theorem wi_X12_alike : Cond.instanceMethod yX12_alike ∈ lw_ok := (lw_okof 662 ql_662 rfl)
theorem wd_X12_alike : yX12_alike.cls ≠ "java/lang/invoke/MethodHandle" ∧ yX12_alike.cls ≠ "java/lang/invoke/VarHandle" ∧ (parseMethodDescriptor yX12_alike.desc).map (fun d => d.parameters.length) = some 4 := by decide +kernel
theorem ws_X12_alike : Cond.selects yX12_alike.cls yX12_alike yX12_alike ∈ lw_ok := (lw_okof 663 ql_663 rfl)
theorem kRL_73 : dnLV RL 73 4 10 yX12_alike cX12_alike 5 (some .int) := ⟨(lw_okof 661 ql_661 rfl), wi_X12_alike, ws_X12_alike, wn_KindGrids, wc_X12_alike, wd_X12_alike, by decide, _, rfl, rfl⟩
theorem wc_X13_alike : Cond.code yX13_alike cX13_alike 5 (some .int) ∈ lw_ok := (lw_okof 1660 ql_1660 rfl)
theorem wi_X13_alike : Cond.instanceMethod yX13_alike ∈ lw_ok := (lw_okof 1658 ql_1658 rfl)
theorem wd_X13_alike : yX13_alike.cls ≠ "java/lang/invoke/MethodHandle" ∧ yX13_alike.cls ≠ "java/lang/invoke/VarHandle" ∧ (parseMethodDescriptor yX13_alike.desc).map (fun d => d.parameters.length) = some 4 := by decide +kernel
theorem ws_X13_alike : Cond.selects yX13_alike.cls yX13_alike yX13_alike ∈ lw_ok := (lw_okof 1659 ql_1659 rfl)
theorem kRL_76 : dnLV RL 76 4 11 yX13_alike cX13_alike 5 (some .int) := ⟨(lw_okof 1657 ql_1657 rfl), wi_X13_alike, ws_X13_alike, wn_KindGridsModel, wc_X13_alike, wd_X13_alike, by decide, _, rfl, rfl⟩
theorem wc_X12_cut : Cond.code yX12_cut cX12_cut 6 (some .int) ∈ lw_ok := (lw_okof 672 ql_672 rfl)
theorem wi_X12_cut : Cond.instanceMethod yX12_cut ∈ lw_ok := (lw_okof 670 ql_670 rfl)
theorem wd_X12_cut : yX12_cut.cls ≠ "java/lang/invoke/MethodHandle" ∧ yX12_cut.cls ≠ "java/lang/invoke/VarHandle" ∧ (parseMethodDescriptor yX12_cut.desc).map (fun d => d.parameters.length) = some 5 := by decide +kernel
theorem ws_X12_cut : Cond.selects yX12_cut.cls yX12_cut yX12_cut ∈ lw_ok := (lw_okof 671 ql_671 rfl)
theorem kRL_77 : dnLV RL 77 5 10 yX12_cut cX12_cut 6 (some .int) := ⟨(lw_okof 669 ql_669 rfl), wi_X12_cut, ws_X12_cut, wn_KindGrids, wc_X12_cut, wd_X12_cut, by decide, _, rfl, rfl⟩
theorem wc_X13_cut : Cond.code yX13_cut cX13_cut 6 (some .int) ∈ lw_ok := (lw_okof 1676 ql_1676 rfl)
theorem wi_X13_cut : Cond.instanceMethod yX13_cut ∈ lw_ok := (lw_okof 1674 ql_1674 rfl)
theorem wd_X13_cut : yX13_cut.cls ≠ "java/lang/invoke/MethodHandle" ∧ yX13_cut.cls ≠ "java/lang/invoke/VarHandle" ∧ (parseMethodDescriptor yX13_cut.desc).map (fun d => d.parameters.length) = some 5 := by decide +kernel
theorem ws_X13_cut : Cond.selects yX13_cut.cls yX13_cut yX13_cut ∈ lw_ok := (lw_okof 1675 ql_1675 rfl)
theorem kRL_81 : dnLV RL 81 5 11 yX13_cut cX13_cut 6 (some .int) := ⟨(lw_okof 1673 ql_1673 rfl), wi_X13_cut, ws_X13_cut, wn_KindGridsModel, wc_X13_cut, wd_X13_cut, by decide, _, rfl, rfl⟩
theorem wc_X12_cast : Cond.code yX12_cast cX12_cast 4 (some .int) ∈ lw_ok := (lw_okof 686 ql_686 rfl)
theorem wi_X12_cast : Cond.instanceMethod yX12_cast ∈ lw_ok := (lw_okof 684 ql_684 rfl)
theorem wd_X12_cast : yX12_cast.cls ≠ "java/lang/invoke/MethodHandle" ∧ yX12_cast.cls ≠ "java/lang/invoke/VarHandle" ∧ (parseMethodDescriptor yX12_cast.desc).map (fun d => d.parameters.length) = some 3 := by decide +kernel
theorem ws_X12_cast : Cond.selects yX12_cast.cls yX12_cast yX12_cast ∈ lw_ok := (lw_okof 685 ql_685 rfl)
theorem kRL_82 : dnLV RL 82 3 10 yX12_cast cX12_cast 4 (some .int) := ⟨(lw_okof 683 ql_683 rfl), wi_X12_cast, ws_X12_cast, wn_KindGrids, wc_X12_cast, wd_X12_cast, by decide, _, rfl, rfl⟩
theorem wc_X13_cast : Cond.code yX13_cast cX13_cast 4 (some .int) ∈ lw_ok := (lw_okof 1688 ql_1688 rfl)
theorem wi_X13_cast : Cond.instanceMethod yX13_cast ∈ lw_ok := (lw_okof 1686 ql_1686 rfl)
theorem wd_X13_cast : yX13_cast.cls ≠ "java/lang/invoke/MethodHandle" ∧ yX13_cast.cls ≠ "java/lang/invoke/VarHandle" ∧ (parseMethodDescriptor yX13_cast.desc).map (fun d => d.parameters.length) = some 3 := by decide +kernel
theorem ws_X13_cast : Cond.selects yX13_cast.cls yX13_cast yX13_cast ∈ lw_ok := (lw_okof 1687 ql_1687 rfl)
theorem kRL_85 : dnLV RL 85 3 11 yX13_cast cX13_cast 4 (some .int) := ⟨(lw_okof 1685 ql_1685 rfl), wi_X13_cast, ws_X13_cast, wn_KindGridsModel, wc_X13_cast, wd_X13_cast, by decide, _, rfl, rfl⟩
theorem wc_X12_pour : Cond.code yX12_pour cX12_pour 5 (some .int) ∈ lw_ok := (lw_okof 695 ql_695 rfl)
theorem wi_X12_pour : Cond.instanceMethod yX12_pour ∈ lw_ok := (lw_okof 693 ql_693 rfl)
theorem wd_X12_pour : yX12_pour.cls ≠ "java/lang/invoke/MethodHandle" ∧ yX12_pour.cls ≠ "java/lang/invoke/VarHandle" ∧ (parseMethodDescriptor yX12_pour.desc).map (fun d => d.parameters.length) = some 4 := by decide +kernel
theorem ws_X12_pour : Cond.selects yX12_pour.cls yX12_pour yX12_pour ∈ lw_ok := (lw_okof 694 ql_694 rfl)
theorem kRL_86 : dnLV RL 86 4 10 yX12_pour cX12_pour 5 (some .int) := ⟨(lw_okof 692 ql_692 rfl), wi_X12_pour, ws_X12_pour, wn_KindGrids, wc_X12_pour, wd_X12_pour, by decide, _, rfl, rfl⟩
theorem wc_X13_pour : Cond.code yX13_pour cX13_pour 5 (some .int) ∈ lw_ok := (lw_okof 1696 ql_1696 rfl)
theorem wi_X13_pour : Cond.instanceMethod yX13_pour ∈ lw_ok := (lw_okof 1694 ql_1694 rfl)
theorem wd_X13_pour : yX13_pour.cls ≠ "java/lang/invoke/MethodHandle" ∧ yX13_pour.cls ≠ "java/lang/invoke/VarHandle" ∧ (parseMethodDescriptor yX13_pour.desc).map (fun d => d.parameters.length) = some 4 := by decide +kernel
theorem ws_X13_pour : Cond.selects yX13_pour.cls yX13_pour yX13_pour ∈ lw_ok := (lw_okof 1695 ql_1695 rfl)
theorem kRL_89 : dnLV RL 89 4 11 yX13_pour cX13_pour 5 (some .int) := ⟨(lw_okof 1693 ql_1693 rfl), wi_X13_pour, ws_X13_pour, wn_KindGridsModel, wc_X13_pour, wd_X13_pour, by decide, _, rfl, rfl⟩
theorem wc_X12_join : Cond.code yX12_join cX12_join 4 (some .int) ∈ lw_ok := (lw_okof 703 ql_703 rfl)
theorem wi_X12_join : Cond.instanceMethod yX12_join ∈ lw_ok := (lw_okof 701 ql_701 rfl)
theorem wd_X12_join : yX12_join.cls ≠ "java/lang/invoke/MethodHandle" ∧ yX12_join.cls ≠ "java/lang/invoke/VarHandle" ∧ (parseMethodDescriptor yX12_join.desc).map (fun d => d.parameters.length) = some 3 := by decide +kernel
theorem ws_X12_join : Cond.selects yX12_join.cls yX12_join yX12_join ∈ lw_ok := (lw_okof 702 ql_702 rfl)
theorem kRL_90 : dnLV RL 90 3 10 yX12_join cX12_join 4 (some .int) := ⟨(lw_okof 700 ql_700 rfl), wi_X12_join, ws_X12_join, wn_KindGrids, wc_X12_join, wd_X12_join, by decide, _, rfl, rfl⟩
theorem wc_X13_join : Cond.code yX13_join cX13_join 4 (some .int) ∈ lw_ok := (lw_okof 1704 ql_1704 rfl)
theorem wi_X13_join : Cond.instanceMethod yX13_join ∈ lw_ok := (lw_okof 1702 ql_1702 rfl)
theorem wd_X13_join : yX13_join.cls ≠ "java/lang/invoke/MethodHandle" ∧ yX13_join.cls ≠ "java/lang/invoke/VarHandle" ∧ (parseMethodDescriptor yX13_join.desc).map (fun d => d.parameters.length) = some 3 := by decide +kernel
theorem ws_X13_join : Cond.selects yX13_join.cls yX13_join yX13_join ∈ lw_ok := (lw_okof 1703 ql_1703 rfl)
theorem kRL_93 : dnLV RL 93 3 11 yX13_join cX13_join 4 (some .int) := ⟨(lw_okof 1701 ql_1701 rfl), wi_X13_join, ws_X13_join, wn_KindGridsModel, wc_X13_join, wd_X13_join, by decide, _, rfl, rfl⟩
theorem wc_X12_flip : Cond.code yX12_flip cX12_flip 3 (some .int) ∈ lw_ok := (lw_okof 714 ql_714 rfl)
theorem wi_X12_flip : Cond.instanceMethod yX12_flip ∈ lw_ok := (lw_okof 712 ql_712 rfl)
theorem wd_X12_flip : yX12_flip.cls ≠ "java/lang/invoke/MethodHandle" ∧ yX12_flip.cls ≠ "java/lang/invoke/VarHandle" ∧ (parseMethodDescriptor yX12_flip.desc).map (fun d => d.parameters.length) = some 2 := by decide +kernel
theorem ws_X12_flip : Cond.selects yX12_flip.cls yX12_flip yX12_flip ∈ lw_ok := (lw_okof 713 ql_713 rfl)
theorem kRL_94 : dnLV RL 94 2 10 yX12_flip cX12_flip 3 (some .int) := ⟨(lw_okof 711 ql_711 rfl), wi_X12_flip, ws_X12_flip, wn_KindGrids, wc_X12_flip, wd_X12_flip, by decide, _, rfl, rfl⟩
theorem wc_X13_flip : Cond.code yX13_flip cX13_flip 3 (some .int) ∈ lw_ok := (lw_okof 1715 ql_1715 rfl)
theorem wi_X13_flip : Cond.instanceMethod yX13_flip ∈ lw_ok := (lw_okof 1713 ql_1713 rfl)
theorem wd_X13_flip : yX13_flip.cls ≠ "java/lang/invoke/MethodHandle" ∧ yX13_flip.cls ≠ "java/lang/invoke/VarHandle" ∧ (parseMethodDescriptor yX13_flip.desc).map (fun d => d.parameters.length) = some 2 := by decide +kernel
theorem ws_X13_flip : Cond.selects yX13_flip.cls yX13_flip yX13_flip ∈ lw_ok := (lw_okof 1714 ql_1714 rfl)
theorem kRL_97 : dnLV RL 97 2 11 yX13_flip cX13_flip 3 (some .int) := ⟨(lw_okof 1712 ql_1712 rfl), wi_X13_flip, ws_X13_flip, wn_KindGridsModel, wc_X13_flip, wd_X13_flip, by decide, _, rfl, rfl⟩
theorem wc_X12_roll : Cond.code yX12_roll cX12_roll 4 (some .int) ∈ lw_ok := (lw_okof 729 ql_729 rfl)
theorem wi_X12_roll : Cond.instanceMethod yX12_roll ∈ lw_ok := (lw_okof 727 ql_727 rfl)
theorem wd_X12_roll : yX12_roll.cls ≠ "java/lang/invoke/MethodHandle" ∧ yX12_roll.cls ≠ "java/lang/invoke/VarHandle" ∧ (parseMethodDescriptor yX12_roll.desc).map (fun d => d.parameters.length) = some 3 := by decide +kernel
theorem ws_X12_roll : Cond.selects yX12_roll.cls yX12_roll yX12_roll ∈ lw_ok := (lw_okof 728 ql_728 rfl)
theorem kRL_98 : dnLV RL 98 3 10 yX12_roll cX12_roll 4 (some .int) := ⟨(lw_okof 726 ql_726 rfl), wi_X12_roll, ws_X12_roll, wn_KindGrids, wc_X12_roll, wd_X12_roll, by decide, _, rfl, rfl⟩
theorem wc_X13_roll : Cond.code yX13_roll cX13_roll 4 (some .int) ∈ lw_ok := (lw_okof 1731 ql_1731 rfl)
theorem wi_X13_roll : Cond.instanceMethod yX13_roll ∈ lw_ok := (lw_okof 1729 ql_1729 rfl)
theorem wd_X13_roll : yX13_roll.cls ≠ "java/lang/invoke/MethodHandle" ∧ yX13_roll.cls ≠ "java/lang/invoke/VarHandle" ∧ (parseMethodDescriptor yX13_roll.desc).map (fun d => d.parameters.length) = some 3 := by decide +kernel
theorem ws_X13_roll : Cond.selects yX13_roll.cls yX13_roll yX13_roll ∈ lw_ok := (lw_okof 1730 ql_1730 rfl)
theorem kRL_101 : dnLV RL 101 3 11 yX13_roll cX13_roll 4 (some .int) := ⟨(lw_okof 1728 ql_1728 rfl), wi_X13_roll, ws_X13_roll, wn_KindGridsModel, wc_X13_roll, wd_X13_roll, by decide, _, rfl, rfl⟩
theorem wc_X12_order : Cond.code yX12_order cX12_order 3 (some .int) ∈ lw_ok := (lw_okof 740 ql_740 rfl)
theorem wi_X12_order : Cond.instanceMethod yX12_order ∈ lw_ok := (lw_okof 738 ql_738 rfl)
theorem wd_X12_order : yX12_order.cls ≠ "java/lang/invoke/MethodHandle" ∧ yX12_order.cls ≠ "java/lang/invoke/VarHandle" ∧ (parseMethodDescriptor yX12_order.desc).map (fun d => d.parameters.length) = some 2 := by decide +kernel
theorem ws_X12_order : Cond.selects yX12_order.cls yX12_order yX12_order ∈ lw_ok := (lw_okof 739 ql_739 rfl)
theorem kRL_102 : dnLV RL 102 2 10 yX12_order cX12_order 3 (some .int) := ⟨(lw_okof 737 ql_737 rfl), wi_X12_order, ws_X12_order, wn_KindGrids, wc_X12_order, wd_X12_order, by decide, _, rfl, rfl⟩
theorem wc_X13_order : Cond.code yX13_order cX13_order 3 (some .int) ∈ lw_ok := (lw_okof 1739 ql_1739 rfl)
theorem wi_X13_order : Cond.instanceMethod yX13_order ∈ lw_ok := (lw_okof 1737 ql_1737 rfl)
theorem wd_X13_order : yX13_order.cls ≠ "java/lang/invoke/MethodHandle" ∧ yX13_order.cls ≠ "java/lang/invoke/VarHandle" ∧ (parseMethodDescriptor yX13_order.desc).map (fun d => d.parameters.length) = some 2 := by decide +kernel
theorem ws_X13_order : Cond.selects yX13_order.cls yX13_order yX13_order ∈ lw_ok := (lw_okof 1738 ql_1738 rfl)
theorem kRL_105 : dnLV RL 105 2 11 yX13_order cX13_order 3 (some .int) := ⟨(lw_okof 1736 ql_1736 rfl), wi_X13_order, ws_X13_order, wn_KindGridsModel, wc_X13_order, wd_X13_order, by decide, _, rfl, rfl⟩
theorem wc_X12_add : Cond.code yX12_add cX12_add 5 (some .int) ∈ lw_ok := (lw_okof 756 ql_756 rfl)
theorem wi_X12_add : Cond.instanceMethod yX12_add ∈ lw_ok := (lw_okof 754 ql_754 rfl)
theorem wd_X12_add : yX12_add.cls ≠ "java/lang/invoke/MethodHandle" ∧ yX12_add.cls ≠ "java/lang/invoke/VarHandle" ∧ (parseMethodDescriptor yX12_add.desc).map (fun d => d.parameters.length) = some 4 := by decide +kernel
theorem ws_X12_add : Cond.selects yX12_add.cls yX12_add yX12_add ∈ lw_ok := (lw_okof 755 ql_755 rfl)
theorem kRL_106 : dnLV RL 106 4 10 yX12_add cX12_add 5 (some .int) := ⟨(lw_okof 753 ql_753 rfl), wi_X12_add, ws_X12_add, wn_KindGrids, wc_X12_add, wd_X12_add, by decide, _, rfl, rfl⟩
theorem wc_X13_add : Cond.code yX13_add cX13_add 5 (some .int) ∈ lw_ok := (lw_okof 1751 ql_1751 rfl)
theorem wi_X13_add : Cond.instanceMethod yX13_add ∈ lw_ok := (lw_okof 1749 ql_1749 rfl)
theorem wd_X13_add : yX13_add.cls ≠ "java/lang/invoke/MethodHandle" ∧ yX13_add.cls ≠ "java/lang/invoke/VarHandle" ∧ (parseMethodDescriptor yX13_add.desc).map (fun d => d.parameters.length) = some 4 := by decide +kernel
theorem ws_X13_add : Cond.selects yX13_add.cls yX13_add yX13_add ∈ lw_ok := (lw_okof 1750 ql_1750 rfl)
theorem kRL_109 : dnLV RL 109 4 11 yX13_add cX13_add 5 (some .int) := ⟨(lw_okof 1748 ql_1748 rfl), wi_X13_add, ws_X13_add, wn_KindGridsModel, wc_X13_add, wd_X13_add, by decide, _, rfl, rfl⟩
theorem wc_X12_above : Cond.code yX12_above cX12_above 7 (some .int) ∈ lw_ok := (lw_okof 766 ql_766 rfl)
theorem wi_X12_above : Cond.instanceMethod yX12_above ∈ lw_ok := (lw_okof 764 ql_764 rfl)
theorem wd_X12_above : yX12_above.cls ≠ "java/lang/invoke/MethodHandle" ∧ yX12_above.cls ≠ "java/lang/invoke/VarHandle" ∧ (parseMethodDescriptor yX12_above.desc).map (fun d => d.parameters.length) = some 5 := by decide +kernel
theorem ws_X12_above : Cond.selects yX12_above.cls yX12_above yX12_above ∈ lw_ok := (lw_okof 765 ql_765 rfl)
theorem kRL_110 : dnLV RL 110 5 10 yX12_above cX12_above 7 (some .int) := ⟨(lw_okof 763 ql_763 rfl), wi_X12_above, ws_X12_above, wn_KindGrids, wc_X12_above, wd_X12_above, by decide, _, rfl, rfl⟩
theorem wc_X13_above : Cond.code yX13_above cX13_above 7 (some .int) ∈ lw_ok := (lw_okof 1763 ql_1763 rfl)
theorem wi_X13_above : Cond.instanceMethod yX13_above ∈ lw_ok := (lw_okof 1761 ql_1761 rfl)
theorem wd_X13_above : yX13_above.cls ≠ "java/lang/invoke/MethodHandle" ∧ yX13_above.cls ≠ "java/lang/invoke/VarHandle" ∧ (parseMethodDescriptor yX13_above.desc).map (fun d => d.parameters.length) = some 5 := by decide +kernel
theorem ws_X13_above : Cond.selects yX13_above.cls yX13_above yX13_above ∈ lw_ok := (lw_okof 1762 ql_1762 rfl)
theorem kRL_114 : dnLV RL 114 5 11 yX13_above cX13_above 7 (some .int) := ⟨(lw_okof 1760 ql_1760 rfl), wi_X13_above, ws_X13_above, wn_KindGridsModel, wc_X13_above, wd_X13_above, by decide, _, rfl, rfl⟩
theorem wc_X12_pick : Cond.code yX12_pick cX12_pick 4 (some .int) ∈ lw_ok := (lw_okof 779 ql_779 rfl)
theorem wi_X12_pick : Cond.instanceMethod yX12_pick ∈ lw_ok := (lw_okof 777 ql_777 rfl)
theorem wd_X12_pick : yX12_pick.cls ≠ "java/lang/invoke/MethodHandle" ∧ yX12_pick.cls ≠ "java/lang/invoke/VarHandle" ∧ (parseMethodDescriptor yX12_pick.desc).map (fun d => d.parameters.length) = some 3 := by decide +kernel
theorem ws_X12_pick : Cond.selects yX12_pick.cls yX12_pick yX12_pick ∈ lw_ok := (lw_okof 778 ql_778 rfl)
theorem kRL_115 : dnLV RL 115 3 10 yX12_pick cX12_pick 4 (some .int) := ⟨(lw_okof 776 ql_776 rfl), wi_X12_pick, ws_X12_pick, wn_KindGrids, wc_X12_pick, wd_X12_pick, by decide, _, rfl, rfl⟩
theorem wc_X13_pick : Cond.code yX13_pick cX13_pick 4 (some .int) ∈ lw_ok := (lw_okof 1775 ql_1775 rfl)
theorem wi_X13_pick : Cond.instanceMethod yX13_pick ∈ lw_ok := (lw_okof 1773 ql_1773 rfl)
theorem wd_X13_pick : yX13_pick.cls ≠ "java/lang/invoke/MethodHandle" ∧ yX13_pick.cls ≠ "java/lang/invoke/VarHandle" ∧ (parseMethodDescriptor yX13_pick.desc).map (fun d => d.parameters.length) = some 3 := by decide +kernel
theorem ws_X13_pick : Cond.selects yX13_pick.cls yX13_pick yX13_pick ∈ lw_ok := (lw_okof 1774 ql_1774 rfl)
theorem kRL_118 : dnLV RL 118 3 11 yX13_pick cX13_pick 4 (some .int) := ⟨(lw_okof 1772 ql_1772 rfl), wi_X13_pick, ws_X13_pick, wn_KindGridsModel, wc_X13_pick, wd_X13_pick, by decide, _, rfl, rfl⟩
theorem wc_X12_flat : Cond.code yX12_flat cX12_flat 4 (some .int) ∈ lw_ok := (lw_okof 787 ql_787 rfl)
theorem wi_X12_flat : Cond.instanceMethod yX12_flat ∈ lw_ok := (lw_okof 785 ql_785 rfl)
theorem wd_X12_flat : yX12_flat.cls ≠ "java/lang/invoke/MethodHandle" ∧ yX12_flat.cls ≠ "java/lang/invoke/VarHandle" ∧ (parseMethodDescriptor yX12_flat.desc).map (fun d => d.parameters.length) = some 3 := by decide +kernel
theorem ws_X12_flat : Cond.selects yX12_flat.cls yX12_flat yX12_flat ∈ lw_ok := (lw_okof 786 ql_786 rfl)
theorem kRL_119 : dnLV RL 119 3 10 yX12_flat cX12_flat 4 (some .int) := ⟨(lw_okof 784 ql_784 rfl), wi_X12_flat, ws_X12_flat, wn_KindGrids, wc_X12_flat, wd_X12_flat, by decide, _, rfl, rfl⟩
theorem wc_X13_flat : Cond.code yX13_flat cX13_flat 4 (some .int) ∈ lw_ok := (lw_okof 1783 ql_1783 rfl)
theorem wi_X13_flat : Cond.instanceMethod yX13_flat ∈ lw_ok := (lw_okof 1781 ql_1781 rfl)
theorem wd_X13_flat : yX13_flat.cls ≠ "java/lang/invoke/MethodHandle" ∧ yX13_flat.cls ≠ "java/lang/invoke/VarHandle" ∧ (parseMethodDescriptor yX13_flat.desc).map (fun d => d.parameters.length) = some 3 := by decide +kernel
theorem ws_X13_flat : Cond.selects yX13_flat.cls yX13_flat yX13_flat ∈ lw_ok := (lw_okof 1782 ql_1782 rfl)
theorem kRL_122 : dnLV RL 122 3 11 yX13_flat cX13_flat 4 (some .int) := ⟨(lw_okof 1780 ql_1780 rfl), wi_X13_flat, ws_X13_flat, wn_KindGridsModel, wc_X13_flat, wd_X13_flat, by decide, _, rfl, rfl⟩
theorem wc_X12_deal : Cond.code yX12_deal cX12_deal 5 (some .int) ∈ lw_ok := (lw_okof 803 ql_803 rfl)
theorem wi_X12_deal : Cond.instanceMethod yX12_deal ∈ lw_ok := (lw_okof 801 ql_801 rfl)
theorem wd_X12_deal : yX12_deal.cls ≠ "java/lang/invoke/MethodHandle" ∧ yX12_deal.cls ≠ "java/lang/invoke/VarHandle" ∧ (parseMethodDescriptor yX12_deal.desc).map (fun d => d.parameters.length) = some 4 := by decide +kernel
theorem ws_X12_deal : Cond.selects yX12_deal.cls yX12_deal yX12_deal ∈ lw_ok := (lw_okof 802 ql_802 rfl)
theorem kRL_123 : dnLV RL 123 4 10 yX12_deal cX12_deal 5 (some .int) := ⟨(lw_okof 800 ql_800 rfl), wi_X12_deal, ws_X12_deal, wn_KindGrids, wc_X12_deal, wd_X12_deal, by decide, _, rfl, rfl⟩
theorem wc_X13_deal : Cond.code yX13_deal cX13_deal 5 (some .int) ∈ lw_ok := (lw_okof 1795 ql_1795 rfl)
theorem wi_X13_deal : Cond.instanceMethod yX13_deal ∈ lw_ok := (lw_okof 1793 ql_1793 rfl)
theorem wd_X13_deal : yX13_deal.cls ≠ "java/lang/invoke/MethodHandle" ∧ yX13_deal.cls ≠ "java/lang/invoke/VarHandle" ∧ (parseMethodDescriptor yX13_deal.desc).map (fun d => d.parameters.length) = some 4 := by decide +kernel
theorem ws_X13_deal : Cond.selects yX13_deal.cls yX13_deal yX13_deal ∈ lw_ok := (lw_okof 1794 ql_1794 rfl)
theorem kRL_126 : dnLV RL 126 4 11 yX13_deal cX13_deal 5 (some .int) := ⟨(lw_okof 1792 ql_1792 rfl), wi_X13_deal, ws_X13_deal, wn_KindGridsModel, wc_X13_deal, wd_X13_deal, by decide, _, rfl, rfl⟩
theorem wc_X12_turn : Cond.code yX12_turn cX12_turn 3 (some .int) ∈ lw_ok := (lw_okof 821 ql_821 rfl)
theorem wi_X12_turn : Cond.instanceMethod yX12_turn ∈ lw_ok := (lw_okof 819 ql_819 rfl)
theorem wd_X12_turn : yX12_turn.cls ≠ "java/lang/invoke/MethodHandle" ∧ yX12_turn.cls ≠ "java/lang/invoke/VarHandle" ∧ (parseMethodDescriptor yX12_turn.desc).map (fun d => d.parameters.length) = some 2 := by decide +kernel
theorem ws_X12_turn : Cond.selects yX12_turn.cls yX12_turn yX12_turn ∈ lw_ok := (lw_okof 820 ql_820 rfl)
theorem kRL_127 : dnLV RL 127 2 10 yX12_turn cX12_turn 3 (some .int) := ⟨(lw_okof 818 ql_818 rfl), wi_X12_turn, ws_X12_turn, wn_KindGrids, wc_X12_turn, wd_X12_turn, by decide, _, rfl, rfl⟩
theorem wc_X13_turn : Cond.code yX13_turn cX13_turn 3 (some .int) ∈ lw_ok := (lw_okof 1807 ql_1807 rfl)
theorem wi_X13_turn : Cond.instanceMethod yX13_turn ∈ lw_ok := (lw_okof 1805 ql_1805 rfl)
theorem wd_X13_turn : yX13_turn.cls ≠ "java/lang/invoke/MethodHandle" ∧ yX13_turn.cls ≠ "java/lang/invoke/VarHandle" ∧ (parseMethodDescriptor yX13_turn.desc).map (fun d => d.parameters.length) = some 2 := by decide +kernel
theorem ws_X13_turn : Cond.selects yX13_turn.cls yX13_turn yX13_turn ∈ lw_ok := (lw_okof 1806 ql_1806 rfl)
theorem kRL_130 : dnLV RL 130 2 11 yX13_turn cX13_turn 3 (some .int) := ⟨(lw_okof 1804 ql_1804 rfl), wi_X13_turn, ws_X13_turn, wn_KindGridsModel, wc_X13_turn, wd_X13_turn, by decide, _, rfl, rfl⟩
theorem wc_X12_times : Cond.code yX12_times cX12_times 4 (some .int) ∈ lw_ok := (lw_okof 846 ql_846 rfl)
theorem wi_X12_times : Cond.instanceMethod yX12_times ∈ lw_ok := (lw_okof 844 ql_844 rfl)
theorem wd_X12_times : yX12_times.cls ≠ "java/lang/invoke/MethodHandle" ∧ yX12_times.cls ≠ "java/lang/invoke/VarHandle" ∧ (parseMethodDescriptor yX12_times.desc).map (fun d => d.parameters.length) = some 3 := by decide +kernel
theorem ws_X12_times : Cond.selects yX12_times.cls yX12_times yX12_times ∈ lw_ok := (lw_okof 845 ql_845 rfl)
theorem kRL_131 : dnLV RL 131 3 10 yX12_times cX12_times 4 (some .int) := ⟨(lw_okof 843 ql_843 rfl), wi_X12_times, ws_X12_times, wn_KindGrids, wc_X12_times, wd_X12_times, by decide, _, rfl, rfl⟩
theorem wc_X13_times : Cond.code yX13_times cX13_times 4 (some .int) ∈ lw_ok := (lw_okof 1827 ql_1827 rfl)
theorem wi_X13_times : Cond.instanceMethod yX13_times ∈ lw_ok := (lw_okof 1825 ql_1825 rfl)
theorem wd_X13_times : yX13_times.cls ≠ "java/lang/invoke/MethodHandle" ∧ yX13_times.cls ≠ "java/lang/invoke/VarHandle" ∧ (parseMethodDescriptor yX13_times.desc).map (fun d => d.parameters.length) = some 3 := by decide +kernel
theorem ws_X13_times : Cond.selects yX13_times.cls yX13_times yX13_times ∈ lw_ok := (lw_okof 1826 ql_1826 rfl)
theorem kRL_134 : dnLV RL 134 3 11 yX13_times cX13_times 4 (some .int) := ⟨(lw_okof 1824 ql_1824 rfl), wi_X13_times, ws_X13_times, wn_KindGridsModel, wc_X13_times, wd_X13_times, by decide, _, rfl, rfl⟩
theorem wc_X12_fold : Cond.code yX12_fold cX12_fold 6 (some .int) ∈ lw_ok := (lw_okof 863 ql_863 rfl)
theorem wi_X12_fold : Cond.instanceMethod yX12_fold ∈ lw_ok := (lw_okof 861 ql_861 rfl)
theorem wd_X12_fold : yX12_fold.cls ≠ "java/lang/invoke/MethodHandle" ∧ yX12_fold.cls ≠ "java/lang/invoke/VarHandle" ∧ (parseMethodDescriptor yX12_fold.desc).map (fun d => d.parameters.length) = some 5 := by decide +kernel
theorem ws_X12_fold : Cond.selects yX12_fold.cls yX12_fold yX12_fold ∈ lw_ok := (lw_okof 862 ql_862 rfl)
theorem kRL_135 : dnLV RL 135 5 10 yX12_fold cX12_fold 6 (some .int) := ⟨(lw_okof 860 ql_860 rfl), wi_X12_fold, ws_X12_fold, wn_KindGrids, wc_X12_fold, wd_X12_fold, by decide, _, rfl, rfl⟩
theorem wc_X13_fold : Cond.code yX13_fold cX13_fold 6 (some .int) ∈ lw_ok := (lw_okof 1843 ql_1843 rfl)
theorem wi_X13_fold : Cond.instanceMethod yX13_fold ∈ lw_ok := (lw_okof 1841 ql_1841 rfl)
theorem wd_X13_fold : yX13_fold.cls ≠ "java/lang/invoke/MethodHandle" ∧ yX13_fold.cls ≠ "java/lang/invoke/VarHandle" ∧ (parseMethodDescriptor yX13_fold.desc).map (fun d => d.parameters.length) = some 5 := by decide +kernel
theorem ws_X13_fold : Cond.selects yX13_fold.cls yX13_fold yX13_fold ∈ lw_ok := (lw_okof 1842 ql_1842 rfl)
theorem kRL_138 : dnLV RL 138 5 11 yX13_fold cX13_fold 6 (some .int) := ⟨(lw_okof 1840 ql_1840 rfl), wi_X13_fold, ws_X13_fold, wn_KindGridsModel, wc_X13_fold, wd_X13_fold, by decide, _, rfl, rfl⟩
theorem wc_X12_dot : Cond.code yX12_dot cX12_dot 6 (some .int) ∈ lw_ok := (lw_okof 909 ql_909 rfl)
theorem wi_X12_dot : Cond.instanceMethod yX12_dot ∈ lw_ok := (lw_okof 907 ql_907 rfl)
theorem wd_X12_dot : yX12_dot.cls ≠ "java/lang/invoke/MethodHandle" ∧ yX12_dot.cls ≠ "java/lang/invoke/VarHandle" ∧ (parseMethodDescriptor yX12_dot.desc).map (fun d => d.parameters.length) = some 5 := by decide +kernel
theorem ws_X12_dot : Cond.selects yX12_dot.cls yX12_dot yX12_dot ∈ lw_ok := (lw_okof 908 ql_908 rfl)
theorem kRL_139 : dnLV RL 139 5 10 yX12_dot cX12_dot 6 (some .int) := ⟨(lw_okof 906 ql_906 rfl), wi_X12_dot, ws_X12_dot, wn_KindGrids, wc_X12_dot, wd_X12_dot, by decide, _, rfl, rfl⟩
theorem wc_X13_dot : Cond.code yX13_dot cX13_dot 6 (some .int) ∈ lw_ok := (lw_okof 1869 ql_1869 rfl)
theorem wi_X13_dot : Cond.instanceMethod yX13_dot ∈ lw_ok := (lw_okof 1867 ql_1867 rfl)
theorem wd_X13_dot : yX13_dot.cls ≠ "java/lang/invoke/MethodHandle" ∧ yX13_dot.cls ≠ "java/lang/invoke/VarHandle" ∧ (parseMethodDescriptor yX13_dot.desc).map (fun d => d.parameters.length) = some 5 := by decide +kernel
theorem ws_X13_dot : Cond.selects yX13_dot.cls yX13_dot yX13_dot ∈ lw_ok := (lw_okof 1868 ql_1868 rfl)
theorem kRL_142 : dnLV RL 142 5 11 yX13_dot cX13_dot 6 (some .int) := ⟨(lw_okof 1866 ql_1866 rfl), wi_X13_dot, ws_X13_dot, wn_KindGridsModel, wc_X13_dot, wd_X13_dot, by decide, _, rfl, rfl⟩
theorem wc_X12_trail : Cond.code yX12_trail cX12_trail 2 (some .int) ∈ lw_ok := (lw_okof 919 ql_919 rfl)
theorem wi_X12_trail : Cond.instanceMethod yX12_trail ∈ lw_ok := (lw_okof 917 ql_917 rfl)
theorem wd_X12_trail : yX12_trail.cls ≠ "java/lang/invoke/MethodHandle" ∧ yX12_trail.cls ≠ "java/lang/invoke/VarHandle" ∧ (parseMethodDescriptor yX12_trail.desc).map (fun d => d.parameters.length) = some 1 := by decide +kernel
theorem ws_X12_trail : Cond.selects yX12_trail.cls yX12_trail yX12_trail ∈ lw_ok := (lw_okof 918 ql_918 rfl)
theorem kRL_143 : dnLV RL 143 1 10 yX12_trail cX12_trail 2 (some .int) := ⟨(lw_okof 916 ql_916 rfl), wi_X12_trail, ws_X12_trail, wn_KindGrids, wc_X12_trail, wd_X12_trail, by decide, _, rfl, rfl⟩
theorem wc_X13_trail : Cond.code yX13_trail cX13_trail 2 (some .int) ∈ lw_ok := (lw_okof 1877 ql_1877 rfl)
theorem wi_X13_trail : Cond.instanceMethod yX13_trail ∈ lw_ok := (lw_okof 1875 ql_1875 rfl)
theorem wd_X13_trail : yX13_trail.cls ≠ "java/lang/invoke/MethodHandle" ∧ yX13_trail.cls ≠ "java/lang/invoke/VarHandle" ∧ (parseMethodDescriptor yX13_trail.desc).map (fun d => d.parameters.length) = some 1 := by decide +kernel
theorem ws_X13_trail : Cond.selects yX13_trail.cls yX13_trail yX13_trail ∈ lw_ok := (lw_okof 1876 ql_1876 rfl)
theorem kRL_146 : dnLV RL 146 1 11 yX13_trail cX13_trail 2 (some .int) := ⟨(lw_okof 1874 ql_1874 rfl), wi_X13_trail, ws_X13_trail, wn_KindGridsModel, wc_X13_trail, wd_X13_trail, by decide, _, rfl, rfl⟩
theorem wc_X12_patch : Cond.code yX12_patch cX12_patch 4 (some .int) ∈ lw_ok := (lw_okof 950 ql_950 rfl)
theorem wi_X12_patch : Cond.instanceMethod yX12_patch ∈ lw_ok := (lw_okof 948 ql_948 rfl)
theorem wd_X12_patch : yX12_patch.cls ≠ "java/lang/invoke/MethodHandle" ∧ yX12_patch.cls ≠ "java/lang/invoke/VarHandle" ∧ (parseMethodDescriptor yX12_patch.desc).map (fun d => d.parameters.length) = some 3 := by decide +kernel
theorem ws_X12_patch : Cond.selects yX12_patch.cls yX12_patch yX12_patch ∈ lw_ok := (lw_okof 949 ql_949 rfl)
theorem kRL_147 : dnLV RL 147 3 10 yX12_patch cX12_patch 4 (some .int) := ⟨(lw_okof 947 ql_947 rfl), wi_X12_patch, ws_X12_patch, wn_KindGrids, wc_X12_patch, wd_X12_patch, by decide, _, rfl, rfl⟩
theorem wc_X13_patch : Cond.code yX13_patch cX13_patch 4 (some .int) ∈ lw_ok := (lw_okof 1889 ql_1889 rfl)
theorem wi_X13_patch : Cond.instanceMethod yX13_patch ∈ lw_ok := (lw_okof 1887 ql_1887 rfl)
theorem wd_X13_patch : yX13_patch.cls ≠ "java/lang/invoke/MethodHandle" ∧ yX13_patch.cls ≠ "java/lang/invoke/VarHandle" ∧ (parseMethodDescriptor yX13_patch.desc).map (fun d => d.parameters.length) = some 3 := by decide +kernel
theorem ws_X13_patch : Cond.selects yX13_patch.cls yX13_patch yX13_patch ∈ lw_ok := (lw_okof 1888 ql_1888 rfl)
theorem kRL_150 : dnLV RL 150 3 11 yX13_patch cX13_patch 4 (some .int) := ⟨(lw_okof 1886 ql_1886 rfl), wi_X13_patch, ws_X13_patch, wn_KindGridsModel, wc_X13_patch, wd_X13_patch, by decide, _, rfl, rfl⟩
theorem wc_X12_patches : Cond.code yX12_patches cX12_patches 2 (some .int) ∈ lw_ok := (lw_okof 976 ql_976 rfl)
theorem wi_X12_patches : Cond.instanceMethod yX12_patches ∈ lw_ok := (lw_okof 974 ql_974 rfl)
theorem wd_X12_patches : yX12_patches.cls ≠ "java/lang/invoke/MethodHandle" ∧ yX12_patches.cls ≠ "java/lang/invoke/VarHandle" ∧ (parseMethodDescriptor yX12_patches.desc).map (fun d => d.parameters.length) = some 1 := by decide +kernel
theorem ws_X12_patches : Cond.selects yX12_patches.cls yX12_patches yX12_patches ∈ lw_ok := (lw_okof 975 ql_975 rfl)
theorem kRL_151 : dnLV RL 151 1 10 yX12_patches cX12_patches 2 (some .int) := ⟨(lw_okof 973 ql_973 rfl), wi_X12_patches, ws_X12_patches, wn_KindGrids, wc_X12_patches, wd_X12_patches, by decide, _, rfl, rfl⟩
theorem wc_X13_patches : Cond.code yX13_patches cX13_patches 2 (some .int) ∈ lw_ok := (lw_okof 1918 ql_1918 rfl)
theorem wi_X13_patches : Cond.instanceMethod yX13_patches ∈ lw_ok := (lw_okof 1916 ql_1916 rfl)
theorem wd_X13_patches : yX13_patches.cls ≠ "java/lang/invoke/MethodHandle" ∧ yX13_patches.cls ≠ "java/lang/invoke/VarHandle" ∧ (parseMethodDescriptor yX13_patches.desc).map (fun d => d.parameters.length) = some 1 := by decide +kernel
theorem ws_X13_patches : Cond.selects yX13_patches.cls yX13_patches yX13_patches ∈ lw_ok := (lw_okof 1917 ql_1917 rfl)
theorem kRL_154 : dnLV RL 154 1 11 yX13_patches cX13_patches 2 (some .int) := ⟨(lw_okof 1915 ql_1915 rfl), wi_X13_patches, ws_X13_patches, wn_KindGridsModel, wc_X13_patches, wd_X13_patches, by decide, _, rfl, rfl⟩
theorem wc_X12_paint : Cond.code yX12_paint cX12_paint 7 (some .int) ∈ lw_ok := (lw_okof 987 ql_987 rfl)
theorem wi_X12_paint : Cond.instanceMethod yX12_paint ∈ lw_ok := (lw_okof 985 ql_985 rfl)
theorem wd_X12_paint : yX12_paint.cls ≠ "java/lang/invoke/MethodHandle" ∧ yX12_paint.cls ≠ "java/lang/invoke/VarHandle" ∧ (parseMethodDescriptor yX12_paint.desc).map (fun d => d.parameters.length) = some 5 := by decide +kernel
theorem ws_X12_paint : Cond.selects yX12_paint.cls yX12_paint yX12_paint ∈ lw_ok := (lw_okof 986 ql_986 rfl)
theorem kRL_155 : dnLV RL 155 5 10 yX12_paint cX12_paint 7 (some .int) := ⟨(lw_okof 984 ql_984 rfl), wi_X12_paint, ws_X12_paint, wn_KindGrids, wc_X12_paint, wd_X12_paint, by decide, _, rfl, rfl⟩
theorem wc_X13_paint : Cond.code yX13_paint cX13_paint 7 (some .int) ∈ lw_ok := (lw_okof 1926 ql_1926 rfl)
theorem wi_X13_paint : Cond.instanceMethod yX13_paint ∈ lw_ok := (lw_okof 1924 ql_1924 rfl)
theorem wd_X13_paint : yX13_paint.cls ≠ "java/lang/invoke/MethodHandle" ∧ yX13_paint.cls ≠ "java/lang/invoke/VarHandle" ∧ (parseMethodDescriptor yX13_paint.desc).map (fun d => d.parameters.length) = some 5 := by decide +kernel
theorem ws_X13_paint : Cond.selects yX13_paint.cls yX13_paint yX13_paint ∈ lw_ok := (lw_okof 1925 ql_1925 rfl)
theorem kRL_158 : dnLV RL 158 5 11 yX13_paint cX13_paint 7 (some .int) := ⟨(lw_okof 1923 ql_1923 rfl), wi_X13_paint, ws_X13_paint, wn_KindGridsModel, wc_X13_paint, wd_X13_paint, by decide, _, rfl, rfl⟩
theorem wc_X12_block : Cond.code yX12_block cX12_block 2 (some .int) ∈ lw_ok := (lw_okof 999 ql_999 rfl)
theorem wi_X12_block : Cond.instanceMethod yX12_block ∈ lw_ok := (lw_okof 997 ql_997 rfl)
theorem wd_X12_block : yX12_block.cls ≠ "java/lang/invoke/MethodHandle" ∧ yX12_block.cls ≠ "java/lang/invoke/VarHandle" ∧ (parseMethodDescriptor yX12_block.desc).map (fun d => d.parameters.length) = some 1 := by decide +kernel
theorem ws_X12_block : Cond.selects yX12_block.cls yX12_block yX12_block ∈ lw_ok := (lw_okof 998 ql_998 rfl)
theorem kRL_159 : dnLV RL 159 1 10 yX12_block cX12_block 2 (some .int) := ⟨(lw_okof 996 ql_996 rfl), wi_X12_block, ws_X12_block, wn_KindGrids, wc_X12_block, wd_X12_block, by decide, _, rfl, rfl⟩
theorem wc_X13_block : Cond.code yX13_block cX13_block 2 (some .int) ∈ lw_ok := (lw_okof 1934 ql_1934 rfl)
theorem wi_X13_block : Cond.instanceMethod yX13_block ∈ lw_ok := (lw_okof 1932 ql_1932 rfl)
theorem wd_X13_block : yX13_block.cls ≠ "java/lang/invoke/MethodHandle" ∧ yX13_block.cls ≠ "java/lang/invoke/VarHandle" ∧ (parseMethodDescriptor yX13_block.desc).map (fun d => d.parameters.length) = some 1 := by decide +kernel
theorem ws_X13_block : Cond.selects yX13_block.cls yX13_block yX13_block ∈ lw_ok := (lw_okof 1933 ql_1933 rfl)
theorem kRL_162 : dnLV RL 162 1 11 yX13_block cX13_block 2 (some .int) := ⟨(lw_okof 1931 ql_1931 rfl), wi_X13_block, ws_X13_block, wn_KindGridsModel, wc_X13_block, wd_X13_block, by decide, _, rfl, rfl⟩
theorem wc_X12_lies : Cond.code yX12_lies cX12_lies 4 (some .int) ∈ lw_ok := (lw_okof 1015 ql_1015 rfl)
theorem wi_X12_lies : Cond.instanceMethod yX12_lies ∈ lw_ok := (lw_okof 1013 ql_1013 rfl)
theorem wd_X12_lies : yX12_lies.cls ≠ "java/lang/invoke/MethodHandle" ∧ yX12_lies.cls ≠ "java/lang/invoke/VarHandle" ∧ (parseMethodDescriptor yX12_lies.desc).map (fun d => d.parameters.length) = some 3 := by decide +kernel
theorem ws_X12_lies : Cond.selects yX12_lies.cls yX12_lies yX12_lies ∈ lw_ok := (lw_okof 1014 ql_1014 rfl)
theorem kRL_163 : dnLV RL 163 3 10 yX12_lies cX12_lies 4 (some .int) := ⟨(lw_okof 1012 ql_1012 rfl), wi_X12_lies, ws_X12_lies, wn_KindGrids, wc_X12_lies, wd_X12_lies, by decide, _, rfl, rfl⟩
theorem wc_X13_lies : Cond.code yX13_lies cX13_lies 4 (some .int) ∈ lw_ok := (lw_okof 1947 ql_1947 rfl)
theorem wi_X13_lies : Cond.instanceMethod yX13_lies ∈ lw_ok := (lw_okof 1945 ql_1945 rfl)
theorem wd_X13_lies : yX13_lies.cls ≠ "java/lang/invoke/MethodHandle" ∧ yX13_lies.cls ≠ "java/lang/invoke/VarHandle" ∧ (parseMethodDescriptor yX13_lies.desc).map (fun d => d.parameters.length) = some 3 := by decide +kernel
theorem ws_X13_lies : Cond.selects yX13_lies.cls yX13_lies yX13_lies ∈ lw_ok := (lw_okof 1946 ql_1946 rfl)
theorem kRL_166 : dnLV RL 166 3 11 yX13_lies cX13_lies 4 (some .int) := ⟨(lw_okof 1944 ql_1944 rfl), wi_X13_lies, ws_X13_lies, wn_KindGridsModel, wc_X13_lies, wd_X13_lies, by decide, _, rfl, rfl⟩
theorem wc_X12_type : Cond.code yX12_type cX12_type 2 (some .int) ∈ lw_ok := (lw_okof 1033 ql_1033 rfl)
theorem wi_X12_type : Cond.instanceMethod yX12_type ∈ lw_ok := (lw_okof 1031 ql_1031 rfl)
theorem wd_X12_type : yX12_type.cls ≠ "java/lang/invoke/MethodHandle" ∧ yX12_type.cls ≠ "java/lang/invoke/VarHandle" ∧ (parseMethodDescriptor yX12_type.desc).map (fun d => d.parameters.length) = some 1 := by decide +kernel
theorem ws_X12_type : Cond.selects yX12_type.cls yX12_type yX12_type ∈ lw_ok := (lw_okof 1032 ql_1032 rfl)
theorem kRL_167 : dnLV RL 167 1 10 yX12_type cX12_type 2 (some .int) := ⟨(lw_okof 1030 ql_1030 rfl), wi_X12_type, ws_X12_type, wn_KindGrids, wc_X12_type, wd_X12_type, by decide, _, rfl, rfl⟩
theorem wc_X13_type : Cond.code yX13_type cX13_type 2 (some .int) ∈ lw_ok := (lw_okof 1979 ql_1979 rfl)
theorem wi_X13_type : Cond.instanceMethod yX13_type ∈ lw_ok := (lw_okof 1977 ql_1977 rfl)
theorem wd_X13_type : yX13_type.cls ≠ "java/lang/invoke/MethodHandle" ∧ yX13_type.cls ≠ "java/lang/invoke/VarHandle" ∧ (parseMethodDescriptor yX13_type.desc).map (fun d => d.parameters.length) = some 1 := by decide +kernel
theorem ws_X13_type : Cond.selects yX13_type.cls yX13_type yX13_type ∈ lw_ok := (lw_okof 1978 ql_1978 rfl)
theorem kRL_170 : dnLV RL 170 1 11 yX13_type cX13_type 2 (some .int) := ⟨(lw_okof 1976 ql_1976 rfl), wi_X13_type, ws_X13_type, wn_KindGridsModel, wc_X13_type, wd_X13_type, by decide, _, rfl, rfl⟩
theorem wc_X12_clear : Cond.code yX12_clear cX12_clear 1 (some .int) ∈ lw_ok := (lw_okof 1041 ql_1041 rfl)
theorem wi_X12_clear : Cond.instanceMethod yX12_clear ∈ lw_ok := (lw_okof 1039 ql_1039 rfl)
theorem wd_X12_clear : yX12_clear.cls ≠ "java/lang/invoke/MethodHandle" ∧ yX12_clear.cls ≠ "java/lang/invoke/VarHandle" ∧ (parseMethodDescriptor yX12_clear.desc).map (fun d => d.parameters.length) = some 0 := by decide +kernel
theorem ws_X12_clear : Cond.selects yX12_clear.cls yX12_clear yX12_clear ∈ lw_ok := (lw_okof 1040 ql_1040 rfl)
theorem kRL_171 : dnLV RL 171 0 10 yX12_clear cX12_clear 1 (some .int) := ⟨(lw_okof 1038 ql_1038 rfl), wi_X12_clear, ws_X12_clear, wn_KindGrids, wc_X12_clear, wd_X12_clear, by decide, _, rfl, rfl⟩
theorem wc_X13_clear : Cond.code yX13_clear cX13_clear 2 (some .int) ∈ lw_ok := (lw_okof 1983 ql_1983 rfl)
theorem wi_X13_clear : Cond.instanceMethod yX13_clear ∈ lw_ok := (lw_okof 1981 ql_1981 rfl)
theorem wd_X13_clear : yX13_clear.cls ≠ "java/lang/invoke/MethodHandle" ∧ yX13_clear.cls ≠ "java/lang/invoke/VarHandle" ∧ (parseMethodDescriptor yX13_clear.desc).map (fun d => d.parameters.length) = some 0 := by decide +kernel
theorem ws_X13_clear : Cond.selects yX13_clear.cls yX13_clear yX13_clear ∈ lw_ok := (lw_okof 1982 ql_1982 rfl)
theorem kRL_175 : dnLV RL 175 0 11 yX13_clear cX13_clear 2 (some .int) := ⟨(lw_okof 1980 ql_1980 rfl), wi_X13_clear, ws_X13_clear, wn_KindGridsModel, wc_X13_clear, wd_X13_clear, by decide, _, rfl, rfl⟩
theorem wc_X12_plan : Cond.code yX12_plan cX12_plan 4 (some .int) ∈ lw_ok := (lw_okof 1049 ql_1049 rfl)
theorem wi_X12_plan : Cond.instanceMethod yX12_plan ∈ lw_ok := (lw_okof 1047 ql_1047 rfl)
theorem wd_X12_plan : yX12_plan.cls ≠ "java/lang/invoke/MethodHandle" ∧ yX12_plan.cls ≠ "java/lang/invoke/VarHandle" ∧ (parseMethodDescriptor yX12_plan.desc).map (fun d => d.parameters.length) = some 0 := by decide +kernel
theorem ws_X12_plan : Cond.selects yX12_plan.cls yX12_plan yX12_plan ∈ lw_ok := (lw_okof 1048 ql_1048 rfl)
theorem kRL_176 : dnLV RL 176 0 10 yX12_plan cX12_plan 4 (some .int) := ⟨(lw_okof 1046 ql_1046 rfl), wi_X12_plan, ws_X12_plan, wn_KindGrids, wc_X12_plan, wd_X12_plan, by decide, _, rfl, rfl⟩
theorem wc_X13_plan : Cond.code yX13_plan cX13_plan 1 (some .int) ∈ lw_ok := (lw_okof 1987 ql_1987 rfl)
theorem wi_X13_plan : Cond.instanceMethod yX13_plan ∈ lw_ok := (lw_okof 1985 ql_1985 rfl)
theorem wd_X13_plan : yX13_plan.cls ≠ "java/lang/invoke/MethodHandle" ∧ yX13_plan.cls ≠ "java/lang/invoke/VarHandle" ∧ (parseMethodDescriptor yX13_plan.desc).map (fun d => d.parameters.length) = some 0 := by decide +kernel
theorem ws_X13_plan : Cond.selects yX13_plan.cls yX13_plan yX13_plan ∈ lw_ok := (lw_okof 1986 ql_1986 rfl)
theorem kRL_179 : dnLV RL 179 0 11 yX13_plan cX13_plan 1 (some .int) := ⟨(lw_okof 1984 ql_1984 rfl), wi_X13_plan, ws_X13_plan, wn_KindGridsModel, wc_X13_plan, wd_X13_plan, by decide, _, rfl, rfl⟩
theorem wc_X12_least : Cond.code yX12_least cX12_least 3 (some .int) ∈ lw_ok := (lw_okof 1161 ql_1161 rfl)
theorem wi_X12_least : Cond.instanceMethod yX12_least ∈ lw_ok := (lw_okof 1159 ql_1159 rfl)
theorem wd_X12_least : yX12_least.cls ≠ "java/lang/invoke/MethodHandle" ∧ yX12_least.cls ≠ "java/lang/invoke/VarHandle" ∧ (parseMethodDescriptor yX12_least.desc).map (fun d => d.parameters.length) = some 2 := by decide +kernel
theorem ws_X12_least : Cond.selects yX12_least.cls yX12_least yX12_least ∈ lw_ok := (lw_okof 1160 ql_1160 rfl)
theorem kRL_180 : dnLV RL 180 2 10 yX12_least cX12_least 3 (some .int) := ⟨(lw_okof 1158 ql_1158 rfl), wi_X12_least, ws_X12_least, wn_KindGrids, wc_X12_least, wd_X12_least, by decide, _, rfl, rfl⟩
theorem wc_X13_least : Cond.code yX13_least cX13_least 3 (some .int) ∈ lw_ok := (lw_okof 2043 ql_2043 rfl)
theorem wi_X13_least : Cond.instanceMethod yX13_least ∈ lw_ok := (lw_okof 2041 ql_2041 rfl)
theorem wd_X13_least : yX13_least.cls ≠ "java/lang/invoke/MethodHandle" ∧ yX13_least.cls ≠ "java/lang/invoke/VarHandle" ∧ (parseMethodDescriptor yX13_least.desc).map (fun d => d.parameters.length) = some 2 := by decide +kernel
theorem ws_X13_least : Cond.selects yX13_least.cls yX13_least yX13_least ∈ lw_ok := (lw_okof 2042 ql_2042 rfl)
theorem kRL_183 : dnLV RL 183 2 11 yX13_least cX13_least 3 (some .int) := ⟨(lw_okof 2040 ql_2040 rfl), wi_X13_least, ws_X13_least, wn_KindGridsModel, wc_X13_least, wd_X13_least, by decide, _, rfl, rfl⟩
theorem wc_X12_fits : Cond.code yX12_fits cX12_fits 3 (some .int) ∈ lw_ok := (lw_okof 1167 ql_1167 rfl)
theorem wi_X12_fits : Cond.instanceMethod yX12_fits ∈ lw_ok := (lw_okof 1165 ql_1165 rfl)
theorem wd_X12_fits : yX12_fits.cls ≠ "java/lang/invoke/MethodHandle" ∧ yX12_fits.cls ≠ "java/lang/invoke/VarHandle" ∧ (parseMethodDescriptor yX12_fits.desc).map (fun d => d.parameters.length) = some 2 := by decide +kernel
theorem ws_X12_fits : Cond.selects yX12_fits.cls yX12_fits yX12_fits ∈ lw_ok := (lw_okof 1166 ql_1166 rfl)
theorem kRL_184 : dnLV RL 184 2 10 yX12_fits cX12_fits 3 (some .int) := ⟨(lw_okof 1164 ql_1164 rfl), wi_X12_fits, ws_X12_fits, wn_KindGrids, wc_X12_fits, wd_X12_fits, by decide, _, rfl, rfl⟩
theorem wc_X13_fits : Cond.code yX13_fits cX13_fits 3 (some .int) ∈ lw_ok := (lw_okof 2047 ql_2047 rfl)
theorem wi_X13_fits : Cond.instanceMethod yX13_fits ∈ lw_ok := (lw_okof 2045 ql_2045 rfl)
theorem wd_X13_fits : yX13_fits.cls ≠ "java/lang/invoke/MethodHandle" ∧ yX13_fits.cls ≠ "java/lang/invoke/VarHandle" ∧ (parseMethodDescriptor yX13_fits.desc).map (fun d => d.parameters.length) = some 2 := by decide +kernel
theorem ws_X13_fits : Cond.selects yX13_fits.cls yX13_fits yX13_fits ∈ lw_ok := (lw_okof 2046 ql_2046 rfl)
theorem kRL_187 : dnLV RL 187 2 11 yX13_fits cX13_fits 3 (some .int) := ⟨(lw_okof 2044 ql_2044 rfl), wi_X13_fits, ws_X13_fits, wn_KindGridsModel, wc_X13_fits, wd_X13_fits, by decide, _, rfl, rfl⟩
theorem wc_X12_sees : Cond.code yX12_sees cX12_sees 3 (some .int) ∈ lw_ok := (lw_okof 1178 ql_1178 rfl)
theorem wi_X12_sees : Cond.instanceMethod yX12_sees ∈ lw_ok := (lw_okof 1176 ql_1176 rfl)
theorem wd_X12_sees : yX12_sees.cls ≠ "java/lang/invoke/MethodHandle" ∧ yX12_sees.cls ≠ "java/lang/invoke/VarHandle" ∧ (parseMethodDescriptor yX12_sees.desc).map (fun d => d.parameters.length) = some 2 := by decide +kernel
theorem ws_X12_sees : Cond.selects yX12_sees.cls yX12_sees yX12_sees ∈ lw_ok := (lw_okof 1177 ql_1177 rfl)
theorem kRL_188 : dnLV RL 188 2 10 yX12_sees cX12_sees 3 (some .int) := ⟨(lw_okof 1175 ql_1175 rfl), wi_X12_sees, ws_X12_sees, wn_KindGrids, wc_X12_sees, wd_X12_sees, by decide, _, rfl, rfl⟩
theorem wc_X13_sees : Cond.code yX13_sees cX13_sees 3 (some .int) ∈ lw_ok := (lw_okof 2054 ql_2054 rfl)
theorem wi_X13_sees : Cond.instanceMethod yX13_sees ∈ lw_ok := (lw_okof 2052 ql_2052 rfl)
theorem wd_X13_sees : yX13_sees.cls ≠ "java/lang/invoke/MethodHandle" ∧ yX13_sees.cls ≠ "java/lang/invoke/VarHandle" ∧ (parseMethodDescriptor yX13_sees.desc).map (fun d => d.parameters.length) = some 2 := by decide +kernel
theorem ws_X13_sees : Cond.selects yX13_sees.cls yX13_sees yX13_sees ∈ lw_ok := (lw_okof 2053 ql_2053 rfl)
theorem kRL_191 : dnLV RL 191 2 11 yX13_sees cX13_sees 3 (some .int) := ⟨(lw_okof 2051 ql_2051 rfl), wi_X13_sees, ws_X13_sees, wn_KindGridsModel, wc_X13_sees, wd_X13_sees, by decide, _, rfl, rfl⟩
theorem wc_X12_forget : Cond.code yX12_forget cX12_forget 1 (some .int) ∈ lw_ok := (lw_okof 1187 ql_1187 rfl)
theorem wi_X12_forget : Cond.instanceMethod yX12_forget ∈ lw_ok := (lw_okof 1185 ql_1185 rfl)
theorem wd_X12_forget : yX12_forget.cls ≠ "java/lang/invoke/MethodHandle" ∧ yX12_forget.cls ≠ "java/lang/invoke/VarHandle" ∧ (parseMethodDescriptor yX12_forget.desc).map (fun d => d.parameters.length) = some 0 := by decide +kernel
theorem ws_X12_forget : Cond.selects yX12_forget.cls yX12_forget yX12_forget ∈ lw_ok := (lw_okof 1186 ql_1186 rfl)
theorem kRL_192 : dnLV RL 192 0 10 yX12_forget cX12_forget 1 (some .int) := ⟨(lw_okof 1184 ql_1184 rfl), wi_X12_forget, ws_X12_forget, wn_KindGrids, wc_X12_forget, wd_X12_forget, by decide, _, rfl, rfl⟩
theorem wc_X13_forget : Cond.code yX13_forget cX13_forget 2 (some .int) ∈ lw_ok := (lw_okof 2058 ql_2058 rfl)
theorem wi_X13_forget : Cond.instanceMethod yX13_forget ∈ lw_ok := (lw_okof 2056 ql_2056 rfl)
theorem wd_X13_forget : yX13_forget.cls ≠ "java/lang/invoke/MethodHandle" ∧ yX13_forget.cls ≠ "java/lang/invoke/VarHandle" ∧ (parseMethodDescriptor yX13_forget.desc).map (fun d => d.parameters.length) = some 0 := by decide +kernel
theorem ws_X13_forget : Cond.selects yX13_forget.cls yX13_forget yX13_forget ∈ lw_ok := (lw_okof 2057 ql_2057 rfl)
theorem kRL_195 : dnLV RL 195 0 11 yX13_forget cX13_forget 2 (some .int) := ⟨(lw_okof 2055 ql_2055 rfl), wi_X13_forget, ws_X13_forget, wn_KindGridsModel, wc_X13_forget, wd_X13_forget, by decide, _, rfl, rfl⟩
theorem wc_X12_left : Cond.code yX12_left cX12_left 1 (some .int) ∈ lw_ok := (lw_okof 1195 ql_1195 rfl)
theorem wi_X12_left : Cond.instanceMethod yX12_left ∈ lw_ok := (lw_okof 1193 ql_1193 rfl)
theorem wd_X12_left : yX12_left.cls ≠ "java/lang/invoke/MethodHandle" ∧ yX12_left.cls ≠ "java/lang/invoke/VarHandle" ∧ (parseMethodDescriptor yX12_left.desc).map (fun d => d.parameters.length) = some 0 := by decide +kernel
theorem ws_X12_left : Cond.selects yX12_left.cls yX12_left yX12_left ∈ lw_ok := (lw_okof 1194 ql_1194 rfl)
theorem kRL_196 : dnLV RL 196 0 10 yX12_left cX12_left 1 (some .int) := ⟨(lw_okof 1192 ql_1192 rfl), wi_X12_left, ws_X12_left, wn_KindGrids, wc_X12_left, wd_X12_left, by decide, _, rfl, rfl⟩
theorem wc_X13_left : Cond.code yX13_left cX13_left 1 (some .int) ∈ lw_ok := (lw_okof 2062 ql_2062 rfl)
theorem wi_X13_left : Cond.instanceMethod yX13_left ∈ lw_ok := (lw_okof 2060 ql_2060 rfl)
theorem wd_X13_left : yX13_left.cls ≠ "java/lang/invoke/MethodHandle" ∧ yX13_left.cls ≠ "java/lang/invoke/VarHandle" ∧ (parseMethodDescriptor yX13_left.desc).map (fun d => d.parameters.length) = some 0 := by decide +kernel
theorem ws_X13_left : Cond.selects yX13_left.cls yX13_left yX13_left ∈ lw_ok := (lw_okof 2061 ql_2061 rfl)
theorem kRL_199 : dnLV RL 199 0 11 yX13_left cX13_left 1 (some .int) := ⟨(lw_okof 2059 ql_2059 rfl), wi_X13_left, ws_X13_left, wn_KindGridsModel, wc_X13_left, wd_X13_left, by decide, _, rfl, rfl⟩
theorem wc_X12_next : Cond.code yX12_next cX12_next 1 (some .int) ∈ lw_ok := (lw_okof 1208 ql_1208 rfl)
theorem wi_X12_next : Cond.instanceMethod yX12_next ∈ lw_ok := (lw_okof 1206 ql_1206 rfl)
theorem wd_X12_next : yX12_next.cls ≠ "java/lang/invoke/MethodHandle" ∧ yX12_next.cls ≠ "java/lang/invoke/VarHandle" ∧ (parseMethodDescriptor yX12_next.desc).map (fun d => d.parameters.length) = some 0 := by decide +kernel
theorem ws_X12_next : Cond.selects yX12_next.cls yX12_next yX12_next ∈ lw_ok := (lw_okof 1207 ql_1207 rfl)
theorem kRL_200 : dnLV RL 200 0 10 yX12_next cX12_next 1 (some .int) := ⟨(lw_okof 1205 ql_1205 rfl), wi_X12_next, ws_X12_next, wn_KindGrids, wc_X12_next, wd_X12_next, by decide, _, rfl, rfl⟩
theorem wc_X13_next : Cond.code yX13_next cX13_next 8 (some .int) ∈ lw_ok := (lw_okof 2070 ql_2070 rfl)
theorem wi_X13_next : Cond.instanceMethod yX13_next ∈ lw_ok := (lw_okof 2068 ql_2068 rfl)
theorem wd_X13_next : yX13_next.cls ≠ "java/lang/invoke/MethodHandle" ∧ yX13_next.cls ≠ "java/lang/invoke/VarHandle" ∧ (parseMethodDescriptor yX13_next.desc).map (fun d => d.parameters.length) = some 0 := by decide +kernel
theorem ws_X13_next : Cond.selects yX13_next.cls yX13_next yX13_next ∈ lw_ok := (lw_okof 2069 ql_2069 rfl)
theorem kRL_203 : dnLV RL 203 0 11 yX13_next cX13_next 8 (some .int) := ⟨(lw_okof 2067 ql_2067 rfl), wi_X13_next, ws_X13_next, wn_KindGridsModel, wc_X13_next, wd_X13_next, by decide, _, rfl, rfl⟩
theorem wc_X12_keep : Cond.code yX12_keep cX12_keep 2 (some .int) ∈ lw_ok := (lw_okof 1227 ql_1227 rfl)
theorem wi_X12_keep : Cond.instanceMethod yX12_keep ∈ lw_ok := (lw_okof 1225 ql_1225 rfl)
theorem wd_X12_keep : yX12_keep.cls ≠ "java/lang/invoke/MethodHandle" ∧ yX12_keep.cls ≠ "java/lang/invoke/VarHandle" ∧ (parseMethodDescriptor yX12_keep.desc).map (fun d => d.parameters.length) = some 1 := by decide +kernel
theorem ws_X12_keep : Cond.selects yX12_keep.cls yX12_keep yX12_keep ∈ lw_ok := (lw_okof 1226 ql_1226 rfl)
theorem kRL_204 : dnLV RL 204 1 10 yX12_keep cX12_keep 2 (some .int) := ⟨(lw_okof 1224 ql_1224 rfl), wi_X12_keep, ws_X12_keep, wn_KindGrids, wc_X12_keep, wd_X12_keep, by decide, _, rfl, rfl⟩
theorem wc_X13_keep : Cond.code yX13_keep cX13_keep 2 (some .int) ∈ lw_ok := (lw_okof 1959 ql_1959 rfl)
theorem wi_X13_keep : Cond.instanceMethod yX13_keep ∈ lw_ok := (lw_okof 1957 ql_1957 rfl)
theorem wd_X13_keep : yX13_keep.cls ≠ "java/lang/invoke/MethodHandle" ∧ yX13_keep.cls ≠ "java/lang/invoke/VarHandle" ∧ (parseMethodDescriptor yX13_keep.desc).map (fun d => d.parameters.length) = some 1 := by decide +kernel
theorem ws_X13_keep : Cond.selects yX13_keep.cls yX13_keep yX13_keep ∈ lw_ok := (lw_okof 1958 ql_1958 rfl)
theorem kRL_207 : dnLV RL 207 1 11 yX13_keep cX13_keep 2 (some .int) := ⟨(lw_okof 1956 ql_1956 rfl), wi_X13_keep, ws_X13_keep, wn_KindGridsModel, wc_X13_keep, wd_X13_keep, by decide, _, rfl, rfl⟩
theorem wc_X12_back : Cond.code yX12_back cX12_back 2 (some .int) ∈ lw_ok := (lw_okof 1238 ql_1238 rfl)
theorem wi_X12_back : Cond.instanceMethod yX12_back ∈ lw_ok := (lw_okof 1236 ql_1236 rfl)
theorem wd_X12_back : yX12_back.cls ≠ "java/lang/invoke/MethodHandle" ∧ yX12_back.cls ≠ "java/lang/invoke/VarHandle" ∧ (parseMethodDescriptor yX12_back.desc).map (fun d => d.parameters.length) = some 1 := by decide +kernel
theorem ws_X12_back : Cond.selects yX12_back.cls yX12_back yX12_back ∈ lw_ok := (lw_okof 1237 ql_1237 rfl)
theorem kRL_208 : dnLV RL 208 1 10 yX12_back cX12_back 2 (some .int) := ⟨(lw_okof 1235 ql_1235 rfl), wi_X12_back, ws_X12_back, wn_KindGrids, wc_X12_back, wd_X12_back, by decide, _, rfl, rfl⟩
theorem wc_X13_back : Cond.code yX13_back cX13_back 2 (some .int) ∈ lw_ok := (lw_okof 1971 ql_1971 rfl)
theorem wi_X13_back : Cond.instanceMethod yX13_back ∈ lw_ok := (lw_okof 1969 ql_1969 rfl)
theorem wd_X13_back : yX13_back.cls ≠ "java/lang/invoke/MethodHandle" ∧ yX13_back.cls ≠ "java/lang/invoke/VarHandle" ∧ (parseMethodDescriptor yX13_back.desc).map (fun d => d.parameters.length) = some 1 := by decide +kernel
theorem ws_X13_back : Cond.selects yX13_back.cls yX13_back yX13_back ∈ lw_ok := (lw_okof 1970 ql_1970 rfl)
theorem kRL_211 : dnLV RL 211 1 11 yX13_back cX13_back 2 (some .int) := ⟨(lw_okof 1968 ql_1968 rfl), wi_X13_back, ws_X13_back, wn_KindGridsModel, wc_X13_back, wd_X13_back, by decide, _, rfl, rfl⟩
theorem wc_X12_told : Cond.code yX12_told cX12_told 1 (some .long) ∈ lw_ok := (lw_okof 1242 ql_1242 rfl)
theorem wi_X12_told : Cond.instanceMethod yX12_told ∈ lw_ok := (lw_okof 1240 ql_1240 rfl)
theorem wd_X12_told : yX12_told.cls ≠ "java/lang/invoke/MethodHandle" ∧ yX12_told.cls ≠ "java/lang/invoke/VarHandle" ∧ (parseMethodDescriptor yX12_told.desc).map (fun d => d.parameters.length) = some 0 := by decide +kernel
theorem ws_X12_told : Cond.selects yX12_told.cls yX12_told yX12_told ∈ lw_ok := (lw_okof 1241 ql_1241 rfl)
theorem kRL_212 : dnLV RL 212 0 10 yX12_told cX12_told 1 (some .long) := ⟨(lw_okof 1239 ql_1239 rfl), wi_X12_told, ws_X12_told, wn_KindGrids, wc_X12_told, wd_X12_told, by decide, _, rfl, rfl⟩
theorem wc_X13_told : Cond.code yX13_told cX13_told 1 (some .long) ∈ lw_ok := (lw_okof 2074 ql_2074 rfl)
theorem wi_X13_told : Cond.instanceMethod yX13_told ∈ lw_ok := (lw_okof 2072 ql_2072 rfl)
theorem wd_X13_told : yX13_told.cls ≠ "java/lang/invoke/MethodHandle" ∧ yX13_told.cls ≠ "java/lang/invoke/VarHandle" ∧ (parseMethodDescriptor yX13_told.desc).map (fun d => d.parameters.length) = some 0 := by decide +kernel
theorem ws_X13_told : Cond.selects yX13_told.cls yX13_told yX13_told ∈ lw_ok := (lw_okof 2073 ql_2073 rfl)
theorem kRL_216 : dnLV RL 216 0 11 yX13_told cX13_told 1 (some .long) := ⟨(lw_okof 2071 ql_2071 rfl), wi_X13_told, ws_X13_told, wn_KindGridsModel, wc_X13_told, wd_X13_told, by decide, _, rfl, rfl⟩
theorem wc_X12_first : Cond.code yX12_first cX12_first 1 (some .int) ∈ lw_ok := (lw_okof 1246 ql_1246 rfl)
theorem wi_X12_first : Cond.instanceMethod yX12_first ∈ lw_ok := (lw_okof 1244 ql_1244 rfl)
theorem wd_X12_first : yX12_first.cls ≠ "java/lang/invoke/MethodHandle" ∧ yX12_first.cls ≠ "java/lang/invoke/VarHandle" ∧ (parseMethodDescriptor yX12_first.desc).map (fun d => d.parameters.length) = some 0 := by decide +kernel
theorem ws_X12_first : Cond.selects yX12_first.cls yX12_first yX12_first ∈ lw_ok := (lw_okof 1245 ql_1245 rfl)
theorem kRL_217 : dnLV RL 217 0 10 yX12_first cX12_first 1 (some .int) := ⟨(lw_okof 1243 ql_1243 rfl), wi_X12_first, ws_X12_first, wn_KindGrids, wc_X12_first, wd_X12_first, by decide, _, rfl, rfl⟩
theorem wc_X13_first : Cond.code yX13_first cX13_first 1 (some .int) ∈ lw_ok := (lw_okof 2078 ql_2078 rfl)
theorem wi_X13_first : Cond.instanceMethod yX13_first ∈ lw_ok := (lw_okof 2076 ql_2076 rfl)
theorem wd_X13_first : yX13_first.cls ≠ "java/lang/invoke/MethodHandle" ∧ yX13_first.cls ≠ "java/lang/invoke/VarHandle" ∧ (parseMethodDescriptor yX13_first.desc).map (fun d => d.parameters.length) = some 0 := by decide +kernel
theorem ws_X13_first : Cond.selects yX13_first.cls yX13_first yX13_first ∈ lw_ok := (lw_okof 2077 ql_2077 rfl)
theorem kRL_220 : dnLV RL 220 0 11 yX13_first cX13_first 1 (some .int) := ⟨(lw_okof 2075 ql_2075 rfl), wi_X13_first, ws_X13_first, wn_KindGridsModel, wc_X13_first, wd_X13_first, by decide, _, rfl, rfl⟩
theorem wc_X12_passed : Cond.code yX12_passed cX12_passed 1 (some .int) ∈ lw_ok := (lw_okof 1250 ql_1250 rfl)
theorem wi_X12_passed : Cond.instanceMethod yX12_passed ∈ lw_ok := (lw_okof 1248 ql_1248 rfl)
theorem wd_X12_passed : yX12_passed.cls ≠ "java/lang/invoke/MethodHandle" ∧ yX12_passed.cls ≠ "java/lang/invoke/VarHandle" ∧ (parseMethodDescriptor yX12_passed.desc).map (fun d => d.parameters.length) = some 0 := by decide +kernel
theorem ws_X12_passed : Cond.selects yX12_passed.cls yX12_passed yX12_passed ∈ lw_ok := (lw_okof 1249 ql_1249 rfl)
theorem kRL_221 : dnLV RL 221 0 10 yX12_passed cX12_passed 1 (some .int) := ⟨(lw_okof 1247 ql_1247 rfl), wi_X12_passed, ws_X12_passed, wn_KindGrids, wc_X12_passed, wd_X12_passed, by decide, _, rfl, rfl⟩
theorem wc_X13_passed : Cond.code yX13_passed cX13_passed 1 (some .int) ∈ lw_ok := (lw_okof 2082 ql_2082 rfl)
theorem wi_X13_passed : Cond.instanceMethod yX13_passed ∈ lw_ok := (lw_okof 2080 ql_2080 rfl)
theorem wd_X13_passed : yX13_passed.cls ≠ "java/lang/invoke/MethodHandle" ∧ yX13_passed.cls ≠ "java/lang/invoke/VarHandle" ∧ (parseMethodDescriptor yX13_passed.desc).map (fun d => d.parameters.length) = some 0 := by decide +kernel
theorem ws_X13_passed : Cond.selects yX13_passed.cls yX13_passed yX13_passed ∈ lw_ok := (lw_okof 2081 ql_2081 rfl)
theorem kRL_224 : dnLV RL 224 0 11 yX13_passed cX13_passed 1 (some .int) := ⟨(lw_okof 2079 ql_2079 rfl), wi_X13_passed, ws_X13_passed, wn_KindGridsModel, wc_X13_passed, wd_X13_passed, by decide, _, rfl, rfl⟩
theorem wc_X12_refusals : Cond.code yX12_refusals cX12_refusals 2 (some .int) ∈ lw_ok := (lw_okof 1254 ql_1254 rfl)
theorem wi_X12_refusals : Cond.instanceMethod yX12_refusals ∈ lw_ok := (lw_okof 1252 ql_1252 rfl)
theorem wd_X12_refusals : yX12_refusals.cls ≠ "java/lang/invoke/MethodHandle" ∧ yX12_refusals.cls ≠ "java/lang/invoke/VarHandle" ∧ (parseMethodDescriptor yX12_refusals.desc).map (fun d => d.parameters.length) = some 1 := by decide +kernel
theorem ws_X12_refusals : Cond.selects yX12_refusals.cls yX12_refusals yX12_refusals ∈ lw_ok := (lw_okof 1253 ql_1253 rfl)
theorem kRL_225 : dnLV RL 225 1 10 yX12_refusals cX12_refusals 2 (some .int) := ⟨(lw_okof 1251 ql_1251 rfl), wi_X12_refusals, ws_X12_refusals, wn_KindGrids, wc_X12_refusals, wd_X12_refusals, by decide, _, rfl, rfl⟩
theorem wc_X13_refusals : Cond.code yX13_refusals cX13_refusals 2 (some .int) ∈ lw_ok := (lw_okof 2086 ql_2086 rfl)
theorem wi_X13_refusals : Cond.instanceMethod yX13_refusals ∈ lw_ok := (lw_okof 2084 ql_2084 rfl)
theorem wd_X13_refusals : yX13_refusals.cls ≠ "java/lang/invoke/MethodHandle" ∧ yX13_refusals.cls ≠ "java/lang/invoke/VarHandle" ∧ (parseMethodDescriptor yX13_refusals.desc).map (fun d => d.parameters.length) = some 1 := by decide +kernel
theorem ws_X13_refusals : Cond.selects yX13_refusals.cls yX13_refusals yX13_refusals ∈ lw_ok := (lw_okof 2085 ql_2085 rfl)
theorem kRL_228 : dnLV RL 228 1 11 yX13_refusals cX13_refusals 2 (some .int) := ⟨(lw_okof 2083 ql_2083 rfl), wi_X13_refusals, ws_X13_refusals, wn_KindGridsModel, wc_X13_refusals, wd_X13_refusals, by decide, _, rfl, rfl⟩
theorem wc_X12_count : Cond.code yX12_count cX12_count 2 (some .int) ∈ lw_ok := (lw_okof 1258 ql_1258 rfl)
theorem wi_X12_count : Cond.instanceMethod yX12_count ∈ lw_ok := (lw_okof 1256 ql_1256 rfl)
theorem wd_X12_count : yX12_count.cls ≠ "java/lang/invoke/MethodHandle" ∧ yX12_count.cls ≠ "java/lang/invoke/VarHandle" ∧ (parseMethodDescriptor yX12_count.desc).map (fun d => d.parameters.length) = some 1 := by decide +kernel
theorem ws_X12_count : Cond.selects yX12_count.cls yX12_count yX12_count ∈ lw_ok := (lw_okof 1257 ql_1257 rfl)
theorem kRL_229 : dnLV RL 229 1 10 yX12_count cX12_count 2 (some .int) := ⟨(lw_okof 1255 ql_1255 rfl), wi_X12_count, ws_X12_count, wn_KindGrids, wc_X12_count, wd_X12_count, by decide, _, rfl, rfl⟩
theorem wc_X13_count : Cond.code yX13_count cX13_count 2 (some .int) ∈ lw_ok := (lw_okof 2090 ql_2090 rfl)
theorem wi_X13_count : Cond.instanceMethod yX13_count ∈ lw_ok := (lw_okof 2088 ql_2088 rfl)
theorem wd_X13_count : yX13_count.cls ≠ "java/lang/invoke/MethodHandle" ∧ yX13_count.cls ≠ "java/lang/invoke/VarHandle" ∧ (parseMethodDescriptor yX13_count.desc).map (fun d => d.parameters.length) = some 1 := by decide +kernel
theorem ws_X13_count : Cond.selects yX13_count.cls yX13_count yX13_count ∈ lw_ok := (lw_okof 2089 ql_2089 rfl)
theorem kRL_232 : dnLV RL 232 1 11 yX13_count cX13_count 2 (some .int) := ⟨(lw_okof 2087 ql_2087 rfl), wi_X13_count, ws_X13_count, wn_KindGridsModel, wc_X13_count, wd_X13_count, by decide, _, rfl, rfl⟩
theorem wc_X12_kinds : Cond.code yX12_kinds cX12_kinds 2 (some .int) ∈ lw_ok := (lw_okof 1278 ql_1278 rfl)
theorem wi_X12_kinds : Cond.instanceMethod yX12_kinds ∈ lw_ok := (lw_okof 1276 ql_1276 rfl)
theorem wd_X12_kinds : yX12_kinds.cls ≠ "java/lang/invoke/MethodHandle" ∧ yX12_kinds.cls ≠ "java/lang/invoke/VarHandle" ∧ (parseMethodDescriptor yX12_kinds.desc).map (fun d => d.parameters.length) = some 1 := by decide +kernel
theorem ws_X12_kinds : Cond.selects yX12_kinds.cls yX12_kinds yX12_kinds ∈ lw_ok := (lw_okof 1277 ql_1277 rfl)
theorem kRL_233 : dnLV RL 233 1 10 yX12_kinds cX12_kinds 2 (some .int) := ⟨(lw_okof 1275 ql_1275 rfl), wi_X12_kinds, ws_X12_kinds, wn_KindGrids, wc_X12_kinds, wd_X12_kinds, by decide, _, rfl, rfl⟩
theorem wc_X13_kinds : Cond.code yX13_kinds cX13_kinds 4 (some .int) ∈ lw_ok := (lw_okof 2110 ql_2110 rfl)
theorem wi_X13_kinds : Cond.instanceMethod yX13_kinds ∈ lw_ok := (lw_okof 2108 ql_2108 rfl)
theorem wd_X13_kinds : yX13_kinds.cls ≠ "java/lang/invoke/MethodHandle" ∧ yX13_kinds.cls ≠ "java/lang/invoke/VarHandle" ∧ (parseMethodDescriptor yX13_kinds.desc).map (fun d => d.parameters.length) = some 1 := by decide +kernel
theorem ws_X13_kinds : Cond.selects yX13_kinds.cls yX13_kinds yX13_kinds ∈ lw_ok := (lw_okof 2109 ql_2109 rfl)
theorem kRL_236 : dnLV RL 236 1 11 yX13_kinds cX13_kinds 4 (some .int) := ⟨(lw_okof 2107 ql_2107 rfl), wi_X13_kinds, ws_X13_kinds, wn_KindGridsModel, wc_X13_kinds, wd_X13_kinds, by decide, _, rfl, rfl⟩
theorem wc_X12_digest : Cond.code yX12_digest cX12_digest 1 (some .long) ∈ lw_ok := (lw_okof 1286 ql_1286 rfl)
theorem wi_X12_digest : Cond.instanceMethod yX12_digest ∈ lw_ok := (lw_okof 1284 ql_1284 rfl)
theorem wd_X12_digest : yX12_digest.cls ≠ "java/lang/invoke/MethodHandle" ∧ yX12_digest.cls ≠ "java/lang/invoke/VarHandle" ∧ (parseMethodDescriptor yX12_digest.desc).map (fun d => d.parameters.length) = some 0 := by decide +kernel
theorem ws_X12_digest : Cond.selects yX12_digest.cls yX12_digest yX12_digest ∈ lw_ok := (lw_okof 1285 ql_1285 rfl)
theorem kRL_237 : dnLV RL 237 0 10 yX12_digest cX12_digest 1 (some .long) := ⟨(lw_okof 1283 ql_1283 rfl), wi_X12_digest, ws_X12_digest, wn_KindGrids, wc_X12_digest, wd_X12_digest, by decide, _, rfl, rfl⟩
theorem wc_X13_digest : Cond.code yX13_digest cX13_digest 5 (some .long) ∈ lw_ok := (lw_okof 2114 ql_2114 rfl)
theorem wi_X13_digest : Cond.instanceMethod yX13_digest ∈ lw_ok := (lw_okof 2112 ql_2112 rfl)
theorem wd_X13_digest : yX13_digest.cls ≠ "java/lang/invoke/MethodHandle" ∧ yX13_digest.cls ≠ "java/lang/invoke/VarHandle" ∧ (parseMethodDescriptor yX13_digest.desc).map (fun d => d.parameters.length) = some 0 := by decide +kernel
theorem ws_X13_digest : Cond.selects yX13_digest.cls yX13_digest yX13_digest ∈ lw_ok := (lw_okof 2113 ql_2113 rfl)
theorem kRL_240 : dnLV RL 240 0 11 yX13_digest cX13_digest 5 (some .long) := ⟨(lw_okof 2111 ql_2111 rfl), wi_X13_digest, ws_X13_digest, wn_KindGridsModel, wc_X13_digest, wd_X13_digest, by decide, _, rfl, rfl⟩
