set_option maxRecDepth 100000 in
theorem kX12_isPeace : mX12_isPeace.2.2.2.2.2.all (i_ckb mX12_isPeace) = true := by decide +kernel
set_option maxRecDepth 100000 in
theorem kX12_stripped : mX12_stripped.2.2.2.2.2.all (i_ckb mX12_stripped) = true := by decide +kernel
set_option maxRecDepth 100000 in
theorem kX12_gold : mX12_gold.2.2.2.2.2.all (i_ckb mX12_gold) = true := by decide +kernel
set_option maxRecDepth 100000 in
theorem kX12_laysDeeds : mX12_laysDeeds.2.2.2.2.2.all (i_ckb mX12_laysDeeds) = true := by decide +kernel
set_option maxRecDepth 100000 in
theorem kX12_isRest : mX12_isRest.2.2.2.2.2.all (i_ckb mX12_isRest) = true := by decide +kernel
set_option maxRecDepth 100000 in
theorem kX12_rests : mX12_rests.2.2.2.2.2.all (i_ckb mX12_rests) = true := by decide +kernel
set_option maxRecDepth 100000 in
theorem kX12_laysCourse : mX12_laysCourse.2.2.2.2.2.all (i_ckb mX12_laysCourse) = true := by decide +kernel
set_option maxRecDepth 100000 in
theorem kX12_areAlike : mX12_areAlike.2.2.2.2.2.all (i_ckb mX12_areAlike) = true := by decide +kernel
set_option maxRecDepth 100000 in
theorem kX12_ring : mX12_ring.2.2.2.2.2.all (i_ckb mX12_ring) = true := by decide +kernel
set_option maxRecDepth 100000 in
theorem kX12_note : mX12_note.2.2.2.2.2.all (i_ckb mX12_note) = true := by decide +kernel
set_option maxRecDepth 100000 in
theorem kX12_couldRule : mX12_couldRule.2.2.2.2.2.all (i_ckb mX12_couldRule) = true := by decide +kernel
set_option maxRecDepth 100000 in
theorem kX12_ruled : mX12_ruled.2.2.2.2.2.all (i_ckb mX12_ruled) = true := by decide +kernel
set_option maxRecDepth 100000 in
theorem kX12_mostAlike : mX12_mostAlike.2.2.2.2.2.all (i_ckb mX12_mostAlike) = true := by decide +kernel
set_option maxRecDepth 100000 in
theorem kX12_look : mX12_look.2.2.2.2.2.all (i_ckb mX12_look) = true := by decide +kernel
set_option maxRecDepth 100000 in
theorem kX12_seed : mX12_seed.2.2.2.2.2.all (i_ckb mX12_seed) = true := by decide +kernel
set_option maxRecDepth 100000 in
theorem kX12_draws : mX12_draws.2.2.2.2.2.all (i_ckb mX12_draws) = true := by decide +kernel
set_option maxRecDepth 100000 in
theorem kX12_allRank : mX12_allRank.2.2.2.2.2.all (i_ckb mX12_allRank) = true := by decide +kernel
set_option maxRecDepth 100000 in
theorem kX12_years : mX12_years.2.2.2.2.2.all (i_ckb mX12_years) = true := by decide +kernel
set_option maxRecDepth 100000 in
theorem kX12_count : mX12_count.2.2.2.2.2.all (i_ckb mX12_count) = true := by decide +kernel
set_option maxRecDepth 100000 in
theorem kX12_carryRow : mX12_carryRow.2.2.2.2.2.all (i_ckb mX12_carryRow) = true := by decide +kernel
set_option maxRecDepth 100000 in
theorem kX12_carriesAll : mX12_carriesAll.2.2.2.2.2.all (i_ckb mX12_carriesAll) = true := by decide +kernel
set_option maxRecDepth 100000 in
theorem kX12_image : mX12_image.2.2.2.2.2.all (i_ckb mX12_image) = true := by decide +kernel
set_option maxRecDepth 100000 in
theorem kX12_back : mX12_back.2.2.2.2.2.all (i_ckb mX12_back) = true := by decide +kernel
set_option maxRecDepth 100000 in
theorem kJ6_bitCount_0f7a4 : mJ6_bitCount_0f7a4.2.2.2.2.2.all (i_ckb mJ6_bitCount_0f7a4) = true := by decide +kernel
set_option maxRecDepth 100000 in
theorem kJ7_fill_53178 : mJ7_fill_53178.2.2.2.2.2.all (i_ckb mJ7_fill_53178) = true := by decide +kernel
set_option maxRecDepth 100000 in
theorem kJ7_copyOf_59c91 : mJ7_copyOf_59c91.2.2.2.2.2.all (i_ckb mJ7_copyOf_59c91) = true := by decide +kernel
