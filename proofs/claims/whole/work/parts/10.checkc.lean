set_option maxRecDepth 100000 in
theorem kX12_sum : mX12_sum.2.2.2.2.2.all (i_ckb mX12_sum) = true := by decide +kernel
set_option maxRecDepth 100000 in
theorem kX12_compared : mX12_compared.2.2.2.2.2.all (i_ckb mX12_compared) = true := by decide +kernel
set_option maxRecDepth 100000 in
theorem kX12_top : mX12_top.2.2.2.2.2.all (i_ckb mX12_top) = true := by decide +kernel
set_option maxRecDepth 100000 in
theorem kX12_opens : mX12_opens.2.2.2.2.2.all (i_ckb mX12_opens) = true := by decide +kernel
set_option maxRecDepth 100000 in
theorem kX12_answers : mX12_answers.2.2.2.2.2.all (i_ckb mX12_answers) = true := by decide +kernel
set_option maxRecDepth 100000 in
theorem kX12_fact : mX12_fact.2.2.2.2.2.all (i_ckb mX12_fact) = true := by decide +kernel
set_option maxRecDepth 100000 in
theorem kX12_test : mX12_test.2.2.2.2.2.all (i_ckb mX12_test) = true := by decide +kernel
set_option maxRecDepth 100000 in
theorem kX12_amount : mX12_amount.2.2.2.2.2.all (i_ckb mX12_amount) = true := by decide +kernel
set_option maxRecDepth 100000 in
theorem kX12_courtWord : mX12_courtWord.2.2.2.2.2.all (i_ckb mX12_courtWord) = true := by decide +kernel
set_option maxRecDepth 100000 in
theorem kX12_quarrelPart : mX12_quarrelPart.2.2.2.2.2.all (i_ckb mX12_quarrelPart) = true := by decide +kernel
set_option maxRecDepth 100000 in
theorem kX12_courtPart : mX12_courtPart.2.2.2.2.2.all (i_ckb mX12_courtPart) = true := by decide +kernel
set_option maxRecDepth 100000 in
theorem kX12_isFull : mX12_isFull.2.2.2.2.2.all (i_ckb mX12_isFull) = true := by decide +kernel
set_option maxRecDepth 100000 in
theorem kX12_courtClause : mX12_courtClause.2.2.2.2.2.all (i_ckb mX12_courtClause) = true := by decide +kernel
set_option maxRecDepth 100000 in
theorem kX12_copies : mX12_copies.2.2.2.2.2.all (i_ckb mX12_copies) = true := by decide +kernel
set_option maxRecDepth 100000 in
theorem kX12_goesOn : mX12_goesOn.2.2.2.2.2.all (i_ckb mX12_goesOn) = true := by decide +kernel
set_option maxRecDepth 100000 in
theorem kX12_starts : mX12_starts.2.2.2.2.2.all (i_ckb mX12_starts) = true := by decide +kernel
set_option maxRecDepth 100000 in
theorem kX12_readsAll : mX12_readsAll.2.2.2.2.2.all (i_ckb mX12_readsAll) = true := by decide +kernel
set_option maxRecDepth 100000 in
theorem kX12_begins : mX12_begins.2.2.2.2.2.all (i_ckb mX12_begins) = true := by decide +kernel
set_option maxRecDepth 100000 in
theorem kX12_court : mX12_court.2.2.2.2.2.all (i_ckb mX12_court) = true := by decide +kernel
set_option maxRecDepth 100000 in
theorem kX12_ruleClause : mX12_ruleClause.2.2.2.2.2.all (i_ckb mX12_ruleClause) = true := by decide +kernel
set_option maxRecDepth 100000 in
theorem kX12_rule : mX12_rule.2.2.2.2.2.all (i_ckb mX12_rule) = true := by decide +kernel
set_option maxRecDepth 100000 in
theorem kX12_force : mX12_force.2.2.2.2.2.all (i_ckb mX12_force) = true := by decide +kernel
set_option maxRecDepth 100000 in
theorem kX12_wanted : mX12_wanted.2.2.2.2.2.all (i_ckb mX12_wanted) = true := by decide +kernel
set_option maxRecDepth 100000 in
theorem kX12_truth : mX12_truth.2.2.2.2.2.all (i_ckb mX12_truth) = true := by decide +kernel
set_option maxRecDepth 100000 in
theorem kX12_both : mX12_both.2.2.2.2.2.all (i_ckb mX12_both) = true := by decide +kernel
set_option maxRecDepth 100000 in
theorem kX12_answer : mX12_answer.2.2.2.2.2.all (i_ckb mX12_answer) = true := by decide +kernel
set_option maxRecDepth 100000 in
theorem kX12_knightsOf : mX12_knightsOf.2.2.2.2.2.all (i_ckb mX12_knightsOf) = true := by decide +kernel
set_option maxRecDepth 100000 in
theorem kX12_thing : mX12_thing.2.2.2.2.2.all (i_ckb mX12_thing) = true := by decide +kernel
set_option maxRecDepth 100000 in
theorem kX12_usual : mX12_usual.2.2.2.2.2.all (i_ckb mX12_usual) = true := by decide +kernel
set_option maxRecDepth 100000 in
theorem kX12_rankOf : mX12_rankOf.2.2.2.2.2.all (i_ckb mX12_rankOf) = true := by decide +kernel
set_option maxRecDepth 100000 in
theorem kX12_person : mX12_person.2.2.2.2.2.all (i_ckb mX12_person) = true := by decide +kernel
set_option maxRecDepth 100000 in
theorem kX12_knights : mX12_knights.2.2.2.2.2.all (i_ckb mX12_knights) = true := by decide +kernel
set_option maxRecDepth 100000 in
theorem kX12_sumOf : mX12_sumOf.2.2.2.2.2.all (i_ckb mX12_sumOf) = true := by decide +kernel
set_option maxRecDepth 100000 in
theorem kX12_holds : mX12_holds.2.2.2.2.2.all (i_ckb mX12_holds) = true := by decide +kernel
set_option maxRecDepth 100000 in
theorem kX12_upTo : mX12_upTo.2.2.2.2.2.all (i_ckb mX12_upTo) = true := by decide +kernel
set_option maxRecDepth 100000 in
theorem kX12_goes : mX12_goes.2.2.2.2.2.all (i_ckb mX12_goes) = true := by decide +kernel
set_option maxRecDepth 100000 in
theorem kX12_goFor : mX12_goFor.2.2.2.2.2.all (i_ckb mX12_goFor) = true := by decide +kernel
set_option maxRecDepth 100000 in
theorem kX12_moves : mX12_moves.2.2.2.2.2.all (i_ckb mX12_moves) = true := by decide +kernel
set_option maxRecDepth 100000 in
theorem kX12_movesRow : mX12_movesRow.2.2.2.2.2.all (i_ckb mX12_movesRow) = true := by decide +kernel
set_option maxRecDepth 100000 in
theorem kX12_movesAll : mX12_movesAll.2.2.2.2.2.all (i_ckb mX12_movesAll) = true := by decide +kernel
set_option maxRecDepth 100000 in
theorem kX12_keepsAct : mX12_keepsAct.2.2.2.2.2.all (i_ckb mX12_keepsAct) = true := by decide +kernel
set_option maxRecDepth 100000 in
theorem kX12_undo : mX12_undo.2.2.2.2.2.all (i_ckb mX12_undo) = true := by decide +kernel
set_option maxRecDepth 100000 in
theorem kX12_hour : mX12_hour.2.2.2.2.2.all (i_ckb mX12_hour) = true := by decide +kernel
set_option maxRecDepth 100000 in
theorem kX12_deed : mX12_deed.2.2.2.2.2.all (i_ckb mX12_deed) = true := by decide +kernel
set_option maxRecDepth 100000 in
theorem kX12_slight : mX12_slight.2.2.2.2.2.all (i_ckb mX12_slight) = true := by decide +kernel
set_option maxRecDepth 100000 in
theorem kX12_tray : mX12_tray.2.2.2.2.2.all (i_ckb mX12_tray) = true := by decide +kernel
set_option maxRecDepth 100000 in
theorem kX12_gloves : mX12_gloves.2.2.2.2.2.all (i_ckb mX12_gloves) = true := by decide +kernel
set_option maxRecDepth 100000 in
theorem kX12_strip : mX12_strip.2.2.2.2.2.all (i_ckb mX12_strip) = true := by decide +kernel
set_option maxRecDepth 100000 in
theorem kX12_keepsAll : mX12_keepsAll.2.2.2.2.2.all (i_ckb mX12_keepsAll) = true := by decide +kernel
set_option maxRecDepth 100000 in
theorem kX12_laysBack : mX12_laysBack.2.2.2.2.2.all (i_ckb mX12_laysBack) = true := by decide +kernel
set_option maxRecDepth 100000 in
theorem kX12_ahead : mX12_ahead.2.2.2.2.2.all (i_ckb mX12_ahead) = true := by decide +kernel
set_option maxRecDepth 100000 in
theorem kX12_dubbed : mX12_dubbed.2.2.2.2.2.all (i_ckb mX12_dubbed) = true := by decide +kernel
set_option maxRecDepth 100000 in
theorem kX12_least : mX12_least.2.2.2.2.2.all (i_ckb mX12_least) = true := by decide +kernel
set_option maxRecDepth 100000 in
theorem kX12_isSpared : mX12_isSpared.2.2.2.2.2.all (i_ckb mX12_isSpared) = true := by decide +kernel
set_option maxRecDepth 100000 in
theorem kX12_spare : mX12_spare.2.2.2.2.2.all (i_ckb mX12_spare) = true := by decide +kernel
set_option maxRecDepth 100000 in
theorem kX12_lay : mX12_lay.2.2.2.2.2.all (i_ckb mX12_lay) = true := by decide +kernel
set_option maxRecDepth 100000 in
theorem kX12_held : mX12_held.2.2.2.2.2.all (i_ckb mX12_held) = true := by decide +kernel
set_option maxRecDepth 100000 in
theorem kX12_place : mX12_place.2.2.2.2.2.all (i_ckb mX12_place) = true := by decide +kernel
set_option maxRecDepth 100000 in
theorem kX12_quarrel : mX12_quarrel.2.2.2.2.2.all (i_ckb mX12_quarrel) = true := by decide +kernel
