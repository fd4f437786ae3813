set_option maxRecDepth 100000 in
theorem kX8_readFact : mX8_readFact.2.2.2.2.2.all (i_ckb mX8_readFact) = true := by decide +kernel
set_option maxRecDepth 100000 in
theorem kX8_readComparing : mX8_readComparing.2.2.2.2.2.all (i_ckb mX8_readComparing) = true := by decide +kernel
set_option maxRecDepth 100000 in
theorem kX8_readSum : mX8_readSum.2.2.2.2.2.all (i_ckb mX8_readSum) = true := by decide +kernel
set_option maxRecDepth 100000 in
theorem kX8_readValue : mX8_readValue.2.2.2.2.2.all (i_ckb mX8_readValue) = true := by decide +kernel
set_option maxRecDepth 100000 in
theorem kX8_countPart : mX8_countPart.2.2.2.2.2.all (i_ckb mX8_countPart) = true := by decide +kernel
set_option maxRecDepth 100000 in
theorem kX8_write : mX8_write.2.2.2.2.2.all (i_ckb mX8_write) = true := by decide +kernel
set_option maxRecDepth 100000 in
theorem kX9_init : mX9_init.2.2.2.2.2.all (i_ckb mX9_init) = true := by decide +kernel
set_option maxRecDepth 100000 in
theorem kX9_append : mX9_append.2.2.2.2.2.all (i_ckb mX9_append) = true := by decide +kernel
set_option maxRecDepth 100000 in
theorem kX9_rewind : mX9_rewind.2.2.2.2.2.all (i_ckb mX9_rewind) = true := by decide +kernel
set_option maxRecDepth 100000 in
theorem kX9_refuse : mX9_refuse.2.2.2.2.2.all (i_ckb mX9_refuse) = true := by decide +kernel
set_option maxRecDepth 100000 in
theorem kX9_sign : mX9_sign.2.2.2.2.2.all (i_ckb mX9_sign) = true := by decide +kernel
set_option maxRecDepth 100000 in
theorem kX9_takeSign : mX9_takeSign.2.2.2.2.2.all (i_ckb mX9_takeSign) = true := by decide +kernel
set_option maxRecDepth 100000 in
theorem kX9_number : mX9_number.2.2.2.2.2.all (i_ckb mX9_number) = true := by decide +kernel
set_option maxRecDepth 100000 in
theorem kX9_wordIn : mX9_wordIn.2.2.2.2.2.all (i_ckb mX9_wordIn) = true := by decide +kernel
set_option maxRecDepth 100000 in
theorem kX9_takeWord : mX9_takeWord.2.2.2.2.2.all (i_ckb mX9_takeWord) = true := by decide +kernel
set_option maxRecDepth 100000 in
theorem kX9_skipWord : mX9_skipWord.2.2.2.2.2.all (i_ckb mX9_skipWord) = true := by decide +kernel
set_option maxRecDepth 100000 in
theorem kX9_wordEnd : mX9_wordEnd.2.2.2.2.2.all (i_ckb mX9_wordEnd) = true := by decide +kernel
set_option maxRecDepth 100000 in
theorem kX9_isHere : mX9_isHere.2.2.2.2.2.all (i_ckb mX9_isHere) = true := by decide +kernel
set_option maxRecDepth 100000 in
theorem kX10_init : mX10_init.2.2.2.2.2.all (i_ckb mX10_init) = true := by decide +kernel
set_option maxRecDepth 100000 in
theorem kX10_remember : mX10_remember.2.2.2.2.2.all (i_ckb mX10_remember) = true := by decide +kernel
set_option maxRecDepth 100000 in
theorem kX10_takeBack : mX10_takeBack.2.2.2.2.2.all (i_ckb mX10_takeBack) = true := by decide +kernel
set_option maxRecDepth 100000 in
theorem kX10_copyFrom : mX10_copyFrom.2.2.2.2.2.all (i_ckb mX10_copyFrom) = true := by decide +kernel
set_option maxRecDepth 100000 in
theorem kX11_init : mX11_init.2.2.2.2.2.all (i_ckb mX11_init) = true := by decide +kernel
set_option maxRecDepth 100000 in
theorem kX11_feed : mX11_feed.2.2.2.2.2.all (i_ckb mX11_feed) = true := by decide +kernel
set_option maxRecDepth 100000 in
theorem kX11_end : mX11_end.2.2.2.2.2.all (i_ckb mX11_end) = true := by decide +kernel
set_option maxRecDepth 100000 in
theorem kX11_court : mX11_court.2.2.2.2.2.all (i_ckb mX11_court) = true := by decide +kernel
set_option maxRecDepth 100000 in
theorem kX11_rule : mX11_rule.2.2.2.2.2.all (i_ckb mX11_rule) = true := by decide +kernel
set_option maxRecDepth 100000 in
theorem kX11_force : mX11_force.2.2.2.2.2.all (i_ckb mX11_force) = true := by decide +kernel
set_option maxRecDepth 100000 in
theorem kX11_thing : mX11_thing.2.2.2.2.2.all (i_ckb mX11_thing) = true := by decide +kernel
set_option maxRecDepth 100000 in
theorem kX11_usual : mX11_usual.2.2.2.2.2.all (i_ckb mX11_usual) = true := by decide +kernel
set_option maxRecDepth 100000 in
theorem kX11_person : mX11_person.2.2.2.2.2.all (i_ckb mX11_person) = true := by decide +kernel
set_option maxRecDepth 100000 in
theorem kX11_hour : mX11_hour.2.2.2.2.2.all (i_ckb mX11_hour) = true := by decide +kernel
set_option maxRecDepth 100000 in
theorem kX11_deed : mX11_deed.2.2.2.2.2.all (i_ckb mX11_deed) = true := by decide +kernel
set_option maxRecDepth 100000 in
theorem kX11_slight : mX11_slight.2.2.2.2.2.all (i_ckb mX11_slight) = true := by decide +kernel
set_option maxRecDepth 100000 in
theorem kX11_tray : mX11_tray.2.2.2.2.2.all (i_ckb mX11_tray) = true := by decide +kernel
set_option maxRecDepth 100000 in
theorem kX11_gloves : mX11_gloves.2.2.2.2.2.all (i_ckb mX11_gloves) = true := by decide +kernel
set_option maxRecDepth 100000 in
theorem kX11_strip : mX11_strip.2.2.2.2.2.all (i_ckb mX11_strip) = true := by decide +kernel
set_option maxRecDepth 100000 in
theorem kX11_undo : mX11_undo.2.2.2.2.2.all (i_ckb mX11_undo) = true := by decide +kernel
set_option maxRecDepth 100000 in
theorem kX11_ahead : mX11_ahead.2.2.2.2.2.all (i_ckb mX11_ahead) = true := by decide +kernel
set_option maxRecDepth 100000 in
theorem kX11_dubbed : mX11_dubbed.2.2.2.2.2.all (i_ckb mX11_dubbed) = true := by decide +kernel
set_option maxRecDepth 100000 in
theorem kX11_least : mX11_least.2.2.2.2.2.all (i_ckb mX11_least) = true := by decide +kernel
set_option maxRecDepth 100000 in
theorem kX11_spare : mX11_spare.2.2.2.2.2.all (i_ckb mX11_spare) = true := by decide +kernel
set_option maxRecDepth 100000 in
theorem kX11_lay : mX11_lay.2.2.2.2.2.all (i_ckb mX11_lay) = true := by decide +kernel
set_option maxRecDepth 100000 in
theorem kX11_held : mX11_held.2.2.2.2.2.all (i_ckb mX11_held) = true := by decide +kernel
set_option maxRecDepth 100000 in
theorem kX11_place : mX11_place.2.2.2.2.2.all (i_ckb mX11_place) = true := by decide +kernel
set_option maxRecDepth 100000 in
theorem kX11_stripped : mX11_stripped.2.2.2.2.2.all (i_ckb mX11_stripped) = true := by decide +kernel
set_option maxRecDepth 100000 in
theorem kX11_gold : mX11_gold.2.2.2.2.2.all (i_ckb mX11_gold) = true := by decide +kernel
set_option maxRecDepth 100000 in
theorem kX11_rests : mX11_rests.2.2.2.2.2.all (i_ckb mX11_rests) = true := by decide +kernel
set_option maxRecDepth 100000 in
theorem kX11_ring : mX11_ring.2.2.2.2.2.all (i_ckb mX11_ring) = true := by decide +kernel
set_option maxRecDepth 100000 in
theorem kX11_note : mX11_note.2.2.2.2.2.all (i_ckb mX11_note) = true := by decide +kernel
set_option maxRecDepth 100000 in
theorem kX11_ruled : mX11_ruled.2.2.2.2.2.all (i_ckb mX11_ruled) = true := by decide +kernel
set_option maxRecDepth 100000 in
theorem kX11_look : mX11_look.2.2.2.2.2.all (i_ckb mX11_look) = true := by decide +kernel
set_option maxRecDepth 100000 in
theorem kX11_seed : mX11_seed.2.2.2.2.2.all (i_ckb mX11_seed) = true := by decide +kernel
set_option maxRecDepth 100000 in
theorem kX11_years : mX11_years.2.2.2.2.2.all (i_ckb mX11_years) = true := by decide +kernel
set_option maxRecDepth 100000 in
theorem kX11_count : mX11_count.2.2.2.2.2.all (i_ckb mX11_count) = true := by decide +kernel
set_option maxRecDepth 100000 in
theorem kX11_image : mX11_image.2.2.2.2.2.all (i_ckb mX11_image) = true := by decide +kernel
set_option maxRecDepth 100000 in
theorem kX11_back : mX11_back.2.2.2.2.2.all (i_ckb mX11_back) = true := by decide +kernel
set_option maxRecDepth 100000 in
theorem kX11_isWithin : mX11_isWithin.2.2.2.2.2.all (i_ckb mX11_isWithin) = true := by decide +kernel
set_option maxRecDepth 100000 in
theorem kX12_init : mX12_init.2.2.2.2.2.all (i_ckb mX12_init) = true := by decide +kernel
set_option maxRecDepth 100000 in
theorem kX12_in : mX12_in.2.2.2.2.2.all (i_ckb mX12_in) = true := by decide +kernel
set_option maxRecDepth 100000 in
theorem kX12_bits : mX12_bits.2.2.2.2.2.all (i_ckb mX12_bits) = true := by decide +kernel
set_option maxRecDepth 100000 in
theorem kX12_has : mX12_has.2.2.2.2.2.all (i_ckb mX12_has) = true := by decide +kernel
set_option maxRecDepth 100000 in
theorem kX12_isCourt : mX12_isCourt.2.2.2.2.2.all (i_ckb mX12_isCourt) = true := by decide +kernel
set_option maxRecDepth 100000 in
theorem kX12_isThing : mX12_isThing.2.2.2.2.2.all (i_ckb mX12_isThing) = true := by decide +kernel
set_option maxRecDepth 100000 in
theorem kX12_isPerson : mX12_isPerson.2.2.2.2.2.all (i_ckb mX12_isPerson) = true := by decide +kernel
set_option maxRecDepth 100000 in
theorem kX12_feed : mX12_feed.2.2.2.2.2.all (i_ckb mX12_feed) = true := by decide +kernel
set_option maxRecDepth 100000 in
theorem kX12_put : mX12_put.2.2.2.2.2.all (i_ckb mX12_put) = true := by decide +kernel
set_option maxRecDepth 100000 in
theorem kX12_end : mX12_end.2.2.2.2.2.all (i_ckb mX12_end) = true := by decide +kernel
set_option maxRecDepth 100000 in
theorem kX12_wordOf : mX12_wordOf.2.2.2.2.2.all (i_ckb mX12_wordOf) = true := by decide +kernel
set_option maxRecDepth 100000 in
theorem kX12_fails : mX12_fails.2.2.2.2.2.all (i_ckb mX12_fails) = true := by decide +kernel
set_option maxRecDepth 100000 in
theorem kX12_sign : mX12_sign.2.2.2.2.2.all (i_ckb mX12_sign) = true := by decide +kernel
set_option maxRecDepth 100000 in
theorem kX12_blanks : mX12_blanks.2.2.2.2.2.all (i_ckb mX12_blanks) = true := by decide +kernel
set_option maxRecDepth 100000 in
theorem kX12_isDigit : mX12_isDigit.2.2.2.2.2.all (i_ckb mX12_isDigit) = true := by decide +kernel
set_option maxRecDepth 100000 in
theorem kX12_stood : mX12_stood.2.2.2.2.2.all (i_ckb mX12_stood) = true := by decide +kernel
set_option maxRecDepth 100000 in
theorem kX12_takes : mX12_takes.2.2.2.2.2.all (i_ckb mX12_takes) = true := by decide +kernel
set_option maxRecDepth 100000 in
theorem kX12_entry : mX12_entry.2.2.2.2.2.all (i_ckb mX12_entry) = true := by decide +kernel
set_option maxRecDepth 100000 in
theorem kX12_isCounted : mX12_isCounted.2.2.2.2.2.all (i_ckb mX12_isCounted) = true := by decide +kernel
set_option maxRecDepth 100000 in
theorem kX12_digits : mX12_digits.2.2.2.2.2.all (i_ckb mX12_digits) = true := by decide +kernel
set_option maxRecDepth 100000 in
theorem kX12_value : mX12_value.2.2.2.2.2.all (i_ckb mX12_value) = true := by decide +kernel
set_option maxRecDepth 100000 in
theorem kX12_term : mX12_term.2.2.2.2.2.all (i_ckb mX12_term) = true := by decide +kernel
