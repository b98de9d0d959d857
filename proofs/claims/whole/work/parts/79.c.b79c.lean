section SPF2
set_option maxRecDepth 100000 in
theorem chk_b79c : ((List.range' 216 24).all (fun mi => !gd mi || (stt mi 0 && (List.range (mC mi).size).all (chk2 mi)))) = true := by decide +kernel
end SPF2
