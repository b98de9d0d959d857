section SPF2
set_option maxRecDepth 100000 in
theorem chk_b79d : ((List.range' 240 25).all (fun mi => !gd mi || (stt mi 0 && (List.range (mC mi).size).all (chk2 mi)))) = true := by decide +kernel
end SPF2
