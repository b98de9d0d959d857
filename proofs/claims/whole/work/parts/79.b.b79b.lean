section SPF2
def q_ch4 : List (Nat × Nat) := [(184, 0)]
set_option maxRecDepth 100000 in
theorem chk_4 : (q_ch4.all (fun q => (List.range' (256 * q.2) 256).all (chk2 q.1))) = true := by decide +kernel
def q_ch5 : List (Nat × Nat) := [(184, 1)]
set_option maxRecDepth 100000 in
theorem chk_5 : (q_ch5.all (fun q => (List.range' (256 * q.2) 256).all (chk2 q.1))) = true := by decide +kernel
def q_ch6 : List (Nat × Nat) := [(184, 2)]
set_option maxRecDepth 100000 in
theorem chk_6 : (q_ch6.all (fun q => (List.range' (256 * q.2) 256).all (chk2 q.1))) = true := by decide +kernel
def q_ch7 : List (Nat × Nat) := [(185, 0), (186, 0), (187, 0), (188, 0)]
set_option maxRecDepth 100000 in
theorem chk_7 : (q_ch7.all (fun q => (List.range' (256 * q.2) 256).all (chk2 q.1))) = true := by decide +kernel
end SPF2
