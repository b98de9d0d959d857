section SPF2
def q_ch12 : List (Nat × Nat) := [(202, 0), (203, 0)]
set_option maxRecDepth 100000 in
theorem chk_12 : (q_ch12.all (fun q => (List.range' (256 * q.2) 256).all (chk2 q.1))) = true := by decide +kernel
def q_ch13 : List (Nat × Nat) := [(204, 0), (205, 0), (206, 0), (207, 0), (208, 0), (209, 0), (210, 0)]
set_option maxRecDepth 100000 in
theorem chk_13 : (q_ch13.all (fun q => (List.range' (256 * q.2) 256).all (chk2 q.1))) = true := by decide +kernel
def q_ch14 : List (Nat × Nat) := [(211, 0), (212, 0), (213, 0), (214, 0), (215, 0)]
set_option maxRecDepth 100000 in
theorem chk_14 : (q_ch14.all (fun q => (List.range' (256 * q.2) 256).all (chk2 q.1))) = true := by decide +kernel
def q_ch15 : List (Nat × Nat) := [(216, 0), (217, 0)]
set_option maxRecDepth 100000 in
theorem chk_15 : (q_ch15.all (fun q => (List.range' (256 * q.2) 256).all (chk2 q.1))) = true := by decide +kernel
end SPF2
