section SPF2
def q_ch28 : List (Nat × Nat) := [(255, 0)]
set_option maxRecDepth 100000 in
theorem chk_28 : (q_ch28.all (fun q => (List.range' (256 * q.2) 256).all (chk2 q.1))) = true := by decide +kernel
def q_ch29 : List (Nat × Nat) := [(256, 0), (256, 1)]
set_option maxRecDepth 100000 in
theorem chk_29 : (q_ch29.all (fun q => (List.range' (256 * q.2) 256).all (chk2 q.1))) = true := by decide +kernel
def q_ch30 : List (Nat × Nat) := [(257, 0)]
set_option maxRecDepth 100000 in
theorem chk_30 : (q_ch30.all (fun q => (List.range' (256 * q.2) 256).all (chk2 q.1))) = true := by decide +kernel
def q_ch31 : List (Nat × Nat) := [(258, 0)]
set_option maxRecDepth 100000 in
theorem chk_31 : (q_ch31.all (fun q => (List.range' (256 * q.2) 256).all (chk2 q.1))) = true := by decide +kernel
end SPF2
