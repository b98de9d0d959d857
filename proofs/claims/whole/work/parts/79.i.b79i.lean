section SPF2
def q_ch32 : List (Nat × Nat) := [(259, 0)]
set_option maxRecDepth 100000 in
theorem chk_32 : (q_ch32.all (fun q => (List.range' (256 * q.2) 256).all (chk2 q.1))) = true := by decide +kernel
def q_ch33 : List (Nat × Nat) := [(260, 0), (261, 0)]
set_option maxRecDepth 100000 in
theorem chk_33 : (q_ch33.all (fun q => (List.range' (256 * q.2) 256).all (chk2 q.1))) = true := by decide +kernel
def q_ch34 : List (Nat × Nat) := [(262, 0), (263, 0), (264, 0)]
set_option maxRecDepth 100000 in
theorem chk_34 : (q_ch34.all (fun q => (List.range' (256 * q.2) 256).all (chk2 q.1))) = true := by decide +kernel
end SPF2
