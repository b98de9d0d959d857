section SPF2
def q_ch16 : List (Nat × Nat) := [(218, 0), (219, 0)]
set_option maxRecDepth 100000 in
theorem chk_16 : (q_ch16.all (fun q => (List.range' (256 * q.2) 256).all (chk2 q.1))) = true := by decide +kernel
def q_ch17 : List (Nat × Nat) := [(220, 0), (221, 0), (222, 0), (223, 0)]
set_option maxRecDepth 100000 in
theorem chk_17 : (q_ch17.all (fun q => (List.range' (256 * q.2) 256).all (chk2 q.1))) = true := by decide +kernel
def q_ch18 : List (Nat × Nat) := [(224, 0), (225, 0), (226, 0), (227, 0), (228, 0)]
set_option maxRecDepth 100000 in
theorem chk_18 : (q_ch18.all (fun q => (List.range' (256 * q.2) 256).all (chk2 q.1))) = true := by decide +kernel
def q_ch19 : List (Nat × Nat) := [(229, 0), (230, 0)]
set_option maxRecDepth 100000 in
theorem chk_19 : (q_ch19.all (fun q => (List.range' (256 * q.2) 256).all (chk2 q.1))) = true := by decide +kernel
end SPF2
