section SPF2
def q_ch0 : List (Nat × Nat) := [(158, 0), (159, 0), (160, 0), (161, 0), (162, 0), (163, 0), (164, 0), (165, 0), (166, 0), (167, 0), (169, 0), (170, 0), (171, 0)]
set_option maxRecDepth 100000 in
theorem chk_0 : (q_ch0.all (fun q => (List.range' (256 * q.2) 256).all (chk2 q.1))) = true := by decide +kernel
def q_ch1 : List (Nat × Nat) := [(172, 0)]
set_option maxRecDepth 100000 in
theorem chk_1 : (q_ch1.all (fun q => (List.range' (256 * q.2) 256).all (chk2 q.1))) = true := by decide +kernel
def q_ch2 : List (Nat × Nat) := [(172, 1), (173, 0), (174, 0), (175, 0), (176, 0), (177, 0), (178, 0), (179, 0)]
set_option maxRecDepth 100000 in
theorem chk_2 : (q_ch2.all (fun q => (List.range' (256 * q.2) 256).all (chk2 q.1))) = true := by decide +kernel
def q_ch3 : List (Nat × Nat) := [(180, 0), (181, 0), (182, 0), (183, 0)]
set_option maxRecDepth 100000 in
theorem chk_3 : (q_ch3.all (fun q => (List.range' (256 * q.2) 256).all (chk2 q.1))) = true := by decide +kernel
end SPF2
