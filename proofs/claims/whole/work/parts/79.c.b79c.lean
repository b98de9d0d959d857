section SPF2
def q_ch8 : List (Nat × Nat) := [(189, 0), (190, 0), (191, 0), (192, 0)]
set_option maxRecDepth 100000 in
theorem chk_8 : (q_ch8.all (fun q => (List.range' (256 * q.2) 256).all (chk2 q.1))) = true := by decide +kernel
def q_ch9 : List (Nat × Nat) := [(193, 0), (194, 0), (195, 0), (196, 0)]
set_option maxRecDepth 100000 in
theorem chk_9 : (q_ch9.all (fun q => (List.range' (256 * q.2) 256).all (chk2 q.1))) = true := by decide +kernel
def q_ch10 : List (Nat × Nat) := [(197, 0), (198, 0), (199, 0)]
set_option maxRecDepth 100000 in
theorem chk_10 : (q_ch10.all (fun q => (List.range' (256 * q.2) 256).all (chk2 q.1))) = true := by decide +kernel
def q_ch11 : List (Nat × Nat) := [(200, 0), (201, 0)]
set_option maxRecDepth 100000 in
theorem chk_11 : (q_ch11.all (fun q => (List.range' (256 * q.2) 256).all (chk2 q.1))) = true := by decide +kernel
end SPF2
