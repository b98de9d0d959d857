section SPF2
def q_ch20 : List (Nat × Nat) := [(231, 0), (232, 0), (233, 0), (234, 0)]
set_option maxRecDepth 100000 in
theorem chk_20 : (q_ch20.all (fun q => (List.range' (256 * q.2) 256).all (chk2 q.1))) = true := by decide +kernel
def q_ch21 : List (Nat × Nat) := [(235, 0), (236, 0)]
set_option maxRecDepth 100000 in
theorem chk_21 : (q_ch21.all (fun q => (List.range' (256 * q.2) 256).all (chk2 q.1))) = true := by decide +kernel
def q_ch22 : List (Nat × Nat) := [(237, 0), (238, 0), (239, 0), (240, 0), (241, 0)]
set_option maxRecDepth 100000 in
theorem chk_22 : (q_ch22.all (fun q => (List.range' (256 * q.2) 256).all (chk2 q.1))) = true := by decide +kernel
def q_ch23 : List (Nat × Nat) := [(242, 0), (243, 0), (244, 0), (245, 0), (246, 0)]
set_option maxRecDepth 100000 in
theorem chk_23 : (q_ch23.all (fun q => (List.range' (256 * q.2) 256).all (chk2 q.1))) = true := by decide +kernel
end SPF2
