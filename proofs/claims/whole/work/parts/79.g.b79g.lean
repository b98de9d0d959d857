section SPF2
def q_ch24 : List (Nat × Nat) := [(247, 0), (248, 0)]
set_option maxRecDepth 100000 in
theorem chk_24 : (q_ch24.all (fun q => (List.range' (256 * q.2) 256).all (chk2 q.1))) = true := by decide +kernel
def q_ch25 : List (Nat × Nat) := [(249, 0)]
set_option maxRecDepth 100000 in
theorem chk_25 : (q_ch25.all (fun q => (List.range' (256 * q.2) 256).all (chk2 q.1))) = true := by decide +kernel
def q_ch26 : List (Nat × Nat) := [(250, 0), (250, 1)]
set_option maxRecDepth 100000 in
theorem chk_26 : (q_ch26.all (fun q => (List.range' (256 * q.2) 256).all (chk2 q.1))) = true := by decide +kernel
def q_ch27 : List (Nat × Nat) := [(251, 0), (252, 0), (253, 0), (254, 0)]
set_option maxRecDepth 100000 in
theorem chk_27 : (q_ch27.all (fun q => (List.range' (256 * q.2) 256).all (chk2 q.1))) = true := by decide +kernel
end SPF2
