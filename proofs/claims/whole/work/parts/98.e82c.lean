section SPjk
def k_m (x : Option (OO × HH)) (f : HH → Bool) : Bool := match x with
  | some (.inl none, h2) => f h2
  | _ => false
theorem k_of {x : Option (OO × HH)} {f : HH → Bool} (h : k_m x f = true) : ∃ h2, x = some (.inl none, h2) ∧ f h2 = true := by
  unfold k_m at h
  split at h
  · exact ⟨_, rfl, h⟩
  · cases h
def k_v (c : CC) (r n : Nat) (v : Int) : Bool := (List.range n).all (fun i => decide (c r (i : Int) = v))
def k_rows : List (Nat × Nat × Int) := [(190, 514, 0), (14, 36, 0), (17, 64, 0), (28, 8, -1), (29, 8, 0), (30, 8, 0), (31, 8, 0), (33, 64, 0), (34, 64, 0), (131, 8, -1), (187, 3, -1), (9, 3, 0), (138, 1, 0), (139, 1, 0), (200, 1, 0), (201, 1, 0), (210, 2, 0)]
def k_ones : List (Nat × Int) := [(0, 0), (27, 1), (27, 2), (27, 3), (43, 7), (2, 1), (2, 14), (53, 1), (53, 2), (120, 6), (141, 3), (164, 3), (188, 2), (188, 15), (188, 23), (188, 31), (188, 38)]
def k_C (c : CC) : Bool := k_rows.all (fun q => k_v c q.1 q.2.1 q.2.2) && (k_ones.all (fun q => decide (c q.1 q.2 = 0)) && (decide (c 188 27 = -1) && (List.range 20).all (fun i => decide (c 4 (i : Int) = q_keys (i : Int)) && decide (c 194 (i : Int) = rsvF (i : Int)))))
def k_G (h : HH) : Bool := decide (h.1.1 = 210) && (decide (h.1.2.1 ≤ 20000) && ((List.range 211).all (fun r => decide (h.1.2.2.1 r = q_shp r)) && q_rfls.all (fun q => decide (h.1.2.2.2.1 q.1 q.2.1 = q.2.2))))
def k_h1 : HH := q_nw (q_h0 0 (fun _ => 0)) 11 (q_N 11) (fun _ => 0)
def k_h3 (h2 : HH) : HH := q_nw h2 12 (q_N 12) (fun _ => 0)
def k_4 (h4 : HH) : Bool := k_G h4 && k_C h4.2
def k_2 (h2 : HH) : Bool := decide (h2.1.1 = 187) && (decide (h2.2 0 0 = 0) && k_m (evD 3000 59 168 0 (q_ent 168 [aR 188]) [] (k_h3 h2)) k_4)
theorem k_all : k_m (evD 3000 59 109 0 (q_ent 109 [aR 1]) [] k_h1) k_2 = true := by decide +kernel
end SPjk
