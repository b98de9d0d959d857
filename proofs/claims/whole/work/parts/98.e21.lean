section SPtc
variable {d r n0 : Nat} {G : GG} {c c' : CC} {Q : Option AV → HH → Prop} {v v1 v2 N k p len most stop : Int} {j : Nat} {B f : Int → Int}
def FlA (c c' : CC) (k p : Int) : Prop := (∀ r, ¬ r = 2 → c' r = c r) ∧ (∀ i, (i < 8 ∨ 14 < i) → c' 2 i = c 2 i) ∧ c' 2 14 = k ∧ c' 2 11 = p
theorem c_ref (hG : Shp G) (h : TA c B len stop j) (hz : ∀ c', FlA c c' v (pP B len stop j) → Q (some (aI 0)) (G, c')) : TM d 99 [aR 2, aI v] (G, c) Q := by
  have e := TA_e h
  refine b99_0 hG ?_
  exact hz _ ⟨fun r h => up_r h, fun i h => up_n (by omega), up_e, by rw [up_n (by omega)]; exact e.2.1⟩
theorem c_isKey (hG : Shp G) (hW : Wt B len most stop) (h : TA c B len stop j) (hv : I32 v) (hz : Q (some (aI (if zS B len stop j = 2 ∧ pN B len stop j = v then 1 else 0))) (G, c)) : TM d 101 [aR 2, aI v] (G, c) Q := by
  obtain ⟨e1, e2, e3, e4⟩ := TA_e h
  have b := p_b hW j
  refine b101_0 hG (e1) (by intros; omega) ?_ (e3) (by intros; omega) (by intros; omega) ?_ ?_
  · intro q; rw [if_neg (by omega)] at hz; exact hz
  · intro q1 q2; rw [if_neg (by omega)] at hz; exact hz
  · intro q1 q2; rw [if_pos ⟨q1, q2⟩] at hz; exact hz
theorem c_isSgn (hG : Shp G) (hW : Wt B len most stop) (h : TA c B len stop j) (hv : I32 v) (hz : Q (some (aI (if zS B len stop j = 4 ∧ pN B len stop j = v then 1 else 0))) (G, c)) : TM d 102 [aR 2, aI v] (G, c) Q := by
  obtain ⟨e1, e2, e3, e4⟩ := TA_e h
  have b := p_b hW j
  refine b102_0 hG (e1) (by intros; omega) ?_ (e3) (by intros; omega) (by intros; omega) ?_ ?_
  · intro q; rw [if_neg (by omega)] at hz; exact hz
  · intro q1 q2; rw [if_neg (by omega)] at hz; exact hz
  · intro q1 q2; rw [if_pos ⟨q1, q2⟩] at hz; exact hz
theorem c_takeSign (hG : Shp G) (hW : Wt B len most stop) (h : TA c B len stop j) (hv : I32 v) (hz : zS B len stop j = 4 ∧ pN B len stop j = v → ∀ c', FrV c c' → TA c' B len stop (j + 1) → Q (some (aI 1)) (G, c')) (hf : ¬ (zS B len stop j = 4 ∧ pN B len stop j = v) → ∀ c', FlA c c' 1 (pP B len stop j) → Q (some (aI 0)) (G, c')) : TM (d + 1) 103 [aR 2, aI v] (G, c) Q := by
  refine b103_0 hG TM_eqo ?_
  refine c_isSgn hG hW h hv ?_
  by_cases hc : zS B len stop j = 4 ∧ pN B len stop j = v
  · rw [if_pos hc]
    refine b103_5 hG TM_eqo (by intros; omega) ?_ ?_
    · intro q
      refine c_advance hG h (fun c' f1 f2 => ?_)
      refine b103_18 hG ?_
      exact hz hc c' f1 f2
    · intro q; omega
  · rw [if_neg hc]
    refine b103_5 hG TM_eqo (by intros; omega) ?_ ?_
    · intro q; omega
    · intro q
      refine c_ref hG h (fun c' f1 => ?_)
      refine b103_13 hG (Or.inl rfl) ?_
      exact hf hc c' f1
theorem c_takeKey (hG : Shp G) (hW : Wt B len most stop) (h : TA c B len stop j) (hv : I32 v) (hz : zS B len stop j = 2 ∧ pN B len stop j = v → ∀ c', FrV c c' → TA c' B len stop (j + 1) → Q (some (aI 1)) (G, c')) (hf : ¬ (zS B len stop j = 2 ∧ pN B len stop j = v) → ∀ c', FlA c c' 1 (pP B len stop j) → Q (some (aI 0)) (G, c')) : TM (d + 1) 104 [aR 2, aI v] (G, c) Q := by
  refine b104_0 hG TM_eqo ?_
  refine c_isKey hG hW h hv ?_
  by_cases hc : zS B len stop j = 2 ∧ pN B len stop j = v
  · rw [if_pos hc]
    refine b104_5 hG TM_eqo (by intros; omega) ?_ ?_
    · intro q
      refine c_advance hG h (fun c' f1 f2 => ?_)
      refine b104_18 hG ?_
      exact hz hc c' f1 f2
    · intro q; omega
  · rw [if_neg hc]
    refine b104_5 hG TM_eqo (by intros; omega) ?_ ?_
    · intro q; omega
    · intro q
      refine c_ref hG h (fun c' f1 => ?_)
      refine b104_13 hG (Or.inl rfl) ?_
      exact hf hc c' f1
def fN (S : Int) : Int := if S = 3 then 2 else 1
def fM (S : Int) : Int := if S = 1 then 3 else 1
theorem c_takeNum (hG : Shp G) (hW : Wt B len most stop) (h : TA c B len stop j) (hv1 : I32 v1) (hv2 : I32 v2) (hz : zS B len stop j = 3 → v1 ≤ pN B len stop j → pN B len stop j ≤ v2 → ∀ c', FrV c c' → TA c' B len stop (j + 1) → Q (some (aI (pN B len stop j))) (G, c')) (hf : ¬ (zS B len stop j = 3 ∧ v1 ≤ pN B len stop j ∧ pN B len stop j ≤ v2) → ∀ c', FlA c c' (fN (zS B len stop j)) (pP B len stop j) → Q (some (aI (-1))) (G, c')) : TM (d + 1) 105 [aR 2, aI v1, aI v2] (G, c) Q := by
  obtain ⟨e1, e2, e3, e4⟩ := TA_e h
  have b := p_b hW j
  refine b105_0 hG TM_eqo (e1) (by intros; omega) (e3) (by intros; omega) (by intros; omega) ?_ (e3) (by intros; omega) (by intros; omega) (e3) ?_ ?_ ?_
  · intro q1 q2
    rw [show fN (zS B len stop j) = 2 from if_pos q1] at hf
    refine c_ref hG h (fun c' f1 => ?_)
    refine b105_37 hG ?_
    exact hf (by omega) c' f1
  · intro q1 q2 q3
    refine c_advance hG h (fun c' f1 f2 => ?_)
    refine b105_49 hG ?_
    exact hz q1 q2 q3 c' f1 f2
  · intro q1 q2 q3
    rw [show fN (zS B len stop j) = 2 from if_pos q1] at hf
    refine c_ref hG h (fun c' f1 => ?_)
    refine b105_37 hG ?_
    exact hf (by omega) c' f1
  · intro q1
    rw [show fN (zS B len stop j) = 1 from if_neg q1] at hf
    refine c_ref hG h (fun c' f1 => ?_)
    refine b105_13 hG ?_
    exact hf (by omega) c' f1
abbrev pF (B : Int → Int) (len stop : Int) (j : Nat) (f : Int → Int) (N : Int) : Int := plN f (pW B len stop j) N.toNat 0
theorem pF_b (h0 : 0 ≤ N) : pF B len stop j f N = -1 ∨ (0 ≤ pF B len stop j f N ∧ pF B len stop j f N < N) := by
  have := plN_b (f := f) (w := pW B len stop j) N.toNat 0
  unfold pF
  omega
theorem c_nameHere (hG : Shp G) (hW : Wt B len most stop) (h : TA c B len stop j) (ho : okR G r 21) (hn : lnR G r n0) (hb : n0 ≤ 900) (h0 : 0 ≤ N) (hN : N ≤ (n0 : Int)) (hF : ∀ i, 0 ≤ i → i < N → c r i = f i ∧ I64 (f i)) (hz : zS B len stop j = 1 → ¬ pF B len stop j f N = -1 → Q (some (aI (pF B len stop j f N))) (G, c)) (hf : ¬ (zS B len stop j = 1 ∧ ¬ pF B len stop j f N = -1) → ∀ c', FlA c c' (fM (zS B len stop j)) (pP B len stop j) → Q (some (aI (-1))) (G, c')) : TM (d + 1) 106 [aR 2, aR r, aI N] (G, c) Q := by
  obtain ⟨e1, e2, e3, e4⟩ := TA_e h
  have b := p_b hW j
  have pb := pF_b (B := B) (len := len) (stop := stop) (j := j) (f := f) h0
  refine b106_0 hG (ho) (hn) (by omega) TM_eqo (e1) (by intros; omega) (e4) ?_ ?_
  · intro q1
    rw [show fM (zS B len stop j) = 3 from if_pos q1] at hf
    refine c_place hG ho hn (by omega) h0 hN (by unfold I64; omega) hF ?_
    show T _ 106 25 _ ([aI (pF B len stop j f N)]) _ _
    refine b106_25 hG TM_eqo (by intros; omega) ?_ ?_
    · intro q2; exact hz q1 q2
    · intro q2
      refine c_ref hG h (fun c' f1 => ?_)
      refine b106_36 hG ?_
      rw [q2]
      exact hf (by omega) c' f1
  · intro q1
    rw [show fM (zS B len stop j) = 1 from if_neg q1] at hf
    refine c_ref hG h (fun c' f1 => ?_)
    refine b106_13 hG ?_
    exact hf (by omega) c' f1
theorem c_takeName (hG : Shp G) (hW : Wt B len most stop) (h : TA c B len stop j) (ho : okR G r 21) (hn : lnR G r n0) (hb : n0 ≤ 900) (h0 : 0 ≤ N) (hN : N ≤ (n0 : Int)) (hF : ∀ i, 0 ≤ i → i < N → c r i = f i ∧ I64 (f i)) (hz : zS B len stop j = 1 → ¬ pF B len stop j f N = -1 → ∀ c', FrV c c' → TA c' B len stop (j + 1) → Q (some (aI (pF B len stop j f N))) (G, c')) (hf : ¬ (zS B len stop j = 1 ∧ ¬ pF B len stop j f N = -1) → ∀ c', FlA c c' (fM (zS B len stop j)) (pP B len stop j) → Q (some (aI (-1))) (G, c')) : TM (d + 2) 107 [aR 2, aR r, aI N] (G, c) Q := by
  have pb := pF_b (B := B) (len := len) (stop := stop) (j := j) (f := f) h0
  refine b107_0 hG (ho) (hn) (by omega) TM_eqo ?_
  refine c_nameHere hG hW h ho hn hb h0 hN hF (fun q1 q2 => ?_) (fun q c' f1 => ?_)
  · refine b107_6 hG TM_eqo (by intros; omega) ?_ ?_
    · intro q; omega
    · intro q
      refine c_advance hG h (fun c' f1 f2 => ?_)
      refine b107_16 hG ?_
      exact hz q1 q2 c' f1 f2
  · refine b107_6 hG TM_eqo (by intros; omega) ?_ ?_
    · intro q3
      refine b107_16 hG ?_
      exact hf q c' f1
    · intro q3; omega
theorem c_endsHere (hG : Shp G) (hW : Wt B len most stop) (h : TA c B len stop j) (e9 : c 2 9 = if most < len then 1 else 0) (hz : zS B len stop j = 0 → ¬ most < len → Q (some (aI 1)) (G, c)) (hf : ¬ (zS B len stop j = 0 ∧ ¬ most < len) → ∀ c', FlA c c' 1 (pP B len stop j) → Q (some (aI 0)) (G, c')) : TM (d + 1) 100 [aR 2] (G, c) Q := by
  obtain ⟨e1, e2, e3, e4⟩ := TA_e h
  have b := p_b hW j
  by_cases hm : most < len
  · rw [if_pos hm] at e9
    refine b100_0 hG TM_eqo (e1) (by intros; omega) ?_ (e9) (by intros; omega) ?_ ?_
    · intro q1
      refine c_ref hG h (fun c' f1 => ?_)
      refine b100_19 hG (by intros; omega) ?_ ?_
      · intro q; exact hf (by omega) c' f1
      · intro q; omega
    · intro q1 q2; omega
    · intro q1 q2
      refine c_ref hG h (fun c' f1 => ?_)
      refine b100_19 hG (by intros; omega) ?_ ?_
      · intro q; exact hf (by omega) c' f1
      · intro q; omega
  · rw [if_neg hm] at e9
    refine b100_0 hG TM_eqo (e1) (by intros; omega) ?_ (e9) (by intros; omega) ?_ ?_
    · intro q1
      refine c_ref hG h (fun c' f1 => ?_)
      refine b100_19 hG (by intros; omega) ?_ ?_
      · intro q; exact hf (by omega) c' f1
      · intro q; omega
    · intro q1 q2; exact hz q1 hm
    · intro q1 q2; omega
end SPtc
