section SPtr
variable {d : Nat} {G : GG} {c c' c0 : CC} {Q : Option AV → HH → Prop} {v1 v2 v3 i n s t p w x y b q len N m : Int} {k : Nat} {B f : Int → Int}
theorem lor8 (h1 : 0 ≤ x) (h2 : x < 281474976710656) (h3 : 0 ≤ b) (h4 : b ≤ 255) : q_lor (q_lshl x 8) b = x * 256 + b := by
  obtain ⟨n, rfl⟩ := Int.eq_ofNat_of_zero_le h1
  obtain ⟨m, rfl⟩ := Int.eq_ofNat_of_zero_le h3
  have e1 : (Int64.ofInt (n : Int)).toBitVec = BitVec.ofNat 64 n := by
    show BitVec.ofInt 64 (n : Int) = _
    exact BitVec.ofInt_natCast 64 n
  have e2 : (Int64.ofInt (m : Int)).toBitVec = BitVec.ofNat 64 m := by
    show BitVec.ofInt 64 (m : Int) = _
    exact BitVec.ofInt_natCast 64 m
  have e3 : (Int64.ofInt (n : Int) <<< ((Int32.ofInt 8).toInt64 &&& 63)).toBitVec = BitVec.ofNat 64 (n * 256) := by
    have e4 : (Int32.ofInt 8).toInt64 &&& 63 = (8 : Int64) := by decide +kernel
    rw [e4]
    rw [Int64.toBitVec_shiftLeft, e1]
    apply BitVec.eq_of_toNat_eq
    have e5 : (Int64.toBitVec 8).smod 64 = 8#64 := by decide +kernel
    rw [e5]
    rw [BitVec.shiftLeft_eq', BitVec.toNat_shiftLeft]
    have e6 : (8#64).toNat = 8 := rfl
    rw [e6, BitVec.toNat_ofNat, BitVec.toNat_ofNat, Nat.shiftLeft_eq]
    omega
  have e7 : q_lshl (n : Int) 8 = ((n * 256 : Nat) : Int) := by
    show (Int64.ofInt (n : Int) <<< ((Int32.ofInt 8).toInt64 &&& 63)).toBitVec.toInt = _
    rw [e3, BitVec.toInt_eq_toNat_of_lt (by rw [BitVec.toNat_ofNat]; omega), BitVec.toNat_ofNat]
    omega
  rw [e7]
  have e8 : (Int64.ofInt ((n * 256 : Nat) : Int)).toBitVec = BitVec.ofNat 64 (n * 256) := by
    show BitVec.ofInt 64 ((n * 256 : Nat) : Int) = _
    exact BitVec.ofInt_natCast 64 (n * 256)
  show (Int64.ofInt ((n * 256 : Nat) : Int) ||| Int64.ofInt (m : Int)).toBitVec.toInt = _
  rw [Int64.toBitVec_or, e8, e2]
  have e9 : (BitVec.ofNat 64 (n * 256) ||| BitVec.ofNat 64 m).toNat = n * 256 + m := by
    rw [BitVec.toNat_or, BitVec.toNat_ofNat, BitVec.toNat_ofNat, Nat.mod_eq_of_lt (by omega), Nat.mod_eq_of_lt (by omega)]
    have := Nat.shiftLeft_add_eq_or_of_lt (a := n) (i := 8) (b := m) (by omega)
    rw [Nat.shiftLeft_eq] at this
    exact this.symm
  rw [BitVec.toInt_eq_toNat_of_lt (by rw [e9]; omega), e9]
  omega
theorem r_here (hG : Shp G) (hB : ∀ i, 0 ≤ i → i < len → q_and (c 189 i) 255 = B i ∧ 0 ≤ B i ∧ B i ≤ 255) (e3 : c 188 3 = len) (e4 : c 188 4 = p) (hl : len ≤ 940) (hp : 0 ≤ p ∧ p ≤ 2000) (h0 : 0 ≤ len) (hz : Q (some (aI (if p < len then B p else -1))) (G, c)) : TM d 169 [aR 188] (G, c) Q := by
  refine b169_0 hG (e4) (e3) (by intros; omega) (by intros; omega) ?_ (e4) (by intros; omega) (by intros; omega) rfl ?_
  · intro h; rw [if_neg (by omega)] at hz; exact hz
  · intro h
    rw [if_pos h] at hz
    rw [(hB p (by omega) h).1]
    exact hz
theorem r_let (hG : Shp G) (hb : -1 ≤ b ∧ b ≤ 255) (hz : Q (some (aI (if 97 ≤ b ∧ b ≤ 122 then 1 else 0))) (G, c)) : TM d 170 [aI b] (G, c) Q := by
  by_cases h : 97 ≤ b ∧ b ≤ 122
  · rw [if_pos h] at hz
    refine b170_0 hG (by intros; omega) ?_ ?_ ?_
    all_goals intros
    all_goals first | exact hz | omega
  · rw [if_neg h] at hz
    refine b170_0 hG (by intros; omega) ?_ ?_ ?_
    all_goals intros
    all_goals first | exact hz | omega
theorem r_dig (hG : Shp G) (hb : -1 ≤ b ∧ b ≤ 255) (hz : Q (some (aI (if 48 ≤ b ∧ b ≤ 57 then 1 else 0))) (G, c)) : TM d 171 [aI b] (G, c) Q := by
  by_cases h : 48 ≤ b ∧ b ≤ 57
  · rw [if_pos h] at hz
    refine b171_0 hG (by intros; omega) ?_ ?_ ?_
    all_goals intros
    all_goals first | exact hz | omega
  · rw [if_neg h] at hz
    refine b171_0 hG (by intros; omega) ?_ ?_ ?_
    all_goals intros
    all_goals first | exact hz | omega
def lG (B : Int → Int) (i : Int) : Nat → Int
  | 0 => 0
  | n + 1 => lG B i n * 256 + B (i + n)
theorem lG_b : ∀ k : Nat, (∀ j, i ≤ j → j < i + k → 0 ≤ B j ∧ B j ≤ 255) → 0 ≤ lG B i k ∧ (k ≤ 0 → lG B i k < 1) ∧ (k ≤ 1 → lG B i k < 256) ∧ (k ≤ 2 → lG B i k < 65536) ∧ (k ≤ 3 → lG B i k < 16777216) ∧ (k ≤ 4 → lG B i k < 4294967296) ∧ (k ≤ 5 → lG B i k < 1099511627776) ∧ (k ≤ 6 → lG B i k < 281474976710656) := by
  intro k
  induction k with
  | zero => intro _; unfold lG; omega
  | succ k ih =>
    intro h
    have := ih (fun j p1 p2 => h j p1 (by omega))
    have := h (i + k) (by omega) (by omega)
    unfold lG
    omega
def rR (B : Int → Int) (q : Int) (k : Nat) : Int := if lL B q k = 0 ∧ lD B q k ≤ 3 then 2 else if lD B q k = 0 ∧ lL B q k ≤ 7 then 1 else 4
def FrN (c c' : CC) : Prop := (∀ r, ¬ r = 188 → c' r = c r) ∧ ∀ i, ¬ i = 4 → ¬ i = 11 → ¬ i = 12 → ¬ i = 13 → ¬ i = 14 → ¬ i = 17 → c' 188 i = c 188 i
def SRn (B : Int → Int) (q : Int) (c0 c : CC) (k : Nat) : Prop := FrN c0 c ∧ c 188 13 = k ∧ c 188 4 = q + k ∧ c 188 12 = q ∧ (k ≤ 7 → c 188 17 = lG B q k) ∧ (lL B q k = 0 → k ≤ 3 → c 188 14 = lV B q k)
theorem FrN_up {i v : Int} (h : FrN c0 c) (hi : i = 4 ∨ i = 11 ∨ i = 12 ∨ i = 13 ∨ i = 14 ∨ i = 17) : FrN c0 (q_up c 188 i v) := ⟨fun r p => (up_r p).trans (h.1 r p), fun j p1 p2 p3 p4 p5 p6 => (up_n (by omega)).trans (h.2 j p1 p2 p3 p4 p5 p6)⟩
theorem r_stp (hG : Shp G) (hB : ∀ i, 0 ≤ i → i < len → q_and (c 189 i) 255 = B i ∧ 0 ≤ B i ∧ B i ≤ 255) (e3 : c 188 3 = len) (hl : len ≤ 940) (hq : 0 ≤ q) (hk : q + k < len) (hr : (97 ≤ B (q + k) ∧ B (q + k) ≤ 122) ∨ (48 ≤ B (q + k) ∧ B (q + k) ≤ 57)) (h : SRn B q c0 c k) (nxt : ∀ c', SRn B q c0 c' (k + 1) → T (d + 1) 172 181 [some (aR 188), none, some (aI v2), some (aI v3)] [] (G, c') (QM Q)) :
    (7 ≤ (k : Int) → T (d + 1) 172 181 [some (aR 188), none, some (aI v2), some (aI v3)] [] (G, q_up (q_up c 188 13 ((k : Int) + 1)) 188 4 (q + k + 1)) (QM Q)) ∧ ((k : Int) < 7 → TM d 169 [aR 188] (G, c) (fun r h' => T (d + 1) 172 243 [some (aR 188), none, some (aI v2), some (aI v3)] (r.toList ++ [aL (q_lshl (c 188 17) 8), aR 188]) h' (QM Q))) := by
  obtain ⟨f1, e13, e4, e12, eW, eN⟩ := h
  have eL : lL B q (k + 1) = lL B q k + (if 97 ≤ B (q + k) ∧ B (q + k) ≤ 122 then 1 else 0) := rfl
  have eV : lV B q (k + 1) = if 48 ≤ B (q + k) ∧ B (q + k) ≤ 57 then lV B q k * 10 + (B (q + k) - 48) else lV B q k := rfl
  have eG : lG B q (k + 1) = lG B q k * 256 + B (q + k) := rfl
  have hb := lLD_b (B := B) (i := q) k
  obtain ⟨g1, g2, g3⟩ := hB (q + k) (by omega) hk
  refine ⟨fun h7 => ?_, fun h7 => ?_⟩
  · refine nxt _ ⟨FrN_up (FrN_up f1 (by omega)) (by omega), ?_, ?_, ?_, fun h => by omega, fun _ h => by omega⟩
    · rw [up_n (by omega), up_e]; omega
    · rw [up_e]; omega
    · rw [up_n (by omega), up_n (by omega)]; exact e12
  · refine r_here hG hB e3 e4 hl (by omega) (by omega) ?_
    rw [if_pos hk]
    have hW : q_lor (q_lshl (c 188 17) 8) (B (q + k)) = lG B q (k + 1) := by
      have hg := lG_b (B := B) (i := q) k (fun j p1 p2 => (hB j (by omega) (by omega)).2)
      rw [eW (by omega), lor8 (by omega) (by omega) g2 g3, eG]
    refine b172_243 hG (by intros; omega) ((up_n (by omega)).trans e13) (by intros; omega) ((up_n (by omega)).trans e13) ((up_n (by omega)).trans ((up_n (by omega)).trans e4)) ?_ (up_n (by omega)) ?_
    · intro h3
      rw [hW]
      refine nxt _ ⟨FrN_up (FrN_up (FrN_up f1 (by omega)) (by omega)) (by omega), ?_, ?_, ?_, fun h => ?_, fun _ h => by omega⟩
      · rw [up_n (by omega), up_e]; omega
      · rw [up_e]; omega
      · rw [up_n (by omega), up_n (by omega), up_n (by omega)]; exact e12
      · rw [up_n (by omega), up_n (by omega), up_e]
    · intro h3
      rw [hW]
      refine r_here hG (c := q_up c 188 17 (lG B q (k + 1))) (B := B) (fun j p1 p2 => by rw [up_r (by omega)]; exact hB j p1 p2) ((up_n (by omega)).trans e3) ((up_n (by omega)).trans e4) hl (by omega) (by omega) ?_
      rw [if_pos hk]
      refine b172_268 hG ((up_n (by omega)).trans ((up_n (by omega)).trans e13)) ((up_n (by omega)).trans ((up_n (by omega)).trans ((up_n (by omega)).trans e4))) ?_
      refine nxt _ ⟨FrN_up (FrN_up (FrN_up (FrN_up f1 (by omega)) (by omega)) (by omega)) (by omega), ?_, ?_, ?_, fun h => ?_, fun hz h => ?_⟩
      · rw [up_n (by omega), up_e]; omega
      · rw [up_e]; omega
      · rw [up_n (by omega), up_n (by omega), up_n (by omega), up_n (by omega)]; exact e12
      · rw [up_n (by omega), up_n (by omega), up_n (by omega), up_e]
      · rw [up_n (by omega), up_n (by omega), up_e]
        rw [eL] at hz
        by_cases hlt : 97 ≤ B (q + k) ∧ B (q + k) ≤ 122
        · rw [if_pos hlt] at hz; omega
        · rw [if_neg hlt] at hz
          rw [eV, if_pos (by omega), eN (by omega) (by omega)]
          omega
end SPtr
