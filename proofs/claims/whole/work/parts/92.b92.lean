section SPBy
def OKb (b x : Int) : Prop := x = q_and b 255 ∧ 0 ≤ x ∧ x ≤ 255 ∧ -128 ≤ b ∧ b ≤ 127
theorem ofI_to (x : Int32) : Int32.ofInt x.toInt = x := Int32.ofInt_toInt x
theorem and255 (y : Int) : q_and y 255 = y % 256 := by
  unfold q_and
  rw [← Int32.toInt_toBitVec, Int32.toBitVec_and, Int32.toBitVec_ofInt, Int32.toBitVec_ofInt]
  have h1 : (BitVec.ofInt 32 y &&& BitVec.ofInt 32 255).toNat = (y % 4294967296).toNat % 256 := by
    rw [BitVec.toNat_and, BitVec.toNat_ofInt, BitVec.toNat_ofInt]
    have : ((255 : Int) % ((2 ^ 32 : Nat) : Int)).toNat = 2 ^ 8 - 1 := by decide
    rw [this, Nat.and_two_pow_sub_one_eq_mod]
    rfl
  rw [BitVec.toInt_eq_toNat_of_lt (by rw [h1]; omega), h1]
  omega
theorem shr_eq {v s : Int} (hs : s = 24 ∨ s = 16 ∨ s = 8 ∨ s = 0) : q_shr v s = (Int32.ofInt v).toInt / (2 ^ s.toNat : Nat) := by
  unfold q_shr
  rw [← Int32.toInt_toBitVec, Int32.toBitVec_shiftRight, BitVec.toInt_sshiftRight']
  rw [Int.shiftRight_eq_div_pow]
  rcases hs with rfl | rfl | rfl | rfl <;> rfl
theorem ush_eq {v s : Int} (hs : s = 24 ∨ s = 16 ∨ s = 8 ∨ s = 0) : ((Int32.ofInt v).toUInt32 >>> ((Int32.ofInt s).toUInt32 &&& Int32.toUInt32 31)).toNat = (Int32.ofInt v).toUInt32.toNat / 2 ^ s.toNat := by
  rw [UInt32.toNat_shiftRight, Nat.shiftRight_eq_div_pow]
  rcases hs with rfl | rfl | rfl | rfl <;> rfl
theorem toU {x : Int32} : (x.toUInt32.toNat : Int) = x.toInt ∨ (x.toUInt32.toNat : Int) = x.toInt + 4294967296 := by
  have h1 := BitVec.toInt_eq_toNat_cond x.toBitVec
  rw [Int32.toInt_toBitVec] at h1
  have h2 : x.toUInt32.toNat = x.toBitVec.toNat := rfl
  split at h1 <;> omega
theorem ush_mod {v s : Int} (hs : s = 24 ∨ s = 16 ∨ s = 8 ∨ s = 0) : q_ush v s % 256 = q_shr v s % 256 := by
  have h1 := ush_eq (v := v) hs
  have h2 := shr_eq (v := v) hs
  have h3 := toU (x := Int32.ofInt v)
  have h4 : q_ush v s % 256 = ((((Int32.ofInt v).toUInt32 >>> ((Int32.ofInt s).toUInt32 &&& Int32.toUInt32 31)).toNat : Nat) : Int) % 256 := by
    unfold q_ush
    generalize (Int32.ofInt v).toUInt32 >>> ((Int32.ofInt s).toUInt32 &&& Int32.toUInt32 31) = w
    have h5 := toU (x := w.toInt32)
    rw [UInt32.toUInt32_toInt32] at h5
    omega
  rw [h4, h1, h2]
  rcases hs with rfl | rfl | rfl | rfl
  · show (((Int32.ofInt v).toUInt32.toNat / 16777216 : Nat) : Int) % 256 = (Int32.ofInt v).toInt / 16777216 % 256
    omega
  · show (((Int32.ofInt v).toUInt32.toNat / 65536 : Nat) : Int) % 256 = (Int32.ofInt v).toInt / 65536 % 256
    omega
  · show (((Int32.ofInt v).toUInt32.toNat / 256 : Nat) : Int) % 256 = (Int32.ofInt v).toInt / 256 % 256
    omega
  · show (((Int32.ofInt v).toUInt32.toNat / 1 : Nat) : Int) % 256 = (Int32.ofInt v).toInt / 1 % 256
    omega
theorem bmod256 (x : Int) : x.bmod 256 = if x % 256 < 128 then x % 256 else x % 256 - 256 := rfl
theorem i2b_eq {y : Int} (h : -2147483648 ≤ y ∧ y < 2147483648) : q_i2b y = y.bmod 256 := by
  unfold q_i2b
  simp
theorem nar_eq {y : Int} (h : -128 ≤ y ∧ y < 128) : q_nar 22 y = y := by
  unfold q_nar vp_nar
  have : narrow FieldType.byte (Value.int (Int32.ofInt y)) = Value.int ((Int32.ofInt y).toInt8.toInt32) := rfl
  rw [if_pos rfl, this]
  show ((Int32.ofInt y).toInt8.toInt32).toInt = y
  have h2 := i2b_eq (y := y) (by omega)
  unfold q_i2b at h2
  rw [h2, bmod256]
  omega
theorem byte_ok {v : Int} {s : Int} (hs : s = 24 ∨ s = 16 ∨ s = 8 ∨ s = 0) : OKb (q_nar 22 (q_i2b (q_shr v s))) (q_and (q_ush v s) 255) := by
  have hI : -2147483648 ≤ q_shr v s ∧ q_shr v s < 2147483648 := ⟨Int32.le_toInt _, Int32.toInt_lt _⟩
  have e1 := i2b_eq hI
  have hb : -128 ≤ (q_shr v s).bmod 256 ∧ (q_shr v s).bmod 256 < 128 ∧ (q_shr v s).bmod 256 % 256 = q_shr v s % 256 := by
    rw [bmod256]
    omega
  rw [e1, nar_eq (by omega)]
  have h3 := ush_mod (v := v) hs
  unfold OKb
  rw [and255, and255]
  omega
end SPBy
section SPFd
variable {d : Nat} {G : GG} {c c' cA cB cA1 cB1 cA' cB' : CC} {Q : Option AV → HH → Prop} {v1 v2 v3 v4 v5 n nx i j N x s w len : Int} {B : Int → Int}
def extB (B : Int → Int) (len v : Int) : Int → Int := fun i => if i < len then B i else q_and (q_ush v (24 - 8 * (i - len))) 255
def FrT (c c' : CC) : Prop := (∀ r, ¬ r = 2 → ¬ r = 3 → c' r = c r) ∧ ∀ i, ¬ i = 1 → c' 2 i = c 2 i
def FrU (c c' : CC) : Prop := (∀ r, ¬ r = 188 → ¬ r = 189 → c' r = c r) ∧ ∀ i, ¬ i = 2 → c' 188 i = c 188 i
theorem FrT_tr {c1 c2 : CC} (h1 : FrT c c1) (h2 : FrT c1 c2) : FrT c c2 := ⟨fun r p q => (h2.1 r p q).trans (h1.1 r p q), fun i p => (h2.2 i p).trans (h1.2 i p)⟩
theorem FrU_tr {c1 c2 : CC} (h1 : FrU c c1) (h2 : FrU c1 c2) : FrU c c2 := ⟨fun r p q => (h2.1 r p q).trans (h1.1 r p q), fun i p => (h2.2 i p).trans (h1.2 i p)⟩
theorem c_addN (hG : Shp G) (e : c 2 1 = len) (h0 : 0 ≤ len) (h1 : len ≤ 936) (hB : ∀ i, 0 ≤ i → i < len → c 3 i = B i) (hz : ∀ c', FrT c c' → c' 2 1 = len + 4 → (∀ i, 0 ≤ i → i < len + 4 → c' 3 i = extB B len v1 i) → Q none (G, c')) : TM d 94 [aR 2, aI v1] (G, c) Q := by
  refine b94_0 hG ?_
  have key : ∀ k, 0 ≤ k → k ≤ 4 → ∀ c2 : CC, FrT c c2 → c2 2 1 = len + k → (∀ i, 0 ≤ i → i < len + k → c2 3 i = extB B len v1 i) → T d 94 3 [some (aR 2), some (aI v1), some (aI (24 - 8 * k))] [] (G, c2) (QM Q) := by
    refine int_ind ?_ ?_
    · intro c2 fr e2 hb
      refine b94_3 hG (by intros; omega) ?_ rfl (by intros; omega) ?_ rfl (by intros; omega) (by intros; omega) (up_n (by omega)) ?_
      · intro p1; exact hz c2 fr e2 hb
      · intro p1; omega
      · intro p1; omega
    · intro k q1 q2 ih c2 fr e2 hb
      refine b94_3 hG (by intros; omega) ?_ rfl (by intros; omega) ?_ rfl (by intros; omega) (by intros; omega) (up_n (by omega)) ?_
      · intro p1; omega
      · intro p1 p2; omega
      · intro p1 p2
        rw [e2, show 24 - 8 * k + -8 = 24 - 8 * (k + 1) by omega]
        refine ih _ (FrT_tr fr ⟨fun r p q => by rw [up_r p, up_r q], fun i p => by rw [up_n (by omega), up_n (by omega)]⟩) ?_ (fun i p3 p4 => ?_)
        · rw [up_e]; omega
        · rw [up_n (by omega)]
          by_cases hi : i = len + k
          · rw [hi, up_e]
            unfold extB
            rw [if_neg (by omega), show len + k - len = k by omega]
          · rw [up_n (by omega)]
            exact hb i p3 (by omega)
  have := key 0 (by omega) (by omega) c ⟨fun _ _ _ => rfl, fun _ _ => rfl⟩ (by omega) (fun i p q => by rw [hB i p (by omega)]; unfold extB; rw [if_pos (by omega)])
  exact this
theorem r_four (hG : Shp G) (e : c 188 2 = len) (h0 : 0 ≤ len) (h1 : len ≤ 936) (hB : ∀ i, 0 ≤ i → i < len → OKb (c 189 i) (B i)) (hz : ∀ c', FrU c c' → c' 188 2 = len + 4 → (∀ i, 0 ≤ i → i < len + 4 → OKb (c' 189 i) (extB B len v1 i)) → Q none (G, c')) : TM d 161 [aR 188, aI v1] (G, c) Q := by
  refine b161_0 hG ?_
  have key : ∀ k, 0 ≤ k → k ≤ 4 → ∀ c2 : CC, FrU c c2 → c2 188 2 = len + k → (∀ i, 0 ≤ i → i < len + k → OKb (c2 189 i) (extB B len v1 i)) → T d 161 3 [some (aR 188), some (aI v1), some (aI (24 - 8 * k))] [] (G, c2) (QM Q) := by
    refine int_ind ?_ ?_
    · intro c2 fr e2 hb
      refine b161_3 hG (by intros; omega) ?_ rfl (by intros; omega) (by intros; omega) (up_n (by omega)) ?_
      · intro p1; exact hz c2 fr e2 hb
      · intro p1; omega
    · intro k q1 q2 ih c2 fr e2 hb
      refine b161_3 hG (by intros; omega) ?_ rfl (by intros; omega) (by intros; omega) (up_n (by omega)) ?_
      · intro p1; omega
      · intro p1
        rw [e2, show 24 - 8 * k + -8 = 24 - 8 * (k + 1) by omega]
        refine ih _ (FrU_tr fr ⟨fun r p q => by rw [up_r p, up_r q], fun i p => by rw [up_n (by omega), up_n (by omega)]⟩) ?_ (fun i p3 p4 => ?_)
        · rw [up_e]; omega
        · rw [up_n (by omega)]
          by_cases hi : i = len + k
          · rw [hi, up_e]
            unfold extB
            rw [if_neg (by omega), show len + k - len = k by omega]
            exact byte_ok (by omega)
          · rw [up_n (by omega)]
            exact hb i p3 (by omega)
  have := key 0 (by omega) (by omega) c ⟨fun _ _ _ => rfl, fun _ _ => rfl⟩ (by omega) (fun i p q => by unfold extB; rw [if_pos (by omega)]; exact hB i p (by omega))
  exact this
theorem op_feed (hG : Shp G) (h : GR cA cB) : OP G (d + 50) 110 160 [aI v1, aI v2, aI v3, aI v4, aI v5] cA cB := by
  obtain ⟨⟨t1, t2, t3⟩, t4, t5, t6⟩ := h.2.2.2.1
  by_cases hw : cB 188 2 ≤ 920
  · have hm : ∀ (cA' : CC) (B5 : Int → Int), FrT cA cA' → cA' 2 1 = cB 188 2 + 20 → (∀ i, 0 ≤ i → i < cB 188 2 + 20 → cA' 3 i = B5 i) → B5 = extB (extB (extB (extB (extB (cA 3) (cB 188 2) v1) (cB 188 2 + 4) v2) (cB 188 2 + 8) v3) (cB 188 2 + 12) v4) (cB 188 2 + 16) v5 → TM (d + 50) 160 [aR 188, aI v1, aI v2, aI v3, aI v4, aI v5] (G, cB) (fun r2 h2 => ∃ cB', h2 = (G, cB') ∧ GR cA' cB' ∧ ∃ v, (some (aI (cB 188 2 + 20))) = some (aI v) ∧ r2 = some (aI v) ∧ I32 v) := by
      intro cA' B5 fA a1 a2 hB5
      refine b160_0 hG TM_eqo (up_n (by omega)) (by intros; omega) ?_ ?_
      · intro p1
        refine r_four hG (len := cB 188 2) (B := cA 3) (up_n (by omega)) (by omega) (by omega) (fun i q1 q2 => ?_) (fun c1 f1 g1 b1 => ?_)
        · rw [up_n (by omega)]
          obtain ⟨w1, w2, w3, w4, w5⟩ := t4 i q1 q2
          exact ⟨w1, w2, w3, w4, w5⟩
        refine b160_25 hG TM_eqo ?_
        refine r_four hG g1 (by omega) (by omega) b1 (fun c2 f2 g2 b2 => ?_)
        refine b160_30 hG TM_eqo ?_
        rw [show cB 188 2 + 4 + 4 = cB 188 2 + 8 by omega] at g2 b2
        refine r_four hG g2 (by omega) (by omega) b2 (fun c3 f3 g3 b3 => ?_)
        refine b160_35 hG TM_eqo ?_
        rw [show cB 188 2 + 8 + 4 = cB 188 2 + 12 by omega] at g3 b3
        refine r_four hG g3 (by omega) (by omega) b3 (fun c4 f4 g4 b4 => ?_)
        refine b160_41 hG TM_eqo ?_
        rw [show cB 188 2 + 12 + 4 = cB 188 2 + 16 by omega] at g4 b4
        refine r_four hG g4 (by omega) (by omega) b4 (fun c5 f5 g5 b5 => ?_)
        refine b160_47 hG rfl ?_
        rw [show cB 188 2 + 16 + 4 = cB 188 2 + 20 by omega] at g5 b5
        rw [← hB5] at b5
        rw [g5]
        have fr := FrU_tr f1 (FrU_tr f2 (FrU_tr f3 (FrU_tr f4 f5)))
        have oB : ∀ r, ¬ r = 188 → ¬ r = 189 → c5 r = cB r := fun r p q => by rw [fr.1 r p q, up_r p]
        have oB8 : ∀ i, ¬ i = 2 → ¬ i = 0 → c5 188 i = cB 188 i := fun i p q => by rw [fr.2 i p, up_n (by omega)]
        have e190 := oB 190 (by omega) (by omega)
        refine ⟨c5, rfl, ?_, _, rfl, rfl, by omega⟩
        obtain ⟨r1, r2, r3, r4, r5, r6, r7, r8, r9⟩ := h
        refine ⟨by rw [e190]; exact r1, GN_fr r2 (by rw [e190]; exact SmR_refl _) r1.1 (fun r p => fA.1 r (by omega) (by omega)) (fun j _ _ => by rw [oB 193 (by omega) (by omega)]), by rw [e190]; exact LR_fr r3 (fun r p q => fA.1 r (by omega) (by omega)), ⟨⟨by rw [a1, g5], by omega, by omega⟩, fun i p q => ?_, ?_, fun i p q => ?_⟩, GH_fr r5 (by rw [e190]; exact SmR_refl _) (fun r p q => fA.1 r (by omega) (by omega)) (oB8 _ (by omega) (by omega)) (oB _ (by omega) (by omega)), GM_fr r6 (fA.1 _ (by omega) (by omega)) (oB8 _ (by omega) (by omega)) (oB _ (by omega) (by omega)), GW_fr r7 (fA.1 _ (by omega) (by omega)) (oB8 _ (by omega) (by omega)) (oB _ (by omega) (by omega)), GB_fr r8 (fun i _ _ => by rw [fA.1 120 (by omega) (by omega)]) (oB8 _ (by omega) (by omega)) (oB _ (by omega) (by omega)) (fA.1 _ (by omega) (by omega)) (fA.1 _ (by omega) (by omega)) (oB _ (by omega) (by omega)) (oB _ (by omega) (by omega)), GI_fr r9 (fun r p q => fA.1 r (by omega) (by omega)) (oB _ (by omega) (by omega)) (oB _ (by omega) (by omega)) (oB _ (by omega) (by omega))⟩
        · have := b5 i p (by omega)
          rw [a2 i p (by omega)]
          exact this
        · rw [fA.2 14 (by omega), oB8 15 (by omega) (by omega)]; exact t5
        · rw [fA.1 4 (by omega) (by omega), oB 194 (by omega) (by omega)]; exact t6 i p q
      · intro p1; omega
    refine b110_0 hG TM_eqo rfl (by intros; omega) ?_ ?_
    · intro p1
      refine c_addN hG (B := cA 3) t1 (by omega) (by omega) (fun _ _ _ => rfl) (fun c1 f1 g1 b1 => ?_)
      refine b110_23 hG TM_eqo ?_
      refine c_addN hG g1 (by omega) (by omega) b1 (fun c2 f2 g2 b2 => ?_)
      refine b110_31 hG TM_eqo ?_
      rw [show cB 188 2 + 4 + 4 = cB 188 2 + 8 by omega] at g2 b2
      refine c_addN hG g2 (by omega) (by omega) b2 (fun c3 f3 g3 b3 => ?_)
      refine b110_39 hG TM_eqo ?_
      rw [show cB 188 2 + 8 + 4 = cB 188 2 + 12 by omega] at g3 b3
      refine c_addN hG g3 (by omega) (by omega) b3 (fun c4 f4 g4 b4 => ?_)
      refine b110_48 hG TM_eqo ?_
      rw [show cB 188 2 + 12 + 4 = cB 188 2 + 16 by omega] at g4 b4
      refine c_addN hG g4 (by omega) (by omega) b4 (fun c5 f5 g5 b5 => ?_)
      refine b110_57 hG rfl ?_
      rw [show cB 188 2 + 16 + 4 = cB 188 2 + 20 by omega] at g5 b5
      rw [g5]
      have fr := FrT_tr f1 (FrT_tr f2 (FrT_tr f3 (FrT_tr f4 f5)))
      exact ⟨c5, rfl, fun r hr => fr.1 r (by omega) (by omega), hm c5 _ fr g5 b5 rfl⟩
    · intro p1; omega
  · refine op_q (v := -1) h (by omega) ?_ ?_
    · intro Q hz
      generalize hc : cA = c at *
      refine b110_0 hG TM_eqo rfl (by intros; omega) ?_ ?_
      · intro p1; omega
      · intro p1; exact hz
    · intro Q hz
      generalize hc : cB = c at *
      refine b160_0 hG TM_eqo (up_n (by omega)) (by intros; omega) ?_ ?_
      · intro p1; omega
      · intro p1; exact hz
end SPFd
