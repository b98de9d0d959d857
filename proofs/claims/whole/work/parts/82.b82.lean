section SPG
variable {cA cB cA' cB' : CC} {S S' : SS} {a b e : Nat}
def VW (l : List Int) : Prop := 1 ≤ l.length ∧ l.length ≤ 7 ∧ ∀ a ∈ l, 97 ≤ a ∧ a ≤ 122
def W5 (l : List Int) : Int := l.foldl (fun w a => w * 32 + (a - 97 + 1)) 0
def W8 (l : List Int) : Int := l.foldl (fun w a => w * 256 + a) 0
def NmR (x y : Int) : Prop := ∃ l, VW l ∧ x = W5 l ∧ y = W8 l
def Nms (cA : CC) (b : Nat) (cB : CC) (f : Nat) (off : Int) (S : SS) : Prop := (∀ j, 0 ≤ j → j < S 0 → NmR (cA (b + 1) j) (cB f (off + j))) ∧ ∀ j, 0 ≤ j → j < S 1 → NmR (cA (b + 2) j) (cB f (off + 6 + j))
def CdR (S : SS) (k sg n w s0 m : Int) : Prop := (k = 13 ∧ w = 0) ∨ (k = 7 ∧ w = 1 ∧ n = m ∧ 0 ≤ m ∧ m < S 0) ∨ (k = 14 ∧ w = 2 ∧ n = m ∧ 0 ≤ m ∧ m < S 1) ∨ (15 ≤ k ∧ k ≤ 19 ∧ w = k - 12 ∧ sg = s0 ∧ 60 ≤ s0 ∧ s0 ≤ 62 ∧ n = m ∧ 0 ≤ m ∧ m ≤ 999) ∨ (10 ≤ k ∧ k ≤ 12 ∧ w = 32 - k)
def RPN (S : SS) (dp : Int → Int) : Prop := dp 0 = 0 ∧ dp (S 333) = 1 ∧ ∀ i, 0 ≤ i → i < S 333 → (S (334 + 3 * i) < 20 → 0 ≤ dp i ∧ dp (i + 1) = dp i + 1) ∧ (S (334 + 3 * i) = 20 → 1 ≤ dp i ∧ dp (i + 1) = dp i) ∧ (20 < S (334 + 3 * i) → 2 ≤ dp i ∧ dp (i + 1) = dp i - 1)
def SnR (c : CC) (e : Nat) (S : SS) : Prop := (c e 7 = 0 ∨ c e 7 = 1) ∧ (c e 7 = 0 → S 333 = 0) ∧ (c e 7 = 1 → c e 6 = S 333 ∧ 1 ≤ S 333 ∧ S 333 ≤ 40 ∧ (∀ i, 0 ≤ i → i < S 333 → CdR S (c (e + 1) i) (c (e + 2) i) (c (e + 3) i) (S (334 + 3 * i)) (S (335 + 3 * i)) (S (336 + 3 * i))) ∧ ∃ dp, RPN S dp)
def GS (S : SS) : Prop := InvR S ∧ InvL S ∧ Bd S ∧ S 168 ≤ 9999
def mixF (S f : SS) : SS := fun i => if 168 ≤ i ∧ i < 333 then f (i - 168) else S i
def hslot (n nx j : Int) : Nat := 55 + 8 * ((nx + 8 - n + j) % 8).toNat
def GN (cA cB : CC) : Prop := RR cA 9 (cB 190) ∧ Nms cA 9 cB 193 0 (cB 190) ∧ SnR cA 43 (cB 190)
def rsv : List Int := [0x6b696e64, 0x6d65657473, 0x736f756c, 0x6f6e6c79, 0x77697368, 0x64656274, 0x67726f7773, 0x6173, 0x646179, 0x636c65726b, 0x6f72, 0x616e64, 0x6e6f74, 0x7761697473, 0x6f776573, 0x6465627473, 0x64756573, 0x626972746873, 0x6c656674, 0x706c616365]
def rsvF (i : Int) : Int := if 0 ≤ i then rsv.getD i.toNat 0 else 0
def GT (cA cB : CC) : Prop := (cA 2 1 = cB 188 2 ∧ 0 ≤ cB 188 2 ∧ cB 188 2 ≤ 940) ∧ (∀ i, 0 ≤ i → i < cB 188 2 → cA 3 i = q_and (cB 189 i) 255 ∧ 0 ≤ cA 3 i ∧ cA 3 i ≤ 255 ∧ -128 ≤ cB 189 i ∧ cB 189 i ≤ 127) ∧ (cA 2 14 = cB 188 15 ∧ 0 ≤ cB 188 15 ∧ cB 188 15 ≤ 4) ∧ (∀ i, 0 ≤ i → i < 20 → cA 4 i = q_keys i ∧ cB 194 i = rsvF i)
def GH (cA cB : CC) : Prop := (cA 53 1 = cB 188 23 ∧ 0 ≤ cB 188 23 ∧ cB 188 23 ≤ 8 ∧ 0 ≤ cA 53 2 ∧ cA 53 2 < 8) ∧ ∀ j, 0 ≤ j → j < cB 188 23 → GS (mixF (cB 190) (fun i => cB 195 (165 * j + i))) ∧ LR cA (hslot (cB 188 23) (cA 53 2) j) (mixF (cB 190) (fun i => cB 195 (165 * j + i)))
def GM (cA cB : CC) : Prop := (∀ s, 0 ≤ s → s < 8 → cA 131 s = (if s < cB 188 27 then cB 199 s else -1) ∧ I32 (cA 131 s)) ∧ -1 ≤ cB 188 27 ∧ cB 188 27 ≤ 8
def GW (cA cB : CC) : Prop := (∀ i, 0 ≤ i → i < 3 → cA 187 i = (if cB 188 31 = 1 then cB 202 i else -1) ∧ I32 (cA 187 i)) ∧ 0 ≤ cB 188 31 ∧ cB 188 31 ≤ 1
def GB (cA cB : CC) : Prop := cA 120 6 = cB 188 38 ∧ (cB 188 38 = 0 ∨ cB 188 38 = 1) ∧ (cB 188 38 = 1 → ∀ i, 0 ≤ i → i < 4 → cA 120 (7 + i) = cB 205 i ∧ I32 (cB 205 i)) ∧ cA 138 0 = 0 ∧ cA 139 0 = 0 ∧ cB 200 0 = 0 ∧ cB 201 0 = 0
def imgF (cB : CC) (k : Int) : SS := fun i => cB 208 (514 * k + i)
def GI1 (cA cB : CC) (a : Nat) (k : Int) : Prop := cA a 3 = cB 210 k ∧ (cB 210 k = 0 ∨ cB 210 k = 1) ∧ (cB 210 k = 1 → GS (imgF cB k) ∧ RR cA (a + 1) (imgF cB k) ∧ LR cA (a + 10) (imgF cB k) ∧ SnR cA (a + 18) (imgF cB k) ∧ Nms cA (a + 1) cB 209 (14 * k) (imgF cB k))
def GI (cA cB : CC) : Prop := GI1 cA cB 141 0 ∧ GI1 cA cB 164 1
def GR (cA cB : CC) : Prop := GS (cB 190) ∧ GN cA cB ∧ LR cA 27 (cB 190) ∧ GT cA cB ∧ GH cA cB ∧ GM cA cB ∧ GW cA cB ∧ GB cA cB ∧ GI cA cB
theorem SnR_S {c : CC} (h : SnR c e S) (hs : SmR S S') : SnR c e S' := by
  obtain ⟨h1, h2, h3⟩ := h
  refine ⟨h1, fun h => by rw [hs 333 (by omega)]; exact h2 h, fun h => ?_⟩
  obtain ⟨g1, g2, g3, g4, dp, g5, g6, g7⟩ := h3 h
  have e3 := hs 333 (by omega)
  refine ⟨by rw [e3]; exact g1, by rw [e3]; exact g2, by rw [e3]; exact g3, fun i p1 p2 => ?_, dp, g5, by rw [e3]; exact g6, fun i p1 p2 => ?_⟩
  · rw [e3] at p2
    have := g4 i p1 p2
    unfold CdR at this ⊢
    rw [hs (334 + 3 * i) (by omega), hs (335 + 3 * i) (by omega), hs (336 + 3 * i) (by omega), hs 0 (by omega), hs 1 (by omega)]
    exact this
  · rw [e3] at p2
    rw [hs (334 + 3 * i) (by omega)]
    exact g7 i p1 p2
theorem SnR_fr {c c' : CC} (h : SnR c e S) (h0 : c' e = c e) (h1 : c' (e + 1) = c (e + 1)) (h2 : c' (e + 2) = c (e + 2)) (h3 : c' (e + 3) = c (e + 3)) : SnR c' e S := by
  unfold SnR
  rw [h0, h1, h2, h3]
  exact h
theorem Nms_fr {f : Nat} {off : Int} (h : Nms cA b cB f off S) (h1 : cA' (b + 1) = cA (b + 1)) (h2 : cA' (b + 2) = cA (b + 2)) (h3 : ∀ j, off ≤ j → j < off + 14 → cB' f j = cB f j) (hS : S' 0 = S 0 ∧ S' 1 = S 1) (hr : S 0 ≤ 6 ∧ S 1 ≤ 8) : Nms cA' b cB' f off S' := by
  refine ⟨fun j p1 p2 => ?_, fun j p1 p2 => ?_⟩
  · rw [h1, h3 _ (by omega) (by omega)]
    exact h.1 j p1 (by omega)
  · rw [h2, h3 _ (by omega) (by omega)]
    exact h.2 j p1 (by omega)
theorem GN_fr (h : GN cA cB) (hs : SmR (cB 190) (cB' 190)) (hR : InvR (cB 190)) (hA : ∀ r, (9 ≤ r ∧ r ≤ 17) ∨ (43 ≤ r ∧ r ≤ 46) → cA' r = cA r) (hB : ∀ j, 0 ≤ j → j < 14 → cB' 193 j = cB 193 j) : GN cA' cB' := by
  have hr := hR.1
  refine ⟨RR_S (RR_fr h.1 (fun r h1 h2 => hA r (by omega))) hs (by omega), Nms_fr h.2.1 (hA _ (by omega)) (hA _ (by omega)) (fun j h1 h2 => hB j (by omega) (by omega)) ⟨hs 0 (by omega), hs 1 (by omega)⟩ (by omega), SnR_S (SnR_fr h.2.2 (hA _ (by omega)) (hA _ (by omega)) (hA _ (by omega)) (hA _ (by omega))) hs⟩
theorem GT_fr (h : GT cA cB) (a1 : cA' 2 1 = cA 2 1) (a2 : cA' 2 14 = cA 2 14) (a3 : cA' 3 = cA 3) (a4 : cA' 4 = cA 4) (b1 : cB' 188 2 = cB 188 2) (b2 : cB' 188 15 = cB 188 15) (b3 : cB' 189 = cB 189) (b4 : cB' 194 = cB 194) : GT cA' cB' := by
  unfold GT
  rw [a1, a2, a3, a4, b1, b2, b3, b4]
  exact h
theorem mix_c {f : SS} (hs : ∀ i, (i < 168 ∨ 333 ≤ i) → S' i = S i) : mixF S' f = mixF S f := by
  funext i
  unfold mixF
  split
  · rfl
  · exact hs i (by omega)
theorem GH_fr (h : GH cA cB) (hs : SmR (cB 190) (cB' 190)) (a1 : ∀ r, 53 ≤ r → r ≤ 118 → cA' r = cA r) (b1 : cB' 188 23 = cB 188 23) (b2 : cB' 195 = cB 195) : GH cA' cB' := by
  unfold GH
  rw [a1 53 (by omega) (by omega), b1, b2]
  refine ⟨h.1, fun j p1 p2 => ?_⟩
  obtain ⟨g1, g2⟩ := h.2 j p1 p2
  rw [mix_c hs]
  refine ⟨g1, LR_fr g2 (fun r q1 q2 => a1 r ?_ ?_)⟩ <;> (unfold hslot at q1 q2; omega)
theorem GM_fr (h : GM cA cB) (a1 : cA' 131 = cA 131) (b1 : cB' 188 27 = cB 188 27) (b2 : cB' 199 = cB 199) : GM cA' cB' := by
  unfold GM
  rw [a1, b1, b2]
  exact h
theorem GW_fr (h : GW cA cB) (a1 : cA' 187 = cA 187) (b1 : cB' 188 31 = cB 188 31) (b2 : cB' 202 = cB 202) : GW cA' cB' := by
  unfold GW
  rw [a1, b1, b2]
  exact h
theorem GB_fr (h : GB cA cB) (a1 : ∀ i, 6 ≤ i → i ≤ 10 → cA' 120 i = cA 120 i) (b1 : cB' 188 38 = cB 188 38) (b2 : cB' 205 = cB 205) (z1 : cA' 138 = cA 138) (z2 : cA' 139 = cA 139) (z3 : cB' 200 = cB 200) (z4 : cB' 201 = cB 201) : GB cA' cB' := by
  unfold GB
  rw [a1 6 (by omega) (by omega), b1, b2, z1, z2, z3, z4]
  refine ⟨h.1, h.2.1, fun p i p1 p2 => ?_, h.2.2.2⟩
  rw [a1 (7 + i) (by omega) (by omega)]
  exact h.2.2.1 p i p1 p2
theorem GI1_fr {k : Int} (h : GI1 cA cB a k) (a1 : ∀ r, a ≤ r → r ≤ a + 22 → cA' r = cA r) (b1 : cB' 208 = cB 208) (b2 : cB' 209 = cB 209) (b3 : cB' 210 = cB 210) : GI1 cA' cB' a k := by
  unfold GI1 imgF
  rw [a1 a (by omega) (by omega), b1, b3]
  refine ⟨h.1, h.2.1, fun p => ?_⟩
  obtain ⟨g1, g2, g3, g4, g5⟩ := h.2.2 p
  exact ⟨g1, RR_fr g2 (fun r q1 q2 => a1 r (by omega) (by omega)), LR_fr g3 (fun r q1 q2 => a1 r (by omega) (by omega)), SnR_fr g4 (a1 _ (by omega) (by omega)) (a1 _ (by omega) (by omega)) (a1 _ (by omega) (by omega)) (a1 _ (by omega) (by omega)), Nms_fr g5 (a1 _ (by omega) (by omega)) (a1 _ (by omega) (by omega)) (fun j _ _ => by rw [b2]) ⟨rfl, rfl⟩ (by have := g1.1.1; exact ⟨this.2.1, this.2.2.2.1⟩)⟩
theorem GI_fr (h : GI cA cB) (a1 : ∀ r, 141 ≤ r → r ≤ 186 → cA' r = cA r) (b1 : cB' 208 = cB 208) (b2 : cB' 209 = cB 209) (b3 : cB' 210 = cB 210) : GI cA' cB' :=
  ⟨GI1_fr h.1 (fun r p1 p2 => a1 r (by omega) (by omega)) b1 b2 b3, GI1_fr h.2 (fun r p1 p2 => a1 r (by omega) (by omega)) b1 b2 b3⟩
def KA (cA cA' : CC) : Prop := (∀ r, r = 3 ∨ r = 4 ∨ (9 ≤ r ∧ r ≤ 17) ∨ (43 ≤ r ∧ r ≤ 46) ∨ r = 131 ∨ r = 138 ∨ r = 139 ∨ (141 ≤ r ∧ r ≤ 187) → cA' r = cA r) ∧ cA' 2 1 = cA 2 1 ∧ cA' 2 14 = cA 2 14 ∧ (∀ i, 6 ≤ i → i ≤ 10 → cA' 120 i = cA 120 i)
def KB (cB cB' : CC) : Prop := (∀ r, r = 189 ∨ r = 194 ∨ r = 199 ∨ r = 200 ∨ r = 201 ∨ r = 202 ∨ r = 205 ∨ r = 208 ∨ r = 209 ∨ r = 210 → cB' r = cB r) ∧ (∀ i, i = 2 ∨ i = 15 ∨ i = 27 ∨ i = 31 ∨ i = 38 → cB' 188 i = cB 188 i) ∧ (∀ j, 0 ≤ j → j < 14 → cB' 193 j = cB 193 j) ∧ SmR (cB 190) (cB' 190)
theorem GR_mk (h : GR cA cB) (hA : KA cA cA') (hB : KB cB cB') (h1 : GS (cB' 190)) (h2 : LR cA' 27 (cB' 190)) (h3 : GH cA' cB') : GR cA' cB' := by
  obtain ⟨g1, g2, g3, g4, g5, g6, g7, g8, g9⟩ := h
  obtain ⟨a1, a2, a3, a4⟩ := hA
  obtain ⟨b1, b2, b3, b4⟩ := hB
  refine ⟨h1, GN_fr g2 b4 g1.1 (fun r p => a1 r (by omega)) b3, h2, GT_fr g4 a2 a3 (a1 _ (by omega)) (a1 _ (by omega)) (b2 _ (by omega)) (b2 _ (by omega)) (b1 _ (by omega)) (b1 _ (by omega)), h3, GM_fr g6 (a1 _ (by omega)) (b2 _ (by omega)) (b1 _ (by omega)), GW_fr g7 (a1 _ (by omega)) (b2 _ (by omega)) (b1 _ (by omega)), GB_fr g8 a4 (b2 _ (by omega)) (b1 _ (by omega)) (a1 _ (by omega)) (a1 _ (by omega)) (b1 _ (by omega)) (b1 _ (by omega)), GI_fr g9 (fun r p1 p2 => a1 r (by omega)) (b1 _ (by omega)) (b1 _ (by omega)) (b1 _ (by omega))⟩
theorem GR_keep (h : GR cA cB) (hA : KA cA cA') (hA2 : ∀ r, (27 ≤ r ∧ r ≤ 34) ∨ (53 ≤ r ∧ r ≤ 118) → cA' r = cA r) (hB : KB cB cB') (hB1 : cB' 190 = cB 190) (hB2 : cB' 188 23 = cB 188 23) (hB3 : cB' 195 = cB 195) : GR cA' cB' := by
  refine GR_mk h hA hB (by rw [hB1]; exact h.1) ?_ (GH_fr h.2.2.2.2.1 hB.2.2.2 (fun r p1 p2 => hA2 r (by omega)) hB2 hB3)
  rw [hB1]
  exact LR_fr h.2.2.1 (fun r p1 p2 => hA2 r (by omega))
theorem KA_refl : KA cA cA := ⟨fun _ _ => rfl, rfl, rfl, fun _ _ _ => rfl⟩
theorem KB_thr {v : Int} : KB cB (q_up cB 188 0 v) := ⟨fun r p => up_r (by omega), fun i p => up_n (by omega), fun j _ _ => up_n (by omega), fun i _ => up_n (by omega)⟩
theorem GR_thr {v : Int} (h : GR cA cB) : GR cA (q_up cB 188 0 v) :=
  GR_keep h KA_refl (fun _ _ => rfl) KB_thr (up_r (by omega)) (up_n (by omega)) (up_r (by omega))
def OP (G : GG) (d kx km : Nat) (ax : List AV) (cA cB : CC) : Prop := TM d kx (aR 1 :: ax) (G, cA) (fun r1 h1 => ∃ cA', h1 = (G, cA') ∧ (∀ r, 188 ≤ r → cA' r = cA r) ∧ TM d km (aR 188 :: ax) (G, cB) (fun r2 h2 => ∃ cB', h2 = (G, cB') ∧ GR cA' cB' ∧ ∃ v, r1 = some (aI v) ∧ r2 = some (aI v) ∧ I32 v))
end SPG
