section SP
variable {d : Nat} {G : GG} {c : CC}
def sumN (f : Int → Int) : Nat → Int | 0 => 0 | n + 1 => sumN f n + f n
theorem sp_debtsOf_l (hG : Shp G) {Q : OO → HH → Prop} {v1 : Int} (h0 : 0 ≤ v1) (h1 : v1 < 8) (hz : Q (.inl (some (aI (sumN (fun q => c 190 (205 + 8 * v1 + q)) 8)))) (G, c)) : ∀ (j n : Nat), n + j = 8 → T d 192 4 [some (aR 188), some (aI v1), some (aI (sumN (fun q => c 190 (205 + 8 * v1 + q)) n)), some (aI (n : Int))] [] (G, c) Q := by
  intro j
  induction j with
  | zero =>
    intro n hn
    obtain rfl : n = 8 := by omega
    exact b192_4 hG (by omega) (fun _ => hz) (by omega) (by omega) rfl (by omega)
  | succ j ih =>
    intro n hn
    refine b192_4 hG (by omega) (fun h => by omega) (by omega) (by omega) rfl (fun _ => ?_)
    exact ih (n + 1) (by omega)
theorem sp_debtsOf (hG : Shp G) {v1 : Int} (h0 : 0 ≤ v1) (h1 : v1 < 8) {Q : Option AV → HH → Prop} (hz : Q (some (aI (sumN (fun q => c 190 (205 + 8 * v1 + q)) 8))) (G, c)) : TM d 192 [aR 188, aI v1] (G, c) Q :=
  b192_0 hG (sp_debtsOf_l hG h0 h1 hz 8 0 rfl)
end SP
