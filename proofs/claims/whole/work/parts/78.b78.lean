section SPF
theorem u1_oob {α : Type} (f : Nat → Decoder α) {code : ByteArray} {pc : Nat} (h : code.size ≤ pc) : (Reader.u1 >>= f).runAt code pc = .error (HasTruncated.truncated pc) := by
  unfold Reader.runAt
  show (Except.bind ((Reader.u1 code).run pc) _) = _
  have : (Reader.u1 (ε := DecodeError) code).run pc = .error (HasTruncated.truncated pc) := by
    unfold Reader.u1
    simp only [Bind.bind, ReaderT.bind, StateT.bind, MonadReader.read, MonadState.get, getThe, readThe, MonadReaderOf.read, MonadStateOf.get, liftM, monadLift, MonadLift.monadLift, StateT.run]
    simp [ReaderT.read, StateT.get, Pure.pure, StateT.pure, Except.bind, Except.pure]
    rw [dif_neg (by omega)]
    rfl
  rw [this]
  rfl
theorem dec_oob {code : ByteArray} {pc : Nat} (h : code.size ≤ pc) (q : Instr × Nat) : ¬ decode code pc = .ok q := by
  have h1 : ∃ f, Decoder.instr pc = Reader.u1 >>= f := ⟨_, rfl⟩
  obtain ⟨f, hf⟩ := h1
  unfold decode
  rw [hf, u1_oob f h]
  intro h2
  cases h2
def gd (mi : Nat) : Bool := decide (158 ≤ mi) && decide (mi < 265) && decide (¬ mi = 168)
def chk (mi pc : Nat) : Bool := match decode (mC mi) pc with
  | .error _ => true
  | .ok (ins, _) => match ins with
    | .new i => (match pl (mO mi) i with | some (t, _, _, _) => decide (t = 17) | none => true)
    | .newarray _ => false
    | .anewarray _ => false
    | .aastore => false
    | .putfield i => (match pl (mO mi) i with | some (_, ci, k, _) => decide (q_ft ci k < 3) | none => true)
    | .invokevirtual i => (match pl (mO mi) i with | some (t, k, _, _) => decide (¬ t = 1) || gd k | none => true)
    | .invokespecial i => (match pl (mO mi) i with | some (t, k, _, _) => decide (¬ t = 4 ∧ ¬ t = 5) || gd k | none => true)
    | .invokestatic i => (match pl (mO mi) i with | some (t, k, _, _) => decide (¬ t = 12 ∧ ¬ t = 13 ∧ ¬ t = 14) && (decide (¬ t = 2 ∧ ¬ t = 3) || gd k) | none => true)
    | _ => true
def tg1 (pc : Nat) (off : Int) : List Nat := match q_tgt pc off with | some t => [t] | none => []
def sucs (ins : Instr) (pc len : Nat) : List Nat := match ins with
  | .goto off => tg1 pc off
  | .if_icmp _ off => (pc + 3) :: tg1 pc off
  | .ifCond _ off => (pc + 3) :: tg1 pc off
  | .ifnull _ => [pc + 3]
  | .ifnonnull off => tg1 pc off
  | .tableswitch dflt _ _ offs => tg1 pc dflt ++ offs.toList.flatMap (tg1 pc)
  | _ => [pc + len]
def q_mid : List (Nat × List Nat) := [(184, [543, 544]), (194, [105, 106]), (200, [22, 23]), (202, [50, 51]), (220, [104]), (246, [30, 31]), (250, [96, 97, 136, 137, 150, 151, 165, 166, 181, 182, 197, 198, 217, 218]), (251, [23, 24]), (258, [50, 51]), (259, [117, 118])]
def q_midl (mi : Nat) : List Nat := match q_mid.find? (fun q => q.1 == mi) with | some q => q.2 | none => []
def stt (mi pc : Nat) : Bool := !((q_midl mi).contains pc)
def chk3 (mi pc : Nat) : Bool := !stt mi pc || (chk mi pc && (match decode (mC mi) pc with | .ok (ins, len) => (sucs ins pc len).all (stt mi) | .error _ => true))
def chk2 (mi pc : Nat) : Bool := if (q_midl mi).isEmpty then chk mi pc else chk3 mi pc
end SPF
