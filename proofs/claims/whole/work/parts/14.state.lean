/-! The class's memory: fifteen cells ahead of whatever comes behind -/
/-- the factors: shard h is the sum of the data by these -/
def fac (K : Nat) (i : Nat) : Nat := if i / K < K then (if i / K = i % K then 1 else 0) else gi ((i / K) ^^^ (i % K))
def CM (K Mo : Nat) (dr : Nat → Nat) (dl : Nat) (ou : Nat → Nat) (ol : Nat) (da eq al fr tk by_ ln pl : Nat → Nat) (X : List va_E) : List va_E :=
  .inr (0, [.ref 1, .ref 5, .ref 10, .ref 13, .int (nI dl), .ref 14, .int (nI ol)]) ::
  .inr (1, [.int (nI K), .int (nI (K + Mo)), .int (nI (4 * K)), .ref 2, .ref 4, .ref 3]) ::
  aI (4 * K) da :: aI (K * K) eq :: aI ((K + Mo) * K) (fac K) ::
  .inr (2, [.ref 6, .ref 7, .ref 8, .ref 9]) ::
  aZ 8 al :: aI 8 fr :: aZ 128 tk :: aI 512 by_ ::
  .inr (3, [.int (nI (K + Mo)), .int (nI (4 * K)), .ref 11, .ref 12]) ::
  aI 6 ln :: aP 336 pl :: aI 32 dr :: aI 32 ou :: X
