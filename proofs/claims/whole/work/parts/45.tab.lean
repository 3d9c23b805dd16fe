/-! .. for every set of lost shards that leaves enough: the table -/
/-- the kept shards in their order, as many as are wanted -/
def kpS (ls : Nat → Bool) (K : Nat) : Nat → Nat × (Nat → Nat)
  | 0 => (0, fun _ => 0)
  | h + 1 => if (kpS ls K h).1 < K ∧ ls h = false then ((kpS ls K h).1 + 1, up (kpS ls K h).2 (kpS ls K h).1 h) else kpS ls K h
def ruC (K W : Nat) (A : MT) : Nat → MT
  | 0 => A
  | p + 1 => mem K W (gj p p (ruC K W A p))
def fpM (A : MT) (c : Nat) : Nat → Nat → Nat
  | 0, p => p
  | n + 1, p => if A p c = 0 then fpM A c n (p + 1) else p
def ruR (K W : Nat) (A : MT) : Nat → MT
  | 0 => A
  | c + 1 => mem K W (gj c (fpM (ruR K W A c) c 4 c) (ruR K W A c))
/-- the class's lines, and units behind them -/
def mtC (ls : Nat → Bool) (K Sh : Nat) : MT := mem K 8 (fun k j => if j < 4 then fac K ((selS ls K Sh K).2.2 k * K + j) else dl1 (j - 4) k)
def endC (ls : Nat → Bool) (K Sh : Nat) : MT := if (selS ls K Sh K).2.1 = 0 then ruC K 8 (mtC ls K Sh) K else mtC ls K Sh
def mtR (ls : Nat → Bool) (K Sh : Nat) : MT := mem K 4 (fun k j => fac K ((kpS ls K Sh).2 k * K + j))
def al2 (n : Nat) (f : Nat → Nat → Bool) : Bool := (List.range n).all (fun k => (List.range n).all (fun j => f k j))
theorem al2_at {n : Nat} {f : Nat → Nat → Bool} (h : al2 n f = true) {k j : Nat} (hk : k < n) (hj : j < n) : f k j = true :=
  List.all_eq_true.mp (List.all_eq_true.mp h k (List.mem_range.mpr hk)) j (List.mem_range.mpr hj)
def chkA (ls : Nat → Bool) (K Sh : Nat) : Bool := al2 K (fun k j => decide (endC ls K Sh k j = dl1 k j) && (decide (endC ls K Sh k (4 + j) < 256) && decide (xs (fun i => gm (mtC ls K Sh k i) (endC ls K Sh i (4 + j))) K = dl1 k j)))
def chkB (ls : Nat → Bool) (K Sh : Nat) : Bool := decide ((kpS ls K Sh).1 = K) && (List.range K).all (fun k => (List.range K).any (fun m => decide ((kpS ls K Sh).2 k = (selS ls K Sh K).2.2 m)))
def chkR (ls : Nat → Bool) (K Sh : Nat) : Bool := (List.range K).all (fun c => decide (fpM (ruR K 4 (mtR ls K Sh) c) c 4 c < K) && decide (ruR K 4 (mtR ls K Sh) c (fpM (ruR K 4 (mtR ls K Sh) c) c 4 c) c ≠ 0)) && al2 K (fun k j => decide (ruR K 4 (mtR ls K Sh) K k j = dl1 k j))
def chk (m K Sh : Nat) : Bool := chkA (fun h => m.testBit h) K Sh && (chkB (fun h => m.testBit h) K Sh && chkR (fun h => m.testBit h) K Sh)
theorem chk_1 : (List.range 3).all (fun Mo => (List.range (2 ^ (1 + (Mo + 1)))).all (fun m => decide (¬ cs (fun h => b2n (m.testBit h)) (1 + (Mo + 1)) ≤ Mo + 1) || chk m 1 (1 + (Mo + 1)))) = true := by decide +kernel
theorem chk_2 : (List.range 3).all (fun Mo => (List.range (2 ^ (2 + (Mo + 1)))).all (fun m => decide (¬ cs (fun h => b2n (m.testBit h)) (2 + (Mo + 1)) ≤ Mo + 1) || chk m 2 (2 + (Mo + 1)))) = true := by decide +kernel
theorem chk_3 : (List.range 3).all (fun Mo => (List.range (2 ^ (3 + (Mo + 1)))).all (fun m => decide (¬ cs (fun h => b2n (m.testBit h)) (3 + (Mo + 1)) ≤ Mo + 1) || chk m 3 (3 + (Mo + 1)))) = true := by decide +kernel
theorem chk_4 : (List.range 3).all (fun Mo => (List.range (2 ^ (4 + (Mo + 1)))).all (fun m => decide (¬ cs (fun h => b2n (m.testBit h)) (4 + (Mo + 1)) ≤ Mo + 1) || chk m 4 (4 + (Mo + 1)))) = true := by decide +kernel
