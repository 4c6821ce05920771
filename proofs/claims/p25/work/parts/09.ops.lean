/-! WHAT THE CALLS DO to a state. E: errands by their numbers: house, work, how many within, parts -/
abbrev EE : Type := (Nat → Nat) × (Nat → Int32) × (Nat → Nat) × (Nat → List Nat)
def mg (k f t g a : Int32) : Nat → Int32 := fun q => match q with
  | 0 => k
  | 1 => f
  | 2 => t
  | 3 => g
  | _ => a
def lA (ms : List Mg) (c : Nat) : Int32 := match ms[c]? with
  | some x => x.1 4
  | none => 0
def insPos (A : Nat → Int32) (y : Int32) : Nat → Nat
  | 0 => 0
  | c + 1 => if A c ≤ y then c + 1 else insPos A y c
def ins (x : Mg) (ms : List Mg) : List Mg := ms.take (insPos (lA ms) (x.1 4) ms.length) ++ x :: ms.drop (insPos (lA ms) (x.1 4) ms.length)
def coin (m : MS) : Int32 := (1 : Int32) <<< (m.1 1 &&& 31)
def mMint (m : MS) : MS := sZ (sZ m 7 (m.1 7 + coin m)) 11 (m.1 11 + 1)
def mPost (m : MS) (k : Int32) (f t : Nat) (g : Int32) (e : Option Nat) : MS := sM m (ins (mg k (nI f) (nI t) g (m.1 0 + m.2.1 (f * 7 + t)), e) m.2.2.2.2)
def mSendF (E : EE) (h : Nat) (m : MS) : MS := match m.2.2.2.1 h with
  | [] => m
  | a :: q => mPost (sQ (sH (sH m h 1 (m.2.2.1 h 1 - m.2.2.1 h 1 / 2)) h 7 (m.2.2.1 h 7 + 1)) h q) 0 h (E.1 a) (m.2.2.1 h 1 / 2) (some a)
def mSendL (E : EE) (h : Nat) : Nat → MS → MS
  | 0, m => m
  | c + 1, m => if 2 * m.1 2 ≤ m.2.2.1 h 1 then mSendL E h c (mSendF E h m) else m
def mAsk (h : Nat) (m : MS) : MS := if 0 < m.2.2.1 h 3 ∧ m.2.2.1 h 4 = 0 then mPost (sH (sH m h 4 1) h 8 (m.2.2.1 h 8 + 1)) 1 h 6 0 none else m
def mSend (E : EE) (h : Nat) (m : MS) : MS := mAsk h (mSendL E h (m.2.2.2.1 h).length m)
def mTake (E : EE) (h a : Nat) (m : MS) : MS := sQ (sH (sH (sH m h 0 1) h 6 (m.2.2.1 h 6 + 1)) h 2 (m.2.2.1 h 2 + E.2.1 a)) h (m.2.2.2.1 h ++ E.2.2.2 a)
def mArr (E : EE) (x : Mg) (m : MS) : MS :=
  if x.1 0 = 3 then sZ m 8 (m.1 8 + x.1 3)
  else if x.1 0 = 1 then mPost (mMint m) 2 6 (x.1 1).toNatClampNeg (coin m) none
  else if x.1 0 = 2 then mSend E (x.1 2).toNatClampNeg (sH (sH m (x.1 2).toNatClampNeg 1 (m.2.2.1 (x.1 2).toNatClampNeg 1 + x.1 3)) (x.1 2).toNatClampNeg 4 0)
  else match x.2 with
    | some a => mSend E (x.1 2).toNatClampNeg (mTake E (x.1 2).toNatClampNeg a (sH m (x.1 2).toNatClampNeg 1 (m.2.2.1 (x.1 2).toNatClampNeg 1 + x.1 3)))
    | none => mSend E (x.1 2).toNatClampNeg (sH m (x.1 2).toNatClampNeg 1 (m.2.2.1 (x.1 2).toNatClampNeg 1 + x.1 3))
def mOut (rank : Nat) (m : MS) : MS := sM m (m.2.2.2.2.eraseIdx rank)
def mStep (E : EE) (m : MS) : MS := match m.2.2.2.2 with
  | [] => m
  | x :: _ => mOut 0 (mArr E x m)
def mSteps (E : EE) : Nat → MS → MS
  | 0, m => m
  | c + 1, m => mSteps E c (mStep E m)
def mWork (h : Nat) (m0 : MS) : MS :=
  let m := if 0 < m0.2.2.1 h 2 then sH m0 h 2 (m0.2.2.1 h 2 - 1) else m0
  if 0 < m.2.2.1 h 2 ∨ 0 < m.2.2.1 h 3 ∨ ¬ m.2.2.1 h 4 = 0 then m
  else let m2 := sH (sH m h 0 0) h 9 (m.2.2.1 h 9 + 1)
    if 0 < m2.2.2.1 h 1 then sH (mPost m2 3 h 6 (m2.2.2.1 h 1) none) h 1 0 else m2
def mWorkB (h : Nat) (m : MS) : MS := if m.2.2.1 h 0 = 0 then m else mWork h m
def cntA (t : Int32) (ms : List Mg) : Nat := (ms.takeWhile (fun x => decide (x.1 4 ≤ t))).length
def mArrive (E : EE) (m : MS) : MS := mSteps E (cntA (m.1 0) m.2.2.2.2) m
def mWorks (m : MS) : MS := mWorkB 5 (mWorkB 4 (mWorkB 3 (mWorkB 2 (mWorkB 1 (mWorkB 0 m)))))
def mTick (E : EE) (m : MS) : MS := mWorks (mArrive E (sZ m 0 (m.1 0 + 1)))
def mTicks (E : EE) : Nat → MS → MS
  | 0, m => m
  | c + 1, m => mTicks E c (mTick E m)
def mDrop (rank : Nat) (x : Mg) (m : MS) : MS :=
  let m1 := if x.1 0 = 1 then sH m (x.1 1).toNatClampNeg 5 1 else m
  let m2 := if x.1 0 = 2 then sH m1 (x.1 2).toNatClampNeg 5 1 else m1
  mOut rank (sZ (sZ (sZ m2 9 (m2.1 9 + x.1 3)) 12 (m2.1 12 + 1)) 13 1)
def mGoodH (E : EE) (h : Nat) (m : MS) : MS := if m.2.2.1 h 5 = 0 then m else mSend E h (sH (sH m h 5 0) h 4 0)
def mGood (E : EE) (m : MS) : MS := mGoodH E 5 (mGoodH E 4 (mGoodH E 3 (mGoodH E 2 (mGoodH E 1 (mGoodH E 0 (sZ (sZ (sZ m 8 (m.1 8 + m.1 9)) 9 0) 13 0))))))
def mLaunch (E : EE) : List Nat → MS → MS
  | [], m => m
  | a :: q, m => mLaunch E q (mPost (mMint (sZ m 10 (m.1 10 + 1))) 0 6 (E.1 a) (coin m) (some a))
def mIdleM (ms : List Mg) : Bool := ms.all (fun x => decide (x.1 0 = 3))
def cntB (H : Nat → Nat → Int32) : Nat → Int32
  | 0 => 0
  | c + 1 => if H c 0 = 0 then cntB H c else cntB H c + 1
def sumH (H : Nat → Nat → Int32) (f : Nat) : Nat → Int32
  | 0 => 0
  | c + 1 => sumH H f c + H c f
def mQuiet (m : MS) : Bool := decide (m.1 7 = m.1 8)
def mIdle (m : MS) : Bool := decide (cntB m.2.2.1 6 = 0) && mIdleM m.2.2.2.2
def sumG : List Mg → Int32
  | [] => 0
  | x :: l => x.1 3 + sumG l
/-- what lies behind an errand's number: E as the heap has it; from F on -/
def Kid (r : RP) : Option Nat → List Nat → Prop
  | o, [] => o = none
  | o, b :: q => o = some b ∧ Kid r (r b 6) q
def RepE (G : GG) (n : Nat) (E : EE) (Gd : Nat → Prop) (i : IP) (r : RP) : Prop :=
  ∀ a, Gd a → Ok G n a 0 ∧ E.1 a < 6 ∧ i a 0 = nI (E.1 a) ∧ i a 1 = E.2.1 a ∧ i a 2 = nI (E.2.2.2 a).length ∧ i a 3 = nI (E.2.2.1 a) ∧ Kid r (r a 4) (E.2.2.2 a) ∧ (∀ b ∈ E.2.2.2 a, Gd b ∧ a < b) ∧ (E.2.2.2 a).length ≤ 15 ∧ E.2.2.1 a = 1 + ((E.2.2.2 a).map E.2.2.1).sum ∧ E.2.2.1 a ≤ 15
