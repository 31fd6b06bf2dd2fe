/-! the mesh as mathematics: A.1 tag node place is a number, A.2 node the queue -/
abbrev sFr : Type := Nat → Int32
abbrev sA : Type := (Nat → Nat → Nat → Int32) × (Nat → List sFr)
def uA (A : sA) (t i j : Nat) (v : Int32) : sA := (fun t' i' j' => if t' = t ∧ i' = i ∧ j' = j then v else A.1 t' i' j', A.2)
def uQ (A : sA) (i : Nat) (l : List sFr) : sA := (A.1, fun i' => if i' = i then l else A.2 i')
theorem uA_1 (A : sA) (t i j : Nat) (v : Int32) (t' i' j' : Nat) : (uA A t i j v).1 t' i' j' = if t' = t ∧ i' = i ∧ j' = j then v else A.1 t' i' j' := rfl
theorem uA_2 (A : sA) (t i j : Nat) (v : Int32) : (uA A t i j v).2 = A.2 := rfl
theorem uA_ne {A : sA} {t i j : Nat} {v : Int32} {t' i' j' : Nat} (h : t' ≠ t) : (uA A t i j v).1 t' i' j' = A.1 t' i' j' := by rw [uA_1, if_neg (fun q => h q.1)]
theorem uA_no {A : sA} {t i j : Nat} {v : Int32} {t' i' j' : Nat} (h : i' ≠ i) : (uA A t i j v).1 t' i' j' = A.1 t' i' j' := by rw [uA_1, if_neg (fun q => h q.2.1)]
theorem uA_eq {A : sA} {t i j : Nat} {v : Int32} : (uA A t i j v).1 t i j = v := by rw [uA_1, if_pos ⟨rfl, rfl, rfl⟩]
theorem uQ_1 (A : sA) (i : Nat) (l : List sFr) : (uQ A i l).1 = A.1 := rfl
theorem uQ_2 (A : sA) (i : Nat) (l : List sFr) (i' : Nat) : (uQ A i l).2 i' = if i' = i then l else A.2 i' := rfl
/-- a node's number, or -1 -/
def nX (n : Nat) : Int32 := Int32.ofNat n
def dS (A : sA) : Int32 := A.1 2 0 0 * (1103515245 : Int32) + (12345 : Int32)
def dW (A : sA) : Int32 := ((dS A).toUInt32 >>> ((16 : Int32).toUInt32 &&& Int32.toUInt32 31)).toInt32
def dV (A : sA) (k : Int32) : Int32 := dW A - dW A / k * k
def dA (A : sA) : sA := uA A 2 0 0 (dS A)
/-- an interval iv begins -/
def mBegin (A : sA) (n : Nat) (iv : Int32) : sA := uA (dA (uA (uA (uA A 26 n 0 iv) 27 n 0 0) 29 n 0 0)) 28 n 0 (iv / 2 + dV A (iv / 2))
def mReset (A : sA) (n : Nat) : sA := if A.1 25 n 0 = 0 then A else if A.1 26 n 0 = 4 then A else mBegin A n 4
/-- a frame has become the first -/
def mFirst (A : sA) (n : Nat) : sA := uA (uA (uA (dA A) 17 n 0 0) 18 n 0 0) 16 n 0 (dV A 4)
def fSr (f : sFr) (s : Int32) : sFr := fun k => if k = 2 then s else f k
def frK (k : Int32) : sFr := fun x => if x = 0 then k else if x = 1 then -1 else 0
def qP (A : sA) (n : Nat) (f : sFr) : sA := uQ (uA A 4 0 0 (A.1 4 0 0 + 1)) n (A.2 n ++ [fSr f (A.1 4 0 0 + 1)])
/-- a frame is queued, if there is room -/
def mPut (A : sA) (n : Nat) (f : sFr) : sA := if 4 ≤ (A.2 n).length then A else if (A.2 n).length = 0 then mFirst (qP A n f) n else qP A n f
def mOnce (A : sA) (n : Nat) (k : Int32) : sA := if (A.2 n).any (fun f => f 0 == k) = true then A else mPut A n (frK k)
/-- the first frame leaves the queue -/
def mPop (A : sA) (n : Nat) : sA := if (A.2 n).tail.length = 0 then uQ A n (A.2 n).tail else mFirst (uQ A n (A.2 n).tail) n
def fr0 (A : sA) (n : Nat) : sFr := (A.2 n).headD (fun _ => 0)
def mDrop (A : sA) : sA := uA A 6 0 0 (A.1 6 0 0 + 1)
def mClr (A : sA) (n : Nat) (z : Int32) : sA := (fun t i j => if t = 31 ∧ i = n ∧ j < 7 ∧ A.1 31 n j = z then -1 else A.1 t i j, A.2)
/-- ranks -/
def sOpen (A : sA) (n b : Nat) : Bool := decide (0 < A.1 35 n b) && (!(A.1 30 n b == 0) && !(A.1 30 n b == 255))
def sSum (A : sA) (n b : Nat) : Int32 := A.1 30 n b + A.1 35 n b
def sBetter (A : sA) (n b : Nat) (best : Int32) : Bool := decide (sSum A n b < sSum A n best.toNatClampNeg) || (sSum A n b == sSum A n best.toNatClampNeg && nX b == A.1 14 n 0)
def mBest (A : sA) (n : Nat) : Nat → Nat → Int32 → Int32
  | 0, _, best => best
  | c + 1, b, best => mBest A n c (b + 1) (if (sOpen A n b && (best == -1 || sBetter A n b best)) = true then nX b else best)
def mGoals (A : sA) (n : Nat) : Nat → Nat → Int32 → Int32
  | 0, _, bits => bits
  | c + 1, g, bits => mGoals A n c (g + 1) (if A.1 31 n g = -1 then bits else bits ||| ((1 : Int32) <<< (nX g &&& 31)))
def sGoals (A : sA) (n : Nat) : Int32 := mGoals A n 7 0 ((1 : Int32) <<< (nX n &&& 31))
def frA (A : sA) (n : Nat) (goals to wd : Int32) : sFr := fun k => if k = 0 then 3 else if k = 1 then to else if k = 3 then goals else if k = 4 then wd else if 10 ≤ k ∧ k < 17 then A.1 32 n (k - 10) else 0
def mAnn (A : sA) (n : Nat) (goals to wd : Int32) : sA := mPut A n (frA A n goals to wd)
/-- its own number grows, and it announces all its goals -/
def mNum (A : sA) (n : Nat) : sA := uA A 32 n n (A.1 32 n n + 1)
def mAnnO (A : sA) (n : Nat) (to : Int32) : sA := mAnn (mNum A n) n (sGoals (mNum A n) n) to 0
/-- rank and parent that choosing gives -/
def sBP (A : sA) (n : Nat) : Int32 := mBest A n 7 0 (-1)
def sSR (A : sA) (n : Nat) : Int32 := if sBP A n = -1 then 255 else sSum A n (sBP A n).toNatClampNeg
def sNone (A : sA) (n : Nat) : Bool := decide (254 < sSR A n) || decide (A.1 15 n 0 + A.1 0 0 0 < sSR A n)
def sR (A : sA) (n : Nat) : Int32 := if sNone A n = true then 255 else sSR A n
def sP' (A : sA) (n : Nat) : Int32 := if sNone A n = true then -1 else sBP A n
def mCh1 (A : sA) (n : Nat) : sA := uA (uA (uA A 13 n 0 (sR A n)) 14 n 0 (sP' A n)) 15 n 0 (if sR A n < A.1 15 n 0 then sR A n else A.1 15 n 0)
def mCh2 (A : sA) (n : Nat) : sA := if sR A n = 255 then mCh1 A n else uA (mCh1 A n) 25 n 0 1
def mCh3 (A : sA) (n : Nat) : sA := if sR A n = A.1 13 n 0 ∧ sP' A n = A.1 14 n 0 then mCh2 A n else mReset (mCh2 A n) n
def mCh4 (A : sA) (n : Nat) : sA := if sP' A n = A.1 14 n 0 ∨ A.1 14 n 0 = -1 then mCh3 A n else mAnn (mCh3 A n) n (sGoals (mCh3 A n) n) (A.1 14 n 0) 1
def mChoose (A : sA) (n : Nat) : sA := if sP' A n = A.1 14 n 0 ∨ sP' A n = -1 then mCh4 A n else mAnnO (mCh4 A n) n (sP' A n)
/-- the first frame fails -/
def mFail1 (A : sA) (n : Nat) : sA := mPop (if fr0 A n 0 = 4 then mDrop A else A) n
def mFail2 (A : sA) (n : Nat) (z : Int32) : sA := if A.1 14 n 0 = z then mChoose (uA A 30 n z.toNatClampNeg 0) n else A
def mFail (A : sA) (n : Nat) : sA := if fr0 A n 1 = -1 then mFail1 A n else mFail2 (mClr (mFail1 A n) n (fr0 A n 1)) n (fr0 A n 1)
/-- adverts -/
def mZr (A : sA) (n : Nat) : sA := (fun t i j => if t = 30 ∧ i = n ∧ j < 7 then 0 else A.1 t i j, A.2)
def mVers (A : sA) (n : Nat) (v : Int32) : sA := if A.1 14 n 0 = -1 ∧ A.1 13 n 0 = 255 then uA (mZr (uA A 12 n 0 v) n) 15 n 0 255 else mReset (uA (uA (uA (mZr (uA A 12 n 0 v) n) 15 n 0 255) 13 n 0 255) 14 n 0 (-1)) n
def mCount (A : sA) (n : Nat) : sA := uA A 29 n 0 (A.1 29 n 0 + 1)
def mAdv1 (A : sA) (n x : Nat) : sA := if A.1 12 n 0 < A.1 12 x 0 ∧ n ≠ 0 then mVers A n (A.1 12 x 0) else A
def mAdv2 (A : sA) (n x : Nat) : sA := uA (mAdv1 A n x) 30 n x ((mAdv1 A n x).1 13 x 0)
def mAdv3 (A : sA) (n : Nat) : sA := if n = 0 then mCount A n else if (mChoose A n).1 13 n 0 = A.1 13 n 0 ∧ (mChoose A n).1 14 n 0 = A.1 14 n 0 then mCount (mChoose A n) n else mChoose A n
def mAdvert (A : sA) (n x : Nat) : sA := if A.1 12 x 0 < A.1 12 n 0 then mReset A n else mAdv3 (mAdv2 A n x) n
/-- announcements -/
def sBit (f : sFr) (g : Nat) : Prop := (f 3 >>> (nX g &&& 31)) &&& 1 = 1
def sTakes (A : sA) (n x g : Nat) (f : sFr) : Prop := ¬ (f (10 + g) < A.1 32 n g) ∧ ¬ (¬ f 4 = 0 ∧ ¬ A.1 31 n g = nX x)
def sNx (x : Nat) (f : sFr) : Int32 := if f 4 = 0 then nX x else -1
def mRt (A : sA) (n x g : Nat) (f : sFr) : sA := uA (uA A 32 n g (f (10 + g))) 31 n g (sNx x f)
def mRts (n x : Nat) (f : sFr) : Nat → Nat → sA → Int32 → sA × Int32
  | 0, _, A, ch => (A, ch)
  | c + 1, g, A, ch =>
    if (f 3 >>> (nX g &&& 31)) &&& 1 = 1 ∧ ¬ g = n ∧ ¬ (f (10 + g) < A.1 32 n g) ∧ ¬ (¬ f 4 = 0 ∧ ¬ A.1 31 n g = nX x) then
      mRts n x f c (g + 1) (mRt A n x g f) (if f (10 + g) = A.1 32 n g ∧ sNx x f = A.1 31 n g then ch else ch ||| ((1 : Int32) <<< (nX g &&& 31)))
    else mRts n x f c (g + 1) A ch
def mRecA (A : sA) (n x : Nat) (f : sFr) : sA := if (mRts n x f 7 0 A 0).2 = 0 ∨ (mRts n x f 7 0 A 0).1.1 14 n 0 = -1 then (mRts n x f 7 0 A 0).1 else mAnn (mRts n x f 7 0 A 0).1 n (mRts n x f 7 0 A 0).2 ((mRts n x f 7 0 A 0).1.1 14 n 0) (f 4)
/-- values -/
def frV (to s g h v d e : Int32) : sFr := fun k => if k = 0 then 4 else if k = 1 then to else if k = 3 then s else if k = 4 then g else if k = 5 then h else if k = 6 then v else if k = 7 then d else if k = 8 then e else 0
def sTo (A : sA) (n : Nat) (g : Int32) : Int32 := if A.1 31 n g.toNatClampNeg = -1 then A.1 14 n 0 else A.1 31 n g.toNatClampNeg
def mSend (A : sA) (n : Nat) (s g h v e : Int32) : sA := if sTo A n g = -1 ∨ 4 ≤ (A.2 n).length then mDrop A else mPut A n (frV (sTo A n g) s g h v (if A.1 31 n g.toNatClampNeg = -1 then 0 else 1) e)
def sWrong (A : sA) (n x : Nat) (f : sFr) : Bool := if f 7 = 0 then decide (A.1 13 x 0 ≤ A.1 13 n 0) else decide (A.1 13 n 0 ≤ A.1 13 x 0)
def mDeliver (A : sA) (n : Nat) (f : sFr) : sA := uA (uA (uA A 34 n (A.1 10 n 0 - A.1 10 n 0 / 8 * 8).toNatClampNeg ((1000 : Int32) * f 3 + f 6)) 10 n 0 (A.1 10 n 0 + 1)) 7 0 0 (A.1 7 0 0 + 1)
def mRecV (A : sA) (n x : Nat) (f : sFr) : sA :=
  if sWrong A n x f = true ∧ ¬ f 8 = 0 then mReset (mDrop A) n
  else if f 4 = nX n then mDeliver A n f
  else if f 5 ≤ 1 then mDrop A
  else mSend A n (f 3) (f 4) (f 5 - 1) (f 6) (if sWrong A n x f = true ∨ ¬ f 8 = 0 then 1 else 0)
def mOwn (A : sA) (n x : Nat) (f : sFr) : sA :=
  if A.1 33 n x = f 2 then uA A 22 n 0 (nX x)
  else if f 0 = 3 then mRecA (uA (uA A 22 n 0 (nX x)) 33 n x (f 2)) n x f
  else mRecV (uA (uA A 22 n 0 (nX x)) 33 n x (f 2)) n x f
/-- a tick's steps, node by node -/
def lp (f : sA → Nat → sA) : Nat → Nat → sA → sA
  | 0, _, A => A
  | c + 1, n, A => lp f c (n + 1) (f A n)
def mRem (A : sA) (n : Nat) : sA := uA (uA A 20 n 0 (if A.1 19 n 0 = 0 then 0 else 1)) 19 n 0 0
def sBusy (A : sA) (n : Nat) : Nat → Nat → Bool
  | 0, _ => false
  | c + 1, b => (decide (0 < A.1 35 n b) && !(A.1 20 b 0 == 0)) || sBusy A n c (b + 1)
def mBz (A : sA) (n : Nat) : sA := uA A 17 n 0 (A.1 17 n 0 + 1)
def sMost (b : Int32) : Int32 := if (4 : Int32) <<< (b &&& 31) < (32 : Int32) then (4 : Int32) <<< (b &&& 31) else 32
def mAir (A : sA) (n : Nat) : sA :=
  if ¬ A.1 22 n 0 = -1 then uA (uA (uA A 19 n 0 1) 21 n 0 (A.1 22 n 0)) 22 n 0 (-1)
  else if ¬ A.1 23 n 0 = 0 ∨ (A.2 n).length = 0 then A
  else if 0 < A.1 16 n 0 then uA A 16 n 0 (A.1 16 n 0 - 1)
  else if sBusy A n 7 0 = false then uA (uA A 19 n 0 2) 8 0 0 (A.1 8 0 0 + 1)
  else if (mBz A n).1 17 n 0 = 5 then mFail (mBz A n) n
  else uA (dA (mBz A n)) 16 n 0 (dV A (sMost ((mBz A n).1 17 n 0)))
def sSpk (A : sA) (n : Nat) : Nat → Nat → Int32 → Int32
  | 0, _, x => x
  | c + 1, b, x => if (decide (0 < A.1 35 n b) && !(A.1 19 b 0 == 0)) = true then (if x = -1 then sSpk A n c (b + 1) (nX b) else -1) else sSpk A n c (b + 1) x
def mHear (A : sA) (n : Nat) : sA := uA A 24 n 0 (if ¬ A.1 11 n 0 = 0 ∧ A.1 19 n 0 = 0 then sSpk A n 7 0 (-1) else -1)
def mAck (A : sA) (n x : Nat) : sA := if A.1 21 x 0 = nX n ∧ ¬ A.1 23 n 0 = 0 ∧ fr0 A n 1 = nX x then mPop (uA A 23 n 0 0) n else A
def mSol (A : sA) (n : Nat) : sA := if n = 0 ∨ ¬ A.1 13 n 0 = 255 then mReset A n else A
def mTk (A : sA) (n x : Nat) : sA :=
  if A.1 19 x 0 = 1 then mAck A n x
  else if fr0 A x 0 = 1 then mSol A n
  else if fr0 A x 0 = 2 then mAdvert A n x
  else if fr0 A x 1 = nX n then mOwn A n x (fr0 A x)
  else A
def mTake (A : sA) (n : Nat) : sA := if A.1 24 n 0 = -1 then A else mTk A n (A.1 24 n 0).toNatClampNeg
def mSet (A : sA) (n : Nat) : sA := if A.1 19 n 0 = 2 then (if fr0 A n 1 = -1 then mPop A n else uA A 23 n 0 1) else A
def mTr (A : sA) (n : Nat) : sA := uA (uA A 23 n 0 0) 18 n 0 (A.1 18 n 0 + 1)
def mLis (A : sA) (n : Nat) : sA := if A.1 23 n 0 = 0 ∨ ¬ A.1 19 n 0 = 0 then A else if A.1 18 n 0 + 1 = 4 then mFail (mTr A n) n else uA (dA (uA (mTr A n) 17 n 0 0)) 16 n 0 (dV A 4)
def mCk (A : sA) (n : Nat) : sA := uA A 27 n 0 (A.1 27 n 0 + 1)
def mTm1 (A : sA) (n : Nat) : sA := if A.1 27 n 0 = A.1 28 n 0 ∧ A.1 29 n 0 < A.1 1 0 0 then mOnce A n 2 else A
def mTm2 (A : sA) (n : Nat) : sA := if A.1 27 n 0 = A.1 26 n 0 then mBegin A n (if A.1 26 n 0 * 2 < (64 : Int32) then A.1 26 n 0 * 2 else 64) else A
def mTimer (A : sA) (n : Nat) : sA := if A.1 25 n 0 = 0 then A else mTm2 (mTm1 (mCk A n) n) n
def mLat1 (A : sA) (n : Nat) : sA := if n ≠ 0 ∧ A.1 13 n 0 = 255 ∧ A.1 3 0 0 - A.1 3 0 0 / 16 * 16 = 0 then mOnce A n 1 else A
def mLat2 (A : sA) (n : Nat) : sA := if A.1 14 n 0 = -1 ∨ ¬ A.1 3 0 0 - A.1 3 0 0 / 64 * 64 = 0 then A else mAnnO A n (A.1 14 n 0)
def mLater (A : sA) (n : Nat) : sA := if A.1 11 n 0 = 0 then A else mLat2 (mLat1 (mTimer A n) n) n
def mTick (A : sA) : sA := lp mLater 7 0 (lp mLis 7 0 (lp mSet 7 0 (lp mTake 7 0 (lp mHear 7 0 (lp mAir 7 0 (lp mRem 7 0 (uA A 3 0 0 (A.1 3 0 0 + 1))))))))
def mTicks : Nat → sA → sA
  | 0, A => A
  | k + 1, A => mTicks k (mTick A)
