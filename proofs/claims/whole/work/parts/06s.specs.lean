/-! what each call does: (which exception, the state behind it, the answer) -/
abbrev tn (x : Int32) : Nat := x.toNatClampNeg
def S_addTask (M : TS) (p es bu : Int32) : Int32 × TS × Int32 :=
  if ¬ p = -1 ∧ tkOk (nT M) p = false then (1, M, 0) else if tkIn es 1 400 = false ∨ tkIn bu 0 400 = false then (2, M, 0) else if M 0 19 = 16 then (3, M, 0) else if ¬ p = -1 ∧ M 4 (tn p) = 100 then (4, M, 0) else
  (0, st (st (st (st (st M 1 (nT M) p) 2 (nT M) es) 3 (nT M) bu) 4 (nT M) 111) 0 19 (nI (nT M) + 1), nI (nT M))
/-- whether a leads to b by blocks: reached in n rounds, from a -/
def rch (M : TS) (a : Nat) : Nat → Nat → Bool
  | 0, j => decide (j = a)
  | n + 1, j => rch M a n j || anyB (fun k => rch M a n k && decide (¬ M 6 (16 * k + j) = 0)) (nT M)
def leads (M : TS) (a b : Nat) : Bool := rch M a 16 b
def cntBl (M : TS) (y : Nat) : Int32 := sumI (fun k => if ¬ M 6 (16 * k + y) = 0 then 1 else 0) (nT M)
def nBlock (M : TS) (x y : Nat) : TS := st (st (st M 6 (16 * x + y) 1) 0 20 (M 0 20 + 1)) 19 y (M 19 y ||| ((1 : Int32) <<< (nI x &&& 31)))
def S_block (M : TS) (x y : Int32) : Int32 × TS × Int32 :=
  if tkOk (nT M) x = false ∨ tkOk (nT M) y = false then (1, M, 0) else if x = y then (2, M, 0) else if ¬ M 6 (16 * tn x + tn y) = 0 ∨ M 0 20 = 20 then (3, M, 0) else if leads M (tn y) (tn x) = true then (4, M, 0) else
  (0, nBlock M (tn x) (tn y), cntBl (nBlock M (tn x) (tn y)) (tn y))
def S_begin (M : TS) (x : Int32) : Int32 × TS × Int32 :=
  if tkOk (nT M) x = false then (1, M, 0) else if ¬ M 4 (tn x) = 111 then (2, M, 0) else if isFree M (tn x) = false then (3, M, 0) else (0, st M 4 (tn x) 119, manyIn (st M 4 (tn x) 119) 119)
def S_propose (M : TS) (x : Int32) : Int32 × TS × Int32 :=
  if tkOk (nT M) x = false then (1, M, 0) else if ¬ M 4 (tn x) = 119 then (2, M, 0) else (0, st M 4 (tn x) 114, manyIn (st M 4 (tn x) 114) 114)
def S_reject (M : TS) (x : Int32) : Int32 × TS × Int32 :=
  if tkOk (nT M) x = false then (1, M, 0) else if ¬ M 4 (tn x) = 114 then (2, M, 0) else (0, st M 4 (tn x) 119, manyIn (st M 4 (tn x) 119) 114)
def S_merge (M : TS) (x : Int32) : Int32 × TS × Int32 :=
  if tkOk (nT M) x = false then (1, M, 0) else if ¬ M 4 (tn x) = 114 then (2, M, 0) else if hasDoneCh M (tn x) = false then (3, M, 0) else (0, st M 4 (tn x) 100, manyIn (st M 4 (tn x) 100) 100)
/-- the entries of t below n credited: the state, the sum -/
def crS (M : TS) (t : Nat) : Nat → TS × Int32
  | 0 => (M, 0)
  | n + 1 => if M 9 n = nI t ∧ M 5 n = 98 then (st (st (crS M t n).1 5 n 99) 17 (tn (M 14 n)) ((crS M t n).1 17 (tn (M 14 n)) + M 13 n), (crS M t n).2 + M 13 n) else crS M t n
def S_reopen (M : TS) (x : Int32) : Int32 × TS × Int32 :=
  if tkOk (nT M) x = false then (1, M, 0) else if ¬ M 4 (tn x) = 100 then (2, M, 0) else if 0 ≤ M 1 (tn x) ∧ M 4 (tn (M 1 (tn x))) = 100 then (3, M, 0) else (0, (crS (st M 4 (tn x) 119) (tn x) (nE M)).1, (crS (st M 4 (tn x) 119) (tn x) (nE M)).2)
def S_state (M : TS) (x : Int32) : Int32 × TS × Int32 := if tkOk (nT M) x = false then (1, M, 32) else (0, M, M 4 (tn x))
def S_parent (M : TS) (x : Int32) : Int32 × TS × Int32 := if tkOk (nT M) x = false then (1, M, 0) else if M 1 (tn x) < 0 then (2, M, 0) else (0, M, M 1 (tn x))
def tSize (M : TS) (r : Nat) : Int32 := sumI (fun k => if isIn M k r = true then 1 else 0) (nT M)
def S_treeSize (M : TS) (x : Int32) : Int32 × TS × Int32 := if tkOk (nT M) x = false then (1, M, 0) else (0, M, tSize M (tn x))
def S_canBegin (M : TS) (x : Int32) : Int32 × TS × Bool := if tkOk (nT M) x = false then (1, M, false) else (0, M, decide (M 4 (tn x) = 111) && isFree M (tn x))
/-- how many hours budgets leave, -1 if none applies: up the chain from t -/
def rmF (M : TS) : Nat → Nat → Int32 → Int32
  | 0, _, a => a
  | f + 1, t, a => if M 1 t < 0 then (if 0 < M 3 t ∧ (a = -1 ∨ M 3 t - hoursIn M t < a) then M 3 t - hoursIn M t else a) else rmF M f (tn (M 1 t)) (if 0 < M 3 t ∧ (a = -1 ∨ M 3 t - hoursIn M t < a) then M 3 t - hoursIn M t else a)
def roomFor (M : TS) (t : Nat) : Int32 := rmF M (t + 1) t (-1)
def S_note (M : TS) (x p w h : Int32) : Int32 × TS × Int32 :=
  if tkOk (nT M) x = false then (1, M, 0) else if tkOk 4 p = false ∨ tkOk 30 w = false ∨ tkIn h 1 40 = false then (2, M, 0) else if ¬ M 7 (tn w) = 0 then (3, M, 0) else
  if (M 4 (tn x) = 119 ∨ M 4 (tn x) = 114) ∧ (roomFor M (tn x) = -1 ∨ h ≤ roomFor M (tn x)) ∧ M 0 21 < 60 then
    (0, st (st (st (st (st (st M 9 (nE M) x) 10 (nE M) p) 11 (nE M) w) 12 (nE M) h) 5 (nE M) 110) 0 21 (nI (nE M) + 1), nI (nE M)) else (4, M, 0)
def apS (M : TS) (w : Int32) : Int32 := sumI (fun k => if M 11 k = w ∧ M 5 k = 97 then M 12 k else 0) (nE M)
def S_approve (M : TS) (x : Int32) : Int32 × TS × Int32 :=
  if tkOk (nE M) x = false then (1, M, 0) else if ¬ M 5 (tn x) = 110 then (2, M, 0) else if ¬ M 7 (tn (M 11 (tn x))) = 0 then (3, M, 0) else (0, st M 5 (tn x) 97, apS (st M 5 (tn x) 97) (M 11 (tn x)))
def dropS (M : TS) (w : Int32) : Nat → TS × Int32
  | 0 => (M, 0)
  | n + 1 => if M 11 n = w ∧ M 5 n = 110 then (st (dropS M w n).1 5 n 120, (dropS M w n).2 + 1) else dropS M w n
def nLock (M : TS) (w : Nat) : TS := st (st M 7 w 1) 0 27 (M 0 27 ||| ((1 : Int32) <<< (nI w &&& 31)))
def S_lock (M : TS) (w : Int32) : Int32 × TS × Int32 :=
  if tkOk 30 w = false then (1, M, 0) else if ¬ M 7 (tn w) = 0 then (2, M, 0) else (0, (dropS (nLock M (tn w)) w (nE M)).1, (dropS (nLock M (tn w)) w (nE M)).2)
def S_entryState (M : TS) (x : Int32) : Int32 × TS × Int32 := if tkOk (nE M) x = false then (1, M, 32) else (0, M, M 5 (tn x))
def S_price (M : TS) (x : Int32) : Int32 × TS × Int32 := if tkOk (nE M) x = false then (1, M, 0) else if billed M (tn x) = false then (2, M, 0) else (0, M, M 13 (tn x))
def S_invoiceOf (M : TS) (x : Int32) : Int32 × TS × Int32 := if tkOk (nE M) x = false then (1, M, 0) else if billed M (tn x) = false then (2, M, 0) else (0, M, M 14 (tn x))
def S_hours (M : TS) (x : Int32) : Int32 × TS × Int32 := if tkOk (nT M) x = false then (1, M, 0) else (0, M, hoursIn M (tn x))
def S_room (M : TS) (x : Int32) : Int32 × TS × Int32 := if tkOk (nT M) x = false then (1, M, 0) else if roomFor M (tn x) = -1 then (2, M, 0) else (0, M, roomFor M (tn x))
def S_setRate (M : TS) (p r : Int32) : Int32 × TS × Int32 := if tkOk 4 p = false ∨ tkIn r 0 200 = false then (1, M, 0) else (0, st M 15 (tn p) r, M 15 (tn p))
def S_setCap (M : TS) (h : Int32) : Int32 × TS × Int32 := if tkIn h 0 60 = false then (1, M, 0) else (0, st (st M 0 23 h) 0 26 (if M 0 26 < h then h else M 0 26), M 0 23)
def S_setDiscount (M : TS) (f q : Int32) : Int32 × TS × Int32 := if tkIn f 0 99999 = false ∨ tkIn q 0 50 = false then (1, M, 0) else (0, st (st M 0 24 f) 0 25 q, M 0 25)
/-- billing: the entries below n that are looked at (as M says), for invoice v: the state, the sum -/
def billS (M : TS) (r : Nat) (w : Int32) (v : Nat) : Nat → TS × Int32
  | 0 => (M, 0)
  | n + 1 => if lookedAt (billS M r w v n).1 r w n = true then
      (if M 0 23 < charged (billS M r w v n).1 (M 10 n) (M 11 n) + M 12 n then (st (billS M r w v n).1 5 n 120, (billS M r w v n).2) else
        (st (st (st (st (billS M r w v n).1 5 n 98) 13 n (M 12 n * M 15 (tn (M 10 n)))) 14 n (nI v)) 18 v ((billS M r w v n).1 18 v + 1), (billS M r w v n).2 + M 12 n * M 15 (tn (M 10 n)))) else billS M r w v n
/-- the discount on the entries below n of invoice v -/
def discS (M : TS) (v : Nat) (s : Int32) : Nat → TS
  | 0 => M
  | n + 1 => if billed M n = true ∧ M 14 n = nI v then
      (if M 0 24 ≤ s then st (st (discS M v s n) 13 n (M 13 n * (100 - M 0 25) / 100)) 16 v ((discS M v s n) 16 v + M 13 n * (100 - M 0 25) / 100) else st (discS M v s n) 16 v ((discS M v s n) 16 v + M 13 n)) else discS M v s n
/-- the rules as they are, kept with invoice v -/
def ruleS (M : TS) (v : Nat) : TS := va_up (st (st (st M 21 v (M 0 23)) 22 v (M 0 24)) 23 v (M 0 25)) 20 (fun j => if j / 4 = v then M 15 (j % 4) else M 20 j)
def nInv (M : TS) (r : Nat) (w : Int32) : TS := st (discS (billS (ruleS M (nV M)) r w (nV M) (nE M)).1 (nV M) (billS (ruleS M (nV M)) r w (nV M) (nE M)).2 (nE M)) 0 22 (nI (nV M) + 1)
def S_invoice (M : TS) (x w : Int32) : Int32 × TS × Int32 :=
  if tkOk (nT M) x = false then (1, M, 0) else if tkOk 30 w = false then (2, M, 0) else if 0 ≤ M 1 (tn x) then (3, M, 0) else if anyB (lookedAt M (tn x) w) (nE M) = false ∨ M 0 22 = 20 then (4, M, 0) else (0, nInv M (tn x) w, nI (nV M))
def S_total (M : TS) (x : Int32) : Int32 × TS × Int32 := if tkOk (nV M) x = false then (1, M, 0) else (0, M, M 16 (tn x))
def S_credited (M : TS) (x : Int32) : Int32 × TS × Int32 := if tkOk (nV M) x = false then (1, M, 0) else (0, M, M 17 (tn x))
def S_items (M : TS) (x : Int32) : Int32 × TS × Int32 := if tkOk (nV M) x = false then (1, M, 0) else (0, M, M 18 (tn x))
def S_left (M : TS) (x : Int32) : Int32 × TS × Int32 := if tkOk (nT M) x = false then (1, M, 0) else (0, M, leftOf M (tn x))
def S_pace (M : TS) (w : Int32) : Int32 × TS × UInt32 := if tkOk 30 w = false then (1, M, 0) else (0, M, FP.fdiv (FP.i2f (lately M w)) 1077936128)
def S_forecast (M : TS) (x w : Int32) : Int32 × TS × Int32 := if tkOk (nT M) x = false then (1, M, 0) else if tkOk 30 w = false then (2, M, 0) else if lately M w = 0 then (3, M, 0) else (0, M, (3 * leftOf M (tn x) + lately M w - 1) / lately M w)
def dueS (M : TS) : Nat → Int64
  | 0 => 0
  | n + 1 => dueS M n + (M 16 n - M 17 n).toInt64
def sumP (M : TS) (n : Nat) : Int32 := sumI (fun k => if M 5 k = 98 then M 13 k else 0) n
def sumH (M : TS) (n : Nat) : Int32 := sumI (fun k => if M 5 k = 98 then M 12 k else 0) n
def S_meanPrice (M : TS) : Int32 × TS × UInt64 := if 0 < sumH M (nE M) then (0, M, FP.ddiv (FP.i2d (sumP M (nE M))) (FP.i2d (sumH M (nE M)))) else (1, M, 0)
