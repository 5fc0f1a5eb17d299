/-! what the document says, as mathematics: a disk, a log, the journal over them -/
/-- under way (0 .. 63 a home block, 64 a block of the ring, 65 a commit, 66 the head), power, fuse, steps, what is down, what was written -/
abbrev Dk : Type := List Nat × Bool × Int32 × Int32 × (Nat → Int32) × (Nat → Int32)
/-- how many transactions; of each: blocks, revokes, use, where its images begin; the images -/
abbrev Lg : Type := Nat × (Nat → Int64) × (Nat → Int64) × (Nat → Nat) × (Nat → Nat) × (Nat → Int32)
/-- ring, running, revoked, now; disk; log -/
abbrev Sp : Type := Nat × Int64 × Int64 × (Nat → Int32) × Dk × Lg
def fillF (f : Nat → Int32) (a n : Nat) (v : Int32) : Nat → Int32 := fun j => if a ≤ j ∧ j < a + n then v else f j
def sStep : Dk → Bool × Dk
  | (u, on, f, st, ba, ho) => if f = 0 then (false, (u, false, -1, st, ba, ho)) else (true, (u, on, (if 0 < f then f - 1 else f), st + 1, ba, ho))
def sRing (k : Nat) (d : Dk) : Bool × Dk := match sStep d with
  | (false, d) => (false, d)
  | (true, (u, r)) => (true, (u ++ [k], r))
def sHome (b : Nat) (f : Nat → Int32) (sp : Nat) (d : Dk) : Bool × Dk := match sStep d with
  | (false, d) => (false, d)
  | (true, (u, on, fu, st, ba, ho)) => (true, ((if b ∈ u then u else u ++ [b]), on, fu, st, ba, va_cpy f ho sp (256 * b) 256))
def dAll (ho : Nat → Int32) : List Nat → (Nat → Int32) → (Nat → Int32)
  | [], ba => ba
  | k :: u, ba => dAll ho u (if k < 64 then va_cpy ho ba (256 * k) (256 * k) 256 else ba)
def sBar (d : Dk) : Bool × Dk := match sStep d with
  | (false, d) => (false, d)
  | (true, (u, on, fu, st, ba, ho)) => (true, ([], on, fu, st, dAll ho u ba, ho))
/-- what is down of the block at a place under way -/
def sPart (i : Nat) (bits : Int64) : Nat := if i < 32 then bits.toBitVec.toNat / 4 ^ i % 4 else 0
def sFirst (i : Nat) (bits : Int64) : Bool := sPart i bits == 1 || sPart i bits == 2
def sLast (i : Nat) (bits : Int64) : Bool := sPart i bits == 1 || sPart i bits == 3
/-- a home block's byte behind power's failure -/
def sByte (u : List Nat) (bits : Int64) (ba ho : Nat → Int32) (j : Nat) : Int32 :=
  if j / 256 < 64 ∧ j / 256 ∈ u then (if (if j % 256 < 128 then sFirst (u.idxOf (j / 256)) bits else sLast (u.idxOf (j / 256)) bits) then ho j else ba j) else ho j
def sByteB (u : List Nat) (bits : Int64) (ba ho : Nat → Int32) (j : Nat) : Int32 :=
  if j / 256 < 64 ∧ j / 256 ∈ u then sByte u bits ba ho j else ba j
def sSettle (bits : Int64) : Dk → Dk
  | (u, on, fu, st, ba, ho) => ([], on, fu, st, sByteB u bits ba ho, sByte u bits ba ho)
/-- homes under way: apart, below 64 -/
def hs (u : List Nat) : Prop := u.Nodup ∧ ∀ k ∈ u, k < 64
def sumN (f : Nat → Nat) : Nat → Nat
  | 0 => 0
  | n + 1 => sumN f n + f n
def sUsed : Lg → Nat
  | (n, _, _, use, _, _) => sumN use n
def lyN (blk rvk : Nat → Int64) : Nat → Int64
  | 0 => 0
  | n + 1 => (lyN blk rvk n &&& (rvk n ^^^ (-1))) ||| blk n
def sLying : Lg → Int64
  | (n, blk, rvk, _, _, _) => lyN blk rvk n
/-- revoked by none of the k transactions from t on -/
def lvN (rvk : Nat → Int64) (x : Int64) (t : Nat) : Nat → Int64
  | 0 => x
  | k + 1 => lvN rvk (x &&& (rvk t ^^^ (-1))) (t + 1) k
def sLiving : Lg → Nat → Int64
  | (n, blk, rvk, _, _, _), t => lvN rvk (blk t) t (n - t)
def rk (x : Int64) (b : Nat) : Nat := cntB (bitt x) b
def laN (blk : Nat → Int64) (b : Nat) : Nat → Option Nat
  | 0 => none
  | n + 1 => if bitt (blk n) b then some n else laN blk b n
/-- where the image of a block begins that lies in the log -/
def sImg : Lg → Nat → Nat → Nat
  | (_, blk, _, _, fst, _), t, b => (fst t + rk (blk t) b) * 256
def sLate : Lg → Nat → Nat
  | (n, blk, rvk, use, fst, im), b => match laN blk b n with
    | none => 0
    | some t => sImg (n, blk, rvk, use, fst, im) t b
def sEnd (d : Dk) (g : Lg) : Bool × Dk × Lg := match sBar d with
  | (false, d) => (false, d, g)
  | (true, d) => match sRing 66 d with
    | (false, d) => (false, d, g)
    | (true, d) => match sBar d with
      | (false, d) => (false, d, g)
      | (true, d) => (true, d, (0, g.2))
/-- clearing: the blocks from b on, k of them -/
def sClrN (g : Lg) (ly : Int64) (b : Nat) : Nat → Dk → Bool × Dk
  | 0, d => (true, d)
  | k + 1, d => if bitt ly b then (match sHome b g.2.2.2.2.2 (sLate g b) d with
      | (false, d) => (false, d)
      | (true, d) => sClrN g ly (b + 1) k d) else sClrN g ly (b + 1) k d
def sClear (d : Dk) (g : Lg) : Bool × Dk × Lg := match sClrN g (sLying g) 0 64 d with
  | (false, d) => (false, d, g)
  | (true, d) => sEnd d g
/-- replay of a transaction: the blocks from b on, k of them; how many came home so far -/
def sRepB (g : Lg) (t : Nat) (lv : Int64) (b : Nat) : Nat → Int32 → Dk → Bool × Int32 × Dk
  | 0, n, d => (true, n, d)
  | k + 1, n, d => if bitt lv b then (match sHome b g.2.2.2.2.2 (sImg g t b) d with
      | (false, d) => (false, n, d)
      | (true, d) => sRepB g t lv (b + 1) k (n + 1) d) else sRepB g t lv (b + 1) k n d
def sRepT (g : Lg) (t : Nat) : Nat → Int32 → Dk → Bool × Int32 × Dk
  | 0, n, d => (true, n, d)
  | k + 1, n, d => match sRepB g t (sLiving g t) 0 64 n d with
    | (false, n, d) => (false, n, d)
    | (true, n, d) => sRepT g (t + 1) k n d
def sReplay (d : Dk) (g : Lg) : Int32 × Dk × Lg := match sRepT g 0 g.1 0 d with
  | (false, _, d) => (-1, d, g)
  | (true, n, d) => match sEnd d g with
    | (false, d, g) => (-1, d, g)
    | (true, d, g) => (n, d, g)
def sUse (run rev : Int64) : Nat := cnt run + (cnt run + 27) / 28 + (if rev = 0 then 0 else 1) + 1
def sBody : Nat → Dk → Bool × Dk
  | 0, d => (true, d)
  | k + 1, d => match sRing 64 d with
    | (false, d) => (false, d)
    | (true, d) => sBody k d
/-- the images of a transaction: the blocks from b on, k of them; i is the next image's place -/
def imN (x : Int64) (now : Nat → Int32) (b : Nat) : Nat → Nat → (Nat → Int32) → (Nat → Int32)
  | 0, _, im => im
  | k + 1, i, im => if bitt x b then imN x now (b + 1) k (i + 1) (va_cpy now im (256 * b) (256 * i) 256) else imN x now (b + 1) k i im
def sAppend (run rev : Int64) (use : Nat) (now : Nat → Int32) : Lg → Lg
  | (n, blk, rvk, us, fst, im) => (n + 1, vp_updL blk n run, vp_updL rvk n rev, (fun t => if t = n then use else us t), (fun t => if t = n + 1 then fst n + cnt run else fst t), imN run now 0 64 (fst n) im)
def sDrop : Lg → Lg
  | (n, r) => (n - 1, r)
/-- the transaction's steps behind a clearing that may have come first; what runs then -/
def sTrans (use : Nat) (run rev : Int64) (now : Nat → Int32) (d : Dk) (g : Lg) : Bool × Dk × Lg × Int64 × Int64 := match sBody (use - 1) d with
  | (false, d) => (false, d, g, run, rev)
  | (true, d) => match sBar d with
    | (false, d) => (false, d, g, run, rev)
    | (true, d) => match sRing 65 d with
      | (false, d) => (false, d, g, run, rev)
      | (true, d) => match sBar d with
        | (b, d) => (b, d, sAppend run rev use now g, 0, 0)
/-- the log behind power's failure -/
def sLogMount (bits : Int64) (u : List Nat) (g : Lg) : Lg :=
  let g1 := if 65 ∈ u ∧ sFirst (u.idxOf 65) bits = false then sDrop g else g
  if 66 ∈ u ∧ sFirst (u.idxOf 66) bits = true then (0, g1.2) else g1
/-! the calls -/
def fLay (r : Int32) : Sp → Int32 × Sp
  | (ring, run, rev, now, (u, on, fu, st, ba, ho), g) => if r < 40 ∨ 200 < r then (-2, (ring, run, rev, now, (u, on, fu, st, ba, ho), g))
    else (r, (r.toNatClampNeg, 0, 0, fillF now 0 16384 0, ([], true, -1, 0, fillF ba 0 16384 0, fillF ho 0 16384 0), (0, g.2)))
def fWrite (b a n v : Int32) : Sp → Int32 × Sp
  | (ring, run, rev, now, d, g) => if d.2.1 = false then (-1, (ring, run, rev, now, d, g))
    else if b < 0 ∨ 64 ≤ b ∨ a < 0 ∨ 256 ≤ a ∨ n < 1 ∨ 256 - a < n ∨ v < 0 ∨ 255 < v then (-2, (ring, run, rev, now, d, g))
    else if bitt run b.toNatClampNeg = false ∧ 30 ≤ cnt run then (-2, (ring, run, rev, now, d, g))
    else (nI (cnt (run ||| bit1 b.toNatClampNeg)), (ring, run ||| bit1 b.toNatClampNeg, rev &&& (bit1 b.toNatClampNeg ^^^ (-1)), fillF now (b.toNatClampNeg * 256 + a.toNatClampNeg) n.toNatClampNeg v.toInt8.toInt32, d, g))
def fRead (b a : Int32) : Sp → Int32
  | (_, _, _, now, d, _) => if d.2.1 = false then -1 else if b < 0 ∨ 64 ≤ b ∨ a < 0 ∨ 256 ≤ a then -2 else now (b.toNatClampNeg * 256 + a.toNatClampNeg) &&& 255
def fForget (b : Int32) : Sp → Int32 × Sp
  | (ring, run, rev, now, d, g) => if d.2.1 = false then (-1, (ring, run, rev, now, d, g))
    else if b < 0 ∨ 64 ≤ b then (-2, (ring, run, rev, now, d, g))
    else if bitt rev b.toNatClampNeg = false ∧ 30 ≤ cnt rev then (-2, (ring, run, rev, now, d, g))
    else (nI (cnt (rev ||| bit1 b.toNatClampNeg)), (ring, run &&& (bit1 b.toNatClampNeg ^^^ (-1)), rev ||| bit1 b.toNatClampNeg, va_cpy d.2.2.2.2.2 now (b.toNatClampNeg * 256) (b.toNatClampNeg * 256) 256, d, g))
def fDirect (b v : Int32) : Sp → Int32 × Sp
  | (ring, run, rev, now, d, g) => if d.2.1 = false then (-1, (ring, run, rev, now, d, g))
    else if b < 0 ∨ 64 ≤ b ∨ v < 0 ∨ 255 < v then (-2, (ring, run, rev, now, d, g))
    else if bitt ((run ||| rev) ||| sLying g) b.toNatClampNeg then (-2, (ring, run, rev, now, d, g))
    else let now1 := fillF now (b.toNatClampNeg * 256) 256 v.toInt8.toInt32
      match sBar d with
      | (false, d) => (-1, (ring, run, rev, now1, d, g))
      | (true, d) => match sHome b.toNatClampNeg now1 (b.toNatClampNeg * 256) d with
        | (false, d) => (-1, (ring, run, rev, now1, d, g))
        | (true, d) => match sBar d with
          | (false, d) => (-1, (ring, run, rev, now1, d, g))
          | (true, d) => (0, (ring, run, rev, now1, d, g))
def fCommit : Sp → Int32 × Sp
  | (ring, run, rev, now, d, g) => if d.2.1 = false then (-1, (ring, run, rev, now, d, g))
    else if run ||| rev = 0 then (0, (ring, run, rev, now, d, g))
    else match (if ring - 1 < sUsed g + sUse run rev then sClear d g else (true, d, g)) with
      | (false, d, g) => (-1, (ring, run, rev, now, d, g))
      | (true, d, g) => match sTrans (sUse run rev) run rev now d g with
        | (false, d, g, run, rev) => (-1, (ring, run, rev, now, d, g))
        | (true, d, g, run2, rev2) => (nI (sUse run rev), (ring, run2, rev2, now, d, g))
def fClear : Sp → Int32 × Sp
  | (ring, run, rev, now, d, g) => if d.2.1 = false then (-1, (ring, run, rev, now, d, g))
    else if g.1 = 0 then (0, (ring, run, rev, now, d, g))
    else match sClear d g with
      | (false, d, g) => (-1, (ring, run, rev, now, d, g))
      | (true, d, g2) => (nI (cnt (sLying g)), (ring, run, rev, now, d, g2))
def fFuse (n : Int32) : Sp → Int32 × Sp
  | (ring, run, rev, now, (u, on, fu, st, ba, ho), g) => if on = false then (-1, (ring, run, rev, now, (u, on, fu, st, ba, ho), g))
    else if n < -1 ∨ 100000 < n then (-2, (ring, run, rev, now, (u, on, fu, st, ba, ho), g))
    else (fu, (ring, run, rev, now, (u, on, n, st, ba, ho), g))
def fFail : Sp → Int32 × Sp
  | (ring, run, rev, now, (u, on, fu, st, ba, ho), g) => if on = false then (-1, (ring, run, rev, now, (u, on, fu, st, ba, ho), g))
    else (nI u.length, (ring, run, rev, now, (u, false, fu, st, ba, ho), g))
def fMount (bits : Int64) : Sp → Int32 × Sp
  | (ring, run, rev, now, (u, on, fu, st, ba, ho), g) => if on = true then (-2, (ring, run, rev, now, (u, on, fu, st, ba, ho), g))
    else match sSettle bits (u, true, fu, st, ba, ho), sLogMount bits u g with
      | d, g => match (if g.1 = 0 then (0, d, g) else sReplay d g) with
        | (r, d, g) => (r, (ring, 0, 0, va_cpy d.2.2.2.2.2 now 0 0 16384, d, g))
def fCount (w : Int32) : Sp → Int32
  | (_, run, rev, _, (u, on, _, st, _, _), g) => if on = false then -1
    else if w = 0 then nI g.1 else if w = 1 then nI (sUsed g) else if w = 2 then nI (cnt (sLying g)) else if w = 3 then nI (cnt run) else if w = 4 then nI (cnt rev) else if w = 5 then st else if w = 6 then nI u.length else -2
/-! the class's cells, and what they mean -/
abbrev DKt : Type := Int32 × Int64 × Int32 × Int32 × Int32 × (Nat → Int32) × (Nat → Int32) × (Nat → Int32)
abbrev LGt : Type := Int32 × Int32 × (Nat → Int64) × (Nat → Int64) × (Nat → Int32) × (Nat → Int32) × (Nat → Int32)
abbrev JRt : Type := Int32 × Int64 × Int64 × (Nat → Int32)
def b2i (b : Bool) : Int32 := if b then 1 else 0
def RD : Dk → DKt → Prop
  | (u, on, f, st, ba, ho), (uw, hm, on1, sl, st1, dn, wr, od) => uw = nI u.length ∧ (∀ i, i < u.length → od i = nI (u.getD i 0)) ∧ (∀ b, b < 64 → bitt hm b = decide (b ∈ u)) ∧ on1 = b2i on ∧ sl = f ∧ st1 = st ∧ dn = ba ∧ wr = ho
def DW : Dk → Prop
  | (u, _, _, _, ba, ho) => u.length ≤ 200 ∧ (∀ k ∈ u, k < 67) ∧ sb_Fit ba ∧ sb_Fit ho
def RL : Lg → LGt → Prop
  | (n, blk, rvk, use, fst, im), (sz, iu, bl, rv, us, fi, img) => sz = nI n ∧ iu = nI (fst n) ∧ (∀ t, t < n → bl t = blk t ∧ rv t = rvk t ∧ us t = nI (use t) ∧ fi t = nI (fst t)) ∧ img = im
def LW : Nat → Lg → Prop
  | ring, (n, blk, rvk, use, fst, im) => fst 0 = 0 ∧ (∀ t, t < n → fst (t + 1) = fst t + cnt (blk t) ∧ cnt (blk t) + 1 ≤ use t ∧ 2 ≤ use t ∧ blk t &&& rvk t = 0) ∧ sumN use n ≤ ring - 1 ∧ sb_Fit im
def RA : Sp → JRt → DKt → LGt → Prop
  | (ring, run, rev, now, d, g), (rb, ru, rv, nw), k, x => rb = nI ring ∧ ru = run ∧ rv = rev ∧ nw = now ∧ RD d k ∧ RL g x
/-- under way while power is off -/
def UO (u : List Nat) (n : Nat) : Prop := hs u ∨ (∃ i, i ≤ 40 ∧ u = List.replicate i 64) ∨ (u = [65] ∧ 0 < n) ∨ u = [66]
def SW : Sp → Prop
  | (ring, run, rev, now, (u, on, fu, st, ba, ho), g) => 40 ≤ ring ∧ ring ≤ 200 ∧ run &&& rev = 0 ∧ cnt run ≤ 30 ∧ cnt rev ≤ 30 ∧ (on = true → u = []) ∧ UO u g.1 ∧ sb_Fit now ∧ sb_Fit ba ∧ sb_Fit ho ∧ LW ring g
/-! the JDK's methods that are reached -/
def pr_bitCount (_ : Int64) : Prop := True
def po_bitCount (x : Int64) (r : Int32) : Prop := r = nI (cnt x)
def pr_rangeCheck (n fr to : Int32) : Prop := ∃ x y N : Nat, n = nI N ∧ fr = nI x ∧ to = nI y ∧ x ≤ y ∧ y ≤ N ∧ N < 2 ^ 31
def po_rangeCheck (_ _ _ : Int32) : Prop := True
def pr_fillA (_ : Int32) (nA : Nat) (_ : Nat → Int32) : Prop := nA < 2 ^ 31
def po_fillA (v : Int32) (nA : Nat) (f : Nat → Int32) (g : Nat → Int32) : Prop := g = fillF f 0 nA (vp_nar .byte v)
def pr_fillR (fr to _ : Int32) (nA : Nat) (_ : Nat → Int32) : Prop := ∃ x y : Nat, fr = nI x ∧ to = nI y ∧ x ≤ y ∧ y ≤ nA ∧ nA < 2 ^ 31
def po_fillR (fr to v : Int32) (nA : Nat) (f : Nat → Int32) (g : Nat → Int32) : Prop := ∀ x y : Nat, fr = nI x → to = nI y → x ≤ y → y ≤ nA → nA < 2 ^ 31 → g = fillF f x (y - x) (vp_nar .byte v)
theorem fillF_0 (f : Nat → Int32) (a : Nat) (v : Int32) : fillF f a 0 v = f := by
  funext j; unfold fillF; rw [if_neg (by omega)]
theorem fillF_succ (f : Nat → Int32) (a n : Nat) (v : Int32) : upd (fillF f a n v) (a + n) v = fillF f a (n + 1) v := by
  funext j
  by_cases h : j = a + n
  · subst h; rw [pk_us]; unfold fillF; rw [if_pos (by omega)]
  · rw [pk_un h]; unfold fillF
    by_cases q : a ≤ j ∧ j < a + n
    · rw [if_pos q, if_pos (by omega)]
    · rw [if_neg q, if_neg (by omega)]
