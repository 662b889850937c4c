/-! deps: 18f -/
/-! ===== what is read, as a parser ===== -/
def bd {α β : Type} (r : Except pe (α × Nat)) (k : α → Nat → Except pe β) : Except pe β := match r with
  | .error e => .error e
  | .ok (a, p) => k a p
theorem bd_ok {α β : Type} {r : Except pe (α × Nat)} {k : α → Nat → Except pe β} {a : α} {p : Nat} (h : r = .ok (a, p)) : bd r k = k a p := by rw [h]; rfl
theorem bd_er {α β : Type} {r : Except pe (α × Nat)} {k : α → Nat → Except pe β} {e : pe} (h : r = .error e) : bd r k = .error e := by rw [h]; rfl
abbrev Fn : Type := Nat → Int32
/-- so many bytes, whatever they are -/
def tK (n p k : Nat) : Except pe (Unit × Nat) := if p + k ≤ n then .ok ((), p + k) else .error (1, n)
abbrev l64 (k : Nat) : Int64 := Int64.ofNat k
def mx64 : Int64 := Int64.ofNat 9223372036854775807
/-! packed sizes -/
def lPS (F : Fn) (n off : Nat) : Nat → Nat → Nat → Nat → (Nat → Nat) → Except pe ((Nat → Nat) × Nat)
  | 0, _, p, _, pk => .ok (pk, p)
  | d + 1, i, p, s, pk => bd (tN F n p (l64 1) (l64 2400)) fun v p' => if d = 0 ∧ ¬ s + v.toNatClampNeg = off then .error (5, p) else lPS F n off d (i + 1) p' (s + v.toNatClampNeg) (va_up pk i v.toNatClampNeg)
def pPS (F : Fn) (n off p : Nat) : Except pe ((Nat × (Nat → Nat)) × Nat) :=
  bd (tX F n p 6) fun _ p => bd (tN F n p (l64 0) (l64 0)) fun _ p => bd (tN F n p (l64 1) (l64 6)) fun B p => bd (tX F n p 9) fun _ p => bd (lPS F n off B.toNatClampNeg 0 p 0 (fun _ => 0)) fun pk p => bd (tX F n p 0) fun _ p => .ok ((B.toNatClampNeg, pk), p)
/-! a coder: its kind, its distance -/
def idn (F : Fn) (p : Nat) : Nat → Int32
  | 0 => Int32.ofNat 0
  | k + 1 => (idn F p k <<< (Int32.ofNat 8 &&& 31)) ||| (F (p + k) &&& Int32.ofNat 255)
def kdF (ib : Nat) (id : Int32) (pr : Nat) : Int32 := if ib = 1 ∧ id = Int32.ofNat 3 ∧ pr = 1 then Int32.ofNat 1 else if 0 < pr then -1 else if ib = 1 ∧ id = Int32.ofNat 0 then Int32.ofNat 0 else if ib = 3 ∧ id = Int32.ofNat 131842 then Int32.ofNat 2 else if ib = 3 ∧ id = Int32.ofNat 131844 then Int32.ofNat 3 else -1
def pCo (F : Fn) (n p : Nat) : Except pe ((Int32 × Int32) × Nat) := bd (tB F n p) fun v p1 =>
  if (v &&& (-33 : Int32)).toNatClampNeg < 1 ∨ 4 < (v &&& (-33 : Int32)).toNatClampNeg then .error (2, p)
  else bd (tK n p1 (v &&& (-33 : Int32)).toNatClampNeg) fun _ p2 =>
    if v = (v &&& (-33 : Int32)) then .ok ((kdF (v &&& (-33 : Int32)).toNatClampNeg (idn F p1 (v &&& (-33 : Int32)).toNatClampNeg) 0, Int32.ofNat 1), p2)
    else bd (tN F n p2 (l64 1) (l64 4)) fun k p3 => bd (tK n p3 k.toNatClampNeg) fun _ p4 => .ok ((kdF (v &&& (-33 : Int32)).toNatClampNeg (idn F p1 (v &&& (-33 : Int32)).toNatClampNeg) k.toNatClampNeg, (F (p4 - 1) &&& Int32.ofNat 255) + Int32.ofNat 1), p4)
def lCo (F : Fn) (n : Nat) : Nat → Nat → Nat → (Nat → Int32) → (Nat → Int32) → Except pe (((Nat → Int32) × (Nat → Int32)) × Nat)
  | 0, _, p, ks, ds => .ok ((ks, ds), p)
  | d + 1, i, p, ks, ds => bd (pCo F n p) fun kd p' => lCo F n d (i + 1) p' (va_up ks i kd.1) (va_up ds i kd.2)
/-! bonds: who takes from whom (3: nobody) -/
def tkL : List (Nat × Nat) → Nat → Nat
  | [], _ => 3
  | b :: bs, c => if b.1 = c then b.2 else tkL bs c
def gvL : List (Nat × Nat) → Nat → Nat
  | [], _ => 3
  | b :: bs, c => if b.2 = c then b.1 else gvL bs c
def lds (bs : List (Nat × Nat)) (a b : Nat) : Bool := decide (a = b ∨ tkL bs a = b ∨ (tkL bs a < 3 ∧ tkL bs (tkL bs a) = b))
def lBo (F : Fn) (n nc : Nat) : Nat → Nat → List (Nat × Nat) → Except pe (List (Nat × Nat) × Nat)
  | 0, p, bs => .ok (bs, p)
  | d + 1, p, bs => bd (tN F n p (l64 0) (l64 (nc - 1))) fun t p1 => bd (tN F n p1 (l64 0) (l64 (nc - 1))) fun g p2 =>
      if ¬ tkL bs t.toNatClampNeg = 3 ∨ ¬ gvL bs g.toNatClampNeg = 3 ∨ lds bs g.toNatClampNeg t.toNatClampNeg = true then .error (7, p) else lBo F n nc d p2 (bs ++ [(t.toNatClampNeg, g.toNatClampNeg)])
/-- the outermost -/
def omL (bs : List (Nat × Nat)) (nc : Nat) : Nat := if 0 < nc ∧ gvL bs 0 = 3 then 0 else if 1 < nc ∧ gvL bs 1 = 3 then 1 else if 2 < nc ∧ gvL bs 2 = 3 then 2 else 0
def chL (bs : List (Nat × Nat)) (c : Nat) : Nat → Nat
  | 0 => c
  | k + 1 => tkL bs (chL bs c k)
/-- a folder: coders, known, kinds and distances from the outermost on, the outermost -/
abbrev FO : Type := Nat × Bool × (Nat → Int32) × (Nat → Int32) × Nat
def mkF (nc : Nat) (ks ds : Nat → Int32) (bs : List (Nat × Nat)) : FO := (nc, decide (∀ j, j < nc → ¬ ks (chL bs (omL bs nc) j) = -1), (fun j => ks (chL bs (omL bs nc) j)), (fun j => if ks (chL bs (omL bs nc) j) = Int32.ofNat 1 then ds (chL bs (omL bs nc) j) else Int32.ofNat 0), omL bs nc)
def pFo (F : Fn) (n p : Nat) : Except pe (FO × Nat) := bd (tN F n p (l64 1) (l64 3)) fun nc p => bd (lCo F n nc.toNatClampNeg 0 p (fun _ => 0) (fun _ => 0)) fun kd p => bd (lBo F n nc.toNatClampNeg (nc.toNatClampNeg - 1) p []) fun bs p => .ok (mkF nc.toNatClampNeg kd.1 kd.2 bs, p)
def lFo (F : Fn) (n : Nat) : Nat → Nat → Nat → (Nat → FO) → Except pe ((Nat → FO) × Nat)
  | 0, _, p, fo => .ok (fo, p)
  | d + 1, i, p, fo => bd (pFo F n p) fun o p' => lFo F n d (i + 1) p' (va_up fo i o)
/-! given sizes -/
def lG1 (F : Fn) (n lo hi om : Nat) : Nat → Nat → Nat → Nat → Except pe (Nat × Nat)
  | 0, _, p, g => .ok (g, p)
  | d + 1, c, p, g => bd (tN F n p (l64 lo) (l64 hi)) fun v p' => lG1 F n lo hi om d (c + 1) p' (if c = om then v.toNatClampNeg else g)
def lGi (F : Fn) (n : Nat) (pk : Nat → Nat) (fo : Nat → FO) : Nat → Nat → Nat → (Nat → Nat) → Except pe ((Nat → Nat) × Nat)
  | 0, _, p, g => .ok (g, p)
  | d + 1, b, p, g => bd (lG1 F n (if (fo b).2.1 = true then pk b else 1) (if (fo b).2.1 = true then pk b else 2400) (fo b).2.2.2.2 (fo b).1 0 p 0) fun v p' => lGi F n pk fo d (b + 1) p' (va_up g b v)
def pFS (F : Fn) (n B : Nat) (pk : Nat → Nat) (p : Nat) : Except pe (((Nat → FO) × (Nat → Nat)) × Nat) :=
  bd (tX F n p 7) fun _ p => bd (tX F n p 11) fun _ p => bd (tN F n p (l64 B) (l64 B)) fun _ p => bd (tX F n p 0) fun _ p => bd (lFo F n B 0 p (fun _ => (0, true, fun _ => 0, fun _ => 0, 0))) fun fo p => bd (tX F n p 12) fun _ p => bd (lGi F n pk fo B 0 p (fun _ => 0)) fun g p => bd (tX F n p 0) fun _ p => .ok ((fo, g), p)
/-! files -/
def lFc (F : Fn) (n : Nat) : Nat → Nat → Nat → Nat → (Nat → Nat) → Except pe ((Nat × (Nat → Nat)) × Nat)
  | 0, _, p, s, fc => .ok ((s, fc), p)
  | d + 1, b, p, s, fc => bd (tN F n p (l64 1) (l64 (24 - s))) fun v p' => lFc F n d (b + 1) p' (s + v.toNatClampNeg) (va_up fc b v.toNatClampNeg)
/-- files so far: how many, homes, sizes -/
abbrev FI : Type := Nat × (Nat → Nat) × (Nat → Nat)
def adF (x : FI) (b z : Nat) : FI := (x.1 + 1, va_up x.2.1 x.1 b, va_up x.2.2 x.1 z)
def lFi (F : Fn) (n b : Nat) : Nat → Nat → Nat → FI → Except pe (FI × Nat)
  | 0, p, left, x => .ok (adF x b left, p)
  | d + 1, p, left, x => bd (tN F n p (l64 1) (Int32.ofNat left - Int32.ofNat (d + 1)).toInt64) fun v p' => lFi F n b d p' (left - v.toNatClampNeg) (adF x b v.toNatClampNeg)
def lFs (F : Fn) (n : Nat) (g fc : Nat → Nat) : Nat → Nat → Nat → FI → Except pe (FI × Nat)
  | 0, _, p, x => .ok (x, p)
  | d + 1, b, p, x => bd (lFi F n b (fc b - 1) p (g b) x) fun x' p' => lFs F n g fc d (b + 1) p' x'
def lCk (F : Fn) (n : Nat) : Nat → Nat → Nat → (Nat → Int64) → Except pe ((Nat → Int64) × Nat)
  | 0, _, p, c => .ok (c, p)
  | d + 1, i, p, c => bd (tL F n p 4) fun v p' => lCk F n d (i + 1) p' (va_up c i v)
def FI0 : FI := (0, fun _ => 0, fun _ => 0)
def pFI (F : Fn) (n B : Nat) (g : Nat → Nat) (p : Nat) : Except pe ((FI × (Nat → Int64)) × Nat) :=
  bd (tX F n p 8) fun _ p => bd (tB F n p) fun t p1 =>
    bd (if t = Int32.ofNat 13 then bd (lFc F n B 0 p1 0 (fun _ => 0)) fun sf p2 => if sf.1 = B then .error (2, p) else bd (tX F n p2 9) fun _ p3 => lFs F n g sf.2 B 0 p3 FI0 else lFs F n g (fun _ => 1) B 0 p FI0) fun x p => bd (tX F n p 10) fun _ p => bd (tX F n p 1) fun _ p => bd (lCk F n x.1 0 p (fun _ => Int64.ofNat 0)) fun c p => bd (tX F n p 0) fun _ p => .ok ((x, c), p)
/-- STREAMS: blocks, packed sizes, folders, files, checks -/
abbrev ST : Type := Nat × (Nat → Nat) × (Nat → FO) × FI × (Nat → Int64)
def ST0 : ST := (0, fun _ => 0, fun _ => (0, true, fun _ => 0, fun _ => 0, 0), FI0, fun _ => Int64.ofNat 0)
def pST (F : Fn) (n off p : Nat) : Except pe (ST × Nat) :=
  bd (tX F n p 4) fun _ p => bd (pPS F n off p) fun bp p => bd (pFS F n bp.1 bp.2 p) fun fg p => bd (pFI F n bp.1 fg.2 p) fun xc p => bd (tX F n p 0) fun _ p => .ok ((bp.1, bp.2, fg.1, xc.1, xc.2), p)
/-! entries -/
def tM (F : Fn) (n t E p : Nat) : Except pe ((Nat → Bool) × Nat) :=
  if p < n then (if F p &&& Int32.ofNat 255 = Int32.ofNat t then bd (tN F n (p + 1) (l64 ((E + 7) / 8)) (l64 ((E + 7) / 8))) fun _ q => bd (tR F n q E) fun g q' => if cn g E = 0 then .error (2, p) else .ok (g, q') else .ok (fun _ => false, p)) else .error (1, n)
/-- how many; those without bytes; files, antis among them -/
abbrev EN : Type := Nat × (Nat → Bool) × (Nat → Bool) × (Nat → Bool)
def pEN (F : Fn) (n files p : Nat) : Except pe (EN × Nat) := bd (tN F n p (l64 (if files = 0 then 1 else files)) (l64 24)) fun N p =>
  if N.toNatClampNeg = files then bd (tX F n p 17) fun _ p => .ok ((N.toNatClampNeg, fun _ => false, fun _ => false, fun _ => false), p)
  else bd (tX F n p 14) fun _ p1 => bd (tN F n p1 (l64 ((N.toNatClampNeg + 7) / 8)) (l64 ((N.toNatClampNeg + 7) / 8))) fun _ p2 => bd (tR F n p2 N.toNatClampNeg) fun em p3 =>
    if ¬ cn em N.toNatClampNeg = N.toNatClampNeg - files then .error (5, p1) else bd (tM F n 15 (N.toNatClampNeg - files) p3) fun fl p4 => bd (tM F n 16 (N.toNatClampNeg - files) p4) fun an p5 => bd (tX F n p5 17) fun _ p6 => .ok ((N.toNatClampNeg, em, fl, an), p6)
/-! names: how many units, where they stand -/
def lU (F : Fn) (n st : Nat) : Nat → Nat → Nat → Except pe (Nat × Nat)
  | 0, k, p => bd (tL F n p 2) fun v p' => if v = Int64.ofNat 0 then .ok (k, p') else .error (8, st)
  | d + 1, k, p => bd (tL F n p 2) fun v p' => if v = Int64.ofNat 0 then (if k = 0 then .error (8, st) else .ok (k, p')) else lU F n st d (k + 1) p'
def lNm (F : Fn) (n : Nat) : Nat → Nat → Nat → (Nat → Nat) → (Nat → Nat) → Except pe (((Nat → Nat) × (Nat → Nat)) × Nat)
  | 0, _, p, un, st => .ok ((un, st), p)
  | d + 1, i, p, un, st => bd (lU F n p 20 0 p) fun k p' => lNm F n d (i + 1) p' (va_up un i k) (va_up st i p)
def pNM (F : Fn) (n N p : Nat) : Except pe (((Nat → Nat) × (Nat → Nat)) × Nat) := bd (tN F n p (l64 0) mx64) fun told p1 => bd (tX F n p1 0) fun _ p2 => bd (lNm F n N 0 p2 (fun _ => 0) (fun _ => 0)) fun us p3 => if told = Int64.ofNat (p3 - p1) then .ok (us, p3) else .error (5, p)
/-! values -/
def lVa (F : Fn) (n w : Nat) (g : Nat → Bool) : Nat → Nat → Nat → (Nat → Option Int64) → Except pe ((Nat → Option Int64) × Nat)
  | 0, _, p, v => .ok (v, p)
  | d + 1, i, p, v => if g i = true then bd (tL F n p w) fun x p' => lVa F n w g d (i + 1) p' (va_up v i (some x)) else lVa F n w g d (i + 1) p v
def pWH (F : Fn) (n N tp p : Nat) : Except pe ((Nat → Bool) × Nat) := bd (tB F n p) fun al p1 => if Int32.ofNat 1 < al then .error (2, p) else if al = Int32.ofNat 1 then .ok ((fun _ => true), p1) else bd (tR F n p1 N) fun g p2 => if cn g N = 0 then .error (2, tp) else if cn g N = N then .error (2, p) else .ok (g, p2)
def pVA (F : Fn) (n N t w p : Nat) : Except pe ((Nat → Option Int64) × Nat) :=
  if p < n then (if F p &&& Int32.ofNat 255 = Int32.ofNat t then bd (tN F n (p + 1) (l64 0) mx64) fun told q => bd (pWH F n N p q) fun g q1 => bd (tX F n q1 0) fun _ q2 => bd (lVa F n w g N 0 q2 (fun _ => none)) fun v q3 => if told = Int64.ofNat (q3 - q) then .ok (v, q3) else .error (5, p + 1) else .ok ((fun _ => none), p)) else .error (1, n)
/-! the head -/
def fX (F : Fn) : Nat → Nat → Option Nat
  | 0, _ => none
  | d + 1, i => if F i &&& Int32.ofNat 255 = sig.getD i 0 then fX F d (i + 1) else some i
def pHD (F : Fn) (n : Nat) : Except pe Unit :=
  if n < 32 then .error (1, n) else match fX F 8 0 with
    | some i => .error (2, i)
    | none => if ¬ (lt F 8 4).toInt32 = ck F 12 20 then .error (3, 8)
      else if toldB F n = false then .error (5, 12)
      else if lt F 20 8 = Int64.ofNat 0 ∧ (¬ lt F 12 8 = Int64.ofNat 0 ∨ ¬ (lt F 28 4).toInt32 = Int32.ofNat 0) then .error (5, 12)
      else if ¬ (lt F 28 4).toInt32 = ck F (32 + (lt F 12 8).toNatClampNeg) (n - (32 + (lt F 12 8).toNatClampNeg)) then .error (4, 28) else .ok ()
/-- all that is read -/
abbrev RD : Type := ST × EN × ((Nat → Nat) × (Nat → Nat)) × (Nat → Option Int64) × (Nat → Option Int64)
def RD0 : RD := (ST0, (0, fun _ => false, fun _ => false, fun _ => false), (fun _ => 0, fun _ => 0), fun _ => none, fun _ => none)
def pBY (F : Fn) (n off : Nat) : Except pe RD :=
  bd (tX F n (32 + off) 1) fun _ p => bd (if 0 < off then pST F n off p else .ok (ST0, p)) fun st p => bd (tX F n p 5) fun _ p => bd (pEN F n st.2.2.2.1.1 p) fun en p => bd (pNM F n en.1 p) fun nm p => bd (pVA F n en.1 20 8 p) fun tm p => bd (pVA F n en.1 21 4 p) fun av p => bd (tX F n p 0) fun _ p => bd (tX F n p 0) fun _ p => if p < n then .error (6, p) else .ok (st, en, nm, tm, av)
def pRD (F : Fn) (n : Nat) : Except pe RD := match pHD F n with
  | .error e => .error e
  | .ok _ => if lt F 20 8 = Int64.ofNat 0 then .ok RD0 else pBY F n (lt F 12 8).toNatClampNeg
/-! what stands then -/
/-- the file's number among those with bytes -/
def rk (em : Nat → Bool) : Nat → Nat
  | 0 => 0
  | i + 1 => rk em i + (if em i then 0 else 1)
/-- where a block's packed bytes begin -/
def pfr (pk : Nat → Nat) : Nat → Nat
  | 0 => 32
  | b + 1 => pfr pk b + pk b
/-- a block's bytes, unpacked -/
def unp (F : Fn) (pk : Nat → Nat) (fo : Nat → FO) (b : Nat) : Nat → Int32 := cous (fo b).2.2.1 (fo b).2.2.2.1 (pk b) (fo b).1 (sl F (pfr pk b))
/-- bytes of a block's files before the file f -/
def bef (hm sz : Nat → Nat) (b : Nat) : Nat → Nat
  | 0 => 0
  | f + 1 => bef hm sz b f + (if hm f = b then sz f else 0)
def rdB (r : RD) (b : Nat) : sB := if b < r.1.1 then ((r.1.2.2.1 b).2.1, (r.1.2.2.1 b).1, (r.1.2.2.1 b).2.2.1, (r.1.2.2.1 b).2.2.2.1) else (true, 0, fun _ => 0, fun _ => 0)
def rdE (F : Fn) (r : RD) (i : Nat) : sE :=
  let em := r.2.1.2.1
  let x := r.1.2.2.2.1
  let f := rk em i
  let e := i - f
  let nm := fun j => (lt F (r.2.2.1.2 i + 2 * j) 2).toInt32
  let tm := r.2.2.2.1 i
  let av := (r.2.2.2.2 i).map Int64.toInt32
  if em i = true then (if r.2.1.2.2.1 e = true then 0 else 1, r.2.2.1.1 i, nm, 0, fun _ => 0, 0, r.2.1.2.2.2 e, tm, av, false)
  else (0, r.2.2.1.1 i, nm, x.2.2 f, (fun j => unp F r.1.2.1 r.1.2.2.1 (x.2.1 f) (bef x.2.1 x.2.2 (x.2.1 f) f + j)), x.2.1 f, false, tm, av, (r.1.2.2.1 (x.2.1 f)).2.1 && decide (¬ ck (fun j => unp F r.1.2.1 r.1.2.2.1 (x.2.1 f) (bef x.2.1 x.2.2 (x.2.1 f) f + j)) 0 (x.2.2 f) = (r.1.2.2.2.2 f).toInt32))
def rdA (F : Fn) (r : RD) : sA := (r.2.1.1, rdE F r, rdB r)
def f_read (s : sS) : Int32 × sS := match pRD s.2.2.1 s.2.1 with
  | .error (f, pl) => ((-10 : Int32) - Int32.ofNat pl, (s.1, s.2.1, s.2.2.1, Int32.ofNat f))
  | .ok r => (Int32.ofNat r.2.1.1, (rdA s.2.2.1 r, s.2.1, s.2.2.1, Int32.ofNat 0))
