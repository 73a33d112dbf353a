/-! THE INVARIANT: the class's tables beside the reference's -/
def nT (x : Int32) : Nat := x.toInt.toNat
def zs (g : Nat → Int32) : Nat → Int32
  | 0 => 0
  | n + 1 => zs g n + g n
def zsz (g : Nat → Int) : Nat → Int
  | 0 => 0
  | n + 1 => zsz g n + g n
/-- how often it was SAID among the first n states, by c or by all (-1) -/
def kS (st cr : Nat → Int32) (c : Int32) : Nat → Int32
  | 0 => 0
  | n + 1 => kS st cr c n + (if st n = 2 ∧ (c = -1 ∨ cr n = c) then 1 else 0)
def kF (st cr : Nat → Int32) (c : Int32) : Nat → Int32
  | 0 => 0
  | n + 1 => kF st cr c n + (if (st n = 2 ∧ (c = -1 ∨ cr n = c)) ∧ st (n + 1) = 0 then 1 else 0)
/-- one that is SAID by c and not yet looked at -/
def pend (t cr : Int32) (c : Nat) : Int := if t = 2 ∧ cr = nI c then 1 else 0
def zpl (x : Int32) : Int32 := if x < 0 then -4 else x
def qday (σ : zSt) : Int32 := gI σ 12 0 0
def hm (σ : zSt) (f : Nat) : Nat := nT (gI σ 1318 0 f)
def kd (σ : zSt) (f : Nat) : Nat := nT (gI σ 1320 0 f)
def sz (σ : zSt) (f : Nat) : Nat := nT (gI σ 1329 0 f)
def rdn (σ : zSt) (f : Nat) : Nat := nT (gI σ 1344 0 f)
def sT (σ : zSt) (f j : Nat) : Int32 := gI σ 1326 0 (30 * f + j)
def sD (σ : zSt) (f j : Nat) : Int32 := gI σ 1327 0 (30 * f + j)
def sC (σ : zSt) (f j : Nat) : Int32 := gI σ 1328 0 (30 * f + j)
def rD (σ : zSt) (f j : Nat) : Int32 := gI σ 1342 0 (12 * f + j)
def rW (σ : zSt) (f j : Nat) : Int32 := gI σ 1343 0 (12 * f + j)
def isCr (σ : zSt) (f : Nat) : Prop := gI σ 1316 0 (kd σ f) &&& 2 ≠ 0
def txn (σ : zSt) (w : Nat) : Nat := nT (gI σ 1354 0 w)
def btw (a : Int) (x : Int32) (b : Int) : Prop := a ≤ x.toInt ∧ x.toInt ≤ b
/-- numbers of objects -/
def vC (σ : zSt) : Prop := gN σ 0 = 1 ∧ gN σ 2 = 1 ∧ gN σ 6 = 1 ∧ gN σ 9 = 2 ∧ gN σ 11 = 1 ∧ gN σ 12 = 1 ∧ gN σ 4 = gN σ 1 ∧ gN σ 500 = gN σ 1 ∧ gN σ 501 = gN σ 1 ∧ gN σ 502 = gN σ 1 ∧ gN σ 610 = gN σ 5 ∧ gN σ 611 = gN σ 5 ∧ gN σ 400 = gN σ 3 ∧ gN σ 401 = gN σ 3 ∧ gN σ 1100 = gN σ 10
/-- counters and scalars -/
def vN (σ : zSt) : Prop := gI σ 11 0 1 = nI (gN σ 5) ∧ gI σ 12 0 13 = nI (gN σ 5) ∧ gN σ 5 ≤ 40 ∧ gI σ 11 0 3 = nI (gN σ 7) ∧ gI σ 12 0 17 = nI (gN σ 7) ∧ gN σ 7 ≤ 20 ∧ gI σ 11 0 5 = nI (gN σ 1) ∧ gI σ 12 0 36 = nI (gN σ 1) ∧ gN σ 1 ≤ 200 ∧
  gI σ 11 0 6 = qday σ ∧ btw 0 (qday σ) 9999 ∧ gI σ 11 0 7 = gI σ 12 0 40 ∧ btw 0 (gI σ 12 0 40) 60 ∧ gI σ 11 0 8 = gI σ 12 0 41 ∧ gI σ 11 0 9 = gI σ 12 0 55
def vH1 (σ : zSt) (i : Nat) : Prop := gR σ 1200 0 i = some i ∧ gI σ 5 i 0 = gI σ 1301 0 i ∧ gI σ 5 i 1 = gI σ 1302 0 i ∧ gI σ 5 i 2 = gI σ 1303 0 i ∧ gI σ 5 i 3 = gI σ 1304 0 i ∧ gI σ 5 i 4 = gI σ 1305 0 i ∧ gI σ 5 i 5 = gI σ 1308 0 i ∧ gI σ 5 i 6 = gI σ 1310 0 i ∧ gI σ 5 i 7 = gI σ 1311 0 i ∧ gI σ 5 i 8 = gI σ 1312 0 i ∧ gI σ 5 i 9 = gI σ 1307 0 i ∧
  btw 0 (gI σ 1301 0 i) 7 ∧ btw 0 (gI σ 1302 0 i) 99 ∧ btw (-1) (gI σ 1305 0 i) 9999 ∧ btw 0 (gI σ 1308 0 i) 127 ∧ btw 0 (gI σ 1310 0 i) 99999 ∧ btw 0 (gI σ 1307 0 i) 20 ∧
  (∀ j, j < 20 → gI σ 610 i j = gI σ 1306 0 (20 * i + j)) ∧ (∀ t, t < 10 → gI σ 611 i t = gI σ 1309 0 (10 * i + t) ∧ btw (-1) (gI σ 1309 0 (10 * i + t)) 9)
def vH (σ : zSt) : Prop := ∀ i, i < gN σ 5 → vH1 σ i
def vK1 (σ : zSt) (i : Nat) : Prop := gR σ 1202 0 i = some i ∧ gI σ 7 i 0 = gI σ 1314 0 i ∧ gI σ 7 i 1 = gI σ 1315 0 i ∧ gI σ 7 i 2 = gI σ 1316 0 i ∧ btw 0 (gI σ 1314 0 i) 9 ∧ btw 1 (gI σ 1315 0 i) 999 ∧ btw 0 (gI σ 1316 0 i) 7
def vK (σ : zSt) : Prop := ∀ i, i < gN σ 7 → vK1 σ i
/-- the promised day of a fault is the same on both sides -/
def pD (σ : zSt) (f : Nat) : Prop := gI σ 1 f 12 = gI σ 1331 0 f
def vF1 (σ : zSt) (f : Nat) : Prop := gR σ 1204 0 f = some f ∧ gI σ 1 f 0 = nI f ∧ gR σ 1 f 1 = some (hm σ f) ∧ gI σ 1318 0 f = nI (hm σ f) ∧ hm σ f < gN σ 5 ∧ gI σ 1 f 2 = gI σ 1319 0 f ∧ btw 0 (gI σ 1319 0 f) 11 ∧ gI σ 1 f 3 = gI σ 1320 0 f ∧ gR σ 1 f 4 = some (kd σ f) ∧ gI σ 1320 0 f = nI (kd σ f) ∧ kd σ f < gN σ 7 ∧
  gI σ 1 f 5 = gI σ 1321 0 f ∧ btw 1 (gI σ 1321 0 f) 9 ∧ gI σ 1 f 6 = gI σ 1323 0 f ∧ gI σ 1 f 9 = gI σ 1322 0 f ∧ (0 ≤ (gI σ 1322 0 f).toInt ∧ (gI σ 1322 0 f).toInt ≤ (qday σ).toInt) ∧ gI σ 1 f 10 = gI σ 1324 0 f ∧ (gI σ 1324 0 f = 0 ∨ gI σ 1324 0 f = 1) ∧ gI σ 1 f 11 = gI σ 1325 0 f ∧ (gI σ 1325 0 f = 0 ∨ gI σ 1325 0 f = 1) ∧
  gI σ 1 f 13 = gI σ 1330 0 f ∧ btw 0 (gI σ 1330 0 f) 3 ∧ (pD σ f ∨ gI σ 1330 0 f = 0) ∧ gI σ 1 f 14 = gI σ 1333 0 f ∧ gI σ 1 f 15 = gI σ 1332 0 f
def vF (σ : zSt) : Prop := ∀ f, f < gN σ 1 → vF1 σ f
/-- the states of a fault -/
def vS1 (σ : zSt) (f : Nat) : Prop := gI σ 1329 0 f = nI (sz σ f) ∧ gI σ 4 f 3 = nI (sz σ f) ∧ 1 ≤ sz σ f ∧ sz σ f ≤ 30 ∧
  (∀ j, j < sz σ f → gI σ 500 f j = sD σ f j ∧ gI σ 501 f j = sT σ f j ∧ gI σ 502 f j = sC σ f j ∧ btw 0 (sT σ f j) 4 ∧ (sT σ f j = 2 → btw 0 (sC σ f j) 9) ∧ ((gI σ 1322 0 f).toInt ≤ (sD σ f j).toInt ∧ (sD σ f j).toInt ≤ (qday σ).toInt)) ∧
  (∀ i j, i ≤ j → j < sz σ f → (sD σ f i).toInt ≤ (sD σ f j).toInt) ∧ sT σ f 0 = 0 ∧ sD σ f 0 = gI σ 1322 0 f ∧ (sT σ f (sz σ f - 1) = 1 → gI σ 1330 0 f = 1)
def vS (σ : zSt) : Prop := ∀ f, f < gN σ 1 → vS1 σ f
/-- counters of SAID and of looks -/
def vL (σ : zSt) : Prop := (∀ f, f < gN σ 1 → gI σ 1334 0 f = kS (sT σ f) (sC σ f) (-1) (sz σ f) ∧ gI σ 1335 0 f = kF (sT σ f) (sC σ f) (-1) (sz σ f - 1)) ∧
  ∀ c, c < 10 → gI σ 1217 0 c = gI σ 1337 0 c ∧ gI σ 1339 0 c = zs (fun f => kS (sT σ f) (sC σ f) (nI c) (sz σ f)) (gN σ 1) ∧ gI σ 1338 0 c = zs (fun f => kF (sT σ f) (sC σ f) (nI c) (sz σ f - 1)) (gN σ 1) ∧
    0 ≤ (gI σ 1338 0 c).toInt ∧ (gI σ 1338 0 c).toInt ≤ (gI σ 1337 0 c).toInt ∧ (gI σ 1339 0 c).toInt ≤ 6000 ∧
    (gI σ 1337 0 c).toInt + zsz (fun f => pend (sT σ f (sz σ f - 1)) (sC σ f (sz σ f - 1)) c) (gN σ 1) = (gI σ 1339 0 c).toInt
def vG1 (σ : zSt) (f : Nat) : Prop := gI σ 1344 0 f = nI (rdn σ f) ∧ rdn σ f ≤ 12 ∧
  (∀ j, j < rdn σ f → btw 0 (rW σ f j) 9999 ∧ (0 ≤ (rD σ f j).toInt ∧ (rD σ f j).toInt ≤ (qday σ).toInt)) ∧ (∀ i j, i < j → j < rdn σ f → (rD σ f i).toInt < (rD σ f j).toInt) ∧
  ((isCr σ f ∧ ∃ g, gR σ 1 f 8 = some g ∧ g < gN σ 3 ∧ gI σ 3 g 2 = nI (rdn σ f) ∧ ∀ j, j < rdn σ f → gI σ 400 g j = rD σ f j ∧ gI σ 401 g j = rW σ f j) ∨ (¬ isCr σ f ∧ gR σ 1 f 8 = none ∧ rdn σ f = 0))
def vG (σ : zSt) : Prop := (∀ f, f < gN σ 1 → vG1 σ f) ∧ ∀ f f' g, f < gN σ 1 → f' < gN σ 1 → gR σ 1 f 8 = some g → gR σ 1 f' 8 = some g → f = f'
def jbn (σ : zSt) : Nat := nT (gI σ 12 0 47)
def pln (σ : zSt) : Nat := nT (gI σ 12 0 62)
/-- the diary -/
def vD (σ : zSt) : Prop := (∀ t, t < 10 → gI σ 100 0 t = gI σ 1345 0 t ∧ btw 0 (gI σ 1345 0 t) 9) ∧ gI σ 12 0 47 = nI (jbn σ) ∧ gI σ 0 0 2 = nI (jbn σ) ∧ jbn σ ≤ 7 ∧
  (∀ i, i < jbn σ → ∃ f, f < gN σ 1 ∧ gI σ 1346 0 i = nI f ∧ gR σ 101 0 i = some f ∧ pD σ f) ∧ (∀ i j f, i < jbn σ → j < jbn σ → gI σ 1346 0 i = nI f → gI σ 1346 0 j = nI f → i = j) ∧
  gI σ 12 0 62 = nI (pln σ) ∧ gI σ 0 0 4 = nI (pln σ) ∧ pln σ ≤ 7 ∧ ∀ i, i < pln σ → gI σ 103 0 i = zpl (gI σ 1361 0 i)
def tpn (σ : zSt) : Nat := nT (gI σ 12 0 49)
def vT (σ : zSt) : Prop := gI σ 12 0 49 = nI (tpn σ) ∧ gI σ 11 0 11 = nI (tpn σ) ∧ tpn σ ≤ 160 ∧ ∀ i, i < tpn σ → gI σ 1210 0 i = gI σ 1348 0 i ∧ btw 0 (gI σ 1348 0 i) 255
/-- characters -/
def dig (c : Int32) : Bool := decide (48 ≤ c.toInt ∧ c.toInt ≤ 57)
def zch (k : Nat) (c : Int32) : Bool := decide (c ∈ zsbyt.getD k [])
/-- the class's look at a freeing from i on, with d bytes left: none where it is right, else where it is wrong -/
def frR (b : Nat → Int32) : Nat → Nat → Nat → Nat → Bool → Bool → Option Nat
  | 0, i, o, _, w, _ => if w = true ∨ 0 < o then some i else none
  | d + 1, i, o, dg, w, t =>
    if w = true then
      if b i = 40 ∧ o < 6 then frR b d (i + 1) (o + 1) dg true t
      else if dig (b i) = true ∨ zch 3 (b i) = true then frR b d (i + 1) o (if dig (b i) = true then 1 else 0) false t
      else some i
    else if dig (b i) = true ∧ 0 < dg ∧ dg < 5 then frR b d (i + 1) o (dg + 1) false t
    else if b i = 41 ∧ 0 < o then frR b d (i + 1) (o - 1) 0 false t
    else if zch 4 (b i) = true ∨ (o = 0 ∧ (b i = 59 ∨ (b i = 58 ∧ t = false))) then frR b d (i + 1) o dg true (decide (b i = 58) || (t && !decide (b i = 59)))
    else some i
/-- and at a warranty -/
def wnx (ph : Nat) (c : Int32) : Nat :=
  if ph = 0 then (if c = 62 then 5 else if zch 0 c = true then 2 else 7)
  else if ph = 1 then (if zch 0 c = true then 2 else 7)
  else if ph = 2 then (if zch 1 c = true then 3 else 7)
  else if ph = 3 then (if dig c = true then 4 else 7)
  else if ph = 4 then (if c = 38 then 1 else if c = 62 then 5 else if dig c = true then 4 else 7)
  else if ph = 5 then (if zch 2 c = true then 6 else 7)
  else if ph = 6 then (if c = 59 then 0 else if dig c = true then 6 else 7)
  else 7
def wrR (b : Nat → Int32) : Nat → Nat → Nat → Nat → Option Nat
  | 0, i, ph, _ => if 0 < i ∧ ph = 0 then none else some i
  | d + 1, i, ph, dg => if dig (b i) = true ∧ 4 ≤ dg then some i else if wnx ph (b i) = 7 then some i else wrR b d (i + 1) (wnx ph (b i)) (if dig (b i) = true then dg + 1 else 0)
/-- what is said of a text that stands on a shelf: it is right -/
def zokT (w : Nat) (b : Nat → Int32) (n : Nat) : Prop := (w = 0 → wrR b n 0 0 0 = none) ∧ (w = 1 → frR b n 0 0 0 true false = none)
def vX1 (σ : zSt) (w i : Nat) : Prop := ∃ t, t < gN σ 10 ∧ gR σ 1000 w i = some t ∧ gI σ 10 t 1 = gI σ 1353 0 (10 * w + i) ∧ gI σ 10 t 2 = gI σ 1352 0 (10 * w + i) ∧ gI σ 1351 0 (10 * w + i) = nI (gZ σ 1100 t) ∧ gZ σ 1100 t ≤ 160 ∧
  (∀ j, j < gZ σ 1100 t → gI σ 1100 t j = gI σ 1350 0 (160 * (10 * w + i) + j) ∧ btw 0 (gI σ 1350 0 (160 * (10 * w + i) + j)) 255) ∧ zokT w (fun j => gI σ 1350 0 (160 * (10 * w + i) + j)) (gZ σ 1100 t)
def vX (σ : zSt) : Prop := ∀ w, w < 2 → gI σ 1354 0 w = nI (txn σ w) ∧ gI σ 9 w 1 = nI (txn σ w) ∧ txn σ w ≤ 10 ∧ ∀ i, i < txn σ w → vX1 σ w i
/-- what was never written is 0 -/
def vZ (σ : zSt) : Prop := (∀ i, gN σ 5 ≤ i → gI σ 1307 0 i = 0 ∧ gI σ 1310 0 i = 0 ∧ gI σ 1311 0 i = 0 ∧ gI σ 1312 0 i = 0 ∧ ∀ j, j < 20 → gI σ 1306 0 (20 * i + j) = 0) ∧
  ∀ f, gN σ 1 ≤ f → gI σ 1329 0 f = 0 ∧ gI σ 1330 0 f = 0 ∧ gI σ 1332 0 f = 0 ∧ gI σ 1333 0 f = 0 ∧ gI σ 1334 0 f = 0 ∧ gI σ 1335 0 f = 0 ∧ gI σ 1344 0 f = 0
def Inv (σ : zSt) : Prop := zOK σ ∧ vC σ ∧ vN σ ∧ vH σ ∧ vK σ ∧ vF σ ∧ vS σ ∧ vL σ ∧ vG σ ∧ vD σ ∧ vT σ ∧ vX σ ∧ vZ σ
