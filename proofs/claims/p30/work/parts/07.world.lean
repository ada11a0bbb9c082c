/-! the state: memory by places and whole-number indices; whole numbers wrap late (iI, lI) -/
abbrev vwCl : List vw_C := [(RX0, TX0, 5), (RX1, TX1, 6), (RX2, TX2, 2), (RX3, TX3, 4), (RX4, TX4, 3), (RX5, TX5, 4), (RX6, TX6, 6), (RX7, TX7, 8)]
abbrev Mem : Type := Nat → Int → Int
def iI (z : Int) : Int32 := Int32.ofInt z
def lI (z : Int) : Int64 := Int64.ofInt z
def up (σ : Mem) (k : Nat) (j z : Int) : Mem := fun a => if a = k then (fun b => if b = j then z else σ a b) else σ a
/-- D, the addresses of the places, the classes of the arrays: int[], long[], char[], PointRow[], long[][], int[][] -/
abbrev Yt : Type := va_G × (Nat → Nat) × (Nat → ClassId)
abbrev Lt : Type := Yt → List ((Int → Int) → va_E)
def tyY (Y : Yt) : List (ClassId × FieldType) := [(Y.2.2 0, .int), (Y.2.2 1, .long), (Y.2.2 2, .char), (Y.2.2 3, .object "ShapeFits$PointRow"), (Y.2.2 4, .array .long), (Y.2.2 5, .array .int)]
def dfE : (Int → Int) → va_E := fun _ => .inr (0, [])
def cL (L : Lt) (Y : Yt) (k : Nat) : (Int → Int) → va_E := (L Y).getD k dfE
def wL (L : Lt) (Y : Yt) (σ : Mem) : va_W := (List.range (L Y).length).map (fun k => (Y.2.1 k, cL L Y k (σ k)))
/-- cells: an int, char, long array; the rows of a history; rows of rows -/
def eI (Y : Yt) (n : Nat) (r : Int → Int) : va_E := .inl (Y.2.2 0, n, .inl (fun j : Nat => iI (r (j : Int))))
def eC (Y : Yt) (n : Nat) (r : Int → Int) : va_E := .inl (Y.2.2 2, n, .inl (fun j : Nat => iI (r (j : Int))))
def eJ (Y : Yt) (n : Nat) (r : Int → Int) : va_E := .inl (Y.2.2 1, n, .inr (.inl (fun j : Nat => lI (r (j : Int)))))
def eR (Y : Yt) (n : Nat) (r : Int → Int) : va_E := .inl (Y.2.2 3, n, .inr (.inr (.inr (.inr (fun j : Nat => some (Y.2.1 (r (j : Int)).toNat))))))
def eT (Y : Yt) (t n g : Nat) (_ : Int → Int) : va_E := .inl (Y.2.2 t, n, .inr (.inr (.inr (.inr (fun j : Nat => if j < n then some (Y.2.1 (g + j)) else none)))))
def fRow (k : Nat) (Y : Yt) (r : Int → Int) : List Value := [.ref (Y.2.1 (k + 1)), .ref (Y.2.1 (k + 2)), .ref (Y.2.1 (k + 3)), .int (iI (r 3))]
def fX (Y : Yt) (r : Int → Int) : List Value := [.ref (Y.2.1 1), .ref (Y.2.1 5), .ref (Y.2.1 12), .ref (Y.2.1 38), .ref (Y.2.1 43), .ref (Y.2.1 45), .ref (Y.2.1 47), .ref (Y.2.1 49)]
def fText (Y : Yt) (r : Int → Int) : List Value := [.ref (Y.2.1 6), .ref (Y.2.1 7), .ref (Y.2.1 11), .int (iI (r 3)), .int (iI (r 4)), .int (iI (r 5))]
def fHist (Y : Yt) (r : Int → Int) : List Value := [.ref (Y.2.1 13), .int (iI (r 1))]
def fTab (Y : Yt) (r : Int → Int) : List Value := [.ref (Y.2.1 39), .ref (Y.2.1 40), .ref (Y.2.1 41), .ref (Y.2.1 42), .int (iI (r 4)), .int (iI (r 5))]
def fBlk (Y : Yt) (r : Int → Int) : List Value := [.ref (Y.2.1 38), .ref (Y.2.1 44), .int (iI (r 2)), .int (iI (r 3)), .int (iI (r 4))]
def fHull (k : Nat) (Y : Yt) (r : Int → Int) : List Value := [.ref (Y.2.1 38), .int (iI (r 1)), .ref (Y.2.1 (k + 1)), .int (iI (r 3))]
def fLev (Y : Yt) (r : Int → Int) : List Value := [.ref (Y.2.1 38), .ref (Y.2.1 50), .ref (Y.2.1 64)]
def LX : Lt := fun Y => [
  fun r => .inr (7, fX Y r),
  fun r => .inr (5, fRow 1 Y r),
  eI Y 12,
  eI Y 12,
  eI Y 12,
  fun r => .inr (6, fText Y r),
  eC Y 90,
  fun r => .inr (5, fRow 7 Y r),
  eI Y 12,
  eI Y 12,
  eI Y 12,
  eI Y 3,
  fun r => .inr (2, fHist Y r),
  eR Y 6,
  fun r => .inr (5, fRow 14 Y r),
  eI Y 12,
  eI Y 12,
  eI Y 12,
  fun r => .inr (5, fRow 18 Y r),
  eI Y 12,
  eI Y 12,
  eI Y 12,
  fun r => .inr (5, fRow 22 Y r),
  eI Y 12,
  eI Y 12,
  eI Y 12,
  fun r => .inr (5, fRow 26 Y r),
  eI Y 12,
  eI Y 12,
  eI Y 12,
  fun r => .inr (5, fRow 30 Y r),
  eI Y 12,
  eI Y 12,
  eI Y 12,
  fun r => .inr (5, fRow 34 Y r),
  eI Y 12,
  eI Y 12,
  eI Y 12,
  fun r => .inr (1, fTab Y r),
  eI Y 12,
  eI Y 12,
  eI Y 13,
  eI Y 13,
  fun r => .inr (0, fBlk Y r),
  eI Y 12,
  fun r => .inr (3, fHull 45 Y r),
  eI Y 12,
  fun r => .inr (3, fHull 47 Y r),
  eI Y 12,
  fun r => .inr (4, fLev Y r),
  eT Y 4 13 51,
  eJ Y 13,
  eJ Y 13,
  eJ Y 13,
  eJ Y 13,
  eJ Y 13,
  eJ Y 13,
  eJ Y 13,
  eJ Y 13,
  eJ Y 13,
  eJ Y 13,
  eJ Y 13,
  eJ Y 13,
  eJ Y 13,
  eT Y 5 13 65,
  eI Y 13,
  eI Y 13,
  eI Y 13,
  eI Y 13,
  eI Y 13,
  eI Y 13,
  eI Y 13,
  eI Y 13,
  eI Y 13,
  eI Y 13,
  eI Y 13,
  eI Y 13,
  eI Y 13]
