/-! the state of both (class and reference), and the cells that hold it -/
abbrev St : Type := (Nat → Int32) × (Nat → Int64) × (Nat → Nat → Int32) × (Nat → Nat → Int64)
def gI (σ : St) (k : Nat) : Int32 := σ.1 k
def gJ (σ : St) (k : Nat) : Int64 := σ.2.1 k
def gA (σ : St) (k : Nat) : Nat → Int32 := σ.2.2.1 k
def gB (σ : St) (k : Nat) : Nat → Int64 := σ.2.2.2 k
def uI (σ : St) (k : Nat) (v : Int32) : St := (fun j => if j = k then v else σ.1 j, σ.2)
def uJ (σ : St) (k : Nat) (v : Int64) : St := (σ.1, fun j => if j = k then v else σ.2.1 j, σ.2.2)
def uA (σ : St) (k i : Nat) (v : Int32) : St := (σ.1, σ.2.1, fun j => if j = k then upd (σ.2.2.1 k) i v else σ.2.2.1 j, σ.2.2.2)
def uB (σ : St) (k i : Nat) (v : Int64) : St := (σ.1, σ.2.1, σ.2.2.1, fun j => if j = k then vp_updL (σ.2.2.2 k) i v else σ.2.2.2 j)
theorem gI_uI (σ : St) (k j : Nat) (v : Int32) : gI (uI σ k v) j = if j = k then v else gI σ j := rfl
theorem gI_uJ (σ : St) (k j : Nat) (v : Int64) : gI (uJ σ k v) j = gI σ j := rfl
theorem gI_uA (σ : St) (k i j : Nat) (v : Int32) : gI (uA σ k i v) j = gI σ j := rfl
theorem gI_uB (σ : St) (k i j : Nat) (v : Int64) : gI (uB σ k i v) j = gI σ j := rfl
theorem gJ_uI (σ : St) (k j : Nat) (v : Int32) : gJ (uI σ k v) j = gJ σ j := rfl
theorem gJ_uJ (σ : St) (k j : Nat) (v : Int64) : gJ (uJ σ k v) j = if j = k then v else gJ σ j := rfl
theorem gJ_uA (σ : St) (k i j : Nat) (v : Int32) : gJ (uA σ k i v) j = gJ σ j := rfl
theorem gJ_uB (σ : St) (k i j : Nat) (v : Int64) : gJ (uB σ k i v) j = gJ σ j := rfl
theorem gA_uI (σ : St) (k j : Nat) (v : Int32) : gA (uI σ k v) j = gA σ j := rfl
theorem gA_uJ (σ : St) (k j : Nat) (v : Int64) : gA (uJ σ k v) j = gA σ j := rfl
theorem gA_uA (σ : St) (k i j : Nat) (v : Int32) : gA (uA σ k i v) j = if j = k then upd (gA σ k) i v else gA σ j := rfl
theorem gA_uB (σ : St) (k i j : Nat) (v : Int64) : gA (uB σ k i v) j = gA σ j := rfl
theorem gB_uI (σ : St) (k j : Nat) (v : Int32) : gB (uI σ k v) j = gB σ j := rfl
theorem gB_uJ (σ : St) (k j : Nat) (v : Int64) : gB (uJ σ k v) j = gB σ j := rfl
theorem gB_uA (σ : St) (k i j : Nat) (v : Int32) : gB (uA σ k i v) j = gB σ j := rfl
theorem gB_uB (σ : St) (k i j : Nat) (v : Int64) : gB (uB σ k i v) j = if j = k then vp_updL (gB σ k) i v else gB σ j := rfl
/-- the layout: addresses of the cells; classes of int, long, boolean arrays and of Row[]; classes' numbers and slots; the heap's size at the start; the two tables' addresses -/
abbrev LY : Type := (Nat → Nat) × (ClassId × ClassId × ClassId × ClassId) × va_G × (Nat × Nat × Nat)
def adr (Λ : LY) (k : Nat) : Nat := Λ.1 k
def cI (Λ : LY) : ClassId := Λ.2.1.1
def cJ (Λ : LY) : ClassId := Λ.2.1.2.1
def cZ (Λ : LY) : ClassId := Λ.2.1.2.2.1
def cR (Λ : LY) : ClassId := Λ.2.1.2.2.2
def dG (Λ : LY) : va_G := Λ.2.2.1
def s0 (Λ : LY) : Nat := Λ.2.2.2.1
def bC (Λ : LY) : Nat := Λ.2.2.2.2.1
def bS (Λ : LY) : Nat := Λ.2.2.2.2.2
def AA (Λ : LY) : Nat → Prop := fun q => s0 Λ ≤ q
def tyL (Λ : LY) : List (ClassId × FieldType) := [(cI Λ, .int), (cJ Λ, .long), (cZ Λ, .boolean), (cR Λ, .object "SunRows$Row")]
def Wd (Λ : LY) (σ : St) : va_W := [
  (adr Λ 0, .inr (9, [.ref (adr Λ 1), .ref (adr Λ 2), .ref (adr Λ 3), .ref (adr Λ 4), .ref (adr Λ 5), .ref (adr Λ 6), .ref (adr Λ 7), .ref (adr Λ 8), .int (gI σ 0), .int (gI σ 1)])),
  (adr Λ 1, .inr (0, [.ref (adr Λ 9), .ref (adr Λ 10), .ref (adr Λ 11), .ref (adr Λ 12), .ref (adr Λ 13), .int (gI σ 2), .int (gI σ 3)])),
  (adr Λ 2, .inr (4, [.ref (adr Λ 14), .ref (adr Λ 15)])),
  (adr Λ 3, .inr (5, [.ref (adr Λ 16), .ref (adr Λ 17), .int (gI σ 4)])),
  (adr Λ 4, .inr (8, [.ref (adr Λ 18), .ref (adr Λ 19), .int (gI σ 5), .int (gI σ 6), .int (gI σ 7)])),
  (adr Λ 5, .inr (1, [.ref (adr Λ 20), .ref (adr Λ 21), .int (gI σ 8), .int (gI σ 9), .int (gI σ 10)])),
  (adr Λ 6, .inr (7, [.int (gI σ 11), .long (gJ σ 0)])),
  (adr Λ 7, .inr (6, [.ref (adr Λ 22), .int (gI σ 12)])),
  (adr Λ 8, .inl (cI Λ, 5, .inl (gA σ 0))),
  (adr Λ 9, .inl (cR Λ, 10, .inr (.inr (.inr (.inr (fun i => some (adr Λ (27 + i)))))))),
  (adr Λ 10, .inr (2, [.ref (adr Λ 23), .ref (adr Λ 24), .ref (adr Λ 25), .ref (adr Λ 26), .int (gI σ 13)])),
  (adr Λ 11, .inl (cJ Λ, 10, .inr (.inl (gB σ 0)))),
  (adr Λ 12, .inl (cJ Λ, 10, .inr (.inl (gB σ 1)))),
  (adr Λ 13, .inl (cI Λ, 10, .inl (gA σ 1))),
  (adr Λ 14, .inl (cI Λ, 24, .inl (gA σ 2))),
  (adr Λ 15, .inl (cI Λ, 24, .inl (gA σ 3))),
  (adr Λ 16, .inl (cI Λ, 4, .inl (gA σ 4))),
  (adr Λ 17, .inl (cI Λ, 10, .inl (gA σ 5))),
  (adr Λ 18, .inl (cI Λ, 24, .inl (gA σ 6))),
  (adr Λ 19, .inl (cZ Λ, 24, .inl (gA σ 7))),
  (adr Λ 20, .inl (cJ Λ, 6, .inr (.inl (gB σ 2)))),
  (adr Λ 21, .inl (cJ Λ, 6, .inr (.inl (gB σ 3)))),
  (adr Λ 22, .inl (cI Λ, 72, .inl (gA σ 8))),
  (adr Λ 23, .inl (cJ Λ, 10, .inr (.inl (gB σ 4)))),
  (adr Λ 24, .inl (cJ Λ, 10, .inr (.inl (gB σ 5)))),
  (adr Λ 25, .inl (cJ Λ, 10, .inr (.inl (gB σ 6)))),
  (adr Λ 26, .inl (cJ Λ, 10, .inr (.inl (gB σ 7)))),
  (adr Λ 27, .inr (3, [.int (gA σ 10 0), .int (gA σ 11 0), .int (gA σ 12 0), .int (gA σ 13 0), .int (gA σ 14 0), .int (gA σ 15 0), .int (gA σ 16 0)])),
  (adr Λ 28, .inr (3, [.int (gA σ 10 1), .int (gA σ 11 1), .int (gA σ 12 1), .int (gA σ 13 1), .int (gA σ 14 1), .int (gA σ 15 1), .int (gA σ 16 1)])),
  (adr Λ 29, .inr (3, [.int (gA σ 10 2), .int (gA σ 11 2), .int (gA σ 12 2), .int (gA σ 13 2), .int (gA σ 14 2), .int (gA σ 15 2), .int (gA σ 16 2)])),
  (adr Λ 30, .inr (3, [.int (gA σ 10 3), .int (gA σ 11 3), .int (gA σ 12 3), .int (gA σ 13 3), .int (gA σ 14 3), .int (gA σ 15 3), .int (gA σ 16 3)])),
  (adr Λ 31, .inr (3, [.int (gA σ 10 4), .int (gA σ 11 4), .int (gA σ 12 4), .int (gA σ 13 4), .int (gA σ 14 4), .int (gA σ 15 4), .int (gA σ 16 4)])),
  (adr Λ 32, .inr (3, [.int (gA σ 10 5), .int (gA σ 11 5), .int (gA σ 12 5), .int (gA σ 13 5), .int (gA σ 14 5), .int (gA σ 15 5), .int (gA σ 16 5)])),
  (adr Λ 33, .inr (3, [.int (gA σ 10 6), .int (gA σ 11 6), .int (gA σ 12 6), .int (gA σ 13 6), .int (gA σ 14 6), .int (gA σ 15 6), .int (gA σ 16 6)])),
  (adr Λ 34, .inr (3, [.int (gA σ 10 7), .int (gA σ 11 7), .int (gA σ 12 7), .int (gA σ 13 7), .int (gA σ 14 7), .int (gA σ 15 7), .int (gA σ 16 7)])),
  (adr Λ 35, .inr (3, [.int (gA σ 10 8), .int (gA σ 11 8), .int (gA σ 12 8), .int (gA σ 13 8), .int (gA σ 14 8), .int (gA σ 15 8), .int (gA σ 16 8)])),
  (adr Λ 36, .inr (3, [.int (gA σ 10 9), .int (gA σ 11 9), .int (gA σ 12 9), .int (gA σ 13 9), .int (gA σ 14 9), .int (gA σ 15 9), .int (gA σ 16 9)])),
  (adr Λ 37, .inr (10, [.int (gI σ 20), .ref (adr Λ 38), .ref (adr Λ 39), .ref (adr Λ 40), .ref (adr Λ 41), .ref (adr Λ 42), .ref (adr Λ 43), .ref (adr Λ 44), .ref (adr Λ 45), .ref (adr Λ 46), .ref (adr Λ 47), .ref (adr Λ 48), .ref (adr Λ 49), .int (gI σ 21), .int (gI σ 22), .int (gI σ 23), .int (gI σ 24), .int (gI σ 25), .int (gI σ 26), .int (gI σ 27), .ref (adr Λ 50), .ref (adr Λ 51), .int (gI σ 28), .ref (adr Λ 52), .ref (adr Λ 53), .int (gI σ 29), .ref (adr Λ 54), .int (gI σ 30)])),
  (adr Λ 38, .inl (cI Λ, 10, .inl (gA σ 20))),
  (adr Λ 39, .inl (cI Λ, 10, .inl (gA σ 21))),
  (adr Λ 40, .inl (cI Λ, 10, .inl (gA σ 22))),
  (adr Λ 41, .inl (cI Λ, 10, .inl (gA σ 23))),
  (adr Λ 42, .inl (cI Λ, 10, .inl (gA σ 24))),
  (adr Λ 43, .inl (cI Λ, 10, .inl (gA σ 25))),
  (adr Λ 44, .inl (cI Λ, 10, .inl (gA σ 26))),
  (adr Λ 45, .inl (cI Λ, 24, .inl (gA σ 27))),
  (adr Λ 46, .inl (cI Λ, 24, .inl (gA σ 28))),
  (adr Λ 47, .inl (cI Λ, 24, .inl (gA σ 29))),
  (adr Λ 48, .inl (cZ Λ, 24, .inl (gA σ 30))),
  (adr Λ 49, .inl (cI Λ, 4, .inl (gA σ 31))),
  (adr Λ 50, .inl (cJ Λ, 8, .inr (.inl (gB σ 10)))),
  (adr Λ 51, .inl (cJ Λ, 6, .inr (.inl (gB σ 11)))),
  (adr Λ 52, .inl (cI Λ, 72, .inl (gA σ 32))),
  (adr Λ 53, .inl (cI Λ, 6, .inl (gA σ 33))),
  (adr Λ 54, .inl (cJ Λ, 10, .inr (.inl (gB σ 12))))]
theorem wd0 (Λ : LY) (σ : St) : (Wd Λ σ)[0]? = some (adr Λ 0, .inr (9, [.ref (adr Λ 1), .ref (adr Λ 2), .ref (adr Λ 3), .ref (adr Λ 4), .ref (adr Λ 5), .ref (adr Λ 6), .ref (adr Λ 7), .ref (adr Λ 8), .int (gI σ 0), .int (gI σ 1)])) := rfl
theorem wd1 (Λ : LY) (σ : St) : (Wd Λ σ)[1]? = some (adr Λ 1, .inr (0, [.ref (adr Λ 9), .ref (adr Λ 10), .ref (adr Λ 11), .ref (adr Λ 12), .ref (adr Λ 13), .int (gI σ 2), .int (gI σ 3)])) := rfl
theorem wd2 (Λ : LY) (σ : St) : (Wd Λ σ)[2]? = some (adr Λ 2, .inr (4, [.ref (adr Λ 14), .ref (adr Λ 15)])) := rfl
theorem wd3 (Λ : LY) (σ : St) : (Wd Λ σ)[3]? = some (adr Λ 3, .inr (5, [.ref (adr Λ 16), .ref (adr Λ 17), .int (gI σ 4)])) := rfl
theorem wd4 (Λ : LY) (σ : St) : (Wd Λ σ)[4]? = some (adr Λ 4, .inr (8, [.ref (adr Λ 18), .ref (adr Λ 19), .int (gI σ 5), .int (gI σ 6), .int (gI σ 7)])) := rfl
theorem wd5 (Λ : LY) (σ : St) : (Wd Λ σ)[5]? = some (adr Λ 5, .inr (1, [.ref (adr Λ 20), .ref (adr Λ 21), .int (gI σ 8), .int (gI σ 9), .int (gI σ 10)])) := rfl
theorem wd6 (Λ : LY) (σ : St) : (Wd Λ σ)[6]? = some (adr Λ 6, .inr (7, [.int (gI σ 11), .long (gJ σ 0)])) := rfl
theorem wd7 (Λ : LY) (σ : St) : (Wd Λ σ)[7]? = some (adr Λ 7, .inr (6, [.ref (adr Λ 22), .int (gI σ 12)])) := rfl
theorem wd8 (Λ : LY) (σ : St) : (Wd Λ σ)[8]? = some (adr Λ 8, .inl (cI Λ, 5, .inl (gA σ 0))) := rfl
theorem wd9 (Λ : LY) (σ : St) : (Wd Λ σ)[9]? = some (adr Λ 9, .inl (cR Λ, 10, .inr (.inr (.inr (.inr (fun i => some (adr Λ (27 + i)))))))) := rfl
theorem wd10 (Λ : LY) (σ : St) : (Wd Λ σ)[10]? = some (adr Λ 10, .inr (2, [.ref (adr Λ 23), .ref (adr Λ 24), .ref (adr Λ 25), .ref (adr Λ 26), .int (gI σ 13)])) := rfl
theorem wd11 (Λ : LY) (σ : St) : (Wd Λ σ)[11]? = some (adr Λ 11, .inl (cJ Λ, 10, .inr (.inl (gB σ 0)))) := rfl
theorem wd12 (Λ : LY) (σ : St) : (Wd Λ σ)[12]? = some (adr Λ 12, .inl (cJ Λ, 10, .inr (.inl (gB σ 1)))) := rfl
theorem wd13 (Λ : LY) (σ : St) : (Wd Λ σ)[13]? = some (adr Λ 13, .inl (cI Λ, 10, .inl (gA σ 1))) := rfl
theorem wd14 (Λ : LY) (σ : St) : (Wd Λ σ)[14]? = some (adr Λ 14, .inl (cI Λ, 24, .inl (gA σ 2))) := rfl
theorem wd15 (Λ : LY) (σ : St) : (Wd Λ σ)[15]? = some (adr Λ 15, .inl (cI Λ, 24, .inl (gA σ 3))) := rfl
theorem wd16 (Λ : LY) (σ : St) : (Wd Λ σ)[16]? = some (adr Λ 16, .inl (cI Λ, 4, .inl (gA σ 4))) := rfl
theorem wd17 (Λ : LY) (σ : St) : (Wd Λ σ)[17]? = some (adr Λ 17, .inl (cI Λ, 10, .inl (gA σ 5))) := rfl
theorem wd18 (Λ : LY) (σ : St) : (Wd Λ σ)[18]? = some (adr Λ 18, .inl (cI Λ, 24, .inl (gA σ 6))) := rfl
theorem wd19 (Λ : LY) (σ : St) : (Wd Λ σ)[19]? = some (adr Λ 19, .inl (cZ Λ, 24, .inl (gA σ 7))) := rfl
theorem wd20 (Λ : LY) (σ : St) : (Wd Λ σ)[20]? = some (adr Λ 20, .inl (cJ Λ, 6, .inr (.inl (gB σ 2)))) := rfl
theorem wd21 (Λ : LY) (σ : St) : (Wd Λ σ)[21]? = some (adr Λ 21, .inl (cJ Λ, 6, .inr (.inl (gB σ 3)))) := rfl
theorem wd22 (Λ : LY) (σ : St) : (Wd Λ σ)[22]? = some (adr Λ 22, .inl (cI Λ, 72, .inl (gA σ 8))) := rfl
theorem wd23 (Λ : LY) (σ : St) : (Wd Λ σ)[23]? = some (adr Λ 23, .inl (cJ Λ, 10, .inr (.inl (gB σ 4)))) := rfl
theorem wd24 (Λ : LY) (σ : St) : (Wd Λ σ)[24]? = some (adr Λ 24, .inl (cJ Λ, 10, .inr (.inl (gB σ 5)))) := rfl
theorem wd25 (Λ : LY) (σ : St) : (Wd Λ σ)[25]? = some (adr Λ 25, .inl (cJ Λ, 10, .inr (.inl (gB σ 6)))) := rfl
theorem wd26 (Λ : LY) (σ : St) : (Wd Λ σ)[26]? = some (adr Λ 26, .inl (cJ Λ, 10, .inr (.inl (gB σ 7)))) := rfl
theorem wd37 (Λ : LY) (σ : St) : (Wd Λ σ)[37]? = some (adr Λ 37, .inr (10, [.int (gI σ 20), .ref (adr Λ 38), .ref (adr Λ 39), .ref (adr Λ 40), .ref (adr Λ 41), .ref (adr Λ 42), .ref (adr Λ 43), .ref (adr Λ 44), .ref (adr Λ 45), .ref (adr Λ 46), .ref (adr Λ 47), .ref (adr Λ 48), .ref (adr Λ 49), .int (gI σ 21), .int (gI σ 22), .int (gI σ 23), .int (gI σ 24), .int (gI σ 25), .int (gI σ 26), .int (gI σ 27), .ref (adr Λ 50), .ref (adr Λ 51), .int (gI σ 28), .ref (adr Λ 52), .ref (adr Λ 53), .int (gI σ 29), .ref (adr Λ 54), .int (gI σ 30)])) := rfl
theorem wd38 (Λ : LY) (σ : St) : (Wd Λ σ)[38]? = some (adr Λ 38, .inl (cI Λ, 10, .inl (gA σ 20))) := rfl
theorem wd39 (Λ : LY) (σ : St) : (Wd Λ σ)[39]? = some (adr Λ 39, .inl (cI Λ, 10, .inl (gA σ 21))) := rfl
theorem wd40 (Λ : LY) (σ : St) : (Wd Λ σ)[40]? = some (adr Λ 40, .inl (cI Λ, 10, .inl (gA σ 22))) := rfl
theorem wd41 (Λ : LY) (σ : St) : (Wd Λ σ)[41]? = some (adr Λ 41, .inl (cI Λ, 10, .inl (gA σ 23))) := rfl
theorem wd42 (Λ : LY) (σ : St) : (Wd Λ σ)[42]? = some (adr Λ 42, .inl (cI Λ, 10, .inl (gA σ 24))) := rfl
theorem wd43 (Λ : LY) (σ : St) : (Wd Λ σ)[43]? = some (adr Λ 43, .inl (cI Λ, 10, .inl (gA σ 25))) := rfl
theorem wd44 (Λ : LY) (σ : St) : (Wd Λ σ)[44]? = some (adr Λ 44, .inl (cI Λ, 10, .inl (gA σ 26))) := rfl
theorem wd45 (Λ : LY) (σ : St) : (Wd Λ σ)[45]? = some (adr Λ 45, .inl (cI Λ, 24, .inl (gA σ 27))) := rfl
theorem wd46 (Λ : LY) (σ : St) : (Wd Λ σ)[46]? = some (adr Λ 46, .inl (cI Λ, 24, .inl (gA σ 28))) := rfl
theorem wd47 (Λ : LY) (σ : St) : (Wd Λ σ)[47]? = some (adr Λ 47, .inl (cI Λ, 24, .inl (gA σ 29))) := rfl
theorem wd48 (Λ : LY) (σ : St) : (Wd Λ σ)[48]? = some (adr Λ 48, .inl (cZ Λ, 24, .inl (gA σ 30))) := rfl
theorem wd49 (Λ : LY) (σ : St) : (Wd Λ σ)[49]? = some (adr Λ 49, .inl (cI Λ, 4, .inl (gA σ 31))) := rfl
theorem wd50 (Λ : LY) (σ : St) : (Wd Λ σ)[50]? = some (adr Λ 50, .inl (cJ Λ, 8, .inr (.inl (gB σ 10)))) := rfl
theorem wd51 (Λ : LY) (σ : St) : (Wd Λ σ)[51]? = some (adr Λ 51, .inl (cJ Λ, 6, .inr (.inl (gB σ 11)))) := rfl
theorem wd52 (Λ : LY) (σ : St) : (Wd Λ σ)[52]? = some (adr Λ 52, .inl (cI Λ, 72, .inl (gA σ 32))) := rfl
theorem wd53 (Λ : LY) (σ : St) : (Wd Λ σ)[53]? = some (adr Λ 53, .inl (cI Λ, 6, .inl (gA σ 33))) := rfl
theorem wd54 (Λ : LY) (σ : St) : (Wd Λ σ)[54]? = some (adr Λ 54, .inl (cJ Λ, 10, .inr (.inl (gB σ 12)))) := rfl
theorem wdR (Λ : LY) (σ : St) : ∀ i : Nat, i < 10 → (Wd Λ σ)[27 + i]? = some (adr Λ (27 + i), .inr (3, [.int (gA σ 10 i), .int (gA σ 11 i), .int (gA σ 12 i), .int (gA σ 13 i), .int (gA σ 14 i), .int (gA σ 15 i), .int (gA σ 16 i)]))
  | 0, _ => rfl
  | 1, _ => rfl
  | 2, _ => rfl
  | 3, _ => rfl
  | 4, _ => rfl
  | 5, _ => rfl
  | 6, _ => rfl
  | 7, _ => rfl
  | 8, _ => rfl
  | 9, _ => rfl
  | n + 10, h => absurd h (by omega)
theorem ws0_8 (Λ : LY) (σ : St) (v : Int32) : (Wd Λ σ).set 0 (adr Λ 0, .inr (9, ([.ref (adr Λ 1), .ref (adr Λ 2), .ref (adr Λ 3), .ref (adr Λ 4), .ref (adr Λ 5), .ref (adr Λ 6), .ref (adr Λ 7), .ref (adr Λ 8), .int (gI σ 0), .int (gI σ 1)] : List Value).set 8 (.int v))) = Wd Λ (uI σ 0 v) := rfl
theorem ws0_9 (Λ : LY) (σ : St) (v : Int32) : (Wd Λ σ).set 0 (adr Λ 0, .inr (9, ([.ref (adr Λ 1), .ref (adr Λ 2), .ref (adr Λ 3), .ref (adr Λ 4), .ref (adr Λ 5), .ref (adr Λ 6), .ref (adr Λ 7), .ref (adr Λ 8), .int (gI σ 0), .int (gI σ 1)] : List Value).set 9 (.int v))) = Wd Λ (uI σ 1 v) := rfl
theorem ws1_5 (Λ : LY) (σ : St) (v : Int32) : (Wd Λ σ).set 1 (adr Λ 1, .inr (0, ([.ref (adr Λ 9), .ref (adr Λ 10), .ref (adr Λ 11), .ref (adr Λ 12), .ref (adr Λ 13), .int (gI σ 2), .int (gI σ 3)] : List Value).set 5 (.int v))) = Wd Λ (uI σ 2 v) := rfl
theorem ws1_6 (Λ : LY) (σ : St) (v : Int32) : (Wd Λ σ).set 1 (adr Λ 1, .inr (0, ([.ref (adr Λ 9), .ref (adr Λ 10), .ref (adr Λ 11), .ref (adr Λ 12), .ref (adr Λ 13), .int (gI σ 2), .int (gI σ 3)] : List Value).set 6 (.int v))) = Wd Λ (uI σ 3 v) := rfl
theorem ws3_2 (Λ : LY) (σ : St) (v : Int32) : (Wd Λ σ).set 3 (adr Λ 3, .inr (5, ([.ref (adr Λ 16), .ref (adr Λ 17), .int (gI σ 4)] : List Value).set 2 (.int v))) = Wd Λ (uI σ 4 v) := rfl
theorem ws4_2 (Λ : LY) (σ : St) (v : Int32) : (Wd Λ σ).set 4 (adr Λ 4, .inr (8, ([.ref (adr Λ 18), .ref (adr Λ 19), .int (gI σ 5), .int (gI σ 6), .int (gI σ 7)] : List Value).set 2 (.int v))) = Wd Λ (uI σ 5 v) := rfl
theorem ws4_3 (Λ : LY) (σ : St) (v : Int32) : (Wd Λ σ).set 4 (adr Λ 4, .inr (8, ([.ref (adr Λ 18), .ref (adr Λ 19), .int (gI σ 5), .int (gI σ 6), .int (gI σ 7)] : List Value).set 3 (.int v))) = Wd Λ (uI σ 6 v) := rfl
theorem ws4_4 (Λ : LY) (σ : St) (v : Int32) : (Wd Λ σ).set 4 (adr Λ 4, .inr (8, ([.ref (adr Λ 18), .ref (adr Λ 19), .int (gI σ 5), .int (gI σ 6), .int (gI σ 7)] : List Value).set 4 (.int v))) = Wd Λ (uI σ 7 v) := rfl
theorem ws5_2 (Λ : LY) (σ : St) (v : Int32) : (Wd Λ σ).set 5 (adr Λ 5, .inr (1, ([.ref (adr Λ 20), .ref (adr Λ 21), .int (gI σ 8), .int (gI σ 9), .int (gI σ 10)] : List Value).set 2 (.int v))) = Wd Λ (uI σ 8 v) := rfl
theorem ws5_3 (Λ : LY) (σ : St) (v : Int32) : (Wd Λ σ).set 5 (adr Λ 5, .inr (1, ([.ref (adr Λ 20), .ref (adr Λ 21), .int (gI σ 8), .int (gI σ 9), .int (gI σ 10)] : List Value).set 3 (.int v))) = Wd Λ (uI σ 9 v) := rfl
theorem ws5_4 (Λ : LY) (σ : St) (v : Int32) : (Wd Λ σ).set 5 (adr Λ 5, .inr (1, ([.ref (adr Λ 20), .ref (adr Λ 21), .int (gI σ 8), .int (gI σ 9), .int (gI σ 10)] : List Value).set 4 (.int v))) = Wd Λ (uI σ 10 v) := rfl
theorem ws6_0 (Λ : LY) (σ : St) (v : Int32) : (Wd Λ σ).set 6 (adr Λ 6, .inr (7, ([.int (gI σ 11), .long (gJ σ 0)] : List Value).set 0 (.int v))) = Wd Λ (uI σ 11 v) := rfl
theorem ws6_1 (Λ : LY) (σ : St) (v : Int64) : (Wd Λ σ).set 6 (adr Λ 6, .inr (7, ([.int (gI σ 11), .long (gJ σ 0)] : List Value).set 1 (.long v))) = Wd Λ (uJ σ 0 v) := rfl
theorem ws7_1 (Λ : LY) (σ : St) (v : Int32) : (Wd Λ σ).set 7 (adr Λ 7, .inr (6, ([.ref (adr Λ 22), .int (gI σ 12)] : List Value).set 1 (.int v))) = Wd Λ (uI σ 12 v) := rfl
theorem ws8 (Λ : LY) (σ : St) (i : Nat) (v : Int32) : (Wd Λ σ).set 8 (adr Λ 8, .inl (cI Λ, 5, .inl (upd (gA σ 0) i v))) = Wd Λ (uA σ 0 i v) := rfl
theorem ws10_4 (Λ : LY) (σ : St) (v : Int32) : (Wd Λ σ).set 10 (adr Λ 10, .inr (2, ([.ref (adr Λ 23), .ref (adr Λ 24), .ref (adr Λ 25), .ref (adr Λ 26), .int (gI σ 13)] : List Value).set 4 (.int v))) = Wd Λ (uI σ 13 v) := rfl
theorem ws11 (Λ : LY) (σ : St) (i : Nat) (v : Int64) : (Wd Λ σ).set 11 (adr Λ 11, .inl (cJ Λ, 10, .inr (.inl (vp_updL (gB σ 0) i v)))) = Wd Λ (uB σ 0 i v) := rfl
theorem ws12 (Λ : LY) (σ : St) (i : Nat) (v : Int64) : (Wd Λ σ).set 12 (adr Λ 12, .inl (cJ Λ, 10, .inr (.inl (vp_updL (gB σ 1) i v)))) = Wd Λ (uB σ 1 i v) := rfl
theorem ws13 (Λ : LY) (σ : St) (i : Nat) (v : Int32) : (Wd Λ σ).set 13 (adr Λ 13, .inl (cI Λ, 10, .inl (upd (gA σ 1) i v))) = Wd Λ (uA σ 1 i v) := rfl
theorem ws14 (Λ : LY) (σ : St) (i : Nat) (v : Int32) : (Wd Λ σ).set 14 (adr Λ 14, .inl (cI Λ, 24, .inl (upd (gA σ 2) i v))) = Wd Λ (uA σ 2 i v) := rfl
theorem ws15 (Λ : LY) (σ : St) (i : Nat) (v : Int32) : (Wd Λ σ).set 15 (adr Λ 15, .inl (cI Λ, 24, .inl (upd (gA σ 3) i v))) = Wd Λ (uA σ 3 i v) := rfl
theorem ws16 (Λ : LY) (σ : St) (i : Nat) (v : Int32) : (Wd Λ σ).set 16 (adr Λ 16, .inl (cI Λ, 4, .inl (upd (gA σ 4) i v))) = Wd Λ (uA σ 4 i v) := rfl
theorem ws17 (Λ : LY) (σ : St) (i : Nat) (v : Int32) : (Wd Λ σ).set 17 (adr Λ 17, .inl (cI Λ, 10, .inl (upd (gA σ 5) i v))) = Wd Λ (uA σ 5 i v) := rfl
theorem ws18 (Λ : LY) (σ : St) (i : Nat) (v : Int32) : (Wd Λ σ).set 18 (adr Λ 18, .inl (cI Λ, 24, .inl (upd (gA σ 6) i v))) = Wd Λ (uA σ 6 i v) := rfl
theorem ws19 (Λ : LY) (σ : St) (i : Nat) (v : Int32) : (Wd Λ σ).set 19 (adr Λ 19, .inl (cZ Λ, 24, .inl (upd (gA σ 7) i v))) = Wd Λ (uA σ 7 i v) := rfl
theorem ws20 (Λ : LY) (σ : St) (i : Nat) (v : Int64) : (Wd Λ σ).set 20 (adr Λ 20, .inl (cJ Λ, 6, .inr (.inl (vp_updL (gB σ 2) i v)))) = Wd Λ (uB σ 2 i v) := rfl
theorem ws21 (Λ : LY) (σ : St) (i : Nat) (v : Int64) : (Wd Λ σ).set 21 (adr Λ 21, .inl (cJ Λ, 6, .inr (.inl (vp_updL (gB σ 3) i v)))) = Wd Λ (uB σ 3 i v) := rfl
theorem ws22 (Λ : LY) (σ : St) (i : Nat) (v : Int32) : (Wd Λ σ).set 22 (adr Λ 22, .inl (cI Λ, 72, .inl (upd (gA σ 8) i v))) = Wd Λ (uA σ 8 i v) := rfl
theorem ws23 (Λ : LY) (σ : St) (i : Nat) (v : Int64) : (Wd Λ σ).set 23 (adr Λ 23, .inl (cJ Λ, 10, .inr (.inl (vp_updL (gB σ 4) i v)))) = Wd Λ (uB σ 4 i v) := rfl
theorem ws24 (Λ : LY) (σ : St) (i : Nat) (v : Int64) : (Wd Λ σ).set 24 (adr Λ 24, .inl (cJ Λ, 10, .inr (.inl (vp_updL (gB σ 5) i v)))) = Wd Λ (uB σ 5 i v) := rfl
theorem ws25 (Λ : LY) (σ : St) (i : Nat) (v : Int64) : (Wd Λ σ).set 25 (adr Λ 25, .inl (cJ Λ, 10, .inr (.inl (vp_updL (gB σ 6) i v)))) = Wd Λ (uB σ 6 i v) := rfl
theorem ws26 (Λ : LY) (σ : St) (i : Nat) (v : Int64) : (Wd Λ σ).set 26 (adr Λ 26, .inl (cJ Λ, 10, .inr (.inl (vp_updL (gB σ 7) i v)))) = Wd Λ (uB σ 7 i v) := rfl
theorem ws37_0 (Λ : LY) (σ : St) (v : Int32) : (Wd Λ σ).set 37 (adr Λ 37, .inr (10, ([.int (gI σ 20), .ref (adr Λ 38), .ref (adr Λ 39), .ref (adr Λ 40), .ref (adr Λ 41), .ref (adr Λ 42), .ref (adr Λ 43), .ref (adr Λ 44), .ref (adr Λ 45), .ref (adr Λ 46), .ref (adr Λ 47), .ref (adr Λ 48), .ref (adr Λ 49), .int (gI σ 21), .int (gI σ 22), .int (gI σ 23), .int (gI σ 24), .int (gI σ 25), .int (gI σ 26), .int (gI σ 27), .ref (adr Λ 50), .ref (adr Λ 51), .int (gI σ 28), .ref (adr Λ 52), .ref (adr Λ 53), .int (gI σ 29), .ref (adr Λ 54), .int (gI σ 30)] : List Value).set 0 (.int v))) = Wd Λ (uI σ 20 v) := rfl
theorem ws37_13 (Λ : LY) (σ : St) (v : Int32) : (Wd Λ σ).set 37 (adr Λ 37, .inr (10, ([.int (gI σ 20), .ref (adr Λ 38), .ref (adr Λ 39), .ref (adr Λ 40), .ref (adr Λ 41), .ref (adr Λ 42), .ref (adr Λ 43), .ref (adr Λ 44), .ref (adr Λ 45), .ref (adr Λ 46), .ref (adr Λ 47), .ref (adr Λ 48), .ref (adr Λ 49), .int (gI σ 21), .int (gI σ 22), .int (gI σ 23), .int (gI σ 24), .int (gI σ 25), .int (gI σ 26), .int (gI σ 27), .ref (adr Λ 50), .ref (adr Λ 51), .int (gI σ 28), .ref (adr Λ 52), .ref (adr Λ 53), .int (gI σ 29), .ref (adr Λ 54), .int (gI σ 30)] : List Value).set 13 (.int v))) = Wd Λ (uI σ 21 v) := rfl
theorem ws37_14 (Λ : LY) (σ : St) (v : Int32) : (Wd Λ σ).set 37 (adr Λ 37, .inr (10, ([.int (gI σ 20), .ref (adr Λ 38), .ref (adr Λ 39), .ref (adr Λ 40), .ref (adr Λ 41), .ref (adr Λ 42), .ref (adr Λ 43), .ref (adr Λ 44), .ref (adr Λ 45), .ref (adr Λ 46), .ref (adr Λ 47), .ref (adr Λ 48), .ref (adr Λ 49), .int (gI σ 21), .int (gI σ 22), .int (gI σ 23), .int (gI σ 24), .int (gI σ 25), .int (gI σ 26), .int (gI σ 27), .ref (adr Λ 50), .ref (adr Λ 51), .int (gI σ 28), .ref (adr Λ 52), .ref (adr Λ 53), .int (gI σ 29), .ref (adr Λ 54), .int (gI σ 30)] : List Value).set 14 (.int v))) = Wd Λ (uI σ 22 v) := rfl
theorem ws37_15 (Λ : LY) (σ : St) (v : Int32) : (Wd Λ σ).set 37 (adr Λ 37, .inr (10, ([.int (gI σ 20), .ref (adr Λ 38), .ref (adr Λ 39), .ref (adr Λ 40), .ref (adr Λ 41), .ref (adr Λ 42), .ref (adr Λ 43), .ref (adr Λ 44), .ref (adr Λ 45), .ref (adr Λ 46), .ref (adr Λ 47), .ref (adr Λ 48), .ref (adr Λ 49), .int (gI σ 21), .int (gI σ 22), .int (gI σ 23), .int (gI σ 24), .int (gI σ 25), .int (gI σ 26), .int (gI σ 27), .ref (adr Λ 50), .ref (adr Λ 51), .int (gI σ 28), .ref (adr Λ 52), .ref (adr Λ 53), .int (gI σ 29), .ref (adr Λ 54), .int (gI σ 30)] : List Value).set 15 (.int v))) = Wd Λ (uI σ 23 v) := rfl
theorem ws37_16 (Λ : LY) (σ : St) (v : Int32) : (Wd Λ σ).set 37 (adr Λ 37, .inr (10, ([.int (gI σ 20), .ref (adr Λ 38), .ref (adr Λ 39), .ref (adr Λ 40), .ref (adr Λ 41), .ref (adr Λ 42), .ref (adr Λ 43), .ref (adr Λ 44), .ref (adr Λ 45), .ref (adr Λ 46), .ref (adr Λ 47), .ref (adr Λ 48), .ref (adr Λ 49), .int (gI σ 21), .int (gI σ 22), .int (gI σ 23), .int (gI σ 24), .int (gI σ 25), .int (gI σ 26), .int (gI σ 27), .ref (adr Λ 50), .ref (adr Λ 51), .int (gI σ 28), .ref (adr Λ 52), .ref (adr Λ 53), .int (gI σ 29), .ref (adr Λ 54), .int (gI σ 30)] : List Value).set 16 (.int v))) = Wd Λ (uI σ 24 v) := rfl
theorem ws37_17 (Λ : LY) (σ : St) (v : Int32) : (Wd Λ σ).set 37 (adr Λ 37, .inr (10, ([.int (gI σ 20), .ref (adr Λ 38), .ref (adr Λ 39), .ref (adr Λ 40), .ref (adr Λ 41), .ref (adr Λ 42), .ref (adr Λ 43), .ref (adr Λ 44), .ref (adr Λ 45), .ref (adr Λ 46), .ref (adr Λ 47), .ref (adr Λ 48), .ref (adr Λ 49), .int (gI σ 21), .int (gI σ 22), .int (gI σ 23), .int (gI σ 24), .int (gI σ 25), .int (gI σ 26), .int (gI σ 27), .ref (adr Λ 50), .ref (adr Λ 51), .int (gI σ 28), .ref (adr Λ 52), .ref (adr Λ 53), .int (gI σ 29), .ref (adr Λ 54), .int (gI σ 30)] : List Value).set 17 (.int v))) = Wd Λ (uI σ 25 v) := rfl
theorem ws37_18 (Λ : LY) (σ : St) (v : Int32) : (Wd Λ σ).set 37 (adr Λ 37, .inr (10, ([.int (gI σ 20), .ref (adr Λ 38), .ref (adr Λ 39), .ref (adr Λ 40), .ref (adr Λ 41), .ref (adr Λ 42), .ref (adr Λ 43), .ref (adr Λ 44), .ref (adr Λ 45), .ref (adr Λ 46), .ref (adr Λ 47), .ref (adr Λ 48), .ref (adr Λ 49), .int (gI σ 21), .int (gI σ 22), .int (gI σ 23), .int (gI σ 24), .int (gI σ 25), .int (gI σ 26), .int (gI σ 27), .ref (adr Λ 50), .ref (adr Λ 51), .int (gI σ 28), .ref (adr Λ 52), .ref (adr Λ 53), .int (gI σ 29), .ref (adr Λ 54), .int (gI σ 30)] : List Value).set 18 (.int v))) = Wd Λ (uI σ 26 v) := rfl
theorem ws37_19 (Λ : LY) (σ : St) (v : Int32) : (Wd Λ σ).set 37 (adr Λ 37, .inr (10, ([.int (gI σ 20), .ref (adr Λ 38), .ref (adr Λ 39), .ref (adr Λ 40), .ref (adr Λ 41), .ref (adr Λ 42), .ref (adr Λ 43), .ref (adr Λ 44), .ref (adr Λ 45), .ref (adr Λ 46), .ref (adr Λ 47), .ref (adr Λ 48), .ref (adr Λ 49), .int (gI σ 21), .int (gI σ 22), .int (gI σ 23), .int (gI σ 24), .int (gI σ 25), .int (gI σ 26), .int (gI σ 27), .ref (adr Λ 50), .ref (adr Λ 51), .int (gI σ 28), .ref (adr Λ 52), .ref (adr Λ 53), .int (gI σ 29), .ref (adr Λ 54), .int (gI σ 30)] : List Value).set 19 (.int v))) = Wd Λ (uI σ 27 v) := rfl
theorem ws37_22 (Λ : LY) (σ : St) (v : Int32) : (Wd Λ σ).set 37 (adr Λ 37, .inr (10, ([.int (gI σ 20), .ref (adr Λ 38), .ref (adr Λ 39), .ref (adr Λ 40), .ref (adr Λ 41), .ref (adr Λ 42), .ref (adr Λ 43), .ref (adr Λ 44), .ref (adr Λ 45), .ref (adr Λ 46), .ref (adr Λ 47), .ref (adr Λ 48), .ref (adr Λ 49), .int (gI σ 21), .int (gI σ 22), .int (gI σ 23), .int (gI σ 24), .int (gI σ 25), .int (gI σ 26), .int (gI σ 27), .ref (adr Λ 50), .ref (adr Λ 51), .int (gI σ 28), .ref (adr Λ 52), .ref (adr Λ 53), .int (gI σ 29), .ref (adr Λ 54), .int (gI σ 30)] : List Value).set 22 (.int v))) = Wd Λ (uI σ 28 v) := rfl
theorem ws37_25 (Λ : LY) (σ : St) (v : Int32) : (Wd Λ σ).set 37 (adr Λ 37, .inr (10, ([.int (gI σ 20), .ref (adr Λ 38), .ref (adr Λ 39), .ref (adr Λ 40), .ref (adr Λ 41), .ref (adr Λ 42), .ref (adr Λ 43), .ref (adr Λ 44), .ref (adr Λ 45), .ref (adr Λ 46), .ref (adr Λ 47), .ref (adr Λ 48), .ref (adr Λ 49), .int (gI σ 21), .int (gI σ 22), .int (gI σ 23), .int (gI σ 24), .int (gI σ 25), .int (gI σ 26), .int (gI σ 27), .ref (adr Λ 50), .ref (adr Λ 51), .int (gI σ 28), .ref (adr Λ 52), .ref (adr Λ 53), .int (gI σ 29), .ref (adr Λ 54), .int (gI σ 30)] : List Value).set 25 (.int v))) = Wd Λ (uI σ 29 v) := rfl
theorem ws37_27 (Λ : LY) (σ : St) (v : Int32) : (Wd Λ σ).set 37 (adr Λ 37, .inr (10, ([.int (gI σ 20), .ref (adr Λ 38), .ref (adr Λ 39), .ref (adr Λ 40), .ref (adr Λ 41), .ref (adr Λ 42), .ref (adr Λ 43), .ref (adr Λ 44), .ref (adr Λ 45), .ref (adr Λ 46), .ref (adr Λ 47), .ref (adr Λ 48), .ref (adr Λ 49), .int (gI σ 21), .int (gI σ 22), .int (gI σ 23), .int (gI σ 24), .int (gI σ 25), .int (gI σ 26), .int (gI σ 27), .ref (adr Λ 50), .ref (adr Λ 51), .int (gI σ 28), .ref (adr Λ 52), .ref (adr Λ 53), .int (gI σ 29), .ref (adr Λ 54), .int (gI σ 30)] : List Value).set 27 (.int v))) = Wd Λ (uI σ 30 v) := rfl
theorem ws38 (Λ : LY) (σ : St) (i : Nat) (v : Int32) : (Wd Λ σ).set 38 (adr Λ 38, .inl (cI Λ, 10, .inl (upd (gA σ 20) i v))) = Wd Λ (uA σ 20 i v) := rfl
theorem ws39 (Λ : LY) (σ : St) (i : Nat) (v : Int32) : (Wd Λ σ).set 39 (adr Λ 39, .inl (cI Λ, 10, .inl (upd (gA σ 21) i v))) = Wd Λ (uA σ 21 i v) := rfl
theorem ws40 (Λ : LY) (σ : St) (i : Nat) (v : Int32) : (Wd Λ σ).set 40 (adr Λ 40, .inl (cI Λ, 10, .inl (upd (gA σ 22) i v))) = Wd Λ (uA σ 22 i v) := rfl
theorem ws41 (Λ : LY) (σ : St) (i : Nat) (v : Int32) : (Wd Λ σ).set 41 (adr Λ 41, .inl (cI Λ, 10, .inl (upd (gA σ 23) i v))) = Wd Λ (uA σ 23 i v) := rfl
theorem ws42 (Λ : LY) (σ : St) (i : Nat) (v : Int32) : (Wd Λ σ).set 42 (adr Λ 42, .inl (cI Λ, 10, .inl (upd (gA σ 24) i v))) = Wd Λ (uA σ 24 i v) := rfl
theorem ws43 (Λ : LY) (σ : St) (i : Nat) (v : Int32) : (Wd Λ σ).set 43 (adr Λ 43, .inl (cI Λ, 10, .inl (upd (gA σ 25) i v))) = Wd Λ (uA σ 25 i v) := rfl
theorem ws44 (Λ : LY) (σ : St) (i : Nat) (v : Int32) : (Wd Λ σ).set 44 (adr Λ 44, .inl (cI Λ, 10, .inl (upd (gA σ 26) i v))) = Wd Λ (uA σ 26 i v) := rfl
theorem ws45 (Λ : LY) (σ : St) (i : Nat) (v : Int32) : (Wd Λ σ).set 45 (adr Λ 45, .inl (cI Λ, 24, .inl (upd (gA σ 27) i v))) = Wd Λ (uA σ 27 i v) := rfl
theorem ws46 (Λ : LY) (σ : St) (i : Nat) (v : Int32) : (Wd Λ σ).set 46 (adr Λ 46, .inl (cI Λ, 24, .inl (upd (gA σ 28) i v))) = Wd Λ (uA σ 28 i v) := rfl
theorem ws47 (Λ : LY) (σ : St) (i : Nat) (v : Int32) : (Wd Λ σ).set 47 (adr Λ 47, .inl (cI Λ, 24, .inl (upd (gA σ 29) i v))) = Wd Λ (uA σ 29 i v) := rfl
theorem ws48 (Λ : LY) (σ : St) (i : Nat) (v : Int32) : (Wd Λ σ).set 48 (adr Λ 48, .inl (cZ Λ, 24, .inl (upd (gA σ 30) i v))) = Wd Λ (uA σ 30 i v) := rfl
theorem ws49 (Λ : LY) (σ : St) (i : Nat) (v : Int32) : (Wd Λ σ).set 49 (adr Λ 49, .inl (cI Λ, 4, .inl (upd (gA σ 31) i v))) = Wd Λ (uA σ 31 i v) := rfl
theorem ws50 (Λ : LY) (σ : St) (i : Nat) (v : Int64) : (Wd Λ σ).set 50 (adr Λ 50, .inl (cJ Λ, 8, .inr (.inl (vp_updL (gB σ 10) i v)))) = Wd Λ (uB σ 10 i v) := rfl
theorem ws51 (Λ : LY) (σ : St) (i : Nat) (v : Int64) : (Wd Λ σ).set 51 (adr Λ 51, .inl (cJ Λ, 6, .inr (.inl (vp_updL (gB σ 11) i v)))) = Wd Λ (uB σ 11 i v) := rfl
theorem ws52 (Λ : LY) (σ : St) (i : Nat) (v : Int32) : (Wd Λ σ).set 52 (adr Λ 52, .inl (cI Λ, 72, .inl (upd (gA σ 32) i v))) = Wd Λ (uA σ 32 i v) := rfl
theorem ws53 (Λ : LY) (σ : St) (i : Nat) (v : Int32) : (Wd Λ σ).set 53 (adr Λ 53, .inl (cI Λ, 6, .inl (upd (gA σ 33) i v))) = Wd Λ (uA σ 33 i v) := rfl
theorem ws54 (Λ : LY) (σ : St) (i : Nat) (v : Int64) : (Wd Λ σ).set 54 (adr Λ 54, .inl (cJ Λ, 10, .inr (.inl (vp_updL (gB σ 12) i v)))) = Wd Λ (uB σ 12 i v) := rfl
theorem wsR_0 (Λ : LY) (σ : St) (v : Int32) : ∀ i : Nat, i < 10 → (Wd Λ σ).set (27 + i) (adr Λ (27 + i), .inr (3, ([.int (gA σ 10 i), .int (gA σ 11 i), .int (gA σ 12 i), .int (gA σ 13 i), .int (gA σ 14 i), .int (gA σ 15 i), .int (gA σ 16 i)] : List Value).set 0 (.int v))) = Wd Λ (uA σ 10 i v)
  | 0, _ => rfl
  | 1, _ => rfl
  | 2, _ => rfl
  | 3, _ => rfl
  | 4, _ => rfl
  | 5, _ => rfl
  | 6, _ => rfl
  | 7, _ => rfl
  | 8, _ => rfl
  | 9, _ => rfl
  | n + 10, h => absurd h (by omega)
theorem wsR_1 (Λ : LY) (σ : St) (v : Int32) : ∀ i : Nat, i < 10 → (Wd Λ σ).set (27 + i) (adr Λ (27 + i), .inr (3, ([.int (gA σ 10 i), .int (gA σ 11 i), .int (gA σ 12 i), .int (gA σ 13 i), .int (gA σ 14 i), .int (gA σ 15 i), .int (gA σ 16 i)] : List Value).set 1 (.int v))) = Wd Λ (uA σ 11 i v)
  | 0, _ => rfl
  | 1, _ => rfl
  | 2, _ => rfl
  | 3, _ => rfl
  | 4, _ => rfl
  | 5, _ => rfl
  | 6, _ => rfl
  | 7, _ => rfl
  | 8, _ => rfl
  | 9, _ => rfl
  | n + 10, h => absurd h (by omega)
theorem wsR_2 (Λ : LY) (σ : St) (v : Int32) : ∀ i : Nat, i < 10 → (Wd Λ σ).set (27 + i) (adr Λ (27 + i), .inr (3, ([.int (gA σ 10 i), .int (gA σ 11 i), .int (gA σ 12 i), .int (gA σ 13 i), .int (gA σ 14 i), .int (gA σ 15 i), .int (gA σ 16 i)] : List Value).set 2 (.int v))) = Wd Λ (uA σ 12 i v)
  | 0, _ => rfl
  | 1, _ => rfl
  | 2, _ => rfl
  | 3, _ => rfl
  | 4, _ => rfl
  | 5, _ => rfl
  | 6, _ => rfl
  | 7, _ => rfl
  | 8, _ => rfl
  | 9, _ => rfl
  | n + 10, h => absurd h (by omega)
theorem wsR_3 (Λ : LY) (σ : St) (v : Int32) : ∀ i : Nat, i < 10 → (Wd Λ σ).set (27 + i) (adr Λ (27 + i), .inr (3, ([.int (gA σ 10 i), .int (gA σ 11 i), .int (gA σ 12 i), .int (gA σ 13 i), .int (gA σ 14 i), .int (gA σ 15 i), .int (gA σ 16 i)] : List Value).set 3 (.int v))) = Wd Λ (uA σ 13 i v)
  | 0, _ => rfl
  | 1, _ => rfl
  | 2, _ => rfl
  | 3, _ => rfl
  | 4, _ => rfl
  | 5, _ => rfl
  | 6, _ => rfl
  | 7, _ => rfl
  | 8, _ => rfl
  | 9, _ => rfl
  | n + 10, h => absurd h (by omega)
theorem wsR_4 (Λ : LY) (σ : St) (v : Int32) : ∀ i : Nat, i < 10 → (Wd Λ σ).set (27 + i) (adr Λ (27 + i), .inr (3, ([.int (gA σ 10 i), .int (gA σ 11 i), .int (gA σ 12 i), .int (gA σ 13 i), .int (gA σ 14 i), .int (gA σ 15 i), .int (gA σ 16 i)] : List Value).set 4 (.int v))) = Wd Λ (uA σ 14 i v)
  | 0, _ => rfl
  | 1, _ => rfl
  | 2, _ => rfl
  | 3, _ => rfl
  | 4, _ => rfl
  | 5, _ => rfl
  | 6, _ => rfl
  | 7, _ => rfl
  | 8, _ => rfl
  | 9, _ => rfl
  | n + 10, h => absurd h (by omega)
theorem wsR_5 (Λ : LY) (σ : St) (v : Int32) : ∀ i : Nat, i < 10 → (Wd Λ σ).set (27 + i) (adr Λ (27 + i), .inr (3, ([.int (gA σ 10 i), .int (gA σ 11 i), .int (gA σ 12 i), .int (gA σ 13 i), .int (gA σ 14 i), .int (gA σ 15 i), .int (gA σ 16 i)] : List Value).set 5 (.int v))) = Wd Λ (uA σ 15 i v)
  | 0, _ => rfl
  | 1, _ => rfl
  | 2, _ => rfl
  | 3, _ => rfl
  | 4, _ => rfl
  | 5, _ => rfl
  | 6, _ => rfl
  | 7, _ => rfl
  | 8, _ => rfl
  | 9, _ => rfl
  | n + 10, h => absurd h (by omega)
theorem wsR_6 (Λ : LY) (σ : St) (v : Int32) : ∀ i : Nat, i < 10 → (Wd Λ σ).set (27 + i) (adr Λ (27 + i), .inr (3, ([.int (gA σ 10 i), .int (gA σ 11 i), .int (gA σ 12 i), .int (gA σ 13 i), .int (gA σ 14 i), .int (gA σ 15 i), .int (gA σ 16 i)] : List Value).set 6 (.int v))) = Wd Λ (uA σ 16 i v)
  | 0, _ => rfl
  | 1, _ => rfl
  | 2, _ => rfl
  | 3, _ => rfl
  | 4, _ => rfl
  | 5, _ => rfl
  | 6, _ => rfl
  | 7, _ => rfl
  | 8, _ => rfl
  | 9, _ => rfl
  | n + 10, h => absurd h (by omega)
