/-! ===== what holds of the class's memory and the reference's together ===== -/
abbrev iN (n : Nat) : Int32 := Int32.ofNat n
def nIn (x : Int32) (a b : Nat) : Prop := ∃ n, a ≤ n ∧ n ≤ b ∧ x = iN n
def nBo (x : Int32) : Prop := x = 0 ∨ x = 1
/-- a line: who is there, in their order -/
def nLin (P : Nat) (w a o : Nat → Int32) (x y : Int32) (l : List Nat) : Prop := (∀ k, k ∈ l ↔ k < P ∧ w k = x ∧ a k = y) ∧ l.Pairwise (fun j k => o j < o k)
def gCnt (N : Nat → Nat) (u : Nat → Int32) (l14 l15 l16 l17 l18 bk : List Nat) : Prop :=
  (N 23 ≤ 12 ∧ u 8 = iN (N 23) ∧ l14 = List.range (N 23)) ∧ (N 24 ≤ 20 ∧ u 19 = iN (N 24) ∧ l15 = List.range (N 24)) ∧ (N 26 ≤ 40 ∧ u 24 = iN (N 26) ∧ l16 = List.range (N 26)) ∧
  (N 27 ≤ 6 ∧ u 55 = iN (N 27) ∧ l17 = List.range (N 27)) ∧ (N 28 ≤ 5 ∧ u 65 = iN (N 28) ∧ l18 = List.range (N 28)) ∧ (N 25 ≤ bk.length ∧ bk.length ≤ 400 ∧ u 69 = iN bk.length)
def gClk (i : Nat) (ck : Int32) (u : Nat → Int32) : Prop := ck = u 0 ∧ ∃ t O, t ≤ 600 ∧ u 0 = iN t ∧ u 1 = iN O ∧ O + 3000 * min 1 (i / 100000) ≤ i % 100000 + 3000 * t
def gDep (f : Nat → Nat → Int32) (ln : Nat → Nat → Option Nat) (X : Nat → Nat → Nat) (n p : Nat) (ck : Int32) (m29 m30 m31 m32 m33 m34 : Nat → Int32) : Prop := ∀ d, d < 5 →
  (f d 3 = m29 d ∧ nIn (m29 d) 0 40) ∧ (f d 4 = m30 d ∧ nIn (m30 d) 0 20) ∧ (nIn (f d 5) 0 648 ∧ (p = 0 → m31 d = if ck < f d 5 then f d 5 - ck else 0)) ∧ (f d 6 = m32 d ∧ nIn (m32 d) 0 20) ∧ (f d 7 = m33 d ∧ nIn (m33 d) 0 20) ∧
  ∀ j, j < 10 → match ln d j with
    | none => m34 (10 * d + j) = -1
    | some l => l < n ∧ X l 1 = d ∧ m34 (10 * d + j) = iN l
def gLan (X : Nat → Nat → Nat) (f : Nat → Nat → Int32) (n : Nat) (ck : Int32) (m35 m36 m37 m38 m39 m40 m41 m42 m43 m44 : Nat → Int32) : Prop := (∀ l, l < n →
  (X l 1 < 5 ∧ m35 l = iN (X l 1)) ∧ (X l 2 < 5 ∧ m36 l = iN (X l 2)) ∧ (f l 3 = m37 l ∧ nIn (m37 l) 1 24) ∧ (f l 4 = m38 l ∧ nBo (m38 l)) ∧ (f l 7 = m39 l ∧ nIn (m39 l) 1 20) ∧ (f l 8 = m40 l ∧ nIn (m40 l) 0 100) ∧
  (f l 9 = m41 l ∧ nIn (m41 l) 1 48) ∧ (f l 10 = m42 l ∧ nIn (m42 l) 1 20) ∧ (f l 11 = m43 l ∧ nIn (m43 l) 0 24) ∧ (f l 12 = m44 l ∧ (m44 l = -1 ∨ (nIn (m44 l) 0 600 ∧ m44 l ≤ ck)))) ∧ ∀ l, n ≤ l → l < 12 → m40 l = 0
def gAdr (X : Nat → Nat → Nat) (f : Nat → Nat → Int32) (n : Nat) (m45 m46 m47 m48 : Nat → Int32) : Prop := (∀ a, a < n →
  (X a 0 < 5 ∧ m45 a = iN (X a 0)) ∧ (f a 1 = m46 a ∧ nIn (m46 a) 0 60) ∧ (f a 2 = m47 a ∧ f a 3 = m48 a ∧ nIn (m47 a) 0 24 ∧ nIn (m48 a) 0 24)) ∧ ∀ a, n ≤ a → a < 20 → m47 a = 0 ∧ m48 a = 0
/-- what a parcel is: its own fields, its money -/
def nPar (f g : Nat → Int32) (X : Nat → Nat) (Q : Nat → Option Nat) (A : Nat) (ck : Int32) (m49 m50 m51 m52 m53 m54 m55 m56 m57 m58 m59 m60 m61 m62 m63 m64 m65 m76 : Nat → Int32) (k : Nat) : Prop :=
  (∃ u, u < 4 ∧ Q 8 = some u ∧ m49 k = iN u) ∧ (f 9 = m50 k ∧ nIn (m50 k) 0 999) ∧ (X 1 < A ∧ m51 k = iN (X 1)) ∧ (X 10 < A ∧ m52 k = iN (X 10)) ∧ (f 2 = m53 k ∧ nIn (m53 k) 1 3) ∧ (f 3 = m54 k ∧ nBo (m54 k)) ∧
  (g 0 = m55 k ∧ nIn (m55 k) 0 1000) ∧ (g 1 = m56 k ∧ nIn (m56 k) 0 500) ∧ (g 2 = m64 k ∧ nBo (m64 k)) ∧ (g 3 = m76 k ∧ nIn (m76 k) 0 500) ∧
  (f 12 = m57 k ∧ nIn (m57 k) 0 23) ∧ (f 13 = m58 k ∧ nIn (m58 k) 1 24) ∧ (f 14 = m59 k ∧ nIn (m59 k) 0 800) ∧ (f 4 = m61 k ∧ nIn (m61 k) 0 600 ∧ m61 k ≤ ck) ∧
  (match Q 11 with
    | none => m60 k = -1
    | some a => a < A ∧ m60 k = iN a) ∧ (f 17 = m62 k ∧ nBo (m62 k)) ∧ (f 16 = m63 k ∧ nBo (m63 k)) ∧ (f 15 = m65 k ∧ nIn (m65 k) 0 4294967296)
def gPar (f g : Nat → Nat → Int32) (X : Nat → Nat → Nat) (Q : Nat → Nat → Option Nat) (n A : Nat) (ck : Int32) (m49 m50 m51 m52 m53 m54 m55 m56 m57 m58 m59 m60 m61 m62 m63 m64 m65 m76 : Nat → Int32) : Prop := ∀ k, k < n → nPar (f k) (g k) (X k) (Q k) A ck m49 m50 m51 m52 m53 m54 m55 m56 m57 m58 m59 m60 m61 m62 m63 m64 m65 m76 k
/-- what the reference's arrays hold beyond the parcels that are -/
def gNew (n : Nat) (m55 m56 m57 m63 m64 m65 m77 m78 : Nat → Int32) : Prop := ∀ k, n ≤ k → k < 40 → m55 k = 0 ∧ m56 k = 0 ∧ m57 k = 0 ∧ m63 k = 0 ∧ m64 k = 0 ∧ m65 k = 0 ∧ m77 k = 0 ∧ m78 k = 0
/-- where a parcel is: h the stay's ints, D its depot and its locker, q its line; XL of lanes, fl of lanes, XK of lockers -/
def nSty (h : Nat → Int32) (D : Nat → Option Nat) (q : Option (Nat × Nat)) (XL XK : Nat → Nat → Nat) (fl : Nat → Nat → Int32) (n23 n27 n28 : Nat) (p : Nat) (ck : Int32) (m66 m67 m69 m70 m71 m72 m73 m74 m75 : Nat → Int32) (k : Nat) : Prop :=
  h 0 = m66 k ∧ h 1 = m67 k ∧ nIn (h 2) 0 600 ∧ h 2 ≤ ck ∧
  ((m66 k = 0 ∧ ∃ d, d < 5 ∧ m67 k = iN d ∧ D 3 = some d ∧ q = some (3, d) ∧ D 5 = none ∧ h 6 = 0 ∧ h 7 = 0) ∨
   (m66 k = 1 ∧ ∃ l, l < n23 ∧ m67 k = iN l ∧ D 3 = some (XL l 1) ∧ q = some (5, l) ∧ D 5 = none ∧ h 6 = 0 ∧ h 7 = 0) ∨
   (m66 k = 2 ∧ ∃ l, l < n23 ∧ m67 k = iN l ∧ D 3 = none ∧ q = some (6, l) ∧ D 5 = none ∧ h 6 = 0 ∧ h 7 = 0 ∧ m69 k = h 2 + fl l 3 ∧ ck ≤ m69 k ∧ (p = 0 → ck < m69 k)) ∨
   (m66 k = 3 ∧ ∃ d, d < 5 ∧ m67 k = iN d ∧ D 3 = some d ∧ q = none ∧ D 5 = none ∧ h 6 = 0 ∧ h 7 = 0) ∨
   (m66 k = 4 ∧ ∃ v, v < n27 ∧ m67 k = iN v ∧ D 3 = none ∧ q = none ∧ D 5 = none ∧ h 6 = 0 ∧ h 7 = 0) ∨
   (m66 k = 5 ∧ ∃ l, l < n28 ∧ m67 k = iN l ∧ D 3 = some (XK l 1) ∧ q = none ∧ D 5 = some l ∧ m70 k = h 2 ∧ m71 k = h 6 ∧ nIn (h 6) 1 3 ∧ m72 k = h 7 ∧ nIn (h 7) 1000 9999) ∨
   (m66 k = 6 ∧ ∃ d, d < 5 ∧ m67 k = iN d ∧ D 3 = some d ∧ q = none ∧ D 5 = none ∧ h 6 = 0 ∧ h 7 = 0 ∧ h 8 = m73 k ∧ nBo (h 8)) ∨
   (m66 k = 7 ∧ m67 k = -1 ∧ D 3 = none ∧ q = none ∧ D 5 = none ∧ h 6 = 0 ∧ h 7 = 0 ∧ m74 k = h 2) ∨
   (m66 k = 8 ∧ m67 k = -1 ∧ D 3 = none ∧ q = none ∧ D 5 = none ∧ h 6 = 0 ∧ h 7 = 0 ∧ m75 k = h 2))
def gSty (h : Nat → Nat → Int32) (D : Nat → Nat → Option Nat) (q : Nat → Option (Nat × Nat)) (XL XK : Nat → Nat → Nat) (fl : Nat → Nat → Int32) (n23 n26 n27 n28 : Nat) (p : Nat) (ck : Int32) (m66 m67 m69 m70 m71 m72 m73 m74 m75 : Nat → Int32) : Prop := ∀ k, k < n26 → nSty (h k) (D k) (q k) XL XK fl n23 n27 n28 p ck m66 m67 m69 m70 m71 m72 m73 m74 m75 k
def gOrd (n : Nat) (u : Int32) (o : Nat → Int32) : Prop := (∀ k, k < n → 0 ≤ o k ∧ o k < u) ∧ ∀ j k, j < n → k < n → o j = o k → j = k
/-- a parcel that is ready, or on a van, is where it goes, and there is no doubt -/
def nTgt (m45 m51 m52 m60 m63 m66 m67 m79 : Nat → Int32) (k : Nat) : Prop :=
  (m66 k = 3 → m60 k = -1 ∧ m67 k = m45 (if m63 k = 0 then m52 k else m51 k).toNatClampNeg) ∧ (m66 k = 4 → m60 k = -1 ∧ m79 (m67 k).toNatClampNeg = m45 (if m63 k = 0 then m52 k else m51 k).toNatClampNeg)
def gTgt (n : Nat) (m45 m51 m52 m60 m63 m66 m67 m79 : Nat → Int32) : Prop := ∀ k, k < n → nTgt m45 m51 m52 m60 m63 m66 m67 m79 k
def gLin (L3 L5 L6 : Nat → List Nat) (h : Nat → Nat → Int32) (n23 n26 : Nat) (m66 m67 m68 : Nat → Int32) : Prop :=
  (∀ d, d < 5 → nLin (n26) (m66) (m67) (m68) 0 (iN d) (L3 d)) ∧ (∀ l, l < n23 → nLin (n26) (m66) (m67) (m68) 1 (iN l) (L5 l)) ∧
  (∀ l, l < n23 → nLin (n26) (m66) (m67) (m68) 2 (iN l) (L6 l) ∧ (L6 l).Pairwise (fun j k => h j 2 ≤ h k 2))
/-- what is owed and cashed -/
def nMon (g : Nat → Int32) (D : Option Nat) (nv p : Nat) (m56 m62 m66 m77 m78 : Nat → Int32) (k : Nat) : Prop :=
  nBo (g 4) ∧ nBo (m77 k) ∧ (m66 k ≠ 7 → m77 k = g 4) ∧ (m66 k = 7 → m77 k = 0) ∧ (m78 k = 0 ∨ (∃ v, v < nv ∧ m78 k = iN (1 + v)) ∨ nIn (m78 k) 10 14) ∧
  (m62 k = 1 → m78 k = 0 ∧ D = none ∧ (m66 k = 0 ∨ m66 k = 8)) ∧ (m56 k = 0 ∨ m66 k ≠ 7 → m78 k = 0) ∧ (∀ d, D = some d → d < 5) ∧ (p < 2 → m56 k ≠ 0 → match D with
    | none => m78 k = 0 ∨ nIn (m78 k) 1 6
    | some d => m78 k = iN (10 + d))
def gMon (g : Nat → Nat → Int32) (D : Nat → Nat → Option Nat) (n nv p : Nat) (m56 m62 m66 m77 m78 : Nat → Int32) : Prop := ∀ k, k < n → nMon (g k) (D k 5) nv p m56 m62 m66 m77 m78 k
/-- a round: j stops are done -/
def nRnd (R : List Nat) (h : Nat → Nat → Int32) (v n : Nat) (m56 m63 m66 m67 m78 m83 m84 m85 m86 m87 : Nat → Int32) : Prop :=
  m83 v = iN R.length ∧ R.length ≤ 30 ∧ R.Nodup ∧ (∀ k, k < n → m66 k = 4 → m67 k = iN v → k ∈ R) ∧ (∀ k, k < n → m78 k = iN (1 + v) → k ∈ R) ∧
  ∀ j k, R[j]? = some k → k < n ∧ m85 (30 * v + j) = iN k ∧ m86 (30 * v + j) = h k 9 ∧ nIn (h k 9) 0 10000 ∧
    ((m66 k = 4 ∧ m67 k = iN v ∧ m78 k = 0 ∧ nBo (m87 (30 * v + j)) ∧ (iN j < m84 v → m87 (30 * v + j) = 1) ∧ (m84 v ≤ iN j → m87 (30 * v + j) = 0)) ∨
     (m66 k = 7 ∧ iN j < m84 v ∧ m87 (30 * v + j) = 0 ∧ m78 k = if m63 k = 1 ∨ m56 k = 0 then 0 else iN (1 + v)))
def gVan (X : Nat → Nat → Nat) (f : Nat → Nat → Int32) (L : Nat → List Nat) (h : Nat → Nat → Int32) (n26 n27 : Nat) (p : Nat) (ck : Int32) (m56 m63 m66 m67 m78 m79 m80 m81 m82 m83 m84 m85 m86 m87 : Nat → Int32) : Prop :=
  (∀ v, v < n27 → (X v 1 < 5 ∧ m79 v = iN (X v 1)) ∧ (f v 2 = m80 v ∧ nIn (m80 v) 1 30) ∧ (f v 3 = m81 v ∧ nIn (m81 v) 0 23) ∧ (p ≠ 2 + v → nRnd (L v) h v (n26) m56 m63 m66 m67 m78 m83 m84 m85 m86 m87) ∧
    (p ≠ 2 + v → L v ≠ [] → f v 5 = m82 v ∧ nIn (m82 v) 0 600 ∧ m82 v ≤ ck ∧ f v 6 = m84 v ∧ nIn (m84 v) 0 29 ∧ m84 v < m83 v)) ∧
  (∀ v v' k, v < n27 → v' < n27 → k ∈ L v → k ∈ L v' → v = v') ∧ ∀ v, v < 6 → nIn (m84 v) 0 30 ∧ (n27 ≤ v → m83 v = 0)
def gLoc (X : Nat → Nat → Nat) (f : Nat → Nat → Int32) (n26 n28 : Nat) (m66 m67 m71 m88 m89 : Nat → Int32) : Prop := ∀ l, l < n28 → (X l 1 < 5 ∧ m88 l = iN (X l 1)) ∧
  ∀ j, 1 ≤ j → j < 4 → nIn (m89 (4 * l + j)) 0 5 ∧ nIn (f l j) 0 5 ∧ m89 (4 * l + j) = f l j + iN (((List.range (n26)).filter fun k => m66 k = 5 ∧ m67 k = iN l ∧ m71 k = iN j).length)
def gBok (X : Nat → Nat → Nat) (f : Nat → Nat → Int32) (bk : List Nat) (L : Nat → List Nat) (n25 n26 : Nat) (ck : Int32) (m91 m92 m93 m94 : Nat → Int32) : Prop :=
  (∀ i b, bk[i]? = some b → b < n25 ∧ f b 0 = m91 i ∧ nIn (m91 i) 0 39 ∧ (X b 1 < 5 ∧ m92 i = iN (X b 1)) ∧ (f b 2 = m93 i ∧ nIn (m93 i) 0 600 ∧ m93 i ≤ ck) ∧ (f b 3 = m94 i ∧ nIn (m94 i) 0 9)) ∧
  (∀ k, k < n26 → L k = bk.filter fun b => f b 0 = iN k) ∧ ∀ b, b ∈ bk → ∃ k, k < n26 ∧ f b 0 = iN k
/-- what a net is made of and stays: how many are handed; how many there are of each; whence and where lanes go, their hours; depots of addresses, of vans, their starts; depots of lockers, what they hold in all -/
abbrev kP : Type := Nat × (Nat → Nat) × (Nat → Nat → Nat) × (Nat → Int32) × (Nat → Nat → Nat) × (Nat → Nat → Nat) × (Nat → Int32) × (Nat → Nat → Nat) × (Nat → Int32)
def gKap (κ : kP) (N : Nat → Nat) (X23 : Nat → Nat → Nat) (f23 : Nat → Nat → Int32) (X24 X27 : Nat → Nat → Nat) (f27 : Nat → Nat → Int32) (X28 : Nat → Nat → Nat) (m89 : Nat → Int32) : Prop :=
  (N 23 = κ.2.1 23 ∧ N 24 = κ.2.1 24 ∧ N 26 = κ.2.1 26 ∧ N 27 = κ.2.1 27 ∧ N 28 = κ.2.1 28) ∧ X23 = κ.2.2.1 ∧ (∀ l, f23 l 3 = κ.2.2.2.1 l) ∧ X24 = κ.2.2.2.2.1 ∧ X27 = κ.2.2.2.2.2.1 ∧ (∀ v, f27 v 3 = κ.2.2.2.2.2.2.1 v) ∧ X28 = κ.2.2.2.2.2.2.2.1 ∧ ∀ l, l < N 28 → m89 (4 * l + 1) + m89 (4 * l + 2) + m89 (4 * l + 3) = κ.2.2.2.2.2.2.2.2 l
def kNet (H : Nat) (cp : Nat → Int32) (c : nC) : kP := (H, fN c, fX c 23, fun l => fI c 23 l 3, fX c 24, fX c 27, fun v => fI c 27 v 3, fX c 28, cp)
def nHan (n : Nat) (m66 : Nat → Int32) : Nat := ((List.range n).filter fun k => m66 k = 7).length
/-- no two parcels have a customer and a reference in common -/
def gUni (n : Nat) (m49 m50 : Nat → Int32) : Prop := ∀ j k, j < k → k < n → m49 j = m49 k → m50 j ≠ m50 k
def gRow (n : Nat) (L5 : Nat → List Nat) : Prop := ∀ l, l < n → (L5 l).length ≤ 20
/-- the book's hours rise -/
def gBko (bk : List Nat) (m93 : Nat → Int32) : Prop := ∀ i j, i < j → j < bk.length → m93 i ≤ m93 j
def nJ (κ : kP) (i : Nat) (c : nC) (m : nM) : Prop :=
  gCnt (fN c) (m 1) (fL c 14 0) (fL c 15 0) (fL c 16 0) (fL c 17 0) (fL c 18 0) (fL c 19 0) ∧
  gClk i (fI c 0 0 9) (m 1) ∧
  gDep (fI c 21) (fP c 4) (fX c 23) (fN c 23) (i / 100000) (m 1 0) (m 29) (m 30) (m 31) (m 32) (m 33) (m 34) ∧
  gLan (fX c 23) (fI c 23) (fN c 23) (m 1 0) (m 35) (m 36) (m 37) (m 38) (m 39) (m 40) (m 41) (m 42) (m 43) (m 44) ∧
  gAdr (fX c 24) (fI c 24) (fN c 24) (m 45) (m 46) (m 47) (m 48) ∧
  gPar (fI c 26) (fI c 8) (fX c 26) (fP c 26) (fN c 26) (fN c 24) (m 1 0) (m 49) (m 50) (m 51) (m 52) (m 53) (m 54) (m 55) (m 56) (m 57) (m 58) (m 59) (m 60) (m 61) (m 62) (m 63) (m 64) (m 65) (m 76) ∧
  gNew (fN c 26) (m 55) (m 56) (m 57) (m 63) (m 64) (m 65) (m 77) (m 78) ∧
  gSty (fI c 9) (fP c 9) (fQ c) (fX c 23) (fX c 28) (fI c 23) (fN c 23) (fN c 26) (fN c 27) (fN c 28) (i / 100000) (m 1 0) (m 66) (m 67) (m 69) (m 70) (m 71) (m 72) (m 73) (m 74) (m 75) ∧
  (gOrd (fN c 26) (m 1 1) (m 68) ∧ gTgt (fN c 26) (m 45) (m 51) (m 52) (m 60) (m 63) (m 66) (m 67) (m 79)) ∧
  gLin (fL c 3) (fL c 5) (fL c 6) (fI c 9) (fN c 23) (fN c 26) (m 66) (m 67) (m 68) ∧
  gMon (fI c 8) (fP c 8) (fN c 26) (fN c 27) (i / 100000) (m 56) (m 62) (m 66) (m 77) (m 78) ∧
  gVan (fX c 27) (fI c 27) (fL c 11) (fI c 9) (fN c 26) (fN c 27) (i / 100000) (m 1 0) (m 56) (m 63) (m 66) (m 67) (m 78) (m 79) (m 80) (m 81) (m 82) (m 83) (m 84) (m 85) (m 86) (m 87) ∧
  gLoc (fX c 28) (fI c 7) (fN c 26) (fN c 28) (m 66) (m 67) (m 71) (m 88) (m 89) ∧
  gBok (fX c 25) (fI c 25) (fL c 19 0) (fL c 10) (fN c 25) (fN c 26) (m 1 0) (m 91) (m 92) (m 93) (m 94) ∧
  (∀ u, u < 4 → fI c 22 u 1 = m 90 u) ∧
  gKap κ (fN c) (fX c 23) (fI c 23) (fX c 24) (fX c 27) (fI c 27) (fX c 28) (m 89) ∧ nHan (fN c 26) (m 66) = κ.1 ∧ gUni (fN c 26) (m 49) (m 50) ∧ gRow (fN c 23) (fL c 5) ∧ gBko (fL c 19 0) (m 93)
/-! what an update leaves -/
theorem uM_ne {t t' j : Nat} {x : Int32} {m : nM} (h : t' ≠ t) : uM t j x m t' = m t' := by
  funext k
  unfold uM up2
  rw [if_neg (fun z => h z.1)]
theorem uM_at {t j j' : Nat} {x : Int32} {m : nM} : uM t j x m t j' = if j' = j then x else m t j' := by
  simp [uM, up2]
theorem uM1_ne {j j' : Nat} {x : Int32} {m : nM} (h : j' ≠ j) : uM 1 j x m 1 j' = m 1 j' := by
  rw [uM_at, if_neg h]
theorem fI_ne {t t' k j : Nat} {x : Int32} {c : nC} (h : t' ≠ t) : fI (uI t k j x c) t' = fI c t' := by
  funext k' j'
  show up3 (fI c) t k j x t' k' j' = _
  unfold up3
  rw [if_neg (fun z => h z.1)]
theorem fI_at {t k j k' j' : Nat} {x : Int32} {c : nC} : fI (uI t k j x c) t k' j' = if k' = k ∧ j' = j then x else fI c t k' j' := by
  show up3 (fI c) t k j x t k' j' = _
  simp [up3]
theorem fX_ne {t t' k j x : Nat} {c : nC} (h : t' ≠ t) : fX (uX t k j x c) t' = fX c t' := by
  funext k' j'
  show up3 (fX c) t k j x t' k' j' = _
  unfold up3
  rw [if_neg (fun z => h z.1)]
theorem fP_ne {t t' k j : Nat} {x : Option Nat} {c : nC} (h : t' ≠ t) : fP (uP t k j x c) t' = fP c t' := by
  funext k' j'
  show up3 (fP c) t k j x t' k' j' = _
  unfold up3
  rw [if_neg (fun z => h z.1)]
theorem fL_ne {t t' k : Nat} {x : List Nat} {c : nC} (h : t' ≠ t) : fL (uL t k x c) t' = fL c t' := by
  funext k'
  show up2 (fL c) t k x t' k' = _
  unfold up2
  rw [if_neg (fun z => h z.1)]
theorem fL_at {t k k' : Nat} {x : List Nat} {c : nC} : fL (uL t k x c) t k' = if k' = k then x else fL c t k' := by
  show up2 (fL c) t k x t k' = _
  simp [up2]
theorem fN_ne {t t' x : Nat} {c : nC} (h : t' ≠ t) : fN (uN t x c) t' = fN c t' := by
  show up1 (fN c) t x t' = _
  unfold up1
  rw [if_neg h]
theorem fN_at {t x : Nat} {c : nC} : fN (uN t x c) t = x := by
  show up1 (fN c) t x t = _
  simp [up1]
theorem fX_at {t k j x k' j' : Nat} {c : nC} : fX (uX t k j x c) t k' j' = if k' = k ∧ j' = j then x else fX c t k' j' := by
  show up3 (fX c) t k j x t k' j' = _
  simp [up3]
theorem fP_at {t k j k' j' : Nat} {x : Option Nat} {c : nC} : fP (uP t k j x c) t k' j' = if k' = k ∧ j' = j then x else fP c t k' j' := by
  show up3 (fP c) t k j x t k' j' = _
  simp [up3]
theorem gClk_up {i : Nat} {ck : Int32} {u : Nat → Int32} (h : gClk i ck u) (hi : i % 100000 < 99999) : gClk (i + 1) ck u := by
  obtain ⟨h1, t, O, h2, h3, h4, h5⟩ := h
  exact ⟨h1, t, O, h2, h3, h4, by omega⟩
theorem nJ_up {κ : kP} {i : Nat} {c : nC} {m : nM} (h : nJ κ i c m) (hi : i % 100000 < 99999 := by omega) : nJ κ (i + 1) c m := by
  have e : (i + 1) / 100000 = i / 100000 := by omega
  unfold nJ at h ⊢
  rw [e]
  exact ⟨h.1, gClk_up h.2.1 hi, h.2.2⟩
theorem nJ_76 {κ : kP} {i : Nat} {c : nC} {m : nM} {x : Int32} (h : nJ κ i c m) : nJ κ i c (uM 1 76 x m) := by
  unfold nJ gCnt gClk at h ⊢
  simp (disch := decide) only [uM_ne, uM1_ne]
  exact h
theorem nRng {x : Int32} (a b : Nat) (hb : a ≤ b ∧ b < 100000) : x < iN a ∨ (¬ x < iN a ∧ iN b < x) ∨ (¬ x < iN a ∧ ¬ iN b < x ∧ ∃ n, a ≤ n ∧ n ≤ b ∧ x = iN n) := by
  by_cases h1 : x < iN a
  · exact Or.inl h1
  · by_cases h2 : iN b < x
    · exact Or.inr (Or.inl ⟨h1, h2⟩)
    · refine Or.inr (Or.inr ⟨h1, h2, x.toInt.toNat, ?_⟩)
      rw [Int32.lt_iff_toInt_lt, Int32.toInt_ofNat_of_lt (by omega)] at h1
      rw [Int32.lt_iff_toInt_lt, Int32.toInt_ofNat_of_lt (by omega)] at h2
      refine ⟨by omega, by omega, ?_⟩
      apply Int32.toInt_inj.mp
      rw [Int32.toInt_ofNat_of_lt (by omega)]
      omega
theorem iN_in {n b : Nat} (h : n < b) (hb : b < 100000) : mIn (iN n) b = true := mIn_iff.mpr ⟨i32_pos (by omega), by rw [i32_nat (by omega)]; exact h⟩
/-! ===== a call of the class and the same of the reference do alike: with what is said of the answer, of the refusal ===== -/
def pT (_ : nC) (_ : nM) (_ : kP) (_ : nC) (_ : nM) (_ : Int32) : Prop := True
def pF (_ : nC) (_ : nM) (_ : Nat) : Prop := True
/-- a call of the class and the same of the reference answer alike -/
def nDoes (κ : kP) (P : nC → nM → kP → nC → nM → Int32 → Prop) (F : nC → nM → Nat → Prop) (i : Nat) (hs : List (Nat × Int32)) (c m : nS → Option nOut) : Prop := ∀ s, nJ κ i s.1 s.2.1 → ∃ (κ' : kP) (c' : nC) (m' : nM) (v : Int32), nJ κ' (i + 1) c' m' ∧ (∀ z, m (c', s.2.1, z) = some (.inl (some (vI v)), (c', m', z))) ∧
  ((c s = some (.inl (some (vI v)), (c', s.2)) ∧ m' 1 76 = 0 ∧ P s.1 s.2.1 κ' c' m' v) ∨ ∃ E, c s = some (.inr E, (c', s.2.1, s.2.2.1 + 1, s.2.2.2)) ∧ nHl hs E = some (m' 1 76) ∧ m' 1 76 ≠ 0 ∧ c' = s.1 ∧ κ' = κ ∧ F s.1 s.2.1 E)
def nDoesB (κ : kP) (P : nC → nM → kP → nC → nM → Int32 → Prop) (F : nC → nM → Nat → Prop) (i : Nat) (hs : List (Nat × Int32)) (c m : nS → Option nOut) : Prop := ∀ s, nJ κ i s.1 s.2.1 → ∃ (κ' : kP) (c' : nC) (m' : nM) (v : Int32), nJ κ' (i + 1) c' m' ∧ (v = 0 ∨ v = 1) ∧ (∀ z, m (c', s.2.1, z) = some (.inl (some (vI v)), (c', m', z))) ∧
  ((c s = some (.inl (some (vI v)), (c', s.2)) ∧ m' 1 76 = 0 ∧ P s.1 s.2.1 κ' c' m' v) ∨ ∃ E, c s = some (.inr E, (c', s.2.1, s.2.2.1 + 1, s.2.2.2)) ∧ nHl hs E = some (m' 1 76) ∧ m' 1 76 ≠ 0 ∧ c' = s.1 ∧ κ' = κ ∧ F s.1 s.2.1 E)
