/-! The memory of the system as functions: one map of kinds, one map a field (by its number), one a kind of array. -/
section MEM
def iz (z : Int) : Int32 := Int32.ofInt z
def bz (b : Bool) : Int32 := iz (if b then 1 else 0)
abbrev Mem : Type := Nat × (Nat → Option (Nat × Nat)) × (Nat → Nat → Int32) × (Nat → Nat → Option Nat) × (Nat → Nat → Int64) × (Nat → Nat → Int32) × (Nat → Nat → Option Nat) × (Nat → Nat → Int64) × (Nat → Nat → UInt64)
def mN (M : Mem) : Nat := M.1
def mC (M : Mem) : Nat → Option (Nat × Nat) := M.2.1
def mI (M : Mem) : Nat → Nat → Int32 := M.2.2.1
def mR (M : Mem) : Nat → Nat → Option Nat := M.2.2.2.1
def mJ (M : Mem) : Nat → Nat → Int64 := M.2.2.2.2.1
def mA (M : Mem) : Nat → Nat → Int32 := M.2.2.2.2.2.1
def mQ (M : Mem) : Nat → Nat → Option Nat := M.2.2.2.2.2.2.1
def mL (M : Mem) : Nat → Nat → Int64 := M.2.2.2.2.2.2.2.1
def mD (M : Mem) : Nat → Nat → UInt64 := M.2.2.2.2.2.2.2.2
def sN (M : Mem) (n : Nat) : Mem := (n, mC M, mI M, mR M, mJ M, mA M, mQ M, mL M, mD M)
def sI (M : Mem) (f : Nat) (g : Nat → Int32) : Mem := (mN M, mC M, va_up (mI M) f g, mR M, mJ M, mA M, mQ M, mL M, mD M)
def sR (M : Mem) (f : Nat) (g : Nat → Option Nat) : Mem := (mN M, mC M, mI M, va_up (mR M) f g, mJ M, mA M, mQ M, mL M, mD M)
def sJ (M : Mem) (f : Nat) (g : Nat → Int64) : Mem := (mN M, mC M, mI M, mR M, va_up (mJ M) f g, mA M, mQ M, mL M, mD M)
def sA (M : Mem) (a : Nat) (g : Nat → Int32) : Mem := (mN M, mC M, mI M, mR M, mJ M, va_up (mA M) a g, mQ M, mL M, mD M)
def sQ (M : Mem) (a : Nat) (g : Nat → Option Nat) : Mem := (mN M, mC M, mI M, mR M, mJ M, mA M, va_up (mQ M) a g, mL M, mD M)
def sL (M : Mem) (a : Nat) (g : Nat → Int64) : Mem := (mN M, mC M, mI M, mR M, mJ M, mA M, mQ M, va_up (mL M) a g, mD M)
def sD (M : Mem) (a : Nat) (g : Nat → UInt64) : Mem := (mN M, mC M, mI M, mR M, mJ M, mA M, mQ M, mL M, va_up (mD M) a g)
/-- a cell of the kind t and length z comes at the end, all of it zero or null -/
def nw (M : Mem) (t z : Nat) : Mem := (mN M + 1, va_up (mC M) (mN M) (some (t, z)), fun f a => if a = mN M then 0 else mI M f a, fun f a => if a = mN M then none else mR M f a, fun f a => if a = mN M then 0 else mJ M f a, va_up (mA M) (mN M) (fun _ => 0), va_up (mQ M) (mN M) (fun _ => none), va_up (mL M) (mN M) (fun _ => 0), va_up (mD M) (mN M) (fun _ => 0))
/-- what the field k of an object of the kind t at a holds -/
def fv (M : Mem) (t k a : Nat) : Value := match cY t k with
  | .long => .long (mJ M (64 * t + k) a)
  | .object _ => va_rf (mR M (64 * t + k) a)
  | .array _ => va_rf (mR M (64 * t + k) a)
  | _ => .int (mI M (64 * t + k) a)
def av (M : Mem) (t a j : Nat) : Value := match t with
  | 13 => va_rf (mQ M a j)
  | 17 => va_rf (mQ M a j)
  | 14 => .long (mL M a j)
  | 15 => .double (mD M a j)
  | _ => .int (mA M a j)
def aY (t : Nat) : FieldType := match t with
  | 12 => .boolean
  | 13 => .object "java/lang/Object"
  | 17 => .object "java/lang/Object"
  | 14 => .long
  | 15 => .double
  | _ => .int
/-- the state at the law's entry, the classes' numbers and slots, the array classes' numbers -/
abbrev GC : Type := State × va_G × (Nat → ClassId) × Nat
def gB (G : GC) : Nat := G.1.heap.size
/-- an array's cell: one of the run's own is plain, of one that was there before only its kind and its places are known -/
def AC (G : GC) (M : Mem) (a t z : Nat) (c : Cell) : Prop := (t < 16 → c = arrV (G.2.2.1 t) z (av M t a)) ∧ (16 ≤ t → c.vm ≠ .unknown ∧ G.1.isArrayOf c (aY t) ∧ c.slots.size = z ∧ ∀ j, j < z → c.slots[j]? = some (av M t a j))
def OKc (G : GC) (M : Mem) (a t z : Nat) (H : Heap) : Prop := (t < 11 → t_OB a (G.2.1.1 t) (cK t) (G.2.1.2 t) H (fun k => fv M t k a)) ∧ (¬ t < 11 → ∃ c, H[a]? = some c ∧ AC G M a t z c)
def Rel (G : GC) (M : Mem) (H : Heap) : Prop := H.size = mN M ∧ gB G ≤ mN M ∧ (∀ a, a < gB G → H[a]? = G.1.heap[a]?) ∧ ∀ a t z, mC M a = some (t, z) → a < mN M ∧ (t < 16 → gB G ≤ a) ∧ OKc G M a t z H
def gCast : List (String × String) := [("Candleford$Grid", "java/lang/Object"), ("Candleford$House", "java/lang/Object"), ("Candleford$Parcel", "java/lang/Object"), ("Candleford$Pass", "java/lang/Object"), ("Candleford$Round", "java/lang/Object"), ("Candleford$Street", "java/lang/Object"), ("Candleford$Walk", "java/lang/Object"), ("Candleford$Ways", "java/lang/Object"), ("Candleford", "java/lang/Object"), ("CandlefordModel", "java/lang/Object"), ("java/util/ArrayList", "java/lang/Object"), ("java/lang/IllegalStateException", "java/lang/IllegalStateException"), ("java/lang/IllegalArgumentException", "java/lang/IllegalArgumentException"), ("java/lang/IndexOutOfBoundsException", "java/lang/IndexOutOfBoundsException"), ("java/lang/UnsupportedOperationException", "java/lang/UnsupportedOperationException"), ("java/util/NoSuchElementException", "java/util/NoSuchElementException"), ("java/lang/ArithmeticException", "java/lang/ArithmeticException")]
def gNot : List (String × String) := [("java/lang/IllegalStateException", "java/lang/IllegalArgumentException"), ("java/lang/IllegalStateException", "java/lang/IndexOutOfBoundsException"), ("java/lang/IllegalStateException", "java/lang/UnsupportedOperationException"), ("java/lang/IllegalStateException", "java/util/NoSuchElementException"), ("java/lang/IllegalStateException", "java/lang/ArithmeticException"), ("java/lang/IllegalArgumentException", "java/lang/IllegalStateException"), ("java/lang/IllegalArgumentException", "java/lang/IndexOutOfBoundsException"), ("java/lang/IllegalArgumentException", "java/lang/UnsupportedOperationException"), ("java/lang/IllegalArgumentException", "java/util/NoSuchElementException"), ("java/lang/IllegalArgumentException", "java/lang/ArithmeticException"), ("java/lang/IndexOutOfBoundsException", "java/lang/IllegalStateException"), ("java/lang/IndexOutOfBoundsException", "java/lang/IllegalArgumentException"), ("java/lang/IndexOutOfBoundsException", "java/lang/UnsupportedOperationException"), ("java/lang/IndexOutOfBoundsException", "java/util/NoSuchElementException"), ("java/lang/IndexOutOfBoundsException", "java/lang/ArithmeticException"), ("java/lang/UnsupportedOperationException", "java/lang/IllegalStateException"), ("java/lang/UnsupportedOperationException", "java/lang/IllegalArgumentException"), ("java/lang/UnsupportedOperationException", "java/lang/IndexOutOfBoundsException"), ("java/lang/UnsupportedOperationException", "java/util/NoSuchElementException"), ("java/lang/UnsupportedOperationException", "java/lang/ArithmeticException"), ("java/util/NoSuchElementException", "java/lang/IllegalStateException"), ("java/util/NoSuchElementException", "java/lang/IllegalArgumentException"), ("java/util/NoSuchElementException", "java/lang/IndexOutOfBoundsException"), ("java/util/NoSuchElementException", "java/lang/UnsupportedOperationException"), ("java/util/NoSuchElementException", "java/lang/ArithmeticException"), ("java/lang/ArithmeticException", "java/lang/IllegalStateException"), ("java/lang/ArithmeticException", "java/lang/IllegalArgumentException"), ("java/lang/ArithmeticException", "java/lang/IndexOutOfBoundsException"), ("java/lang/ArithmeticException", "java/lang/UnsupportedOperationException"), ("java/lang/ArithmeticException", "java/util/NoSuchElementException")]
def gStr : List (String × Nat × String) := [("Candleford", 59, "no more places"), ("Candleford", 74, "the ends are the same or the length is out of range"), ("Candleford", 81, "no more streets"), ("Candleford", 106, "the side or the offset is out of range"), ("Candleford", 108, "no more houses"), ("Candleford", 116, "the limit is out of range"), ("Candleford", 118, "no more rounds"), ("Candleford", 131, "the weight is out of range"), ("Candleford", 137, "the number of letters is out of range"), ("Candleford", 142, "too many letters for the house"), ("Candleford", 144, "the weight or the deadline is out of range"), ("Candleford", 146, "no more parcels on this day"), ("Candleford", 167, "the side is out of range"), ("Candleford", 182, "no such rank"), ("Candleford", 224, "too many passes to try all orders"), ("Candleford", 236, "no such pass"), ("Candleford", 248, "no such place"), ("Candleford", 262, "the house is not due or in no round"), ("Candleford", 267, "the round is not in time"), ("Candleford", 279, "the merged round would not be in time"), ("Candleford", 290, "no merge saves anything"), ("Candleford", 308, "no heavy parcel waits"), ("Candleford", 328, "the van has delivered none"), ("Candleford", 331, "no house is due"), ("Candleford", 334, "no such street"), ("Candleford", 336, "no such house"), ("Candleford", 338, "no such round"), ("Candleford", 340, "no such parcel"), ("Candleford", 369, "the round has no walk"), ("Candleford", 371, "both rounds are the same"), ("Candleford", 373, "one of the rounds has no walk"), ("Candleford", 385, "no way leads to the street")]
/-- what is known of the start: classes, array classes, where the throwables' statics lie, no stack traces, which classes are castable, the texts, the lists' empty row, an array class's mirror -/
def GOK (G : GC) (l : Launch) : Prop := l.stackTraces = false ∧ (∀ t, t < 11 → u_Kn G.1 (cR t) (cT t) (cK t) (G.2.1.1 t) (G.2.1.2 t)) ∧ (∀ t, 11 ≤ t → t < 18 → ArrOfT G.1 (G.2.2.1 t) (aY t) ∧ va_RA G.1 (G.2.2.1 t) (aY t)) ∧
  vx_Zq Bundle.tN "UNASSIGNED_STACK" Bundle.steD (fun q => gB G ≤ q) G.1 G.1.heap ∧ vx_Zq Bundle.tN "SUPPRESSED_SENTINEL" Bundle.listD (fun q => gB G ≤ q) G.1 G.1.heap ∧ va_AO "java/lang/Object" G.1 ∧
  (∀ q ∈ gCast, va_Nw (.castable q.1 q.2) G.1) ∧ (∀ q ∈ gNot, va_Nc q.1 q.2 G.1) ∧ (∀ q ∈ gStr, ∃ a, vk_R q.1 q.2.1 q.2.2 a G.1) ∧ va_Z "java/util/ArrayList" "DEFAULTCAPACITY_EMPTY_ELEMENTDATA" "[Ljava/lang/Object;" (.ref G.2.2.2) (fun q => gB G ≤ q) G.1 G.1.heap ∧ (∃ mi, va_Mi "[Ljava/lang/Object;" mi G.1) ∧ va_Dc G.1
end MEM
section MEML
variable (M : Mem) (f g a b t z n : Nat)
theorem mN_sN : mN (sN M n) = n := rfl
theorem mI_sI (G : Nat → Int32) : mI (sI M f G) f = G := by simp [mI, sI, va_up]
theorem mI_sIn (G : Nat → Int32) (h : g ≠ f) : mI (sI M f G) g = mI M g := by
  show va_up (mI M) f G g = mI M g
  simp [va_up, h]
theorem mR_sR (G : Nat → Option Nat) : mR (sR M f G) f = G := by simp [mR, sR, va_up]
theorem mR_sRn (G : Nat → Option Nat) (h : g ≠ f) : mR (sR M f G) g = mR M g := by
  show va_up (mR M) f G g = mR M g
  simp [va_up, h]
theorem mJ_sJ (G : Nat → Int64) : mJ (sJ M f G) f = G := by simp [mJ, sJ, va_up]
theorem mJ_sJn (G : Nat → Int64) (h : g ≠ f) : mJ (sJ M f G) g = mJ M g := by
  show va_up (mJ M) f G g = mJ M g
  simp [va_up, h]
theorem mA_sA (G : Nat → Int32) : mA (sA M a G) a = G := by simp [mA, sA, va_up]
theorem mA_sAn (G : Nat → Int32) (h : b ≠ a) : mA (sA M a G) b = mA M b := by
  show va_up (mA M) a G b = mA M b
  simp [va_up, h]
theorem mQ_sQ (G : Nat → Option Nat) : mQ (sQ M a G) a = G := by simp [mQ, sQ, va_up]
theorem mQ_sQn (G : Nat → Option Nat) (h : b ≠ a) : mQ (sQ M a G) b = mQ M b := by
  show va_up (mQ M) a G b = mQ M b
  simp [va_up, h]
theorem mL_sL (G : Nat → Int64) : mL (sL M a G) a = G := by simp [mL, sL, va_up]
theorem mL_sLn (G : Nat → Int64) (h : b ≠ a) : mL (sL M a G) b = mL M b := by
  show va_up (mL M) a G b = mL M b
  simp [va_up, h]
theorem mD_sD (G : Nat → UInt64) : mD (sD M a G) a = G := by simp [mD, sD, va_up]
theorem mD_sDn (G : Nat → UInt64) (h : b ≠ a) : mD (sD M a G) b = mD M b := by
  show va_up (mD M) a G b = mD M b
  simp [va_up, h]
theorem up_up {α : Type} (F : Nat → α) (k : Nat) (v w : α) : va_up (va_up F k v) k w = va_up F k w := by
  funext j
  simp only [va_up]
  split <;> rfl
theorem up_id {α : Type} (F : Nat → α) (k : Nat) : va_up F k (F k) = F := by
  funext j
  simp only [va_up]
  split
  · next h => rw [h]
  · rfl
theorem up_s {α : Type} (F : Nat → α) (k : Nat) (v : α) : va_up F k v k = v := by simp [va_up]
theorem up_n {α : Type} (F : Nat → α) {k j : Nat} (v : α) (h : j ≠ k) : va_up F k v j = F j := by simp [va_up, h]
theorem sI_sI (G K : Nat → Int32) : sI (sI M f G) f K = sI M f K := by
  show (mN M, mC M, va_up (va_up (mI M) f G) f K, mR M, mJ M, mA M, mQ M, mL M, mD M) = _
  rw [up_up]; rfl
theorem sA_sA (G K : Nat → Int32) : sA (sA M a G) a K = sA M a K := by
  show (mN M, mC M, mI M, mR M, mJ M, va_up (va_up (mA M) a G) a K, mQ M, mL M, mD M) = _
  rw [up_up]; rfl
theorem sQ_sQ (G K : Nat → Option Nat) : sQ (sQ M a G) a K = sQ M a K := by
  show (mN M, mC M, mI M, mR M, mJ M, mA M, va_up (va_up (mQ M) a G) a K, mL M, mD M) = _
  rw [up_up]; rfl
theorem sR_sR (G K : Nat → Option Nat) : sR (sR M f G) f K = sR M f K := by
  show (mN M, mC M, mI M, va_up (va_up (mR M) f G) f K, mJ M, mA M, mQ M, mL M, mD M) = _
  rw [up_up]; rfl
theorem sI_id : sI M f (mI M f) = M := by
  show (mN M, mC M, va_up (mI M) f (mI M f), mR M, mJ M, mA M, mQ M, mL M, mD M) = _
  rw [up_id]; rfl
theorem sA_id : sA M a (mA M a) = M := by
  show (mN M, mC M, mI M, mR M, mJ M, va_up (mA M) a (mA M a), mQ M, mL M, mD M) = _
  rw [up_id]; rfl
theorem sQ_id : sQ M a (mQ M a) = M := by
  show (mN M, mC M, mI M, mR M, mJ M, mA M, va_up (mQ M) a (mQ M a), mL M, mD M) = _
  rw [up_id]; rfl
theorem sN_id : sN M (mN M) = M := rfl
theorem sN_sN (n' : Nat) : sN (sN M n) n' = sN M n' := rfl
end MEML
section IZ
theorem iz_add (a b : Int) : iz a + iz b = iz (a + b) := (Int32.ofInt_add a b).symm
theorem iz_sub (a b : Int) : iz a - iz b = iz (a - b) := (Int32.ofInt_sub a b).symm
theorem iz_mul (a b : Int) : iz a * iz b = iz (a * b) := (Int32.ofInt_mul a b).symm
theorem iz_of (x : Int32) : x = iz x.toInt := (Int32.ofInt_toInt x).symm
theorem iz_rng (x : Int32) : -2147483648 ≤ x.toInt ∧ x.toInt < 2147483648 := ⟨by have := Int32.le_toInt x; omega, by have := Int32.toInt_lt x; omega⟩
/-- the range in which the numbers are themselves -/
abbrev inR (z : Int) : Prop := -2147483648 ≤ z ∧ z < 2147483648
theorem iz_toInt {z : Int} (h : inR z) : (iz z).toInt = z := by
  obtain ⟨h1, h2⟩ := h
  rw [iz, Int32.toInt_ofInt_of_le (by simpa using h1) (by simpa using h2)]
theorem iz_inj {a b : Int} (ha : inR a) (hb : inR b) : iz a = iz b ↔ a = b := ⟨fun h => by rw [← iz_toInt ha, ← iz_toInt hb, h], fun h => by rw [h]⟩
theorem iz_lt {a b : Int} (ha : inR a) (hb : inR b) : iz a < iz b ↔ a < b := by rw [Int32.lt_iff_toInt_lt, iz_toInt ha, iz_toInt hb]
theorem iz_le {a b : Int} (ha : inR a) (hb : inR b) : iz a ≤ iz b ↔ a ≤ b := by rw [Int32.le_iff_toInt_le, iz_toInt ha, iz_toInt hb]
theorem iz_0 : (0 : Int32) = iz 0 := by decide +kernel
theorem iz_nI (n : Nat) : nI n = iz (n : Int) := by
  show Int32.ofNat n = Int32.ofInt n
  first
    | rfl
    | exact (Int32.ofInt_eq_ofNat (n := n)).symm
    | exact Int32.ofInt_eq_ofNat.symm
    | (apply Int32.toBitVec_inj.mp; simp [Int32.toBitVec_ofInt, Int32.toBitVec_ofNat, BitVec.ofInt_natCast])
    | (apply Int32.toBitVec_inj.mp; simp; done)
    | (apply Int32.toInt_inj.mp; simp [Int32.toInt_ofInt, Int32.toInt_ofNat])
theorem iz_clamp {n : Nat} (h : n < 2147483648) : (iz (n : Int)).toNatClampNeg = n := by rw [← iz_nI]; exact nI_clamp h
theorem iz_in {n N : Nat} (h : n < N) (hN : N ≤ 2147483648) : vp_in (iz (n : Int)) N := by
  rw [← iz_nI]
  intro q
  rcases q with q | q
  · exact nI_pos (n := n) (by omega) q
  · rw [nI_clamp (by omega)] at q; omega
theorem bz_t : bz true = iz 1 := rfl
theorem bz_f : bz false = iz 0 := rfl
theorem bz_ne (b : Bool) : (bz b = 0 ↔ b = false) := by cases b <;> decide +kernel
theorem bz_1 (b : Bool) : (bz b = 0) = (b = false) := propext (bz_ne b)
theorem bz_narrow (b : Bool) : narrow .boolean (.int (bz b)) = .int (bz b) := by cases b <;> decide +kernel
theorem bz_inj {a b : Bool} (h : bz a = bz b) : a = b := by
  cases a <;> cases b <;> first | rfl | exact absurd h (by decide +kernel)
end IZ
