/-! Numbers: small ones as nI, what the walks need of them. -/
theorem nI_one : nI 1 = 1 := rfl
theorem nI_m1 {a : Nat} (h : a < 2 ^ 31) : ¬ nI a = -1 := by
  intro q
  have h1 := congrArg Int32.toInt q
  rw [nI_toInt h] at h1
  have h2 : (-1 : Int32).toInt = -1 := by decide
  omega
theorem rm_nI {a b : Nat} (ha : a < 2 ^ 31) (h0 : 0 < b) (hb : b < 2 ^ 31) : rmI (nI a) (nI b) = nI (a % b) := pk_rem ha h0 hb
theorem nI_addneg {a b : Nat} (h : b ≤ a) : nI a + -(nI b) = nI (a - b) := by
  rw [← pk_sub h]
  exact (Int32.sub_eq_add_neg _ _).symm
theorem mx_nI {a b : Nat} (ha : a < 2 ^ 31) (hb : b < 2 ^ 31) : mxI (nI a) (nI b) = nI (max a b) := by
  unfold mxI
  by_cases h : a < b
  · rw [if_pos ((nI_ltI ha hb).mpr h)]; congr 1; omega
  · rw [if_neg (fun q => h ((nI_ltI ha hb).mp q))]; congr 1; omega
theorem mn_nI {a b : Nat} (ha : a < 2 ^ 31) (hb : b < 2 ^ 31) : mnI (nI a) (nI b) = nI (min a b) := by
  unfold mnI
  by_cases h : b < a
  · rw [if_pos ((nI_ltI hb ha).mpr h)]; congr 1; omega
  · rw [if_neg (fun q => h ((nI_ltI hb ha).mp q))]; congr 1; omega
theorem q_ite {Q : mQ} {S : mS} {I : mI} {L : mL} {R : mR} {c : Prop} [Decidable c] {x y : Int32} : (if c then Q (some (.int x)) S I L R else Q (some (.int y)) S I L R) = Q (some (.int (if c then x else y))) S I L R := by
  by_cases h : c <;> simp [h]
theorem va_upp {α : Type} {f : Nat → α} {k j : Nat} {v : α} : va_up f k v j = if j = k then v else f j := rfl
/-- an index that is good -/
theorem inb {i n : Nat} {S : mS} {a : Nat} (h : ln S a = n) (hi : i < n) (hn : n < 2 ^ 31) : vp_in (nI i) (ln S a) := by rw [h]; exact vp_in_nI hi hn
theorem nI_ne {a b : Nat} (ha : a < 2 ^ 31) (hb : b < 2 ^ 31) (h : a ≠ b) : ¬ nI a = nI b := fun q => h ((nI_eq ha hb).mp q)
theorem vin {i n : Nat} (h : i < n) (hn : n < 2 ^ 31) : vp_in (nI i) n = True := eq_true (vp_in_nI h hn)
theorem ab_nI {a b : Nat} (ha : a < 2 ^ 30) (hb : b < 2 ^ 30) : abI (nI a - nI b) = nI ((a - b) + (b - a)) := by
  unfold abI
  by_cases h : b ≤ a
  · rw [pk_sub h, if_pos (nI_pos' (by omega))]; congr 1; omega
  · have h1 := pk_sneg hb (by omega : a < b)
    rw [if_neg (fun q => absurd (Int32.not_lt.mpr q) (fun z => z h1))]
    have e : (0 : Int32) - (nI a - nI b) = nI b - nI a := by
      rw [Int32.sub_eq_add_neg, Int32.sub_eq_add_neg, Int32.sub_eq_add_neg, Int32.neg_add, Int32.sub_eq_add_neg, Int32.neg_neg, Int32.zero_add, Int32.add_comm]
    rw [e, pk_sub (by omega)]
    congr 1; omega
/-! The abstract state is the model's own row: A j stands in place j. -/
abbrev AS : Type := Nat → Nat
def cI (A : AS) (c k : Nat) : Nat := A (6 + 6 * c + k)
def wI (A : AS) (w k : Nat) : Nat := A (186 + 14 * w + k)
def pI (A : AS) (w p k : Nat) : Nat := A (186 + 14 * w + 8 + 3 * p + k)
def pcl (A : AS) (w p : Nat) : Nat := 6 * pI A w p 1 + pI A w p 0
def wnt (A : AS) (w : Nat) : Nat := 6 * wI A w 5 + wI A w 4
def far (a b : Nat) : Nat := ((a % 6 - b % 6) + (b % 6 - a % 6)) + ((a / 6 - b / 6) + (b / 6 - a / 6))
def hereB (A : AS) (c : Nat) : Bool := decide (c % 6 < A 0) && decide (c / 6 < A 1)
def burd (A : AS) (w : Nat) : Nat := wI A w 0 + wI A w 3
def homeB (A : AS) (w : Nat) : Bool := decide (wI A w 6 ≠ 1) && decide (pcl A w 0 = wnt A w) && decide (pcl A w 1 = wnt A w)
/-- the row a of the heap holds the state A (places 0 to 241, but 5) -/
def rowA (f : Nat → Int32) (A : AS) : Prop := ∀ j, j < 242 → j ≠ 5 → f j = nI (A j)
/-- numbers of the state are small -/
def smallA (A : AS) : Prop := ∀ j, A j < 1000000
