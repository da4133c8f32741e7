/-! The class and the model side by side: what holds between calls. -/
def clL (S : mS) (R : mR) (x : Nat) : Prop := (kd S x = 0) ∧ (R x 8 = some (x + 1)) ∧ (kd S (x + 1) = 102) ∧ (ln S (x + 1) = 900) ∧ (R x 9 = some (x + 2)) ∧ (kd S (x + 2) = 100) ∧ (ln S (x + 2) = 5) ∧ (R x 10 = some (x + 3)) ∧ (kd S (x + 3) = 1) ∧ (R (x + 3) 0 = some (x + 4)) ∧ (kd S (x + 4) = 101) ∧ (ln S (x + 4) = 240) ∧ (R (x + 3) 1 = some (x + 5)) ∧ (kd S (x + 5) = 100) ∧ (ln S (x + 5) = 4) ∧ (R (x + 3) 2 = some (x + 6)) ∧ (kd S (x + 6) = 100) ∧ (ln S (x + 6) = 4) ∧ (R x 11 = some (x + 7)) ∧ (staL S R (x + 7)) ∧ (prgL S R (x + 27)) ∧ (R x 12 = some (x + 33)) ∧ (staL S R (x + 33)) ∧ (prgL S R (x + 53)) ∧ (R x 13 = some (x + 59)) ∧ (kd S (x + 59) = 103) ∧ (ln S (x + 59) = 3) ∧ (∀ k, k < 3 → R (x + 59) k = some (x + 60 + 26 * k)) ∧ (∀ k, k < 3 → staL S R (x + 60 + 26 * k)) ∧ (∀ k, k < 3 → prgL S R (x + 60 + 26 * k + 20)) ∧ (R x 14 = some (x + 138)) ∧ (kd S (x + 138) = 7) ∧ (R (x + 138) 0 = some (x + 139)) ∧ (kd S (x + 139) = 101) ∧ (ln S (x + 139) = 26) ∧ (R x 15 = some (x + 141)) ∧ (kd S (x + 141) = 8) ∧ (R (x + 141) 0 = some (x + 138)) ∧ (R (x + 141) 1 = some (x + 33)) ∧ (R x 16 = some (x + 142)) ∧ (kd S (x + 142) = 9) ∧ (R (x + 142) 0 = some (x + 138)) ∧ (R (x + 142) 1 = some (x + 7)) ∧ (R (x + 142) 2 = some (x + 53)) ∧ (R (x + 142) 3 = some (x + 143)) ∧ (kd S (x + 143) = 100) ∧ (ln S (x + 143) = 3) ∧ (R x 17 = some (x + 144)) ∧ (kd S (x + 144) = 10) ∧ (R (x + 144) 0 = some (x + 7)) ∧ (R (x + 144) 1 = some (x + 8)) ∧ (R (x + 144) 2 = some (x + 15)) ∧ (R (x + 144) 3 = some (x + 148)) ∧ (kd S (x + 148) = 104) ∧ (ln S (x + 148) = 3) ∧ (R (x + 144) 4 = some (x + 145)) ∧ (kd S (x + 145) = 100) ∧ (ln S (x + 145) = 30) ∧ (R (x + 144) 5 = some (x + 146)) ∧ (kd S (x + 146) = 100) ∧ (ln S (x + 146) = 30) ∧ (R (x + 144) 6 = some (x + 147)) ∧ (kd S (x + 147) = 101) ∧ (ln S (x + 147) = 5) ∧ (∀ k, k < 3 → R (x + 148) k = some (x + 149 + 4 * k)) ∧ (∀ k, k < 3 → stnL S R (x + 8) (x + 15) (x + 149 + 4 * k)) ∧ (R x 18 = some (x + 161)) ∧ (kd S (x + 161) = 11) ∧ (R (x + 161) 0 = some (x + 7)) ∧ (R (x + 161) 1 = some (x + 27)) ∧ (R (x + 161) 2 = some (x + 162)) ∧ (kd S (x + 162) = 100) ∧ (ln S (x + 162) = 60) ∧ (∃ q, R 0 1 = some q ∧ kd S q = 201)
theorem clL.k0 {S : mS} {R : mR} {x : Nat} (h : clL S R x) : kd S x = 0 := h.1
theorem clL.rTape {S : mS} {R : mR} {x : Nat} (h : clL S R x) : R x 8 = some (x + 1) := h.2.1
theorem clL.kTape {S : mS} {R : mR} {x : Nat} (h : clL S R x) : kd S (x + 1) = 102 := h.2.2.1
theorem clL.nTape {S : mS} {R : mR} {x : Nat} (h : clL S R x) : ln S (x + 1) = 900 := h.2.2.2.1
theorem clL.rLived {S : mS} {R : mR} {x : Nat} (h : clL S R x) : R x 9 = some (x + 2) := h.2.2.2.2.1
theorem clL.kLived {S : mS} {R : mR} {x : Nat} (h : clL S R x) : kd S (x + 2) = 100 := h.2.2.2.2.2.1
theorem clL.nLived {S : mS} {R : mR} {x : Nat} (h : clL S R x) : ln S (x + 2) = 5 := h.2.2.2.2.2.2.1
theorem clL.rTr {S : mS} {R : mR} {x : Nat} (h : clL S R x) : R x 10 = some (x + 3) := h.2.2.2.2.2.2.2.1
theorem clL.kTr {S : mS} {R : mR} {x : Nat} (h : clL S R x) : kd S (x + 3) = 1 := h.2.2.2.2.2.2.2.2.1
theorem clL.rTrN {S : mS} {R : mR} {x : Nat} (h : clL S R x) : R (x + 3) 0 = some (x + 4) := h.2.2.2.2.2.2.2.2.2.1
theorem clL.kTrN {S : mS} {R : mR} {x : Nat} (h : clL S R x) : kd S (x + 4) = 101 := h.2.2.2.2.2.2.2.2.2.2.1
theorem clL.nTrN {S : mS} {R : mR} {x : Nat} (h : clL S R x) : ln S (x + 4) = 240 := h.2.2.2.2.2.2.2.2.2.2.2.1
theorem clL.rTrS {S : mS} {R : mR} {x : Nat} (h : clL S R x) : R (x + 3) 1 = some (x + 5) := h.2.2.2.2.2.2.2.2.2.2.2.2.1
theorem clL.kTrS {S : mS} {R : mR} {x : Nat} (h : clL S R x) : kd S (x + 5) = 100 := h.2.2.2.2.2.2.2.2.2.2.2.2.2.1
theorem clL.nTrS {S : mS} {R : mR} {x : Nat} (h : clL S R x) : ln S (x + 5) = 4 := h.2.2.2.2.2.2.2.2.2.2.2.2.2.2.1
theorem clL.rTrZ {S : mS} {R : mR} {x : Nat} (h : clL S R x) : R (x + 3) 2 = some (x + 6) := h.2.2.2.2.2.2.2.2.2.2.2.2.2.2.2.1
theorem clL.kTrZ {S : mS} {R : mR} {x : Nat} (h : clL S R x) : kd S (x + 6) = 100 := h.2.2.2.2.2.2.2.2.2.2.2.2.2.2.2.2.1
theorem clL.nTrZ {S : mS} {R : mR} {x : Nat} (h : clL S R x) : ln S (x + 6) = 4 := h.2.2.2.2.2.2.2.2.2.2.2.2.2.2.2.2.2.1
theorem clL.rNow {S : mS} {R : mR} {x : Nat} (h : clL S R x) : R x 11 = some (x + 7) := h.2.2.2.2.2.2.2.2.2.2.2.2.2.2.2.2.2.2.1
theorem clL.sNow {S : mS} {R : mR} {x : Nat} (h : clL S R x) : staL S R (x + 7) := h.2.2.2.2.2.2.2.2.2.2.2.2.2.2.2.2.2.2.2.1
theorem clL.pNow {S : mS} {R : mR} {x : Nat} (h : clL S R x) : prgL S R (x + 27) := h.2.2.2.2.2.2.2.2.2.2.2.2.2.2.2.2.2.2.2.2.1
theorem clL.rScr {S : mS} {R : mR} {x : Nat} (h : clL S R x) : R x 12 = some (x + 33) := h.2.2.2.2.2.2.2.2.2.2.2.2.2.2.2.2.2.2.2.2.2.1
theorem clL.sScr {S : mS} {R : mR} {x : Nat} (h : clL S R x) : staL S R (x + 33) := h.2.2.2.2.2.2.2.2.2.2.2.2.2.2.2.2.2.2.2.2.2.2.1
theorem clL.pScr {S : mS} {R : mR} {x : Nat} (h : clL S R x) : prgL S R (x + 53) := h.2.2.2.2.2.2.2.2.2.2.2.2.2.2.2.2.2.2.2.2.2.2.2.1
theorem clL.rMks {S : mS} {R : mR} {x : Nat} (h : clL S R x) : R x 13 = some (x + 59) := h.2.2.2.2.2.2.2.2.2.2.2.2.2.2.2.2.2.2.2.2.2.2.2.2.1
theorem clL.kMks {S : mS} {R : mR} {x : Nat} (h : clL S R x) : kd S (x + 59) = 103 := h.2.2.2.2.2.2.2.2.2.2.2.2.2.2.2.2.2.2.2.2.2.2.2.2.2.1
theorem clL.nMks {S : mS} {R : mR} {x : Nat} (h : clL S R x) : ln S (x + 59) = 3 := h.2.2.2.2.2.2.2.2.2.2.2.2.2.2.2.2.2.2.2.2.2.2.2.2.2.2.1
theorem clL.rMk {S : mS} {R : mR} {x : Nat} (h : clL S R x) : ∀ k, k < 3 → R (x + 59) k = some (x + 60 + 26 * k) := h.2.2.2.2.2.2.2.2.2.2.2.2.2.2.2.2.2.2.2.2.2.2.2.2.2.2.2.1
theorem clL.sMk {S : mS} {R : mR} {x : Nat} (h : clL S R x) : ∀ k, k < 3 → staL S R (x + 60 + 26 * k) := h.2.2.2.2.2.2.2.2.2.2.2.2.2.2.2.2.2.2.2.2.2.2.2.2.2.2.2.2.1
theorem clL.pMk {S : mS} {R : mR} {x : Nat} (h : clL S R x) : ∀ k, k < 3 → prgL S R (x + 60 + 26 * k + 20) := h.2.2.2.2.2.2.2.2.2.2.2.2.2.2.2.2.2.2.2.2.2.2.2.2.2.2.2.2.2.1
theorem clL.rScn {S : mS} {R : mR} {x : Nat} (h : clL S R x) : R x 14 = some (x + 138) := h.2.2.2.2.2.2.2.2.2.2.2.2.2.2.2.2.2.2.2.2.2.2.2.2.2.2.2.2.2.2.1
theorem clL.kScn {S : mS} {R : mR} {x : Nat} (h : clL S R x) : kd S (x + 138) = 7 := h.2.2.2.2.2.2.2.2.2.2.2.2.2.2.2.2.2.2.2.2.2.2.2.2.2.2.2.2.2.2.2.1
theorem clL.rOwn {S : mS} {R : mR} {x : Nat} (h : clL S R x) : R (x + 138) 0 = some (x + 139) := h.2.2.2.2.2.2.2.2.2.2.2.2.2.2.2.2.2.2.2.2.2.2.2.2.2.2.2.2.2.2.2.2.1
theorem clL.kOwn {S : mS} {R : mR} {x : Nat} (h : clL S R x) : kd S (x + 139) = 101 := h.2.2.2.2.2.2.2.2.2.2.2.2.2.2.2.2.2.2.2.2.2.2.2.2.2.2.2.2.2.2.2.2.2.1
theorem clL.nOwn {S : mS} {R : mR} {x : Nat} (h : clL S R x) : ln S (x + 139) = 26 := h.2.2.2.2.2.2.2.2.2.2.2.2.2.2.2.2.2.2.2.2.2.2.2.2.2.2.2.2.2.2.2.2.2.2.1
theorem clL.rMaR {S : mS} {R : mR} {x : Nat} (h : clL S R x) : R x 15 = some (x + 141) := h.2.2.2.2.2.2.2.2.2.2.2.2.2.2.2.2.2.2.2.2.2.2.2.2.2.2.2.2.2.2.2.2.2.2.2.1
theorem clL.kMaR {S : mS} {R : mR} {x : Nat} (h : clL S R x) : kd S (x + 141) = 8 := h.2.2.2.2.2.2.2.2.2.2.2.2.2.2.2.2.2.2.2.2.2.2.2.2.2.2.2.2.2.2.2.2.2.2.2.2.1
theorem clL.rMa0 {S : mS} {R : mR} {x : Nat} (h : clL S R x) : R (x + 141) 0 = some (x + 138) := h.2.2.2.2.2.2.2.2.2.2.2.2.2.2.2.2.2.2.2.2.2.2.2.2.2.2.2.2.2.2.2.2.2.2.2.2.2.1
theorem clL.rMa1 {S : mS} {R : mR} {x : Nat} (h : clL S R x) : R (x + 141) 1 = some (x + 33) := h.2.2.2.2.2.2.2.2.2.2.2.2.2.2.2.2.2.2.2.2.2.2.2.2.2.2.2.2.2.2.2.2.2.2.2.2.2.2.1
theorem clL.rMoR {S : mS} {R : mR} {x : Nat} (h : clL S R x) : R x 16 = some (x + 142) := h.2.2.2.2.2.2.2.2.2.2.2.2.2.2.2.2.2.2.2.2.2.2.2.2.2.2.2.2.2.2.2.2.2.2.2.2.2.2.2.1
theorem clL.kMoR {S : mS} {R : mR} {x : Nat} (h : clL S R x) : kd S (x + 142) = 9 := h.2.2.2.2.2.2.2.2.2.2.2.2.2.2.2.2.2.2.2.2.2.2.2.2.2.2.2.2.2.2.2.2.2.2.2.2.2.2.2.2.1
theorem clL.rMo0 {S : mS} {R : mR} {x : Nat} (h : clL S R x) : R (x + 142) 0 = some (x + 138) := h.2.2.2.2.2.2.2.2.2.2.2.2.2.2.2.2.2.2.2.2.2.2.2.2.2.2.2.2.2.2.2.2.2.2.2.2.2.2.2.2.2.1
theorem clL.rMo1 {S : mS} {R : mR} {x : Nat} (h : clL S R x) : R (x + 142) 1 = some (x + 7) := h.2.2.2.2.2.2.2.2.2.2.2.2.2.2.2.2.2.2.2.2.2.2.2.2.2.2.2.2.2.2.2.2.2.2.2.2.2.2.2.2.2.2.1
theorem clL.rMo2 {S : mS} {R : mR} {x : Nat} (h : clL S R x) : R (x + 142) 2 = some (x + 53) := h.2.2.2.2.2.2.2.2.2.2.2.2.2.2.2.2.2.2.2.2.2.2.2.2.2.2.2.2.2.2.2.2.2.2.2.2.2.2.2.2.2.2.2.1
theorem clL.rOpn {S : mS} {R : mR} {x : Nat} (h : clL S R x) : R (x + 142) 3 = some (x + 143) := h.2.2.2.2.2.2.2.2.2.2.2.2.2.2.2.2.2.2.2.2.2.2.2.2.2.2.2.2.2.2.2.2.2.2.2.2.2.2.2.2.2.2.2.2.1
theorem clL.kOpn {S : mS} {R : mR} {x : Nat} (h : clL S R x) : kd S (x + 143) = 100 := h.2.2.2.2.2.2.2.2.2.2.2.2.2.2.2.2.2.2.2.2.2.2.2.2.2.2.2.2.2.2.2.2.2.2.2.2.2.2.2.2.2.2.2.2.2.1
theorem clL.nOpn {S : mS} {R : mR} {x : Nat} (h : clL S R x) : ln S (x + 143) = 3 := h.2.2.2.2.2.2.2.2.2.2.2.2.2.2.2.2.2.2.2.2.2.2.2.2.2.2.2.2.2.2.2.2.2.2.2.2.2.2.2.2.2.2.2.2.2.2.1
theorem clL.rSea {S : mS} {R : mR} {x : Nat} (h : clL S R x) : R x 17 = some (x + 144) := h.2.2.2.2.2.2.2.2.2.2.2.2.2.2.2.2.2.2.2.2.2.2.2.2.2.2.2.2.2.2.2.2.2.2.2.2.2.2.2.2.2.2.2.2.2.2.2.1
theorem clL.kSea {S : mS} {R : mR} {x : Nat} (h : clL S R x) : kd S (x + 144) = 10 := h.2.2.2.2.2.2.2.2.2.2.2.2.2.2.2.2.2.2.2.2.2.2.2.2.2.2.2.2.2.2.2.2.2.2.2.2.2.2.2.2.2.2.2.2.2.2.2.2.1
theorem clL.rSe0 {S : mS} {R : mR} {x : Nat} (h : clL S R x) : R (x + 144) 0 = some (x + 7) := h.2.2.2.2.2.2.2.2.2.2.2.2.2.2.2.2.2.2.2.2.2.2.2.2.2.2.2.2.2.2.2.2.2.2.2.2.2.2.2.2.2.2.2.2.2.2.2.2.2.1
theorem clL.rSe1 {S : mS} {R : mR} {x : Nat} (h : clL S R x) : R (x + 144) 1 = some (x + 8) := h.2.2.2.2.2.2.2.2.2.2.2.2.2.2.2.2.2.2.2.2.2.2.2.2.2.2.2.2.2.2.2.2.2.2.2.2.2.2.2.2.2.2.2.2.2.2.2.2.2.2.1
theorem clL.rSe2 {S : mS} {R : mR} {x : Nat} (h : clL S R x) : R (x + 144) 2 = some (x + 15) := h.2.2.2.2.2.2.2.2.2.2.2.2.2.2.2.2.2.2.2.2.2.2.2.2.2.2.2.2.2.2.2.2.2.2.2.2.2.2.2.2.2.2.2.2.2.2.2.2.2.2.2.1
theorem clL.rLev {S : mS} {R : mR} {x : Nat} (h : clL S R x) : R (x + 144) 3 = some (x + 148) := h.2.2.2.2.2.2.2.2.2.2.2.2.2.2.2.2.2.2.2.2.2.2.2.2.2.2.2.2.2.2.2.2.2.2.2.2.2.2.2.2.2.2.2.2.2.2.2.2.2.2.2.2.1
theorem clL.kLev {S : mS} {R : mR} {x : Nat} (h : clL S R x) : kd S (x + 148) = 104 := h.2.2.2.2.2.2.2.2.2.2.2.2.2.2.2.2.2.2.2.2.2.2.2.2.2.2.2.2.2.2.2.2.2.2.2.2.2.2.2.2.2.2.2.2.2.2.2.2.2.2.2.2.2.1
theorem clL.nLev {S : mS} {R : mR} {x : Nat} (h : clL S R x) : ln S (x + 148) = 3 := h.2.2.2.2.2.2.2.2.2.2.2.2.2.2.2.2.2.2.2.2.2.2.2.2.2.2.2.2.2.2.2.2.2.2.2.2.2.2.2.2.2.2.2.2.2.2.2.2.2.2.2.2.2.2.1
theorem clL.rCos {S : mS} {R : mR} {x : Nat} (h : clL S R x) : R (x + 144) 4 = some (x + 145) := h.2.2.2.2.2.2.2.2.2.2.2.2.2.2.2.2.2.2.2.2.2.2.2.2.2.2.2.2.2.2.2.2.2.2.2.2.2.2.2.2.2.2.2.2.2.2.2.2.2.2.2.2.2.2.2.1
theorem clL.kCos {S : mS} {R : mR} {x : Nat} (h : clL S R x) : kd S (x + 145) = 100 := h.2.2.2.2.2.2.2.2.2.2.2.2.2.2.2.2.2.2.2.2.2.2.2.2.2.2.2.2.2.2.2.2.2.2.2.2.2.2.2.2.2.2.2.2.2.2.2.2.2.2.2.2.2.2.2.2.1
theorem clL.nCos {S : mS} {R : mR} {x : Nat} (h : clL S R x) : ln S (x + 145) = 30 := h.2.2.2.2.2.2.2.2.2.2.2.2.2.2.2.2.2.2.2.2.2.2.2.2.2.2.2.2.2.2.2.2.2.2.2.2.2.2.2.2.2.2.2.2.2.2.2.2.2.2.2.2.2.2.2.2.2.1
theorem clL.rNei {S : mS} {R : mR} {x : Nat} (h : clL S R x) : R (x + 144) 5 = some (x + 146) := h.2.2.2.2.2.2.2.2.2.2.2.2.2.2.2.2.2.2.2.2.2.2.2.2.2.2.2.2.2.2.2.2.2.2.2.2.2.2.2.2.2.2.2.2.2.2.2.2.2.2.2.2.2.2.2.2.2.2.1
theorem clL.kNei {S : mS} {R : mR} {x : Nat} (h : clL S R x) : kd S (x + 146) = 100 := h.2.2.2.2.2.2.2.2.2.2.2.2.2.2.2.2.2.2.2.2.2.2.2.2.2.2.2.2.2.2.2.2.2.2.2.2.2.2.2.2.2.2.2.2.2.2.2.2.2.2.2.2.2.2.2.2.2.2.2.1
theorem clL.nNei {S : mS} {R : mR} {x : Nat} (h : clL S R x) : ln S (x + 146) = 30 := h.2.2.2.2.2.2.2.2.2.2.2.2.2.2.2.2.2.2.2.2.2.2.2.2.2.2.2.2.2.2.2.2.2.2.2.2.2.2.2.2.2.2.2.2.2.2.2.2.2.2.2.2.2.2.2.2.2.2.2.2.1
theorem clL.rSum {S : mS} {R : mR} {x : Nat} (h : clL S R x) : R (x + 144) 6 = some (x + 147) := h.2.2.2.2.2.2.2.2.2.2.2.2.2.2.2.2.2.2.2.2.2.2.2.2.2.2.2.2.2.2.2.2.2.2.2.2.2.2.2.2.2.2.2.2.2.2.2.2.2.2.2.2.2.2.2.2.2.2.2.2.2.1
theorem clL.kSum {S : mS} {R : mR} {x : Nat} (h : clL S R x) : kd S (x + 147) = 101 := h.2.2.2.2.2.2.2.2.2.2.2.2.2.2.2.2.2.2.2.2.2.2.2.2.2.2.2.2.2.2.2.2.2.2.2.2.2.2.2.2.2.2.2.2.2.2.2.2.2.2.2.2.2.2.2.2.2.2.2.2.2.2.1
theorem clL.nSum {S : mS} {R : mR} {x : Nat} (h : clL S R x) : ln S (x + 147) = 5 := h.2.2.2.2.2.2.2.2.2.2.2.2.2.2.2.2.2.2.2.2.2.2.2.2.2.2.2.2.2.2.2.2.2.2.2.2.2.2.2.2.2.2.2.2.2.2.2.2.2.2.2.2.2.2.2.2.2.2.2.2.2.2.2.1
theorem clL.rLv {S : mS} {R : mR} {x : Nat} (h : clL S R x) : ∀ k, k < 3 → R (x + 148) k = some (x + 149 + 4 * k) := h.2.2.2.2.2.2.2.2.2.2.2.2.2.2.2.2.2.2.2.2.2.2.2.2.2.2.2.2.2.2.2.2.2.2.2.2.2.2.2.2.2.2.2.2.2.2.2.2.2.2.2.2.2.2.2.2.2.2.2.2.2.2.2.2.1
theorem clL.sLv {S : mS} {R : mR} {x : Nat} (h : clL S R x) : ∀ k, k < 3 → stnL S R (x + 8) (x + 15) (x + 149 + 4 * k) := h.2.2.2.2.2.2.2.2.2.2.2.2.2.2.2.2.2.2.2.2.2.2.2.2.2.2.2.2.2.2.2.2.2.2.2.2.2.2.2.2.2.2.2.2.2.2.2.2.2.2.2.2.2.2.2.2.2.2.2.2.2.2.2.2.2.1
theorem clL.rLiv {S : mS} {R : mR} {x : Nat} (h : clL S R x) : R x 18 = some (x + 161) := h.2.2.2.2.2.2.2.2.2.2.2.2.2.2.2.2.2.2.2.2.2.2.2.2.2.2.2.2.2.2.2.2.2.2.2.2.2.2.2.2.2.2.2.2.2.2.2.2.2.2.2.2.2.2.2.2.2.2.2.2.2.2.2.2.2.2.1
theorem clL.kLiv {S : mS} {R : mR} {x : Nat} (h : clL S R x) : kd S (x + 161) = 11 := h.2.2.2.2.2.2.2.2.2.2.2.2.2.2.2.2.2.2.2.2.2.2.2.2.2.2.2.2.2.2.2.2.2.2.2.2.2.2.2.2.2.2.2.2.2.2.2.2.2.2.2.2.2.2.2.2.2.2.2.2.2.2.2.2.2.2.2.1
theorem clL.rLi0 {S : mS} {R : mR} {x : Nat} (h : clL S R x) : R (x + 161) 0 = some (x + 7) := h.2.2.2.2.2.2.2.2.2.2.2.2.2.2.2.2.2.2.2.2.2.2.2.2.2.2.2.2.2.2.2.2.2.2.2.2.2.2.2.2.2.2.2.2.2.2.2.2.2.2.2.2.2.2.2.2.2.2.2.2.2.2.2.2.2.2.2.2.1
theorem clL.rLi1 {S : mS} {R : mR} {x : Nat} (h : clL S R x) : R (x + 161) 1 = some (x + 27) := h.2.2.2.2.2.2.2.2.2.2.2.2.2.2.2.2.2.2.2.2.2.2.2.2.2.2.2.2.2.2.2.2.2.2.2.2.2.2.2.2.2.2.2.2.2.2.2.2.2.2.2.2.2.2.2.2.2.2.2.2.2.2.2.2.2.2.2.2.2.1
theorem clL.rTim {S : mS} {R : mR} {x : Nat} (h : clL S R x) : R (x + 161) 2 = some (x + 162) := h.2.2.2.2.2.2.2.2.2.2.2.2.2.2.2.2.2.2.2.2.2.2.2.2.2.2.2.2.2.2.2.2.2.2.2.2.2.2.2.2.2.2.2.2.2.2.2.2.2.2.2.2.2.2.2.2.2.2.2.2.2.2.2.2.2.2.2.2.2.2.1
theorem clL.kTim {S : mS} {R : mR} {x : Nat} (h : clL S R x) : kd S (x + 162) = 100 := h.2.2.2.2.2.2.2.2.2.2.2.2.2.2.2.2.2.2.2.2.2.2.2.2.2.2.2.2.2.2.2.2.2.2.2.2.2.2.2.2.2.2.2.2.2.2.2.2.2.2.2.2.2.2.2.2.2.2.2.2.2.2.2.2.2.2.2.2.2.2.2.1
theorem clL.nTim {S : mS} {R : mR} {x : Nat} (h : clL S R x) : ln S (x + 162) = 60 := h.2.2.2.2.2.2.2.2.2.2.2.2.2.2.2.2.2.2.2.2.2.2.2.2.2.2.2.2.2.2.2.2.2.2.2.2.2.2.2.2.2.2.2.2.2.2.2.2.2.2.2.2.2.2.2.2.2.2.2.2.2.2.2.2.2.2.2.2.2.2.2.2.1
theorem clL.rKey {S : mS} {R : mR} {x : Nat} (h : clL S R x) : ∃ q, R 0 1 = some q ∧ kd S q = 201 := h.2.2.2.2.2.2.2.2.2.2.2.2.2.2.2.2.2.2.2.2.2.2.2.2.2.2.2.2.2.2.2.2.2.2.2.2.2.2.2.2.2.2.2.2.2.2.2.2.2.2.2.2.2.2.2.2.2.2.2.2.2.2.2.2.2.2.2.2.2.2.2.2.2
theorem clL.mk {S : mS} {R : mR} {x : Nat} (h_k0 : kd S x = 0) (h_rTape : R x 8 = some (x + 1)) (h_kTape : kd S (x + 1) = 102) (h_nTape : ln S (x + 1) = 900) (h_rLived : R x 9 = some (x + 2)) (h_kLived : kd S (x + 2) = 100) (h_nLived : ln S (x + 2) = 5) (h_rTr : R x 10 = some (x + 3)) (h_kTr : kd S (x + 3) = 1) (h_rTrN : R (x + 3) 0 = some (x + 4)) (h_kTrN : kd S (x + 4) = 101) (h_nTrN : ln S (x + 4) = 240) (h_rTrS : R (x + 3) 1 = some (x + 5)) (h_kTrS : kd S (x + 5) = 100) (h_nTrS : ln S (x + 5) = 4) (h_rTrZ : R (x + 3) 2 = some (x + 6)) (h_kTrZ : kd S (x + 6) = 100) (h_nTrZ : ln S (x + 6) = 4) (h_rNow : R x 11 = some (x + 7)) (h_sNow : staL S R (x + 7)) (h_pNow : prgL S R (x + 27)) (h_rScr : R x 12 = some (x + 33)) (h_sScr : staL S R (x + 33)) (h_pScr : prgL S R (x + 53)) (h_rMks : R x 13 = some (x + 59)) (h_kMks : kd S (x + 59) = 103) (h_nMks : ln S (x + 59) = 3) (h_rMk : ∀ k, k < 3 → R (x + 59) k = some (x + 60 + 26 * k)) (h_sMk : ∀ k, k < 3 → staL S R (x + 60 + 26 * k)) (h_pMk : ∀ k, k < 3 → prgL S R (x + 60 + 26 * k + 20)) (h_rScn : R x 14 = some (x + 138)) (h_kScn : kd S (x + 138) = 7) (h_rOwn : R (x + 138) 0 = some (x + 139)) (h_kOwn : kd S (x + 139) = 101) (h_nOwn : ln S (x + 139) = 26) (h_rMaR : R x 15 = some (x + 141)) (h_kMaR : kd S (x + 141) = 8) (h_rMa0 : R (x + 141) 0 = some (x + 138)) (h_rMa1 : R (x + 141) 1 = some (x + 33)) (h_rMoR : R x 16 = some (x + 142)) (h_kMoR : kd S (x + 142) = 9) (h_rMo0 : R (x + 142) 0 = some (x + 138)) (h_rMo1 : R (x + 142) 1 = some (x + 7)) (h_rMo2 : R (x + 142) 2 = some (x + 53)) (h_rOpn : R (x + 142) 3 = some (x + 143)) (h_kOpn : kd S (x + 143) = 100) (h_nOpn : ln S (x + 143) = 3) (h_rSea : R x 17 = some (x + 144)) (h_kSea : kd S (x + 144) = 10) (h_rSe0 : R (x + 144) 0 = some (x + 7)) (h_rSe1 : R (x + 144) 1 = some (x + 8)) (h_rSe2 : R (x + 144) 2 = some (x + 15)) (h_rLev : R (x + 144) 3 = some (x + 148)) (h_kLev : kd S (x + 148) = 104) (h_nLev : ln S (x + 148) = 3) (h_rCos : R (x + 144) 4 = some (x + 145)) (h_kCos : kd S (x + 145) = 100) (h_nCos : ln S (x + 145) = 30) (h_rNei : R (x + 144) 5 = some (x + 146)) (h_kNei : kd S (x + 146) = 100) (h_nNei : ln S (x + 146) = 30) (h_rSum : R (x + 144) 6 = some (x + 147)) (h_kSum : kd S (x + 147) = 101) (h_nSum : ln S (x + 147) = 5) (h_rLv : ∀ k, k < 3 → R (x + 148) k = some (x + 149 + 4 * k)) (h_sLv : ∀ k, k < 3 → stnL S R (x + 8) (x + 15) (x + 149 + 4 * k)) (h_rLiv : R x 18 = some (x + 161)) (h_kLiv : kd S (x + 161) = 11) (h_rLi0 : R (x + 161) 0 = some (x + 7)) (h_rLi1 : R (x + 161) 1 = some (x + 27)) (h_rTim : R (x + 161) 2 = some (x + 162)) (h_kTim : kd S (x + 162) = 100) (h_nTim : ln S (x + 162) = 60) (h_rKey : ∃ q, R 0 1 = some q ∧ kd S q = 201) : clL S R x := ⟨h_k0, h_rTape, h_kTape, h_nTape, h_rLived, h_kLived, h_nLived, h_rTr, h_kTr, h_rTrN, h_kTrN, h_nTrN, h_rTrS, h_kTrS, h_nTrS, h_rTrZ, h_kTrZ, h_nTrZ, h_rNow, h_sNow, h_pNow, h_rScr, h_sScr, h_pScr, h_rMks, h_kMks, h_nMks, h_rMk, h_sMk, h_pMk, h_rScn, h_kScn, h_rOwn, h_kOwn, h_nOwn, h_rMaR, h_kMaR, h_rMa0, h_rMa1, h_rMoR, h_kMoR, h_rMo0, h_rMo1, h_rMo2, h_rOpn, h_kOpn, h_nOpn, h_rSea, h_kSea, h_rSe0, h_rSe1, h_rSe2, h_rLev, h_kLev, h_nLev, h_rCos, h_kCos, h_nCos, h_rNei, h_kNei, h_nNei, h_rSum, h_kSum, h_nSum, h_rLv, h_sLv, h_rLiv, h_kLiv, h_rLi0, h_rLi1, h_rTim, h_kTim, h_nTim, h_rKey⟩
/-- a word's letters, as numbers 1 to 26, and its two codes -/
def cd27 : List Nat → Nat := List.foldl (fun v c => v * 27 + c) 0
def cd256 : List Nat → Nat := List.foldl (fun v c => v * 256 + (c + 96)) 0
def wordOK (u : List Nat) : Prop := 1 ≤ u.length ∧ u.length ≤ 8 ∧ ∀ c, c ∈ u → 1 ≤ c ∧ c ≤ 26
def NamR (A : AS) (a q m : Nat) (L : mL) : Prop := ∀ w, w < A 2 → ∃ u, wordOK u ∧ L (a + 9) w = lN (cd27 u) ∧ L (m + 2) (q + w) = lN (cd256 u)
/-- one step of the mornings: the class's row against the model's record -/
def actR (A : AS) (g : Nat → Nat) (n k : Nat) (c f s t p : Nat) : Prop :=
  (g 0 = 16 ∧ c = 16 ∧ f = g 1 ∧ s = g 5 ∧ t = g 3 * A 0 + g 2 ∧ g 1 < A 2 ∧ g 5 < 2 ∧ g 2 < A 0 ∧ g 3 < A 1)
  ∨ (g 0 = 17 ∧ c = 17 ∧ f = g 1 ∧ 1 ≤ g 1 ∧ g 1 ≤ 20)
  ∨ (g 0 = 18 ∧ c = 18 ∧ f = g 1 ∧ s = g 2 ∧ t = g 3 ∧ g 1 < A 2 ∧ g 2 < A 2 ∧ 1 ≤ g 3 ∧ g 3 ≤ 20)
  ∨ (g 0 = 19 ∧ c = 19 ∧ f = g 1 ∧ g 1 < A 2)
  ∨ (g 0 = 2024 ∧ c = 21 ∧ f = g 1 ∧ g 1 < A 2 ∧ p = g 4 ∧ k < p ∧ p < n)
  ∨ (g 0 = 2025 ∧ c = 22 ∧ f = g 1 ∧ g 1 < A 2 ∧ p = g 4 ∧ k < p ∧ p < n)
  ∨ (g 0 = 2006 ∧ c = 2 ∧ f = g 2 * A 0 + g 1 ∧ s = g 5 ∧ t = g 3 ∧ g 1 < A 0 ∧ g 2 < A 1 ∧ g 3 ≤ 99 ∧ (g 5 = 60 ∨ g 5 = 61 ∨ g 5 = 62) ∧ p = g 4 ∧ k < p ∧ p < n)
  ∨ (g 0 = 21 ∧ c = 23 ∧ f = g 1 ∧ 1 ≤ g 1 ∧ g 1 ≤ 99 ∧ p = g 4 ∧ k < p ∧ p < n)
  ∨ (g 0 = 22 ∧ c = 24 ∧ p = g 4 ∧ p < k)
  ∨ (g 0 = 23 ∧ c = 25)
def PrgR (A : AS) (a : Nat) (f : Nat → Int32) (I : mI) : Prop :=
  (I (a + 20) 0 = nI 0 ∧ f 5 = -1) ∨ (I (a + 20) 0 = nI 1 ∧ ∃ (n : Nat) (g r : Nat → Nat → Nat), n ≤ 60 ∧ f 5 = nI n ∧ I (a + 20) 2 = nI n
    ∧ (∀ k, k < n → ∀ j, j < 6 → f (242 + 6 * k + j) = nI (g k j) ∧ g k j < 10000)
    ∧ (∀ k, k < n → I (a + 21) k = nI (r k 0) ∧ I (a + 22) k = nI (r k 1) ∧ I (a + 23) k = nI (r k 2) ∧ I (a + 24) k = nI (r k 3) ∧ I (a + 25) k = nI (r k 4))
    ∧ (∀ k, k < n → actR A (g k) n k (r k 0) (r k 1) (r k 2) (r k 3) (r k 4))
    ∧ (∀ k, k < n → g k 0 = 22 → g (g k 4) 4 = k ∧ (g (g k 4) 0 = 21 ∨ 2000 ≤ g (g k 4) 0))
    ∧ (∀ k, k < n → g k 0 = 21 ∨ 2000 ≤ g k 0 → g (g k 4) 4 = k ∧ g (g k 4) 0 = 22)
    ∧ (∀ k j, k < n → j < n → (g k 0 = 21 ∨ 2000 ≤ g k 0) → (g j 0 = 21 ∨ 2000 ≤ g j 0) → k < j → j < g k 4 → g j 4 < g k 4))
def ownN : Nat → Nat := fun i => [6942059, 79, 382253, 385094, 82528, 7017481, 63030, 298288, 125158, 330800670, 47, 555, 332864552, 9665171, 247516, 247162, 388708, 10492150, 158575, 1132, 458690, 86869976, 168755, 247552, 4027, 388978].getD i 0
def OwnR (r : Nat → Int64) : Prop := ∀ i, i < 26 → r i = lN (ownN i)
def slotA (A : AS) (a o q m : Nat) (I : mI) (L : mL) : Prop := (WFA A) ∧ (A 4 ≤ 9999) ∧ (∀ w, w < A 2 → wI A w 7 ≤ A 4) ∧ (∀ w, w < A 2 → far (pcl A w 0) (pcl A w 1) ≤ wI A w 1) ∧ (rowA (fun j => I (m + 1) (o + j)) A) ∧ (StaR A a I) ∧ (NamR A a q m L) ∧ (PrgR A a (fun j => I (m + 1) (o + j)) I)
theorem slotA.w {A : AS} {a o q m : Nat} {I : mI} {L : mL} (h : slotA A a o q m I L) : WFA A := h.1
theorem slotA.t {A : AS} {a o q m : Nat} {I : mI} {L : mL} (h : slotA A a o q m I L) : A 4 ≤ 9999 := h.2.1
theorem slotA.s7 {A : AS} {a o q m : Nat} {I : mI} {L : mL} (h : slotA A a o q m I L) : ∀ w, w < A 2 → wI A w 7 ≤ A 4 := h.2.2.1
theorem slotA.pd {A : AS} {a o q m : Nat} {I : mI} {L : mL} (h : slotA A a o q m I L) : ∀ w, w < A 2 → far (pcl A w 0) (pcl A w 1) ≤ wI A w 1 := h.2.2.2.1
theorem slotA.r {A : AS} {a o q m : Nat} {I : mI} {L : mL} (h : slotA A a o q m I L) : rowA (fun j => I (m + 1) (o + j)) A := h.2.2.2.2.1
theorem slotA.sr {A : AS} {a o q m : Nat} {I : mI} {L : mL} (h : slotA A a o q m I L) : StaR A a I := h.2.2.2.2.2.1
theorem slotA.nm {A : AS} {a o q m : Nat} {I : mI} {L : mL} (h : slotA A a o q m I L) : NamR A a q m L := h.2.2.2.2.2.2.1
theorem slotA.pg {A : AS} {a o q m : Nat} {I : mI} {L : mL} (h : slotA A a o q m I L) : PrgR A a (fun j => I (m + 1) (o + j)) I := h.2.2.2.2.2.2.2
theorem slotA.mk {A : AS} {a o q m : Nat} {I : mI} {L : mL} (h_w : WFA A) (h_t : A 4 ≤ 9999) (h_s7 : ∀ w, w < A 2 → wI A w 7 ≤ A 4) (h_pd : ∀ w, w < A 2 → far (pcl A w 0) (pcl A w 1) ≤ wI A w 1) (h_r : rowA (fun j => I (m + 1) (o + j)) A) (h_sr : StaR A a I) (h_nm : NamR A a q m L) (h_pg : PrgR A a (fun j => I (m + 1) (o + j)) I) : slotA A a o q m I L := ⟨h_w, h_t, h_s7, h_pd, h_r, h_sr, h_nm, h_pg⟩
def INVA (A : AS) (x sc : Nat) (s0 : Nat → Int32) (S : mS) (I : mI) (L : mL) (R : mR) : Prop := (clL S R x) ∧ (MdL S R (x + 163)) ∧ (sc < x) ∧ (I sc = s0) ∧ (∃ v, v ≤ 9 ∧ I x 0 = nI v ∧ I (x + 163) 2 = nI v) ∧ (L x 1 = L (x + 163) 3) ∧ (L x 2 = L (x + 163) 4) ∧ (∃ n, n ≤ 900 ∧ I x 3 = nI n ∧ I (x + 163) 10 = nI n ∧ ∀ j, j < n → I (x + 1) j = I (x + 163 + 6) j ∧ (I (x + 1) j).toInt8.toInt32 = I (x + 1) j) ∧ (I x 4 = I (x + 163) 16) ∧ (I x 5 = I (x + 163) 17) ∧ ((I x 7 = nI 0 ∧ I (x + 163) 44 = nI 0) ∨ (I x 7 = nI 1 ∧ I (x + 163) 44 = nI 1 ∧ ∀ j, j < 5 → I (x + 2) j = I (x + 163 + 20) j)) ∧ (∀ t, t < 4 → (∃ v, v < 4 ∧ I (x + 5) t = nI v ∧ I (x + 163 + 3) t = nI v) ∧ ((I (x + 6) t = -1 ∧ I (x + 163 + 4) t = -1) ∨ ∃ n, n ≤ 60 ∧ I (x + 6) t = nI n ∧ I (x + 163 + 4) t = nI n ∧ ∀ j, j < n → L (x + 4) (60 * t + j) = L (x + 163 + 5) (60 * t + j))) ∧ (slotA A (x + 7) 0 0 (x + 163) I L) ∧ (OwnR (L (x + 139))) ∧ (∃ n, n ≤ 3 ∧ I x 6 = nI n ∧ I (x + 163) 45 = nI n ∧ ∀ k, k < n → ∃ B, slotA B (x + 60 + 26 * k) (608 * (k + 1)) (4 * (k + 1)) (x + 163) I L)
theorem INVA.c {A : AS} {x sc : Nat} {s0 : Nat → Int32} {S : mS} {I : mI} {L : mL} {R : mR} (h : INVA A x sc s0 S I L R) : clL S R x := h.1
theorem INVA.m {A : AS} {x sc : Nat} {s0 : Nat → Int32} {S : mS} {I : mI} {L : mL} {R : mR} (h : INVA A x sc s0 S I L R) : MdL S R (x + 163) := h.2.1
theorem INVA.scx {A : AS} {x sc : Nat} {s0 : Nat → Int32} {S : mS} {I : mI} {L : mL} {R : mR} (h : INVA A x sc s0 S I L R) : sc < x := h.2.2.1
theorem INVA.scr {A : AS} {x sc : Nat} {s0 : Nat → Int32} {S : mS} {I : mI} {L : mL} {R : mR} (h : INVA A x sc s0 S I L R) : I sc = s0 := h.2.2.2.1
theorem INVA.st {A : AS} {x sc : Nat} {s0 : Nat → Int32} {S : mS} {I : mI} {L : mL} {R : mR} (h : INVA A x sc s0 S I L R) : ∃ v, v ≤ 9 ∧ I x 0 = nI v ∧ I (x + 163) 2 = nI v := h.2.2.2.2.1
theorem INVA.top {A : AS} {x sc : Nat} {s0 : Nat → Int32} {S : mS} {I : mI} {L : mL} {R : mR} (h : INVA A x sc s0 S I L R) : L x 1 = L (x + 163) 3 := h.2.2.2.2.2.1
theorem INVA.bot {A : AS} {x sc : Nat} {s0 : Nat → Int32} {S : mS} {I : mI} {L : mL} {R : mR} (h : INVA A x sc s0 S I L R) : L x 2 = L (x + 163) 4 := h.2.2.2.2.2.2.1
theorem INVA.tl {A : AS} {x sc : Nat} {s0 : Nat → Int32} {S : mS} {I : mI} {L : mL} {R : mR} (h : INVA A x sc s0 S I L R) : ∃ n, n ≤ 900 ∧ I x 3 = nI n ∧ I (x + 163) 10 = nI n ∧ ∀ j, j < n → I (x + 1) j = I (x + 163 + 6) j ∧ (I (x + 1) j).toInt8.toInt32 = I (x + 1) j := h.2.2.2.2.2.2.2.1
theorem INVA.fk {A : AS} {x sc : Nat} {s0 : Nat → Int32} {S : mS} {I : mI} {L : mL} {R : mR} (h : INVA A x sc s0 S I L R) : I x 4 = I (x + 163) 16 := h.2.2.2.2.2.2.2.2.1
theorem INVA.fp {A : AS} {x sc : Nat} {s0 : Nat → Int32} {S : mS} {I : mI} {L : mL} {R : mR} (h : INVA A x sc s0 S I L R) : I x 5 = I (x + 163) 17 := h.2.2.2.2.2.2.2.2.2.1
theorem INVA.lv {A : AS} {x sc : Nat} {s0 : Nat → Int32} {S : mS} {I : mI} {L : mL} {R : mR} (h : INVA A x sc s0 S I L R) : (I x 7 = nI 0 ∧ I (x + 163) 44 = nI 0) ∨ (I x 7 = nI 1 ∧ I (x + 163) 44 = nI 1 ∧ ∀ j, j < 5 → I (x + 2) j = I (x + 163 + 20) j) := h.2.2.2.2.2.2.2.2.2.2.1
theorem INVA.tr {A : AS} {x sc : Nat} {s0 : Nat → Int32} {S : mS} {I : mI} {L : mL} {R : mR} (h : INVA A x sc s0 S I L R) : ∀ t, t < 4 → (∃ v, v < 4 ∧ I (x + 5) t = nI v ∧ I (x + 163 + 3) t = nI v) ∧ ((I (x + 6) t = -1 ∧ I (x + 163 + 4) t = -1) ∨ ∃ n, n ≤ 60 ∧ I (x + 6) t = nI n ∧ I (x + 163 + 4) t = nI n ∧ ∀ j, j < n → L (x + 4) (60 * t + j) = L (x + 163 + 5) (60 * t + j)) := h.2.2.2.2.2.2.2.2.2.2.2.1
theorem INVA.now {A : AS} {x sc : Nat} {s0 : Nat → Int32} {S : mS} {I : mI} {L : mL} {R : mR} (h : INVA A x sc s0 S I L R) : slotA A (x + 7) 0 0 (x + 163) I L := h.2.2.2.2.2.2.2.2.2.2.2.2.1
theorem INVA.own {A : AS} {x sc : Nat} {s0 : Nat → Int32} {S : mS} {I : mI} {L : mL} {R : mR} (h : INVA A x sc s0 S I L R) : OwnR (L (x + 139)) := h.2.2.2.2.2.2.2.2.2.2.2.2.2.1
theorem INVA.mks {A : AS} {x sc : Nat} {s0 : Nat → Int32} {S : mS} {I : mI} {L : mL} {R : mR} (h : INVA A x sc s0 S I L R) : ∃ n, n ≤ 3 ∧ I x 6 = nI n ∧ I (x + 163) 45 = nI n ∧ ∀ k, k < n → ∃ B, slotA B (x + 60 + 26 * k) (608 * (k + 1)) (4 * (k + 1)) (x + 163) I L := h.2.2.2.2.2.2.2.2.2.2.2.2.2.2
theorem INVA.mk {A : AS} {x sc : Nat} {s0 : Nat → Int32} {S : mS} {I : mI} {L : mL} {R : mR} (h_c : clL S R x) (h_m : MdL S R (x + 163)) (h_scx : sc < x) (h_scr : I sc = s0) (h_st : ∃ v, v ≤ 9 ∧ I x 0 = nI v ∧ I (x + 163) 2 = nI v) (h_top : L x 1 = L (x + 163) 3) (h_bot : L x 2 = L (x + 163) 4) (h_tl : ∃ n, n ≤ 900 ∧ I x 3 = nI n ∧ I (x + 163) 10 = nI n ∧ ∀ j, j < n → I (x + 1) j = I (x + 163 + 6) j ∧ (I (x + 1) j).toInt8.toInt32 = I (x + 1) j) (h_fk : I x 4 = I (x + 163) 16) (h_fp : I x 5 = I (x + 163) 17) (h_lv : (I x 7 = nI 0 ∧ I (x + 163) 44 = nI 0) ∨ (I x 7 = nI 1 ∧ I (x + 163) 44 = nI 1 ∧ ∀ j, j < 5 → I (x + 2) j = I (x + 163 + 20) j)) (h_tr : ∀ t, t < 4 → (∃ v, v < 4 ∧ I (x + 5) t = nI v ∧ I (x + 163 + 3) t = nI v) ∧ ((I (x + 6) t = -1 ∧ I (x + 163 + 4) t = -1) ∨ ∃ n, n ≤ 60 ∧ I (x + 6) t = nI n ∧ I (x + 163 + 4) t = nI n ∧ ∀ j, j < n → L (x + 4) (60 * t + j) = L (x + 163 + 5) (60 * t + j))) (h_now : slotA A (x + 7) 0 0 (x + 163) I L) (h_own : OwnR (L (x + 139))) (h_mks : ∃ n, n ≤ 3 ∧ I x 6 = nI n ∧ I (x + 163) 45 = nI n ∧ ∀ k, k < n → ∃ B, slotA B (x + 60 + 26 * k) (608 * (k + 1)) (4 * (k + 1)) (x + 163) I L) : INVA A x sc s0 S I L R := ⟨h_c, h_m, h_scx, h_scr, h_st, h_top, h_bot, h_tl, h_fk, h_fp, h_lv, h_tr, h_now, h_own, h_mks⟩
def INV (x sc : Nat) (s0 : Nat → Int32) (S : mS) (I : mI) (L : mL) (R : mR) : Prop := ∃ A, INVA A x sc s0 S I L R
theorem INVA.rA {A : AS} {x sc : Nat} {s0 : Nat → Int32} {S : mS} {I : mI} {L : mL} {R : mR} (h : INVA A x sc s0 S I L R) : rowA (I (x + 163 + 1)) A := by
  have := h.now.r
  intro j h1 h2
  have := this j h1 h2
  simp only [Nat.zero_add] at this
  exact this
theorem slot_I {A : AS} {a o q m : Nat} {I I2 : mI} {L : mL} (h : slotA A a o q m I L) (h1 : I2 (m + 1) = I (m + 1)) (h2 : ∀ b, a < b → b ≤ a + 25 → I2 b = I b) : slotA A a o q m I2 L := by
  refine slotA.mk h.w h.t h.s7 h.pd ?_ ?_ h.nm ?_
  · rw [h1]; exact h.r
  · refine StaR.mk ?_ ?_ ?_ ?_
    · exact LandR_I (fun i hi => h2 _ (by omega) (by omega)) h.sr.l
    · exact FolkR_I (fun i hi => h2 _ (by omega) (by omega)) h.sr.f
    · intro w hw; rw [h2 _ (by omega) (by omega)]; exact h.sr.p w hw
    · have := h.sr.s
      refine StnR.mk ?_ ?_ ?_ ?_ ?_
      · rw [h2 _ (by omega) (by omega)]; exact this.fl
      · rw [h2 _ (by omega) (by omega)]; exact this.mo
      · rw [h2 _ (by omega) (by omega)]; exact this.sk
      · rw [h2 _ (by omega) (by omega)]; exact this.at_
      · rw [h2 _ (by omega) (by omega)]; exact this.su
  · have := h.pg
    unfold PrgR at this ⊢
    rw [h1, h2 _ (by omega) (by omega), h2 _ (by omega) (by omega), h2 _ (by omega) (by omega), h2 _ (by omega) (by omega), h2 _ (by omega) (by omega), h2 _ (by omega) (by omega)]
    exact this
/-- the statuses are set, and nothing else -/
def stI (I : mI) (x v : Nat) : mI := va_up (va_up I x (va_up (I x) 0 (nI v))) (x + 163) (va_up (I (x + 163)) 2 (nI v))
theorem stI_x {I : mI} {x v j : Nat} (h : j ≠ 0) : stI I x v x j = I x j := by
  unfold stI
  rw [va_up_ne _ _ (by omega), va_up_self, va_up_ne _ _ h]
theorem stI_m {I : mI} {x v j : Nat} (h : j ≠ 2) : stI I x v (x + 163) j = I (x + 163) j := by
  unfold stI
  rw [va_up_self, va_up_ne _ _ h]
theorem stI_o {I : mI} {x v b : Nat} (h : b ≠ x) (h2 : b ≠ x + 163) : stI I x v b = I b := by
  unfold stI
  rw [va_up_ne _ _ h2, va_up_ne _ _ h]
theorem inv_st {A : AS} {x sc v : Nat} {s0 : Nat → Int32} {S : mS} {I : mI} {L : mL} {R : mR} (h : INVA A x sc s0 S I L R) (hv : v ≤ 9) : INV x sc s0 S (stI I x v) L R := by
  have hsc := h.scx
  have sl : ∀ {B : AS} {a o q : Nat}, x < a → a + 25 < x + 163 → slotA B a o q (x + 163) I L → slotA B a o q (x + 163) (stI I x v) L := by
    intro B a o q h1 h2 hs
    exact slot_I hs (stI_o (by omega) (by omega)) (fun b hb hb2 => stI_o (by omega) (by omega))
  refine ⟨A, INVA.mk h.c h.m h.scx ?_ ?_ h.top h.bot ?_ ?_ ?_ ?_ ?_ ?_ h.own ?_⟩
  · rw [stI_o (by omega) (by omega)]; exact h.scr
  · refine ⟨v, hv, ?_, ?_⟩
    · unfold stI; rw [va_up_ne _ _ (by omega), va_up_self, va_up_self]
    · unfold stI; rw [va_up_self, va_up_self]
  · rw [stI_x (by omega), stI_m (by omega), stI_o (by omega) (by omega), stI_o (by omega) (by omega)]; exact h.tl
  · rw [stI_x (by omega), stI_m (by omega)]; exact h.fk
  · rw [stI_x (by omega), stI_m (by omega)]; exact h.fp
  · rw [stI_x (by omega), stI_m (by omega), stI_o (by omega) (by omega), stI_o (by omega) (by omega)]; exact h.lv
  · rw [stI_o (by omega) (by omega), stI_o (by omega) (by omega), stI_o (by omega) (by omega), stI_o (by omega) (by omega)]; exact h.tr
  · exact sl (by omega) (by omega) h.now
  · rw [stI_x (by omega), stI_m (by omega)]
    obtain ⟨n, h1, h2, h3, h4⟩ := h.mks
    exact ⟨n, h1, h2, h3, fun k hk => by obtain ⟨B, hB⟩ := h4 k hk; exact ⟨B, sl (by omega) (by omega) hB⟩⟩
/-- what a call of the class and then of the model must come to -/
def Sim (kc km : Nat) (as : List Value) : Prop := ∀ (d x sc : Nat) (s0 : Nat → Int32) (S : mS) (I : mI) (L : mL) (R : mR), INV x sc s0 S I L R → CA (d + 40) kc (.ref x :: as) S I L R (fun v S1 I1 L1 R1 => S1 = S ∧ I1 sc = s0 ∧ CA (d + 40) km (.ref (x + 163) :: as) S1 I1 L1 R1 (fun w S2 I2 L2 R2 => w = v ∧ S2 = S ∧ INV x sc s0 S I2 L2 R2))
