/-! ===== 99.c.xlaw1: the law's world: the answer's row, the class's cells, the reference's ===== -/
abbrev LSw : Type := (XS × (Nat → Int64)) × MS
abbrev wXu (G : XG) (u : XA) : XS → va_W := wX G u.1 u.2.1 u.2.2.1 u.2.2.2.1 u.2.2.2.2.1 u.2.2.2.2.2.1 u.2.2.2.2.2.2.1 u.2.2.2.2.2.2.2.1 u.2.2.2.2.2.2.2.2.1 u.2.2.2.2.2.2.2.2.2.1 u.2.2.2.2.2.2.2.2.2.2.1 u.2.2.2.2.2.2.2.2.2.2.2.1 u.2.2.2.2.2.2.2.2.2.2.2.2.1 u.2.2.2.2.2.2.2.2.2.2.2.2.2.1 u.2.2.2.2.2.2.2.2.2.2.2.2.2.2.1 u.2.2.2.2.2.2.2.2.2.2.2.2.2.2.2.1 u.2.2.2.2.2.2.2.2.2.2.2.2.2.2.2.2.1
abbrev dXu (u : XA) : Nat → Prop := dX u.1 u.2.1 u.2.2.1 u.2.2.2.1 u.2.2.2.2.1 u.2.2.2.2.2.1 u.2.2.2.2.2.2.1 u.2.2.2.2.2.2.2.1 u.2.2.2.2.2.2.2.2.1 u.2.2.2.2.2.2.2.2.2.1 u.2.2.2.2.2.2.2.2.2.2.1 u.2.2.2.2.2.2.2.2.2.2.2.1 u.2.2.2.2.2.2.2.2.2.2.2.2.1 u.2.2.2.2.2.2.2.2.2.2.2.2.2.1 u.2.2.2.2.2.2.2.2.2.2.2.2.2.2.1 u.2.2.2.2.2.2.2.2.2.2.2.2.2.2.2.1 u.2.2.2.2.2.2.2.2.2.2.2.2.2.2.2.2.1
section LawY
variable {G : XG} {u : XA} {cO : ClassId} {aO : Nat} {M : MG} {A : Nat → Nat}
def wLw (G : XG) (u : XA) (cO : ClassId) (aO : Nat) (M : MG) (A : Nat → Nat) : LSw → va_W := fJw (fOw (wXu G u) cO aO) (mW M A)
def dLw (u : XA) (aO : Nat) (A : Nat → Nat) : Nat → Prop := dJw (dOw aO (dXu u)) (mAd A)
def tLw (G : XG) (cO : ClassId) (M : MG) : List (ClassId × FieldType) := (cO, .long) :: (xT G ++ mT M)
theorem lw_ax : fAx (wLw G u cO aO M A) (dLw u aO A) := fJw_ax (fOw_ax xX) mW_ax
theorem lw_w (y : MS) : fL (wLw G u cO aO M A) (fOw (wXu G u) cO aO) (fun x => (x, y)) (mW M A y) (dLw u aO A) (dOw aO (dXu u)) := fJw_l (fOw_ax xX) mW_ax y
theorem lw_x (f : Nat → Int64) (y : MS) : fL (wLw G u cO aO M A) (wXu G u) (fun x => ((x, f), y)) ([(aO, .inl (cO, 1, .inr (.inl f)))] ++ mW M A y) (dLw u aO A) (dXu u) := (lw_w y).thru (fOw_le xX f)
theorem lw_m (x : XS × (Nat → Int64)) : fL (wLw G u cO aO M A) (mW M A) (fun y => (x, y)) (fOw (wXu G u) cO aO x) (dLw u aO A) (mAd A) := fJw_r (fOw_ax xX) mW_ax x
theorem tLw_w : ([0, 1, 2] : List Nat).filterMap (fun i => (tLw G cO M)[i]?) = (cO, .long) :: xT G := rfl
theorem tLw_x : ([1, 2] : List Nat).filterMap (fun i => (tLw G cO M)[i]?) = xT G := rfl
theorem tLw_m : ([3, 4, 5] : List Nat).filterMap (fun i => (tLw G cO M)[i]?) = mT M := rfl
end LawY
