/-! ===== 99.c.xlaw1: the law's world whole: the script's row before it ===== -/
section LawX
variable {S : Type} {F : S → va_W} {adr : Nat → Prop}
def fSw (cI : ClassId) (aS n : Nat) (scr : Nat → Int32) (F : S → va_W) : S → va_W := fun u => (aS, .inl (cI, n, .inl scr)) :: F u
theorem fSw_ax {cI : ClassId} {aS n : Nat} {scr : Nat → Int32} (h : fAx F adr) : fAx (fSw cI aS n scr F) (dOw aS adr) := fun u q => by
  unfold fSw dOw
  rw [List.map_cons, List.mem_cons, h u q]
theorem fSw_le {cI : ClassId} {aS n : Nat} {scr : Nat → Int32} (h : fAx F adr) : fL (fSw cI aS n scr F) F (fun x => x) [(aS, .inl (cI, n, .inl scr))] (dOw aS adr) adr :=
  ⟨fun x => (List.perm_append_singleton _ (F x)).symm, fSw_ax h, h⟩
end LawX
abbrev LSw : Type := (XS × (Nat → Int64)) × MS
section LawY
variable {G : XG} {aB : Nat → Nat} {aTp : Nat} {aSn : Nat} {aNw : Nat → Nat} {aLa : Nat → Nat} {aSt : Nat → Nat} {aKp : Nat → Nat} {aKl : Nat → Nat} {aPr : Nat → Nat} {aPs : Nat → Nat} {aLr : Nat → Nat} {aLl : Nat → Nat} {aOd : Nat → Nat} {aLn : Nat → Nat} {aSe : Nat → Nat} {aCu : Nat → Nat} {aPa : Nat → Nat → Nat} {cO : ClassId} {aO : Nat} {M : MG} {A : Nat → Nat} {aS n : Nat} {scr : Nat → Int32}
def wLw (G : XG) (aB : Nat → Nat) (aTp : Nat) (aSn : Nat) (aNw : Nat → Nat) (aLa : Nat → Nat) (aSt : Nat → Nat) (aKp : Nat → Nat) (aKl : Nat → Nat) (aPr : Nat → Nat) (aPs : Nat → Nat) (aLr : Nat → Nat) (aLl : Nat → Nat) (aOd : Nat → Nat) (aLn : Nat → Nat) (aSe : Nat → Nat) (aCu : Nat → Nat) (aPa : Nat → Nat → Nat) (cO : ClassId) (aO : Nat) (M : MG) (A : Nat → Nat) (aS n : Nat) (scr : Nat → Int32) : LSw → va_W := fSw G.1 aS n scr (fJw (fOw (wX G aB aTp aSn aNw aLa aSt aKp aKl aPr aPs aLr aLl aOd aLn aSe aCu aPa) cO aO) (mW M A))
def dLw (aB : Nat → Nat) (aTp : Nat) (aSn : Nat) (aNw : Nat → Nat) (aLa : Nat → Nat) (aSt : Nat → Nat) (aKp : Nat → Nat) (aKl : Nat → Nat) (aPr : Nat → Nat) (aPs : Nat → Nat) (aLr : Nat → Nat) (aLl : Nat → Nat) (aOd : Nat → Nat) (aLn : Nat → Nat) (aSe : Nat → Nat) (aCu : Nat → Nat) (aPa : Nat → Nat → Nat) (aO : Nat) (A : Nat → Nat) (aS : Nat) : Nat → Prop := dOw aS (dJw (dOw aO (dX aB aTp aSn aNw aLa aSt aKp aKl aPr aPs aLr aLl aOd aLn aSe aCu aPa)) (mAd A))
def tLw (G : XG) (cO : ClassId) (M : MG) : List (ClassId × FieldType) := (cO, .long) :: (xT G ++ mT M)
theorem lw_ax : fAx (wLw G aB aTp aSn aNw aLa aSt aKp aKl aPr aPs aLr aLl aOd aLn aSe aCu aPa cO aO M A aS n scr) (dLw aB aTp aSn aNw aLa aSt aKp aKl aPr aPs aLr aLl aOd aLn aSe aCu aPa aO A aS) := fSw_ax (fJw_ax (fOw_ax xX) mW_ax)
theorem lw_w (y : MS) : fL (wLw G aB aTp aSn aNw aLa aSt aKp aKl aPr aPs aLr aLl aOd aLn aSe aCu aPa cO aO M A aS n scr) (fOw (wX G aB aTp aSn aNw aLa aSt aKp aKl aPr aPs aLr aLl aOd aLn aSe aCu aPa) cO aO) (fun x => (x, y)) (mW M A y ++ [(aS, .inl (G.1, n, .inl scr))]) (dLw aB aTp aSn aNw aLa aSt aKp aKl aPr aPs aLr aLl aOd aLn aSe aCu aPa aO A aS) (dOw aO (dX aB aTp aSn aNw aLa aSt aKp aKl aPr aPs aLr aLl aOd aLn aSe aCu aPa)) := (fSw_le (fJw_ax (fOw_ax xX) mW_ax)).thru (fJw_l (fOw_ax xX) mW_ax y)
theorem lw_x (f : Nat → Int64) (y : MS) : fL (wLw G aB aTp aSn aNw aLa aSt aKp aKl aPr aPs aLr aLl aOd aLn aSe aCu aPa cO aO M A aS n scr) (wX G aB aTp aSn aNw aLa aSt aKp aKl aPr aPs aLr aLl aOd aLn aSe aCu aPa) (fun x => ((x, f), y)) ([(aO, .inl (cO, 1, .inr (.inl f)))] ++ (mW M A y ++ [(aS, .inl (G.1, n, .inl scr))])) (dLw aB aTp aSn aNw aLa aSt aKp aKl aPr aPs aLr aLl aOd aLn aSe aCu aPa aO A aS) (dX aB aTp aSn aNw aLa aSt aKp aKl aPr aPs aLr aLl aOd aLn aSe aCu aPa) := (lw_w y).thru (fOw_le xX f)
theorem lw_m (x : XS × (Nat → Int64)) : fL (wLw G aB aTp aSn aNw aLa aSt aKp aKl aPr aPs aLr aLl aOd aLn aSe aCu aPa cO aO M A aS n scr) (mW M A) (fun y => (x, y)) (fOw (wX G aB aTp aSn aNw aLa aSt aKp aKl aPr aPs aLr aLl aOd aLn aSe aCu aPa) cO aO x ++ [(aS, .inl (G.1, n, .inl scr))]) (dLw aB aTp aSn aNw aLa aSt aKp aKl aPr aPs aLr aLl aOd aLn aSe aCu aPa aO A aS) (mAd A) := (fSw_le (fJw_ax (fOw_ax xX) mW_ax)).thru (fJw_r (fOw_ax xX) mW_ax x)
theorem tLw_w : ([0, 1, 2] : List Nat).filterMap (fun i => (tLw G cO M)[i]?) = (cO, .long) :: xT G := rfl
theorem tLw_x : ([1, 2] : List Nat).filterMap (fun i => (tLw G cO M)[i]?) = xT G := rfl
theorem tLw_m : ([3, 4, 5] : List Nat).filterMap (fun i => (tLw G cO M)[i]?) = mT M := rfl
end LawY
