/-! ===== 95.p.fresh: new objects agree ===== -/
def w0N : AW := fun g j => if g = 9 ∧ j = 4 then 100 else 0
theorem w0_ok : OKw w0N := by
  refine ⟨⟨by decide, by decide, by decide, by decide, by decide, by decide, by decide, by decide, by decide, by decide, by decide⟩, fun i hi => ?_, fun s hs => ?_, fun k hk => ?_⟩
  · exact absurd hi (by show ¬ i < 0; omega)
  · exact absurd hs (by show ¬ s < 0; omega)
  · exact absurd hk (by show ¬ k < 0; omega)
theorem sc0_rs : RS scS0 w0N 1 := by
  refine ⟨⟨rfl, rfl, rfl, rfl, rfl, rfl, rfl, rfl, rfl⟩, ⟨0, rfl, by decide, fun i hi => absurd hi (by show ¬ i < 0; omega)⟩, fun i hi => absurd hi (by show ¬ i < 0; omega), fun s hs => absurd hs (by show ¬ s < 0; omega), rfl, 0, rfl, by omega, fun k hk => absurd hk (by show ¬ k < 0; omega)⟩
theorem m0_w (j : Nat) : mS0.2.1 1 j = if j = 4 then 100 else if j = 10 then 1 else 0 := by
  show upd (upd (fun _ => 0) 10 1) 4 100 j = _
  by_cases e : j = 4
  · subst e; rfl
  · rw [pk_un e, if_neg e]
    by_cases e2 : j = 10
    · subst e2; rfl
    · rw [pk_un e2, if_neg e2]
theorem m0_rw : RW (mS0.2.1 1) w0N 1 := by
  refine ⟨fun k hk => ?_, ?_, fun i c hi hc => ?_, fun s c hs hc => ?_, fun k c hk hc => ?_⟩
  · rw [m0_w]
    unfold w0N
    by_cases e : k = 4
    · rw [if_pos e, if_pos ⟨rfl, e⟩]; rfl
    · rw [if_neg e, if_neg (by omega), if_neg (by omega)]; rfl
  · rw [m0_w]; rfl
  · rw [m0_w, if_neg (by omega), if_neg (by omega)]
    unfold w0N
    rw [if_neg (by omega)]; rfl
  · rw [m0_w, if_neg (by omega), if_neg (by omega)]
    unfold w0N
    rw [if_neg (by omega)]; rfl
  · rw [m0_w, if_neg (by omega), if_neg (by omega)]
    unfold w0N
    rw [if_neg (by omega)]; rfl
theorem rel_0 (t1 t2 : Nat) : Rel (rgS0, (fun _ => 0), (fun _ => 0), scS0, lwS0, scS0, scS0, lwS0, (zS0, t1), scS0, (zS0, t2), lwS0, zS0, zS0, zS0, zS0, paS0) mS0 := by
  have h3 : w0N 9 3 = 0 := rfl
  refine Rel.mk (w := w0N) (sd := 1) (la := la0) (m := 0) (A := fun _ => (w0N, 1)) (ki := 0) (wi := w0N) (si := 1) (li := la0) (tn := 0) (tb := fun _ => 0) (ft := -1) ⟨sc0_rs, ⟨fun _ => rfl, fun z => absurd z (by decide)⟩, ⟨rfl, fun i hi => hi, fun i j _ _ e => e, fun k hk => by omega⟩, ⟨rfl, fun z => by omega⟩, ⟨rfl, fun i _ => rfl⟩, rfl, (fun _ => 0), fun i _ => ⟨rfl, (by decide : (0 : Nat) < 128)⟩⟩ ⟨m0_rw, fun z => absurd z (by decide), ⟨rfl, fun k hk => by omega⟩, ⟨rfl, fun z => by omega⟩, ⟨rfl, fun i _ => rfl⟩, rfl, rfl⟩ ⟨w0_ok, fun z => absurd z (by decide), by omega, fun k hk => by omega, by omega, fun z => by omega, by omega, fun i _ => (by decide : (0 : Nat) < 256)⟩
