def setE (S : SS) (w : Int32) : SS := (sT S, sW S, w, sD S, sA S, sY S, sB S, sU S)
def setA (S : SS) (p v : Nat) : SS := (sT S, sW S, sE S, sD S, (fun i => if i = p then v else sA S i), sY S, sB S, sU S)
def setY (S : SS) (p : Nat) (v : Int32) : SS := (sT S, sW S, sE S, sD S, sA S, (fun i => if i = p then v else sY S i), sB S, sU S)
def sepS (L : SL) (S : SS) (p q : Nat) : SS := (sT S, sW S &&& (nI (2 ^ pr p q) ^^^ (-1)), sE S, sD S + price L (sW S) p q, sA S, sY S, sB S, sU S)
def begS (L : SL) : SS := (0, 0, lE L, 0, lH L, (fun _ => -1), (fun _ => -1), (fun _ => -1))
theorem PairsOK.sub {L : SL} {x y : Int32} (hx : PairsOK L x) : PairsOK L (x &&& y) := fun i hi e => by
  rw [b_and, Bool.and_eq_true] at e
  exact hx i hi e.1
theorem sep_ok {L : SL} {S : SS} (hV : SceneOK L S) (p q : Nat) : SceneOK L (sepS L S p q) := ⟨hV.1.sub, hV.2⟩
theorem setE_ok {L : SL} {S : SS} (hV : SceneOK L S) (e : Int32) : SceneOK L (setE S e) := ⟨hV.1, hV.2⟩
theorem setA_ok {L : SL} {S : SS} (hV : SceneOK L S) {p v : Nat} (hv : v < lQ L) : SceneOK L (setA S p v) := by
  refine ⟨hV.1, fun i hi => ⟨?_, (hV.2.1 i hi).2⟩, hV.2.2⟩
  show (if i = p then v else sA S i) < lQ L
  split
  · exact hv
  · exact (hV.2.1 i hi).1
theorem setY_ok {L : SL} {S : SS} (hV : SceneOK L S) {p : Nat} {v : Int32} (hv : SayOK L v) : SceneOK L (setY S p v) := by
  refine ⟨hV.1, fun i hi => ⟨(hV.2.1 i hi).1, ?_, (hV.2.1 i hi).2.2⟩, hV.2.2⟩
  show SayOK L (if i = p then v else sY S i)
  split
  · exact hv
  · exact (hV.2.1 i hi).2.1
theorem beg_ok {L : SL} (hO : LandOK L) : SceneOK L (begS L) := by
  refine ⟨fun i hi e => ?_, fun p hp => ⟨(hO.2.2.2.1 p hp).2.1, Or.inl rfl, Or.inl rfl⟩, fun s _ => Or.inl rfl⟩
  rw [show sW (begS L) = 0 from rfl, b_0] at e; cases e
section
variable {d a b : Nat} {h : AH} {L : SL} {S : SS} {Q : Option Value → AH → Prop}
theorem SceneC.y (hb : b = 7 ∨ b = 14) (hS : SceneC h b L S) (p : Nat) (v : Int32) : SceneC (wI h (b + 2) p v) b L (setY S p v) := by
  rcases hb with rfl | rfl
  · exact ⟨hS.1, hS.2.1, hS.2.2.1, hS.2.2.2.1, fun i hi => ⟨(hS.2.2.2.2.1 i hi).1, by rw [wI_at, hS.Y hi]; rfl, (hS.2.2.2.2.1 i hi).2.2⟩, hS.2.2.2.2.2⟩
  · exact ⟨hS.1, hS.2.1, hS.2.2.1, hS.2.2.2.1, fun i hi => ⟨(hS.2.2.2.2.1 i hi).1, by rw [wI_at, hS.Y hi]; rfl, (hS.2.2.2.2.1 i hi).2.2⟩, hS.2.2.2.2.2⟩
theorem SceneC.pa (hb : b = 7 ∨ b = 14) (hS : SceneC h b L S) (p v : Nat) : SceneC (wI h (b + 1) p (nI v)) b L (setA S p v) := by
  rcases hb with rfl | rfl
  · exact ⟨hS.1, hS.2.1, hS.2.2.1, hS.2.2.2.1, fun i hi => ⟨by rw [wI_at, hS.A hi]; show _ = nI (if i = p then v else sA S i); split <;> rfl, (hS.2.2.2.2.1 i hi).2.1, (hS.2.2.2.2.1 i hi).2.2⟩, hS.2.2.2.2.2⟩
  · exact ⟨hS.1, hS.2.1, hS.2.2.1, hS.2.2.2.1, fun i hi => ⟨by rw [wI_at, hS.A hi]; show _ = nI (if i = p then v else sA S i); split <;> rfl, (hS.2.2.2.2.1 i hi).2.1, (hS.2.2.2.2.1 i hi).2.2⟩, hS.2.2.2.2.2⟩
theorem c_separate (hT : St h) (ha : a = 143 ∨ a = 171) (hO : LandOK L) (hL : LandC h a L) (hb : b = 7 ∨ b = 14) (hS : SceneC h b L S) (hV : SceneOK L S) {p q : Nat} (hp : p < lP L) (hq : q < lP L) (hpq : p ≠ q) (h2 : bt (sW S) (pr p q) = false → Q (some (.int (-1))) h) (h1 : bt (sW S) (pr p q) = true → ∀ h', Fr (xs b) h h' → hI h' b 10 = hI h b 10 → SceneC h' b L (sepS L S p q) → Q (some (.int (price L (sW S) p q))) h') : Rc (d + 5) m_X9_separate [.ref b, .ref a, .int (nI p), .int (nI q)] h Q := by
  obtain ⟨o1, o2, o3, o4, -⟩ := id hO
  have ha' := ha
  have hb' := hb
  rcases ha with rfl | rfl <;> rcases hb with rfl | rfl
  all_goals
    refine R_in rfl rfl ?_
    refine R_gs 3 rfl ?_
    refine R_k rfl rfl (c_areWed hb' hS (by omega) (by omega) hpq (fun hx3 => ?_) (fun hx3 => ?_))
    ·
      refine W_bf rfl (by decide) ?_
      refine R_gs 15 rfl ?_
      refine R_k rfl rfl (c_partingPrice hT ha' hO hL hb' hS hV hp hq hpq (fun h' hf => ?_))
      refine R_gs 27 rfl ?_
      have hS' := hS.fr hf rfl rfl rfl rfl rfl
      refine R_k rfl rfl (c_pairBit (by omega) (by omega) hpq ?_)
      refine R_gs 49 rfl ?_
      refine W_f rfl (by first | rfl | exact ⟨rfl, by first | decide | assumption | exact Or.inl rfl | exact Or.inr rfl | exact b2i_01 _⟩) ?_
      exact h1 hx3 _ ((hf.sc.wI rfl).wI rfl) (congrFun (hf.I rfl) 10) ⟨hS'.1, by show _ &&& _ = _ &&& _; rw [hS'.W], hS'.2.2.1, congrArg (fun z => z + price L (sW S) p q) hS'.D, hS'.2.2.2.2⟩
    ·
      refine W_bt rfl (by decide) ?_
      refine R_gs 10 rfl ?_
      refine W_f rfl (by first | rfl | exact ⟨rfl, by first | decide | assumption | exact Or.inl rfl | exact Or.inr rfl | exact b2i_01 _⟩) ?_
      exact h2 hx3
theorem c_walkTo (hO : LandOK L) (hb : b = 7 ∨ b = 14) (hS : SceneC h b L S) (hV : SceneOK L S) {p v : Nat} (hp : p < lP L) (hv : v < lQ L) (h1 : Q (some (.int (b2i (!decide (sA S p = v))))) (wI h (b + 1) p (nI v))) : Rc (d + 1) m_X9_walkTo [.ref b, .int (nI p), .int (nI v)] h Q := by
  obtain ⟨o1, o2, o3, o4, -⟩ := id hO
  have v1 := (hV.2.1 p hp).1
  rcases hb with rfl | rfl
  all_goals
    refine R_in rfl rfl ?_
    refine R_gs 5 rfl ?_
    refine R_il rfl (by first | rfl | exact shO (by decide) (by omega) | exact shG (by decide) (by omega)) (by repeat (first | with_reducible apply ix_add | with_reducible apply ix_mul | with_reducible exact ix_nI _ | with_reducible exact ix_lit _ | exact rfl)) (by omega) (by first | exact hS.A hp) ?_
    refine R_gs 7 rfl ?_
    refine W_b rfl (fun hc7 => ?_) (fun hc7 => ?_)
    ·
      rw [nI_eq (by omega) (by omega)] at hc7
      rw [decide_eq_true hc7] at h1
      refine R_gs 22 rfl ?_
      refine R_is rfl (by first | rfl | exact shO (by decide) (by omega) | exact shG (by decide) (by omega)) (by repeat (first | with_reducible apply ix_add | with_reducible apply ix_mul | with_reducible exact ix_nI _ | with_reducible exact ix_lit _ | exact rfl)) (by omega) ?_
      refine R_gs 24 rfl ?_
      refine W_f rfl (by first | rfl | exact ⟨rfl, by first | decide | assumption | exact Or.inl rfl | exact Or.inr rfl | exact b2i_01 _⟩) ?_
      exact h1
    ·
      rw [nI_eq (by omega) (by omega)] at hc7
      rw [decide_eq_false hc7] at h1
      refine R_gs 22 rfl ?_
      refine R_is rfl (by first | rfl | exact shO (by decide) (by omega) | exact shG (by decide) (by omega)) (by repeat (first | with_reducible apply ix_add | with_reducible apply ix_mul | with_reducible exact ix_nI _ | with_reducible exact ix_lit _ | exact rfl)) (by omega) ?_
      refine R_gs 24 rfl ?_
      refine W_f rfl (by first | rfl | exact ⟨rfl, by first | decide | assumption | exact Or.inl rfl | exact Or.inr rfl | exact b2i_01 _⟩) ?_
      exact h1
theorem c_grant (hO : LandOK L) (hb : b = 7 ∨ b = 14) (hS : SceneC h b L S) {p q : Nat} (hp : p < lP L) (hq : q < lP L) (hpq : p ≠ q) (h1 : Q (some (.int (b2i (!bt (sE S) (pr p q))))) (wI h b 2 (sE S ||| nI (2 ^ pr p q)))) : Rc (d + 3) m_X9_grant [.ref b, .int (nI p), .int (nI q)] h Q := by
  obtain ⟨o1, o2, o3, o4, -⟩ := id hO
  have hb' := hb
  rcases hb with rfl | rfl
  all_goals
    refine R_in rfl rfl ?_
    refine R_gs 3 rfl ?_
    refine R_k rfl rfl (c_areKept hb' hS (by omega) (by omega) hpq (fun hx3 => ?_) (fun hx3 => ?_))
    ·
      refine W_bf rfl (by decide) ?_
      refine R_gs 22 rfl ?_
      rw [hS.E]
      refine R_k rfl rfl (c_pairBit (by omega) (by omega) hpq ?_)
      refine R_gs 30 rfl ?_
      refine W_f rfl (by first | rfl | exact ⟨rfl, by first | decide | assumption | exact Or.inl rfl | exact Or.inr rfl | exact b2i_01 _⟩) ?_
      rw [hx3] at h1; exact h1
    ·
      refine W_bt rfl (by decide) ?_
      refine R_gs 22 rfl ?_
      rw [hS.E]
      refine R_k rfl rfl (c_pairBit (by omega) (by omega) hpq ?_)
      refine R_gs 30 rfl ?_
      refine W_f rfl (by first | rfl | exact ⟨rfl, by first | decide | assumption | exact Or.inl rfl | exact Or.inr rfl | exact b2i_01 _⟩) ?_
      rw [hx3] at h1; exact h1
theorem SceneC.e (hb : b = 7 ∨ b = 14) (hS : SceneC h b L S) (v : Int32) : SceneC (wI h b 2 v) b L (setE S v) := by
  rcases hb with rfl | rfl
  · exact ⟨hS.1, hS.2.1, rfl, hS.2.2.2.1, hS.2.2.2.2⟩
  · exact ⟨hS.1, hS.2.1, rfl, hS.2.2.2.1, hS.2.2.2.2⟩
theorem c_begin (ha : a = 143 ∨ a = 171) (hO : LandOK L) (hL : LandC h a L) (hb : b = 7 ∨ b = 14) (h1 : ∀ h', Fr (xq b) h h' → hI h' b 10 = 0 → SceneC h' b L (begS L) → Q none h') : Rc (d + 2) m_X9_begin [.ref b, .ref a] h Q := by
  obtain ⟨o1, o2, o3, o4, -⟩ := id hO
  rcases ha with rfl | rfl <;> rcases hb with rfl | rfl
  ·
    refine R_in rfl rfl ?_
    refine R_gs 40 rfl ?_
    rw [show hI (wI (wI h 7 0 0) 7 1 0) 143 13 = lE L from hL.E]
    refine R_cp rfl (b := 148) (a := 8) rfl rfl (n := 6) rfl (by omega) (by omega) (fun g1 f1 e1 => ?_)
    refine R_gs 48 rfl ?_
    refine R_k rfl rfl (c_fill (a := 9) rfl (fun g2 f2 e2 => ?_))
    refine R_gs 56 rfl ?_
    refine R_k rfl rfl (c_fill (a := 10) rfl (fun g3 f3 e3 => ?_))
    refine R_gs 64 rfl ?_
    refine R_k rfl rfl (c_fill (a := 12) rfl (fun g4 f4 e4 => ?_))
    refine W_f rfl (by first | rfl | exact ⟨rfl, by first | decide | assumption | exact Or.inl rfl | exact Or.inr rfl | exact b2i_01 _⟩) ?_
    have g : ∀ k, hI g4 7 k = hI (wI (wI (wI (wI (wI h 7 0 0) 7 1 0) 7 2 (lE L)) 7 3 0) 7 10 0) 7 k := fun k => by rw [f4.I rfl, f3.I rfl, f2.I rfl, f1.I rfl]
    have m1 := f1.mono (Y := xq 7) (fun q hq => by have := Nat.eq_of_beq_eq_true hq; subst this; rfl)
    have m2 := f2.mono (Y := xq 7) (fun q hq => by have := Nat.eq_of_beq_eq_true hq; subst this; rfl)
    have m3 := f3.mono (Y := xq 7) (fun q hq => by have := Nat.eq_of_beq_eq_true hq; subst this; rfl)
    have m4 := f4.mono (Y := xq 7) (fun q hq => by have := Nat.eq_of_beq_eq_true hq; subst this; rfl)
    refine h1 _ ((((((((Fr.refl _ h).wI rfl).wI rfl).wI rfl).wI rfl).wI rfl).trans m1 |>.trans m2 |>.trans m3).trans m4) ?_ ⟨?_, ?_, ?_, ?_, fun p hp => ⟨?_, ?_, ?_⟩, fun s hs => ?_⟩
    · rw [g]; rfl
    · rw [g]; rfl
    · rw [g]; rfl
    · rw [g]; rfl
    · rw [g]; rfl
    · rw [f4.I rfl, f3.I rfl, f2.I rfl, e1 p (by omega)]; exact hL.H hp
    · rw [f4.I rfl, f3.I rfl, e2 p (by omega)]; rfl
    · rw [f4.I rfl, e3 p (by omega)]; rfl
    · rw [e4 s hs]; rfl
  ·
    refine R_in rfl rfl ?_
    refine R_gs 40 rfl ?_
    rw [show hI (wI (wI h 14 0 0) 14 1 0) 143 13 = lE L from hL.E]
    refine R_cp rfl (b := 148) (a := 15) rfl rfl (n := 6) rfl (by omega) (by omega) (fun g1 f1 e1 => ?_)
    refine R_gs 48 rfl ?_
    refine R_k rfl rfl (c_fill (a := 16) rfl (fun g2 f2 e2 => ?_))
    refine R_gs 56 rfl ?_
    refine R_k rfl rfl (c_fill (a := 17) rfl (fun g3 f3 e3 => ?_))
    refine R_gs 64 rfl ?_
    refine R_k rfl rfl (c_fill (a := 19) rfl (fun g4 f4 e4 => ?_))
    refine W_f rfl (by first | rfl | exact ⟨rfl, by first | decide | assumption | exact Or.inl rfl | exact Or.inr rfl | exact b2i_01 _⟩) ?_
    have g : ∀ k, hI g4 14 k = hI (wI (wI (wI (wI (wI h 14 0 0) 14 1 0) 14 2 (lE L)) 14 3 0) 14 10 0) 14 k := fun k => by rw [f4.I rfl, f3.I rfl, f2.I rfl, f1.I rfl]
    have m1 := f1.mono (Y := xq 14) (fun q hq => by have := Nat.eq_of_beq_eq_true hq; subst this; rfl)
    have m2 := f2.mono (Y := xq 14) (fun q hq => by have := Nat.eq_of_beq_eq_true hq; subst this; rfl)
    have m3 := f3.mono (Y := xq 14) (fun q hq => by have := Nat.eq_of_beq_eq_true hq; subst this; rfl)
    have m4 := f4.mono (Y := xq 14) (fun q hq => by have := Nat.eq_of_beq_eq_true hq; subst this; rfl)
    refine h1 _ ((((((((Fr.refl _ h).wI rfl).wI rfl).wI rfl).wI rfl).wI rfl).trans m1 |>.trans m2 |>.trans m3).trans m4) ?_ ⟨?_, ?_, ?_, ?_, fun p hp => ⟨?_, ?_, ?_⟩, fun s hs => ?_⟩
    · rw [g]; rfl
    · rw [g]; rfl
    · rw [g]; rfl
    · rw [g]; rfl
    · rw [g]; rfl
    · rw [f4.I rfl, f3.I rfl, f2.I rfl, e1 p (by omega)]; exact hL.H hp
    · rw [f4.I rfl, f3.I rfl, e2 p (by omega)]; rfl
    · rw [f4.I rfl, e3 p (by omega)]; rfl
    · rw [e4 s hs]; rfl
  ·
    refine R_in rfl rfl ?_
    refine R_gs 40 rfl ?_
    rw [show hI (wI (wI h 7 0 0) 7 1 0) 171 13 = lE L from hL.E]
    refine R_cp rfl (b := 176) (a := 8) rfl rfl (n := 6) rfl (by omega) (by omega) (fun g1 f1 e1 => ?_)
    refine R_gs 48 rfl ?_
    refine R_k rfl rfl (c_fill (a := 9) rfl (fun g2 f2 e2 => ?_))
    refine R_gs 56 rfl ?_
    refine R_k rfl rfl (c_fill (a := 10) rfl (fun g3 f3 e3 => ?_))
    refine R_gs 64 rfl ?_
    refine R_k rfl rfl (c_fill (a := 12) rfl (fun g4 f4 e4 => ?_))
    refine W_f rfl (by first | rfl | exact ⟨rfl, by first | decide | assumption | exact Or.inl rfl | exact Or.inr rfl | exact b2i_01 _⟩) ?_
    have g : ∀ k, hI g4 7 k = hI (wI (wI (wI (wI (wI h 7 0 0) 7 1 0) 7 2 (lE L)) 7 3 0) 7 10 0) 7 k := fun k => by rw [f4.I rfl, f3.I rfl, f2.I rfl, f1.I rfl]
    have m1 := f1.mono (Y := xq 7) (fun q hq => by have := Nat.eq_of_beq_eq_true hq; subst this; rfl)
    have m2 := f2.mono (Y := xq 7) (fun q hq => by have := Nat.eq_of_beq_eq_true hq; subst this; rfl)
    have m3 := f3.mono (Y := xq 7) (fun q hq => by have := Nat.eq_of_beq_eq_true hq; subst this; rfl)
    have m4 := f4.mono (Y := xq 7) (fun q hq => by have := Nat.eq_of_beq_eq_true hq; subst this; rfl)
    refine h1 _ ((((((((Fr.refl _ h).wI rfl).wI rfl).wI rfl).wI rfl).wI rfl).trans m1 |>.trans m2 |>.trans m3).trans m4) ?_ ⟨?_, ?_, ?_, ?_, fun p hp => ⟨?_, ?_, ?_⟩, fun s hs => ?_⟩
    · rw [g]; rfl
    · rw [g]; rfl
    · rw [g]; rfl
    · rw [g]; rfl
    · rw [g]; rfl
    · rw [f4.I rfl, f3.I rfl, f2.I rfl, e1 p (by omega)]; exact hL.H hp
    · rw [f4.I rfl, f3.I rfl, e2 p (by omega)]; rfl
    · rw [f4.I rfl, e3 p (by omega)]; rfl
    · rw [e4 s hs]; rfl
  ·
    refine R_in rfl rfl ?_
    refine R_gs 40 rfl ?_
    rw [show hI (wI (wI h 14 0 0) 14 1 0) 171 13 = lE L from hL.E]
    refine R_cp rfl (b := 176) (a := 15) rfl rfl (n := 6) rfl (by omega) (by omega) (fun g1 f1 e1 => ?_)
    refine R_gs 48 rfl ?_
    refine R_k rfl rfl (c_fill (a := 16) rfl (fun g2 f2 e2 => ?_))
    refine R_gs 56 rfl ?_
    refine R_k rfl rfl (c_fill (a := 17) rfl (fun g3 f3 e3 => ?_))
    refine R_gs 64 rfl ?_
    refine R_k rfl rfl (c_fill (a := 19) rfl (fun g4 f4 e4 => ?_))
    refine W_f rfl (by first | rfl | exact ⟨rfl, by first | decide | assumption | exact Or.inl rfl | exact Or.inr rfl | exact b2i_01 _⟩) ?_
    have g : ∀ k, hI g4 14 k = hI (wI (wI (wI (wI (wI h 14 0 0) 14 1 0) 14 2 (lE L)) 14 3 0) 14 10 0) 14 k := fun k => by rw [f4.I rfl, f3.I rfl, f2.I rfl, f1.I rfl]
    have m1 := f1.mono (Y := xq 14) (fun q hq => by have := Nat.eq_of_beq_eq_true hq; subst this; rfl)
    have m2 := f2.mono (Y := xq 14) (fun q hq => by have := Nat.eq_of_beq_eq_true hq; subst this; rfl)
    have m3 := f3.mono (Y := xq 14) (fun q hq => by have := Nat.eq_of_beq_eq_true hq; subst this; rfl)
    have m4 := f4.mono (Y := xq 14) (fun q hq => by have := Nat.eq_of_beq_eq_true hq; subst this; rfl)
    refine h1 _ ((((((((Fr.refl _ h).wI rfl).wI rfl).wI rfl).wI rfl).wI rfl).trans m1 |>.trans m2 |>.trans m3).trans m4) ?_ ⟨?_, ?_, ?_, ?_, fun p hp => ⟨?_, ?_, ?_⟩, fun s hs => ?_⟩
    · rw [g]; rfl
    · rw [g]; rfl
    · rw [g]; rfl
    · rw [g]; rfl
    · rw [g]; rfl
    · rw [f4.I rfl, f3.I rfl, f2.I rfl, e1 p (by omega)]; exact hL.H hp
    · rw [f4.I rfl, f3.I rfl, e2 p (by omega)]; rfl
    · rw [f4.I rfl, e3 p (by omega)]; rfl
    · rw [e4 s hs]; rfl
end
