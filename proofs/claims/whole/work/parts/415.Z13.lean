theorem sl_262 : sl 262 ≤ 1000000 := by decide +kernel
theorem ff_law {p : Program} {s : State} {m : MethodId} {meth : Method} {c : Code} {b L : Nat} {xs : Nat → Int32} (C0 : lw_At p s m meth c b L xs) {gc : Nat} (hg : gc ≤ 1000) : FF p s m #[Value.ref b] meth c room_1 m_L_law cL_law 7 (some .boolean) 13 0 262 gc (6 * gc) := by
  obtain ⟨hx, hb, hr, hml, hown, hts, hX, hbl, hlocks, hgv, hnam⟩ := C0
  have h9 := sl_262
  exact ⟨hx, hb, hml, hr, hlocks, hown, fun w hw => hts w (wAll_tbl hw), t_L_law.1, by decide, hnam, by decide, by decide, by show gc + (262 - 0) ≤ 601024; omega, by show 6 * gc + (sl 262 - sl 0) ≤ 7293034; omega⟩
/-- the law's end on the machine -/
theorem wa_end {p : Program} {l : Launch} {e : Env} {s : State} {m : MethodId} {below : List Frame} {meth : Method} {c : Code} {b L : Nat} {xs : Nat → Int32} {G : AG} {ad0 : Nat → Nat} (C0 : lw_At p s m meth c b L xs) (hG : G.1 = s.heap.size) {gc : Nat} (hg : gc ≤ 1000) {lv : AL} {h : AH} : WA ρ1 G p l e room_1 s m #[Value.ref b] below meth c (lw_Z below #[Value.ref b] s) m_L_law 7 0 262 gc (6 * gc) ad0 (m_L_law, 1403, lv, [.int 1], 262, h) := by
  obtain ⟨hx, hb, hr, hml, hown, hts, hX, hbl, hlocks, hgv, hnam⟩ := C0
  intro ad ls H locs hμ hl hH hV hS hn0 hn1 had
  dsimp only
  have h9 := sl_262
  refine W.widen (k := 601024) (n := 7293034) (by omega) (by omega) ?_
  have k1 := W.forget (L := locs) (fun q hq => by have h2 : G.1 ≤ q.base := hS.2.2 q hq; rw [hG] at h2; exact h2) (lw_ret (p := p) (l := l) (e := e) (s := s) (m := m) (below := below) (b := b) (H := H) (ls := ls) (pc := 1403) hx hb hr hlocks (chk_at (i := .ireturn) (nx := 1404) (t_L_law.1 1403) rfl).2.1)
  exact k1
theorem law_loop {p : Program} {l : Launch} {e : Env} {s : State} {m : MethodId} {below : List Frame} {meth : Method} {c : Code} {b L : Nat} {xs : Nat → Int32} {G : AG} {ad0 : Nat → Nat} (hf : l.flags = flags0) (hL : L ≤ 3584) (C0 : lw_At p s m meth c b L xs) (hG : G.1 = s.heap.size) (hW0 : TW0 G s) : ∀ (k j gc : Nat) (h : AH) (x5 x6 : Option Value), j ≤ L → L < j + 7 * k → gc + k ≤ 1000 → Wld h → hI h 1104 0 = nI L → WA ρ1 G p l e room_1 s m #[Value.ref b] below meth c (lw_Z below #[Value.ref b] s) m_L_law 7 0 262 gc (6 * gc) ad0 (m_L_law, 23, [some (.ref 1103), some (.ref 0), some (.ref 235), some (.ref 261), some (.int (nI j)), x5, x6], [], 262, h)
  | 0, j, gc, h, x5, x6, h1, h2, _, _, _ => by omega
  | k + 1, j, gc, h, x5, x6, h1, h2, h3, w, eL => by
    have h9 := sl_262
    have IH := law_loop (e := e) (below := below) (ad0 := ad0) hf hL C0 hG hW0 k
    refine sd_all (l := l) (e := e) (below := below) multiLaw (ff_law C0 (gc := gc) (by omega)) (Nat.le_of_eq hG) (d := 60) (by decide) (by decide) (Snd_all multiLaw l ρ1 G 60) (Q := fun _ _ => False)
      (S := fun τ => (∃ h' x5 x6, j + 7 ≤ L ∧ Wld h' ∧ hI h' 1104 0 = nI L ∧ τ = (m_L_law, 23, [some (.ref 1103), some (.ref 0), some (.ref 235), some (.ref 261), some (.int (nI (j + 7))), x5, x6], [], 262, h')) ∨ (j + 7 ≤ L ∧ τ = (m_L_law, 1209, [some (.ref 1103), some (.ref 0), some (.ref 235), some (.ref 261), some (.int (nI j)), x5, x6], [.ref 261, .int (hI h 1103 (nI j + 3).toNatClampNeg), .int (hI h 1103 (nI j + 2).toNatClampNeg), .int (hI h 1103 (nI j + 1).toNatClampNeg), .ref 0], 262, h)) ∨ τ = (m_L_law, 1403, [some (.ref 1103), some (.ref 0), some (.ref 235), some (.ref 261), some (.int (nI j)), x5, x6], [.int 1], 262, h))
      (fun τ hτ => ?_) (fun _ _ _ _ _ _ x => False.elim x)
      (w_round hL h1 w eL (fun h7 h' y5 y6 w' e' => Or.inl ⟨h', y5, y6, h7, w', e', rfl⟩) (fun h7 => Or.inr (Or.inl ⟨h7, rfl⟩)) (Or.inr (Or.inr rfl)))
    rcases hτ with ⟨h', y5, y6, h7, w', e', rfl⟩ | ⟨h7, rfl⟩ | rfl
    · exact IH (j + 7) gc h' y5 y6 h7 (by omega) (by omega) w' e'
    · refine wa_call hf (ff_law C0 (gc := gc) (by omega)) hW0 (Nat.le_of_eq hG) (by decide) (by decide) (by show gc + (262 - 0) + 1 ≤ 601024; omega) (by show 6 * gc + (sl 262 - sl 0) + 6 ≤ 7293034; omega) ?_
      refine sd_all (l := l) (e := e) (below := below) multiLaw (ff_law C0 (gc := gc + 1) (by omega)) (Nat.le_of_eq hG) (d := 60) (by decide) (by decide) (Snd_all multiLaw l ρ1 G 60) (Q := fun _ _ => False)
        (S := fun τ => ∃ h' x5 x6, Wld h' ∧ hI h' 1104 0 = nI L ∧ τ = (m_L_law, 23, [some (.ref 1103), some (.ref 0), some (.ref 235), some (.ref 261), some (.int (nI (j + 7))), x5, x6], [], 262, h'))
        (fun τ hτ => ?_) (fun _ _ _ _ _ _ x => False.elim x) (r_after hL h7 w eL (fun h' y5 y6 w' e' => ⟨h', y5, y6, w', e', rfl⟩))
      obtain ⟨h', y5, y6, w', e', rfl⟩ := hτ
      exact IH (j + 7) (gc + 1) h' y5 y6 h7 (by omega) (by omega) w' e'
    · exact wa_end C0 hG (by omega)
set_option maxHeartbeats 4000000 in
/-- from the entry, for every script of at most 3584 ints, the law comes to its end with true -/
theorem whole_start {p : Program} {e : Env} {s : State} {m : MethodId} {below : List Frame} {meth : Method} {c : Code} (l : Launch) (hflags : l.flags = flags0) {b L : Nat} {xs : Nat → Int32} (hL : L ≤ 3584) (C0 : lw_At p s m meth c b L xs) : W p l e room_1 s m #[Value.ref b] below meth c s.heap [] 0 0 (lw_Z below #[Value.ref b] s) (entryFrame m ([Value.ref b] : List Value).toArray 7) := by
  obtain ⟨G, ad, g1, g2, g3, hV, hW0⟩ := vr_start C0
  have hGL : G.2.2.2.1 = L := by rw [g2]
  have hGx : G.2.2.2.2 = xs := by rw [g2]
  have key := sd_all (l := l) (e := e) (below := below) (ρ := ρ0) multiLaw (ff_law C0 (gc := 0) (by omega)) (Nat.le_of_eq g1) (d := 13) (by decide) (by decide) (Snd_all multiLaw l ρ0 G 13) (Qw := lw_Z below #[Value.ref b] s) (ad0 := ad) (Q := fun _ _ => False)
    (S := fun τ => ∃ gB, kI gB = true ∧ τ = (m_L_law, 23, [some (.ref 1103), some (.ref 0), some (.ref 235), some (.ref 261), some (.int 0), none, none], [], 262, den (bas L xs) gB))
    (fun τ hτ => by
      obtain ⟨gB, hk, rfl⟩ := hτ
      have e7 := (kI_all (L := L) (xs := xs) hk).2.2.2.2.2.2
      have w := law_loop (p := p) (l := l) (e := e) (below := below) (ad0 := ad) hflags hL C0 g1 hW0 600 0 0 (den (bas L xs) gB) none none (Nat.zero_le _) (by omega) (by omega) ⟨_, _, _, _, _, _, _, _, first_C hk, first_M hk, ok0, (first_W (L := L) (xs := xs) hk).2, (first_W hk).1⟩ (by rw [e7 1104 (by decide)]; rfl)
      intro ad' ls H locs hμ hl hH hV2 hS hn0 hn1 had
      exact w ad' ls H locs hμ hl (hr_01 hk hH) hV2 hS hn0 hn1 had)
    (fun _ _ _ _ _ _ x => False.elim x) (w_begin (L := L) (xs := xs) (fun gB hk => ⟨gB, hk, rfl⟩))
  have hl := lv_entry ([.ref b]) (n := 7) (Nat.le_of_ble_eq_true rfl)
  rw [lg_entry_eq]
  generalize (lg_sl ([.ref b]) ++ List.replicate (7 - (lg_sl ([.ref b])).length) Slot.unset).toArray = ls at hl ⊢
  have hLV : LV ls 7 ad [some (.ref 1103), none, none, none, none, none, none] := by
    refine ⟨hl.1, hl.2.1, rfl, fun i v hi => ?_⟩
    rcases i with _ | i
    · obtain rfl := Option.some.inj (Option.some.inj hi)
      have q : (0, Value.ref b) ∈ lv_args 0 [Value.ref b] := by simp [lv_args]
      have q2 := hl.2.2 _ q
      show ls[0]? = some (.val (.ref (ad 1103)))
      rw [g3]
      exact q2
    · rcases i with _ | _ | _ | _ | _ | _ | i <;> simp at hi
  have hH : HR ρ0 G ad 0 (den (bas L xs) ([], [], [])) s.heap := by
    refine ⟨fun k q h => ?_, ⟨fun i j p q h => ?_, fun k q h => ?_⟩, ⟨fun j _ => rfl, fun j _ => rfl, fun j _ => ?_, ?_, ?_⟩, Nat.zero_le _, fun _ a k b ha => absurd ha (Nat.not_lt_zero a)⟩
    · cases h
    · cases h
    · cases h
    · rw [hGx]
      rfl
    · rw [hGL]
      rfl
    · rw [hGL]
      exact hL
  have k2 := key ad ls s.heap [] rfl hLV hH hV va_S.rf (Nat.le_refl _) (Nat.zero_le _) (fun _ _ => rfl)
  dsimp only at k2
  simp only [Nat.sub_self, Nat.mul_zero, Nat.add_zero, List.map_nil] at k2
  exact k2
