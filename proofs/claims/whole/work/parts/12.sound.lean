/-! branches, switches, ends, calls -/
section SND
variable {p : Program} {l : Launch} {e : Env} {R : Room} {s : State} {m : MethodId} {args : Array Value} {below : List Frame} {meth : Method} {c : Code} {Qw : State → Prop}
variable {ρ : AR} {G : AG} {μ : Nat} {cc : ByteArray} {ml : Nat} {rt : Option FieldType} {own n0 n' gc gs : Nat} {ad0 : Nat → Nat}
set_option maxHeartbeats 4000000 in
theorem sd_b1 (F : FF p s m args meth c R μ cc ml rt own n0 n' gc gs) {τ τ1 τ2 : AS} {C0 : Prop} (hs : b1 τ = some (C0, τ1, τ2)) (h1 : C0 → WA ρ G p l e R s m args below meth c Qw μ ml n0 n' gc gs ad0 τ1) (h2 : ¬ C0 → WA ρ G p l e R s m args below meth c Qw μ ml n0 n' gc gs ad0 τ2) : WA ρ G p l e R s m args below meth c Qw μ ml n0 n' gc gs ad0 τ := by
  obtain ⟨μ1, pc, lv, st, n, h⟩ := τ
  intro ad ls H locs hμ hl hH hV hS hn0 hn1 had
  dsimp only at hμ hl hH hn0 hn1 ⊢
  subst hμ
  obtain ⟨hx, hb, hml, hr, hlk, hown, hts, hck, hol, hnm, hfr, hlo, hRc, hRs⟩ := id F
  unfold b1 at hs
  dsimp only at hs
  cases hK : KT μ1 pc with
  | none => rw [hK] at hs; cases hs
  | some q =>
    obtain ⟨i, nx, x, y, v⟩ := q
    rw [hK] at hs
    dsimp only at hs
    obtain ⟨hnx, hd0, hi⟩ := chk_at (hck pc) hK
    cases i with
    | ifCond k o =>
      obtain ⟨rfl, hd⟩ := hnx rfl
      have ht := of_decide_eq_true hi
      rcases st with _ | ⟨w1, st⟩
      · simp [b1i] at hs
      cases w1 with
      | int z =>
        cases k with
        | eq =>
          obtain ⟨rfl, e2⟩ := Prod.mk.inj (Option.some.inj hs)
          obtain ⟨rfl, rfl⟩ := Prod.mk.inj e2
          exact lv_if_eq hx hb hd ht (fun q => h1 q ad ls H locs rfl hl hH hV hS hn0 hn1 had) (fun q => h2 q ad ls H locs rfl hl hH hV hS hn0 hn1 had)
        | ne =>
          obtain ⟨rfl, e2⟩ := Prod.mk.inj (Option.some.inj hs)
          obtain ⟨rfl, rfl⟩ := Prod.mk.inj e2
          exact lv_if_ne hx hb hd ht (fun q => h2 q ad ls H locs rfl hl hH hV hS hn0 hn1 had) (fun q => h1 q ad ls H locs rfl hl hH hV hS hn0 hn1 had)
        | lt =>
          obtain ⟨rfl, e2⟩ := Prod.mk.inj (Option.some.inj hs)
          obtain ⟨rfl, rfl⟩ := Prod.mk.inj e2
          exact lv_if_lt hx hb hd ht (fun q => h1 q ad ls H locs rfl hl hH hV hS hn0 hn1 had) (fun q => h2 q ad ls H locs rfl hl hH hV hS hn0 hn1 had)
        | ge =>
          obtain ⟨rfl, e2⟩ := Prod.mk.inj (Option.some.inj hs)
          obtain ⟨rfl, rfl⟩ := Prod.mk.inj e2
          exact lv_if_ge hx hb hd ht (fun q => h1 q ad ls H locs rfl hl hH hV hS hn0 hn1 had) (fun q => h2 q ad ls H locs rfl hl hH hV hS hn0 hn1 had)
        | gt =>
          obtain ⟨rfl, e2⟩ := Prod.mk.inj (Option.some.inj hs)
          obtain ⟨rfl, rfl⟩ := Prod.mk.inj e2
          exact lv_if_gt hx hb hd ht (fun q => h1 q ad ls H locs rfl hl hH hV hS hn0 hn1 had) (fun q => h2 q ad ls H locs rfl hl hH hV hS hn0 hn1 had)
        | le =>
          obtain ⟨rfl, e2⟩ := Prod.mk.inj (Option.some.inj hs)
          obtain ⟨rfl, rfl⟩ := Prod.mk.inj e2
          exact lv_if_le hx hb hd ht (fun q => h1 q ad ls H locs rfl hl hH hV hS hn0 hn1 had) (fun q => h2 q ad ls H locs rfl hl hH hV hS hn0 hn1 had)
      | _ => simp [b1i] at hs
    | if_icmp k o =>
      obtain ⟨rfl, hd⟩ := hnx rfl
      have ht := of_decide_eq_true hi
      rcases st with _ | ⟨w1, st⟩
      · simp [b1i] at hs
      cases w1 with
      | int b =>
        rcases st with _ | ⟨w2, st⟩
        · simp [b1i] at hs
        cases w2 with
        | int a =>
          cases k with
          | eq =>
            obtain ⟨rfl, e2⟩ := Prod.mk.inj (Option.some.inj hs)
            obtain ⟨rfl, rfl⟩ := Prod.mk.inj e2
            exact lv_icmp_eq hx hb hd ht (fun q => h1 q ad ls H locs rfl hl hH hV hS hn0 hn1 had) (fun q => h2 q ad ls H locs rfl hl hH hV hS hn0 hn1 had)
          | ne =>
            obtain ⟨rfl, e2⟩ := Prod.mk.inj (Option.some.inj hs)
            obtain ⟨rfl, rfl⟩ := Prod.mk.inj e2
            exact lv_icmp_ne hx hb hd ht (fun q => h2 q ad ls H locs rfl hl hH hV hS hn0 hn1 had) (fun q => h1 q ad ls H locs rfl hl hH hV hS hn0 hn1 had)
          | lt =>
            obtain ⟨rfl, e2⟩ := Prod.mk.inj (Option.some.inj hs)
            obtain ⟨rfl, rfl⟩ := Prod.mk.inj e2
            exact lv_icmp_lt hx hb hd ht (fun q => h1 q ad ls H locs rfl hl hH hV hS hn0 hn1 had) (fun q => h2 q ad ls H locs rfl hl hH hV hS hn0 hn1 had)
          | ge =>
            obtain ⟨rfl, e2⟩ := Prod.mk.inj (Option.some.inj hs)
            obtain ⟨rfl, rfl⟩ := Prod.mk.inj e2
            exact lv_icmp_ge hx hb hd ht (fun q => h1 q ad ls H locs rfl hl hH hV hS hn0 hn1 had) (fun q => h2 q ad ls H locs rfl hl hH hV hS hn0 hn1 had)
          | gt =>
            obtain ⟨rfl, e2⟩ := Prod.mk.inj (Option.some.inj hs)
            obtain ⟨rfl, rfl⟩ := Prod.mk.inj e2
            exact lv_icmp_gt hx hb hd ht (fun q => h1 q ad ls H locs rfl hl hH hV hS hn0 hn1 had) (fun q => h2 q ad ls H locs rfl hl hH hV hS hn0 hn1 had)
          | le =>
            obtain ⟨rfl, e2⟩ := Prod.mk.inj (Option.some.inj hs)
            obtain ⟨rfl, rfl⟩ := Prod.mk.inj e2
            exact lv_icmp_le hx hb hd ht (fun q => h1 q ad ls H locs rfl hl hH hV hS hn0 hn1 had) (fun q => h2 q ad ls H locs rfl hl hH hV hS hn0 hn1 had)
        | _ => simp [b1i] at hs
      | _ => simp [b1i] at hs
    | _ => simp [b1i] at hs
theorem tok_inj {ad : Nat → Nat} {H : Heap} {a b : Nat} (hV : VR G ad s H) (a1 : 1000 ≤ a) (a2 : a < 1038) (b1 : 1000 ≤ b) (b2 : b < 1038) (he : ad a = ad b) : a = b := by
  obtain ⟨t, rfl⟩ : ∃ t, a = 1000 + t := ⟨a - 1000, by omega⟩
  obtain ⟨u, rfl⟩ : ∃ u, b = 1000 + u := ⟨b - 1000, by omega⟩
  have := hV.2.2.2.1 t u (by omega) (by omega) he
  omega
set_option maxHeartbeats 4000000 in
theorem sd_d1 (F : FF p s m args meth c R μ cc ml rt own n0 n' gc gs) {τ τ1 τ2 : AS} {a b : Nat} (hs : d1 τ = some (a, b, τ1, τ2)) (a1 : 1000 ≤ a) (a2 : a < 1038) (b1 : 1000 ≤ b) (b2 : b < 1038) (h1 : a = b → WA ρ G p l e R s m args below meth c Qw μ ml n0 n' gc gs ad0 τ1) (h2 : ¬ a = b → WA ρ G p l e R s m args below meth c Qw μ ml n0 n' gc gs ad0 τ2) : WA ρ G p l e R s m args below meth c Qw μ ml n0 n' gc gs ad0 τ := by
  obtain ⟨μ1, pc, lv, st, n, h⟩ := τ
  intro ad ls H locs hμ hl hH hV hS hn0 hn1 had
  dsimp only at hμ hl hH hn0 hn1 ⊢
  subst hμ
  obtain ⟨hx, hb, hml, hr, hlk, hown, hts, hck, hol, hnm, hfr, hlo, hRc, hRs⟩ := id F
  unfold d1 at hs
  dsimp only at hs
  cases hK : KT μ1 pc with
  | none => rw [hK] at hs; cases hs
  | some q =>
    obtain ⟨i, nx, x, y, v⟩ := q
    rw [hK] at hs
    dsimp only at hs
    obtain ⟨hnx, hd0, hi⟩ := chk_at (hck pc) hK
    cases i with
    | if_acmp k o =>
      obtain ⟨rfl, hd⟩ := hnx rfl
      have ht := of_decide_eq_true hi
      rcases st with _ | ⟨w1, st⟩
      · simp at hs
      cases w1 with
      | ref bb =>
        rcases st with _ | ⟨w2, st⟩
        · simp at hs
        cases w2 with
        | ref aa =>
          cases k with
          | eq =>
            obtain ⟨rfl, e2⟩ := Prod.mk.inj (Option.some.inj hs)
            obtain ⟨rfl, e3⟩ := Prod.mk.inj e2
            obtain ⟨rfl, rfl⟩ := Prod.mk.inj e3
            exact lv_acmp_eq (rx := some (ad aa)) (ry := some (ad bb)) hx hb hd ht (fun q => h1 (tok_inj hV a1 a2 b1 b2 (Option.some.inj q)) ad ls H locs rfl hl hH hV hS hn0 hn1 had) (fun q => h2 (fun q2 => q (by rw [q2])) ad ls H locs rfl hl hH hV hS hn0 hn1 had)
          | ne =>
            obtain ⟨rfl, e2⟩ := Prod.mk.inj (Option.some.inj hs)
            obtain ⟨rfl, e3⟩ := Prod.mk.inj e2
            obtain ⟨rfl, rfl⟩ := Prod.mk.inj e3
            exact lv_acmp_ne (rx := some (ad aa)) (ry := some (ad bb)) hx hb hd ht (fun q => h2 (fun q2 => q (by rw [q2])) ad ls H locs rfl hl hH hV hS hn0 hn1 had) (fun q => h1 (tok_inj hV a1 a2 b1 b2 (Option.some.inj q)) ad ls H locs rfl hl hH hV hS hn0 hn1 had)
        | _ => simp at hs
      | _ => simp at hs
    | _ => simp at hs
set_option maxHeartbeats 4000000 in
theorem sd_w1 (F : FF p s m args meth c R μ cc ml rt own n0 n' gc gs) {τ : AS} {z : Int32} {lo : Int} {ts : List Nat} {d : Nat} {mk : Nat → AS} (hs : w1 τ = some (z, lo, ts, d, mk)) (h1 : ∀ (j : Nat) t, ts[j]? = some t → z.toInt = lo + j → WA ρ G p l e R s m args below meth c Qw μ ml n0 n' gc gs ad0 (mk t)) (h2 : (z.toInt < lo ∨ lo + ts.length ≤ z.toInt) → WA ρ G p l e R s m args below meth c Qw μ ml n0 n' gc gs ad0 (mk d)) : WA ρ G p l e R s m args below meth c Qw μ ml n0 n' gc gs ad0 τ := by
  obtain ⟨μ1, pc, lv, st, n, h⟩ := τ
  intro ad ls H locs hμ hl hH hV hS hn0 hn1 had
  dsimp only at hμ hl hH hn0 hn1 ⊢
  subst hμ
  obtain ⟨hx, hb, hml, hr, hlk, hown, hts, hck, hol, hnm, hfr, hlo, hRc, hRs⟩ := id F
  unfold w1 at hs
  dsimp only at hs
  cases hK : KT μ1 pc with
  | none => rw [hK] at hs; cases hs
  | some q =>
    obtain ⟨i, nx, x, y, v⟩ := q
    rw [hK] at hs
    dsimp only at hs
    obtain ⟨hnx, hd0, hi⟩ := chk_at (hck pc) hK
    cases i with
    | tableswitch dd lo0 hi0 offs =>
      rcases st with _ | ⟨w1, st⟩
      · simp at hs
      cases w1 with
      | int zz =>
        dsimp only at hs
        simp only [chkI] at hi
        cases hsw : SWT μ1 pc with
        | none => rw [hsw] at hs; cases hs
        | some q =>
          obtain ⟨lo1, ts1, d1⟩ := q
          rw [hsw] at hs hi
          dsimp only at hs hi
          obtain ⟨rfl, e2⟩ := Prod.mk.inj (Option.some.inj hs)
          obtain ⟨rfl, e3⟩ := Prod.mk.inj e2
          obtain ⟨rfl, e4⟩ := Prod.mk.inj e3
          obtain ⟨rfl, rfl⟩ := Prod.mk.inj e4
          simp only [Bool.and_eq_true, decide_eq_true_eq] at hi
          obtain ⟨⟨⟨rfl, i2⟩, i3⟩, i4⟩ := hi
          by_cases hout : zz.toInt < lo1 ∨ lo1 + ts1.length ≤ zz.toInt
          · exact lv_tableOut hx hb hd0 (by omega) i4 (h2 hout ad ls H locs rfl hl hH hV hS hn0 hn1 had)
          · have hj : (zz.toInt - lo1).toNat < ts1.length := by omega
            obtain ⟨t, ht⟩ : ∃ t, ts1[(zz.toInt - lo1).toNat]? = some t := ⟨_, List.getElem?_eq_getElem hj⟩
            have e5 := congrArg (fun q => q[(zz.toInt - lo1).toNat]?) i3
            rw [List.getElem?_map, List.getElem?_map, ht] at e5
            cases ho : offs.toList[(zz.toInt - lo1).toNat]? with
            | none => rw [ho] at e5; cases e5
            | some off =>
              rw [ho] at e5
              have e6 : (pc : Int) + off = (t : Int) := Option.some.inj e5
              exact lv_tableIn hx hb hd0 (by omega) (by omega) (by rw [← Array.getElem?_toList]; exact ho) e6 (h1 _ t ht (by omega) ad ls H locs rfl hl hH hV hS hn0 hn1 had)
      | _ => simp at hs
    | _ => simp at hs
def PostM (ρ : AR) (G : AG) (ad0 : Nat → Nat) (n0 n' : Nat) (Q : Option Value → AH → Prop) : Array Value → State → Outcome → State → Prop := fun _ st oc t =>
  (∃ (v : Option Value) (h' : AH) (ad' : Nat → Nat), oc = .returned (v.map (cv ad')) ∧ Q v h' ∧ (∀ i, i < n0 ∨ n' ≤ i → ad' i = ad0 i) ∧ HR ρ G ad' n' h' t.heap) ∧ va_F (Ab G) st t
set_option maxHeartbeats 4000000 in
theorem sd_f1 (F : FF p s m args meth c R μ cc ml rt own n0 n' gc gs) {Q : Option Value → AH → Prop} {τ : AS} {P : Prop} {v0 : Option Value} {h0 : AH} (hs : f1 n' τ = some (P, v0, h0)) (hp : P) (hq : Q v0 h0) : WA ρ G p l e R s m args below meth c (MQ below (PostM ρ G ad0 n0 n' Q) args s (gc + (n' - n0)) (gs + (sl n' - sl n0)) (Ab G)) μ ml n0 n' gc gs ad0 τ := by
  obtain ⟨μ1, pc, lv, st, n, h⟩ := τ
  intro ad ls H locs hμ hl hH hV hS hn0 hn1 had
  dsimp only at hμ hl hH hn0 hn1 ⊢
  subst hμ
  obtain ⟨hx, hb, hml, hr, hlk, hown, hts, hck, hol, hnm, hfr, hlo, hRc, hRs⟩ := id F
  unfold f1 at hs
  dsimp only at hs
  have post : ∀ (n2 : Nat), n2 = n' → HR ρ G ad n2 h H → Q v0 h → ∀ t : State, t.heap = H → s.WarmedH t.vm → PostM ρ G ad0 n0 n' Q args s (.returned (v0.map (cv ad))) t := by
    intro n2 e1 h1 h2 t ht hW
    subst e1
    exact ⟨⟨v0, h, ad, rfl, h2, had, by rw [ht]; exact h1⟩, hS.F ht⟩
  cases hK : KT μ1 pc with
  | none => rw [hK] at hs; cases hs
  | some q =>
    obtain ⟨i, nx, x, y, v⟩ := q
    rw [hK] at hs
    dsimp only at hs
    obtain ⟨hnx, hd0, hi⟩ := chk_at (hck pc) hK
    cases i with
    | ireturn =>
      obtain ⟨rfl, hd⟩ := hnx rfl
      rcases st with _ | ⟨w1, st⟩
      · simp at hs
      cases w1 with
      | int z =>
        rcases st with _ | ⟨w2, st⟩
        · dsimp only at hs
          simp only [chkI] at hi
          cases hx0 : Nat.beq x 0 with
          | true =>
            rw [hx0] at hs hi
            obtain ⟨rfl, e2⟩ := Prod.mk.inj (Option.some.inj hs)
            obtain ⟨rfl, rfl⟩ := Prod.mk.inj e2
            have hp' : n = n' := hp
            subst hp'
            exact W.iret hx hb (hr.trans (of_decide_eq_true hi)) (post n rfl hH hq) hS.2.2 hd hlk
          | false =>
            rw [hx0] at hs hi
            obtain ⟨rfl, e2⟩ := Prod.mk.inj (Option.some.inj hs)
            obtain ⟨rfl, rfl⟩ := Prod.mk.inj e2
            obtain ⟨hp', hz⟩ := hp
            subst hp'
            exact W.zret hx hb (hr.trans (of_decide_eq_true hi)) (by rcases hz with rfl | rfl <;> rfl) (post n rfl hH hq) hS.2.2 hd hlk
        · simp at hs
      | _ => simp at hs
    | lreturn =>
      obtain ⟨rfl, hd⟩ := hnx rfl
      rcases st with _ | ⟨w1, st⟩
      · simp at hs
      cases w1 with
      | long z =>
        rcases st with _ | ⟨w2, st⟩
        · obtain ⟨rfl, e2⟩ := Prod.mk.inj (Option.some.inj hs)
          obtain ⟨rfl, rfl⟩ := Prod.mk.inj e2
          have hp' : n = n' := hp
          subst hp'
          exact W.lret hx hb (hr.trans (of_decide_eq_true hi)) (post n rfl hH hq) hS.2.2 hd hlk
        · simp at hs
      | _ => simp at hs
    | areturn =>
      obtain ⟨rfl, hd⟩ := hnx rfl
      rcases st with _ | ⟨w1, st⟩
      · simp at hs
      cases w1 with
      | ref z =>
        rcases st with _ | ⟨w2, st⟩
        · obtain ⟨rfl, e2⟩ := Prod.mk.inj (Option.some.inj hs)
          obtain ⟨rfl, rfl⟩ := Prod.mk.inj e2
          have hp' : n = n' := hp
          subst hp'
          exact W.aret hx hb (hr.trans (of_decide_eq_true hi)) (Or.inl ⟨_, rfl⟩) (Or.inr ⟨_, rfl⟩) (post n rfl hH hq) hS.2.2 hd hlk
        · simp at hs
      | _ => simp at hs
    | return_ =>
      obtain ⟨rfl, hd⟩ := hnx rfl
      rcases st with _ | ⟨w1, st⟩
      · obtain ⟨rfl, e2⟩ := Prod.mk.inj (Option.some.inj hs)
        obtain ⟨rfl, rfl⟩ := Prod.mk.inj e2
        have hp' : n = n' := hp
        subst hp'
        exact W.vret hx hb (hr.trans (of_decide_eq_true hi)) (post n rfl hH hq) hS.2.2 hd hlk
      · simp at hs
    | _ => simp at hs
end SND
