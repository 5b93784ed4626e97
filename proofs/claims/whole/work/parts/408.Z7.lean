section
variable {h h1 h2 : AH} {L : SL} {S : SS} {H : SH'} {B : SB'} {M : SM'} {D : SD'} {T : ST'} {N : SN'}
theorem t_person {p q : Int32} (w : Wld h) : TT m_X12_person m_X13_person [.int p, .int q] h := by
  obtain ⟨L, S, H, B, M, D, T, N, c, m, W, nD, wd⟩ := w
  exact x_person W c ⟨_, rfl, Kp.rf h, fun Q k => y_person W m (k _ (Kp.frM (f0 h 0)) ⟨L, S, H, B, M, D, T, N, c.frM W.1 (f0 h 0), m.thz 0, W, nD, wd.frM (f0 h 0)⟩)⟩
theorem t_odds {p q : Int32} (w : Wld h) : TT m_X12_odds m_X13_odds [.int p, .int q] h := by
  obtain ⟨L, S, H, B, M, D, T, N, c, m, W, nD, wd⟩ := w
  exact x_odds W c ⟨_, rfl, Kp.rf h, fun Q k => y_odds W m (k _ (Kp.frM (f0 h 0)) ⟨L, S, H, B, M, D, T, N, c.frM W.1 (f0 h 0), m.thz 0, W, nD, wd.frM (f0 h 0)⟩)⟩
theorem t_likes {p q : Int32} (w : Wld h) : TT m_X12_likes m_X13_likes [.int p, .int q] h := by
  obtain ⟨L, S, H, B, M, D, T, N, c, m, W, nD, wd⟩ := w
  exact x_likes W c ⟨_, rfl, Kp.rf h, fun Q k => y_likes W m (k _ (Kp.frM (f0 h 0)) ⟨L, S, H, B, M, D, T, N, c.frM W.1 (f0 h 0), m.thz 0, W, nD, wd.frM (f0 h 0)⟩)⟩
theorem t_two {p q r : Int32} (w : Wld h) : TT m_X12_two m_X13_two [.int p, .int q, .int r] h := by
  obtain ⟨L, S, H, B, M, D, T, N, c, m, W, nD, wd⟩ := w
  exact x_two W c ⟨_, rfl, Kp.rf h, fun Q k => y_two W m (k _ (Kp.frM (f0 h 0)) ⟨L, S, H, B, M, D, T, N, c.frM W.1 (f0 h 0), m.thz 0, W, nD, wd.frM (f0 h 0)⟩)⟩
theorem t_say {p q : Int32} (w : Wld h) : TT m_X12_say m_X13_say [.int p, .int q] h := by
  obtain ⟨L, S, H, B, M, D, T, N, c, m, W, nD, wd⟩ := w
  exact x_say W c (fun h1 f1 c1 => ⟨_, rfl, Kp.frC f1, fun Q k => y_say W (m.frC f1) (fun h2 f2 m2 => k _ ((Kp.frC f1).tr (Kp.frM f2)) ⟨_, _, _, _, _, _, _, _, c1.frM W.1 f2, m2, (ok_say W), nD, (wd.frC f1).frM f2⟩)⟩)
theorem t_hush {p : Int32} (w : Wld h) : TT m_X12_hush m_X13_hush [.int p] h := by
  obtain ⟨L, S, H, B, M, D, T, N, c, m, W, nD, wd⟩ := w
  exact x_hush W c (fun h1 f1 c1 => ⟨_, rfl, Kp.frC f1, fun Q k => y_hush W (m.frC f1) (fun h2 f2 m2 => k _ ((Kp.frC f1).tr (Kp.frM f2)) ⟨_, _, _, _, _, _, _, _, c1.frM W.1 f2, m2, (ok_hush W), nD, (wd.frC f1).frM f2⟩)⟩)
theorem t_walk {p q : Int32} (w : Wld h) : TT m_X12_walk m_X13_walk [.int p, .int q] h := by
  obtain ⟨L, S, H, B, M, D, T, N, c, m, W, nD, wd⟩ := w
  exact x_walk W c (fun h1 f1 c1 => ⟨_, rfl, Kp.frC f1, fun Q k => y_walk W (m.frC f1) (fun h2 f2 m2 => k _ ((Kp.frC f1).tr (Kp.frM f2)) ⟨_, _, _, _, _, _, _, _, c1.frM W.1 f2, m2, (ok_walk W), nD, (wd.frC f1).frM f2⟩)⟩)
theorem t_moment (w : Wld h) : TT m_X12_moment m_X13_moment [] h := by
  obtain ⟨L, S, H, B, M, D, T, N, c, m, W, nD, wd⟩ := w
  exact x_moment W c (fun h1 f1 c1 => ⟨_, rfl, Kp.frC f1, fun Q k => y_moment W (m.frC f1) (fun h2 f2 m2 => k _ ((Kp.frC f1).tr (Kp.frM f2)) ⟨_, _, _, _, _, _, _, _, c1.frM W.1 f2, m2, (ok_moment W), nD, (wd.frC f1).frM f2⟩)⟩)
theorem t_part {p q : Int32} (w : Wld h) : TT m_X12_part m_X13_part [.int p, .int q] h := by
  obtain ⟨L, S, H, B, M, D, T, N, c, m, W, nD, wd⟩ := w
  exact x_part W c (fun h1 f1 c1 => ⟨_, rfl, Kp.frC f1, fun Q k => y_part W (m.frC f1) (fun h2 f2 m2 => k _ ((Kp.frC f1).tr (Kp.frM f2)) ⟨_, _, _, _, _, _, _, _, c1.frM W.1 f2, m2, (ok_part W), nD, (wd.frC f1).frM f2⟩)⟩)
theorem t_keep {p q : Int32} (w : Wld h) : TT m_X12_keep m_X13_keep [.int p, .int q] h := by
  obtain ⟨L, S, H, B, M, D, T, N, c, m, W, nD, wd⟩ := w
  exact x_keep W c (fun h1 f1 c1 => ⟨_, rfl, Kp.frC f1, fun Q k => y_keep W (m.frC f1) (fun h2 f2 m2 => k _ ((Kp.frC f1).tr (Kp.frM f2)) ⟨_, _, _, _, _, _, _, _, c1.frM W.1 f2, m2, (ok_keep W), nD, (wd.frC f1).frM f2⟩)⟩)
theorem t_undo (w : Wld h) : TT m_X12_undo m_X13_undo [] h := by
  obtain ⟨L, S, H, B, M, D, T, N, c, m, W, nD, wd⟩ := w
  exact x_undo W c (fun h1 f1 c1 => ⟨_, rfl, Kp.frC f1, fun Q k => y_undo W (m.frC f1) (fun h2 f2 m2 => k _ ((Kp.frC f1).tr (Kp.frM f2)) ⟨_, _, _, _, _, _, _, _, c1.frM W.1 f2, m2, (ok_undo W), nD, (wd.frC f1).frM f2⟩)⟩)
theorem t_judged {p : Int32} (w : Wld h) : TT m_X12_judged m_X13_judged [.int p] h := by
  obtain ⟨L, S, H, B, M, D, T, N, c, m, W, nD, wd⟩ := w
  exact x_judged W c (fun h1 f1 c1 => ⟨_, rfl, Kp.frC f1, fun Q k => y_judged W (m.frC f1) (fun h2 f2 m2 => k _ ((Kp.frC f1).tr (Kp.frM f2)) ⟨_, _, _, _, _, _, _, _, c1.frM W.1 f2, m2, W, nD, (wd.frC f1).frM f2⟩)⟩)
theorem t_bigamists (w : Wld h) : TT m_X12_bigamists m_X13_bigamists [] h := by
  obtain ⟨L, S, H, B, M, D, T, N, c, m, W, nD, wd⟩ := w
  exact x_bigamists W c ⟨_, rfl, Kp.rf h, fun Q k => y_bigamists W m (k _ (Kp.frM (f0 h 0)) ⟨L, S, H, B, M, D, T, N, c.frM W.1 (f0 h 0), m.thz 0, W, nD, wd.frM (f0 h 0)⟩)⟩
theorem t_mend {p : Int32} (w : Wld h) : TT m_X12_mend m_X13_mend [.int p] h := by
  obtain ⟨L, S, H, B, M, D, T, N, c, m, W, nD, wd⟩ := w
  exact x_mend W c (fun h1 f1 c1 => ⟨_, rfl, Kp.frC f1, fun Q k => y_mend W (m.frC f1) (fun h2 f2 m2 => k _ ((Kp.frC f1).tr (Kp.frM f2)) ⟨_, _, _, _, _, _, _, _, c1.frM W.1 f2, m2, W, nD, (wd.frC f1).frM f2⟩)⟩)
theorem t_chance {p q : Int32} (w : Wld h) : TT m_X12_chance m_X13_chance [.int p, .int q] h := by
  obtain ⟨L, S, H, B, M, D, T, N, c, m, W, nD, wd⟩ := w
  exact x_chance W c ⟨_, rfl, Kp.rf h, fun Q k => y_chance W m (k _ (Kp.frM (f0 h 0)) ⟨L, S, H, B, M, D, T, N, c.frM W.1 (f0 h 0), m.thz 0, W, nD, wd.frM (f0 h 0)⟩)⟩
theorem t_within {p q r : Int32} (w : Wld h) : TT m_X12_within m_X13_within [.int p, .int q, .int r] h := by
  obtain ⟨L, S, H, B, M, D, T, N, c, m, W, nD, wd⟩ := w
  exact x_within W c ⟨_, rfl, Kp.rf h, fun Q k => y_within W m (k _ (Kp.frM (f0 h 0)) ⟨L, S, H, B, M, D, T, N, c.frM W.1 (f0 h 0), m.thz 0, W, nD, wd.frM (f0 h 0)⟩)⟩
theorem t_half {p q : Int32} (w : Wld h) : TT m_X12_half m_X13_half [.int p, .int q] h := by
  obtain ⟨L, S, H, B, M, D, T, N, c, m, W, nD, wd⟩ := w
  exact x_half W c ⟨_, rfl, Kp.rf h, fun Q k => y_half W m (k _ (Kp.frM (f0 h 0)) ⟨L, S, H, B, M, D, T, N, c.frM W.1 (f0 h 0), m.thz 0, W, nD, wd.frM (f0 h 0)⟩)⟩
theorem t_safest {p : Int32} (w : Wld h) : TT m_X12_safest m_X13_safest [.int p] h := by
  obtain ⟨L, S, H, B, M, D, T, N, c, m, W, nD, wd⟩ := w
  exact x_safest W c ⟨_, rfl, Kp.rf h, fun Q k => y_safest W m (k _ (Kp.frM (f0 h 0)) ⟨L, S, H, B, M, D, T, N, c.frM W.1 (f0 h 0), m.thz 0, W, nD, wd.frM (f0 h 0)⟩)⟩
theorem t_haven {p : Int32} (w : Wld h) : TT m_X12_haven m_X13_haven [.int p] h := by
  obtain ⟨L, S, H, B, M, D, T, N, c, m, W, nD, wd⟩ := w
  exact x_haven W c (fun h1 f1 c1 => ⟨_, rfl, Kp.frC f1, fun Q k => y_haven W (m.frC f1) (k _ ((Kp.frC f1).tr (Kp.frM (f0 h1 0))) ⟨L, S, H, B, M, D, T, N, c1.frM W.1 (f0 h1 0), (m.frC f1).thz 0, W, nD, (wd.frC f1).frM (f0 h1 0)⟩)⟩)
theorem t_matches {p : Int32} (w : Wld h) : TT m_X12_matches m_X13_matches [.int p] h := by
  obtain ⟨L, S, H, B, M, D, T, N, c, m, W, nD, wd⟩ := w
  exact x_matches W c (fun h1 f1 c1 => ⟨_, rfl, Kp.frC f1, fun Q k => y_matches W (m.frC f1) (fun h2 f2 m2 => k _ ((Kp.frC f1).tr (Kp.frM f2)) ⟨_, _, _, _, _, _, _, _, c1.frM W.1 f2, m2, W, nD, (wd.frC f1).frM f2⟩)⟩)
theorem t_code {p q : Int32} (w : Wld h) : TT m_X12_code m_X13_code [.int p, .int q] h := by
  obtain ⟨L, S, H, B, M, D, T, N, c, m, W, nD, wd⟩ := w
  exact x_code W c ⟨_, rfl, Kp.rf h, fun Q k => y_code W m (k _ (Kp.frM (f0 h 0)) ⟨L, S, H, B, M, D, T, N, c.frM W.1 (f0 h 0), m.thz 0, W, nD, wd.frM (f0 h 0)⟩)⟩
theorem t_may {p q : Int32} (w : Wld h) : TT m_X12_may m_X13_may [.int p, .int q] h := by
  obtain ⟨L, S, H, B, M, D, T, N, c, m, W, nD, wd⟩ := w
  exact x_may W c ⟨_, rfl, Kp.rf h, fun Q k => y_may W m (k _ (Kp.frM (f0 h 0)) ⟨L, S, H, B, M, D, T, N, c.frM W.1 (f0 h 0), m.thz 0, W, nD, wd.frM (f0 h 0)⟩)⟩
theorem t_rota {p q : Int32} (w : Wld h) : TT m_X12_rota m_X13_rota [.int p, .int q] h := by
  obtain ⟨L, S, H, B, M, D, T, N, c, m, W, nD, wd⟩ := w
  exact x_rota W c (fun h1 f1 c1 => ⟨_, rfl, Kp.frC f1, fun Q k => y_rota W (m.frC f1) (fun h2 f2 m2 => k _ ((Kp.frC f1).tr (Kp.frM f2)) ⟨_, _, _, _, _, _, _, _, c1.frM W.1 f2, m2, W, nD, (wd.frC f1).frM f2⟩)⟩)
theorem t_company {p : Int32} (w : Wld h) : TT m_X12_company m_X13_company [.int p] h := by
  obtain ⟨L, S, H, B, M, D, T, N, c, m, W, nD, wd⟩ := w
  exact x_company W c (fun h1 f1 c1 => ⟨_, rfl, Kp.frC f1, fun Q k => y_company W (m.frC f1) (k _ ((Kp.frC f1).tr (Kp.frM (f0 h1 0))) ⟨L, S, H, B, M, D, T, N, c1.frM W.1 (f0 h1 0), (m.frC f1).thz 0, W, nD, (wd.frC f1).frM (f0 h1 0)⟩)⟩)
theorem t_hear {p : Int32} (w : Wld h) : TT m_X12_hear m_X13_hear [.int p] h := by
  obtain ⟨L, S, H, B, M, D, T, N, c, m, W, nD, wd⟩ := w
  exact x_hear W c (fun h1 f1 c1 => ⟨_, rfl, Kp.frC f1, fun Q k => y_hear W (m.frC f1) (fun h2 f2 m2 => k _ ((Kp.frC f1).tr (Kp.frM f2)) ⟨_, _, _, _, _, _, _, _, c1.frM W.1 f2, m2, (ok_hear W), nD, (wd.frC f1).frM f2⟩)⟩)
theorem t_who (w : Wld h) : TT m_X12_who m_X13_who [] h := by
  obtain ⟨L, S, H, B, M, D, T, N, c, m, W, nD, wd⟩ := w
  exact x_who W c ⟨_, rfl, Kp.rf h, fun Q k => y_who W m (k _ (Kp.frM (f0 h 0)) ⟨L, S, H, B, M, D, T, N, c.frM W.1 (f0 h 0), m.thz 0, W, nD, wd.frM (f0 h 0)⟩)⟩
theorem t_likely (w : Wld h) : TT m_X12_likely m_X13_likely [] h := by
  obtain ⟨L, S, H, B, M, D, T, N, c, m, W, nD, wd⟩ := w
  exact x_likely W c ⟨_, rfl, Kp.rf h, fun Q k => y_likely W m (k _ (Kp.frM (f0 h 0)) ⟨L, S, H, B, M, D, T, N, c.frM W.1 (f0 h 0), m.thz 0, W, nD, wd.frM (f0 h 0)⟩)⟩
theorem t_ask (w : Wld h) : TT m_X12_ask m_X13_ask [] h := by
  obtain ⟨L, S, H, B, M, D, T, N, c, m, W, nD, wd⟩ := w
  exact x_ask W c ⟨_, rfl, Kp.rf h, fun Q k => y_ask W m (k _ (Kp.frM (f0 h 0)) ⟨L, S, H, B, M, D, T, N, c.frM W.1 (f0 h 0), m.thz 0, W, nD, wd.frM (f0 h 0)⟩)⟩
theorem t_generations {p q r : Int32} (w : Wld h) : TT m_X12_generations m_X13_generations [.int p, .int q, .int r] h := by
  obtain ⟨L, S, H, B, M, D, T, N, c, m, W, nD, wd⟩ := w
  exact x_generations W c (fun h1 f1 c1 => ⟨_, rfl, Kp.frC f1, fun Q k => y_generations W (m.frC f1) (fun h2 f2 m2 => k _ ((Kp.frC f1).tr (Kp.frM f2)) ⟨_, _, _, _, _, _, _, _, c1.frM W.1 f2, m2, W, nD, (wd.frC f1).frM f2⟩)⟩)
theorem t_mark {p q : Int32} (w : Wld h) : TT m_X12_mark m_X13_mark [.int p, .int q] h := by
  obtain ⟨L, S, H, B, M, D, T, N, c, m, W, nD, wd⟩ := w
  exact x_mark W c (fun h1 f1 c1 => ⟨_, rfl, Kp.frC f1, fun Q k => y_mark W (m.frC f1) (fun h2 f2 m2 => k _ ((Kp.frC f1).tr (Kp.frM f2)) ⟨_, _, _, _, _, _, _, _, c1.frM W.1 f2, m2, (ok_mark W), nD, (wd.frC f1).frM f2⟩)⟩)
theorem t_count {p : Int32} (w : Wld h) : TT m_X12_count m_X13_count [.int p] h := by
  obtain ⟨L, S, H, B, M, D, T, N, c, m, W, nD, wd⟩ := w
  exact x_count W c ⟨_, rfl, Kp.rf h, fun Q k => y_count W m (k _ (Kp.frM (f0 h 0)) ⟨L, S, H, B, M, D, T, N, c.frM W.1 (f0 h 0), m.thz 0, W, nD, wd.frM (f0 h 0)⟩)⟩
theorem t_feed {x y z : Int64} (w : Wld h) : TT m_X12_feed m_X13_feed [.long x, .long y, .long z] h := by
  obtain ⟨L, S, H, B, M, D, T, N, c, m, W, nD, wd⟩ := w
  exact x_feed W c (fun h1 f1 c1 => ⟨_, rfl, Kp.frC f1, fun Q k => y_feed W (m.frC f1) (fun h2 f2 m2 => k _ ((Kp.frC f1).tr (Kp.frM f2)) ⟨_, _, _, _, _, _, _, _, c1.frM W.1 f2, m2, ok_feed W, nD, (wd.frC f1).frM f2⟩)⟩)
theorem t_day (w : Wld h) : TT m_X12_day m_X13_day [] h := by
  obtain ⟨L, S, H, B, M, D, T, N, c, m, W, nD, wd⟩ := w
  exact x_day W c (fun h1 f1 c1 => ⟨_, rfl, Kp.frC f1, fun Q k => m_day (wd.frC f1) nD W (m.frC f1) (fun h2 f2 m2 => k _ ((Kp.frC f1).tr (Kp.frM f2)) ⟨_, _, _, _, _, _, _, _, c1.frM W.1 f2, m2, ok_day W, nD, (wd.frC f1).frM f2⟩)⟩)
end
