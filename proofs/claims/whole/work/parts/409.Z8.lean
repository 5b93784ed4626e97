section
variable {h h1 h2 : AH} {L : SL} {S : SS} {H : SH'} {B : SB'} {M : SM'} {D : SD'} {T : ST'} {N : SN'}
theorem t_province (w : Wld h) : TT m_X12_province m_X13_province [] h := by
  obtain ⟨L, S, H, B, M, D, T, N, c, m, W, nD, wd⟩ := w
  refine x_province W c (fun h1 f1 e c1 => ⟨_, rfl, Kp.frC f1, fun Q k => m_province (wd.frC f1) W (m.frC f1) (fun h2 f2 _ m2 => k _ ((Kp.frC f1).tr (Kp.frM f2)) ⟨_, _, _, _, _, _, _, _, c1.frM W.1 f2, m2, wok_T W (tap0 _), nD, (wd.frC f1).frM f2⟩) (fun _ _ e2 => absurd e2 e)⟩) (fun h1 f1 e c1 => ⟨_, rfl, Kp.frC f1, fun Q k => m_province (wd.frC f1) W (m.frC f1) (fun _ _ e2 => absurd e e2) (fun h2 f2 _ m2 => ?_)⟩)
  obtain ⟨o1, o2⟩ := ok_prov W e
  exact k _ ((Kp.frC f1).tr (Kp.frM f2)) ⟨_, _, _, _, _, _, _, _, RC.frM o1.1 c1 f2, m2, o1, o2, (wd.frC f1).frM f2⟩
end
