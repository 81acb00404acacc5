section START
variable {d : Nat}
/-- the whole law over my interpreter, open in six calls -/
theorem law_all (oF : OpF d) (oC : OpC d) (oR : OpR d) (oW : OpW d) (oS : OpS d) (oD : OpD d) {K : Int32 → Hp → Prop} (kend : ∀ h, K 1 h) {L : Nat} (hL : L ≤ 2048) {h : Hp} (hn : hN h = 2) (hu : hU h = 0) (sc : hS h 1 = (20, L)) : Ca (d + 41) m_La_law [.ref 1] h (QI K) := by
  have cN : capN = 601000 := rfl
  have cU : capU = 7293000 := rfl
  refine w_La_law ⟨room_of (by omega) (by omega), ?_⟩
  rintro _ rfl _ rfl
  rw [hn]
  refine ⟨by rw [hS_nw, if_pos hn.symm], ?_⟩
  refine c_Ff_init (by rw [hN_nw, hn]) (by rw [hS_nw, if_pos hn.symm]) (by rw [hU_nw]; omega) fun h6 a1 a2 a3 a4 a5 a6 a7 a8 a9 a10 => ?_
  rw [hU_nw] at a2
  refine ⟨room_of (by omega) (by omega), ?_⟩
  rintro _ rfl _ rfl
  rw [a1]
  refine ⟨by rw [hS_nw, if_pos a1.symm], ?_⟩
  refine c_Mo_init (by rw [hN_nw, a1]) (by rw [hS_nw, if_pos a1.symm]) (fun j => by rw [hI_nw, if_pos a1.symm]) (by rw [hU_nw]; omega) fun h13 b1 b2 b3 b4 b5 => ?_
  rw [hU_nw] at b2
  rw [show (1 : Int32) = iv 1 from rfl, iv_clamp (by omega)]
  refine ⟨⟨iv_neg (by omega), by omega, room_of (by omega) (by omega)⟩, ?_⟩
  rintro _ rfl _ rfl
  refine ⟨⟨iv_neg (by omega), by omega, room_of (by rw [hN_nw]; omega) (by rw [hU_nw]; omega)⟩, ?_⟩
  rintro _ rfl _ rfl
  have e1 : hN (hNew h13 21 1 1) = 230 := by rw [hN_nw, b1]
  rw [e1, b1]
  have S1 : ∀ c, c < 229 → Sm h13 (hNew (hNew h13 21 1 1) 23 1 1) c := fun c hc => (Sm.nw (by omega)).trans (Sm.nw (by omega))
  have S2 : ∀ c, c < 197 → Sm h6 (hNew (hNew h13 21 1 1) 23 1 1) c := fun c hc => ((Sm.nw (by omega)).trans (b5 c hc)).trans (S1 c (by omega))
  have f9 : hI (hNew (hNew h13 21 1 1) 23 1 1) 197 = hI h13 197 := (S1 197 (by omega)).1
  have f2 : hI (hNew (hNew h13 21 1 1) 23 1 1) 2 = hI h6 2 := (S2 2 (by omega)).1
  have I : Inv 0 13 105 (hNew (hNew h13 21 1 1) 23 1 1) := by
    refine ⟨⟨by rw [hN_nw, hN_nw]; omega, by rw [hN_nw, hN_nw]; omega, by rw [hU_nw, hU_nw]; omega⟩, ⟨⟨?_, ?_, ⟨?_, ?_⟩, a3.2.2.2⟩, ?_, ?_, ?_⟩, ⟨⟨0, ?_⟩, ⟨0, ?_⟩, ⟨0, ?_⟩, ⟨0, ?_⟩, ⟨0, ?_⟩⟩, ⟨⟨?_, ?_, ?_⟩, ?_⟩, fun hc => ?_⟩
    · rw [(S2 2 (by omega)).2.2.2.2]; exact a3.1
    · rw [(S2 2 (by omega)).2.2.1]; exact a3.2.1
    · exact a3.2.2.1.1.mono fun a q1 q2 => S2 a (by omega)
    · exact a3.2.2.1.2.mono fun a q1 q2 => S2 a (by omega)
    · exact b3.mono fun c q1 q2 => ⟨(S1 c q2).2.2.1, (S1 c q2).2.2.2.2⟩
    · rw [hS_nw, if_neg (by omega), hS_nw, if_pos b1.symm]
    · rw [hS_nw, if_pos e1.symm]
    · exact ⟨a4.mono (S2 3 (by omega)) (S2 4 (by omega)), by rw [f9, b4.2.2 2 (by decide) (by decide)]; rfl, fun i hi => absurd hi (by omega)⟩
    · exact ⟨a5.mono (S2 5 (by omega)) (S2 6 (by omega)), by rw [f9, b4.2.2 7 (by decide) (by decide)]; rfl, fun i hi => absurd hi (by omega)⟩
    · exact ⟨a6.mono (S2 7 (by omega)) (S2 8 (by omega)), by rw [f9, b4.2.2 9 (by decide) (by decide)]; rfl, fun i hi => absurd hi (by omega)⟩
    · exact a7.mono (S2 9 (by omega)) (S2 10 (by omega))
    · exact a8.mono (S2 11 (by omega)) (S2 12 (by omega))
    · rw [f2, f9, a9.1, b4.2.2 5 (by decide) (by decide)]
    · rw [f2, f9, a9.2.1, b4.1]
    · rw [f2, f9, a9.2.2, b4.2.1]
    · left; rw [f2]; exact a9.1
    · rw [f2, a9.1] at hc; exact absurd hc (by decide)
  have sc' : hS (hNew (hNew h13 21 1 1) 23 1 1) 1 = (20, L) := by
    rw [(S2 1 (by omega)).2.2.2.2, (a10 1 (by omega)).2.2.2.2, hS_nw, if_neg (by omega)]; exact sc
  exact law_loop oF oC oR oW oS oD kend hL L 0 13 105 _ none none none (by omega) (by omega) I sc'
end START
