/-- a node just begun -/
def NdN (h : Hp) (a : Nat) (kd : Int32) (o : Nat) (nm : Int32) : Prop := (hI h a 0 = kd ∧ hI h a 1 = 0 ∧ hI h a 2 = nm ∧ hI h a 3 = 0 ∧ hI h a 4 = -1) ∧ (hR h a 5 = 0 ∧ hR h a 6 = o ∧ hR h a 7 = 0 ∧ hR h a 8 = 0 ∧ hR h a 9 = 0 ∧ hR h a 10 = 0) ∧ (hL h a 11 = 0 ∧ hL h a 12 = 0 ∧ hL h a 13 = 0 ∧ hL h a 14 = 0 ∧ hL h a 15 = 0)
theorem c_become {d a o : Nat} {kd nm : Int32} {h : Hp} {K : Hp → Prop} (hc : (hS h a).1 = 2) (k : ∀ h', NdN h' a kd o nm → (∀ c, ¬ c = a → Sm h h' c) → hS h' = hS h → hN h' = hN h → hU h' = hU h → K h') : Ca d m_No_become [.ref a, .int kd, .ref o, .int nm] h (QV K) := by
  refine w_No_become ⟨hc, ?_⟩
  rintro _ rfl _ rfl _ rfl _ rfl _ rfl _ rfl _ rfl _ rfl _ rfl _ rfl _ rfl _ rfl _ rfl _ rfl _ rfl _ rfl
  refine k _ ?_ (fun c hc => ?_) rfl rfl rfl
  · unfold NdN
    simp [hI_sI, hR_sR, hL_sL, hI_sL, hI_sR, hR_sL, hR_sI, hL_sR, hL_sI]
  · exact (Sm.sI hc).trans ((Sm.sR hc).trans ((Sm.sI hc).trans ((Sm.sI hc).trans ((Sm.sI hc).trans ((Sm.sI hc).trans ((Sm.sR hc).trans ((Sm.sR hc).trans ((Sm.sR hc).trans ((Sm.sR hc).trans ((Sm.sR hc).trans ((Sm.sL hc).trans ((Sm.sL hc).trans ((Sm.sL hc).trans ((Sm.sL hc).trans (Sm.sL hc)))))))))))))))
