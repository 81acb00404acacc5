/-- a node just begun -/
def NdN (h : Hp) (a : Nat) (kd : Int32) (o : Nat) (nm : Int32) : Prop := (hI h a 0 = kd ∧ hI h a 1 = 0 ∧ hI h a 2 = nm ∧ hI h a 3 = 0 ∧ hI h a 4 = -1) ∧ (hR h a 5 = 0 ∧ hR h a 6 = o ∧ hR h a 7 = 0 ∧ hR h a 8 = 0 ∧ hR h a 9 = 0 ∧ hR h a 10 = 0) ∧ (hL h a 11 = 0 ∧ hL h a 12 = 0 ∧ hL h a 13 = 0 ∧ hL h a 14 = 0 ∧ hL h a 15 = 0)
theorem c_become {d a o : Nat} {kd nm : Int32} {h : Hp} {K : Hp → Prop} (hc : (hS h a).1 = 2) (k : ∀ h', NdN h' a kd o nm → (∀ c, ¬ c = a → Sm h h' c) → hS h' = hS h → hN h' = hN h → hU h' = hU h → K h') : Ca d m_No_become [.ref a, .int kd, .ref o, .int nm] h (QV K) := by
  refine w_No_become ⟨hc, ?_⟩
  rintro _ rfl _ rfl _ rfl _ rfl _ rfl _ rfl _ rfl _ rfl _ rfl _ rfl _ rfl _ rfl _ rfl _ rfl _ rfl _ rfl
  refine k _ ?_ (fun c hc => ?_) rfl rfl rfl
  · unfold NdN
    simp [hI_sI, hR_sR, hL_sL, hI_sL, hI_sR, hR_sL, hR_sI, hL_sR, hL_sI]
  · exact (Sm.sI hc).trans ((Sm.sR hc).trans ((Sm.sI hc).trans ((Sm.sI hc).trans ((Sm.sI hc).trans ((Sm.sI hc).trans ((Sm.sR hc).trans ((Sm.sR hc).trans ((Sm.sR hc).trans ((Sm.sR hc).trans ((Sm.sR hc).trans ((Sm.sL hc).trans ((Sm.sL hc).trans ((Sm.sL hc).trans ((Sm.sL hc).trans (Sm.sL hc)))))))))))))))
theorem c_fresh {d b u o : Nat} {kd nm : Int32} {h : Hp} {K : Nat → Hp → Prop} (F : Fmt h b) (hu : hI h b 1 = iv u) (h90 : u < 90) (k : ∀ h', NdN h' (b + 2 + u) kd o nm → hI h' b 1 = iv (u + 1) → (∀ c, ¬ c = b → ¬ c = b + 2 + u → Sm h h' c) → (∀ c, hR h' b c = hR h b c) → hS h' = hS h → hN h' = hN h → hU h' = hU h → K (b + 2 + u) h') : Ca (d + 1) m_Fo_fresh [.ref b, .int kd, .ref o, .int nm] h (QR K) := by
  obtain ⟨f1, f2, f3, f4⟩ := F
  refine w_Fo_fresh ⟨f1, ?_⟩
  rw [f2, f3, hu]
  refine ⟨rfl, ?_⟩
  rw [ofn, if_pos ((iv_lt (by omega) (by omega)).mpr h90), iv_clamp (by omega)]
  refine ⟨rfl, ainr_iv (by omega) h90, ?_⟩
  rintro _ rfl _ rfl
  rw [(f4 u h90).1, iv1, iv_add]
  refine ⟨(f4 u h90).2, c_become (f4 u h90).2 fun h' n1 n2 n3 n4 n5 => k h' n1 ?_ (fun c c1 c2 => (Sm.sI c1).trans (n2 c c2)) (fun c => ?_) n3 n4 n5⟩
  · rw [(n2 b (by omega)).1, hI_s]
  · rw [(n2 b (by omega)).2.2.1, hR_sI]
