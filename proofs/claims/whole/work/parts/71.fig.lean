section FIG
variable {d : Nat} {p b n : Nat} {K : Int32 → Hp → Prop}
theorem Prs.adv {h : Hp} {i : Nat} (P : Prs h p b i n) (hi : i < n) : Prs (sI h p 2 (iv (i + 1))) p b (i + 1) n := by
  obtain ⟨⟨p1, p2, p3, p4⟩, p5, p6, p7⟩ := P
  exact ⟨⟨p1, p2, p3, hI_s⟩, by omega, p6.mono (Sm.sI (by omega)) (Sm.sI (by omega)), p7⟩
theorem tx_adv {h : Hp} {j : Nat} {v : Int32} (hp : ¬ 4 = p) : tx (sI h p j v) n = tx h n := by
  funext i; unfold tx; rw [hI_ne hp]
end FIG
