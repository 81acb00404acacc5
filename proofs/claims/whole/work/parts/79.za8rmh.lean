/-! all that the Model's machine wants, for reading -/
section RMH
variable {L : Nat} {M : Nat → Int32} {S : Tb} {g0 : Hp}
theorem rd_mh (R0 : Rm0 L M S g0) (T : TW S) : MH S (URd M L S) (spRd M) (RxR L S g0) (RyR L M S g0) (DmR L M S g0) (FlR g0) := by
  refine ⟨⟨fun s g x => x.1.bm R0, fun s g y => ⟨y.1.bm R0, y.2.1⟩, fun s g y => y.1.bm R0⟩, ⟨fun s g g' m x => ⟨x.1.mch m, by rw [m.2.2.1 43 (by decide)]; exact x.2⟩, fun s g g' m y => ⟨y.1.mch m, y.2.1, by rw [m.2.2.1 43 (by decide)]; exact y.2.2⟩, fun s g g' m y => ⟨y.1.mch m, y.2.1, by rw [m.2.2.1 43 (by decide)]; exact y.2.2.1, y.2.2.2⟩⟩, ⟨fun s g x al => ⟨x.1, al, Or.inl (by rw [x.2, if_pos al])⟩, fun s g x => rx_sp R0 x⟩, rd_rest R0, rd_unm R0 T, fl_h⟩
end RMH
