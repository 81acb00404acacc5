/-! the class's sized types and choices, and the descent -/
section CLS2
variable {ω : Type} {d x0 b : Nat} {S : Tb} {U : Nat → Nat → ω → Int32 × Nat × ω × Int64} {sp : Nat → ω → Int32 × Nat} {Rc : Ps ω → Hp → Prop} {Re : Int32 → Int32 → Hp → Prop}
theorem by_num {n : Nat} (h : n < 8000) : (iv n + 7) / 8 = iv (bfN n) := by
  rw [← Int32.toInt_inj, Int32.toInt_div_of_ne_right _ _ (by decide), show (7 : Int32) = iv 7 from rfl, iv_add, iv_toInt (by omega), iv_toInt (by unfold bfN; omega), show (8 : Int32).toInt = ((8 : Nat) : Int) from rfl]
  show Int.tdiv _ _ = _
  rw [← Int.ofNat_tdiv]; rfl
theorem c_by {x0 : Nat} {h : Hp} {K : Int32 → Hp → Prop} {s : Ps ω} (B : Bse x0 b S s h) (k : K (iv (bfN s.1)) h) : Ca d m_Co_bytesPassed [.ref x0] h (QI K) := by
  refine w_Co_bytesPassed ⟨B.1, ?_⟩
  rw [B.2.2.1.1, by_num B.2.2.1.2]; exact k
theorem bf_lt {n : Nat} (h : n < 8000) : bfN n < 2000 := by unfold bfN; omega
theorem c_szd (hb : ∀ s h, Rc s h → Bse x0 b S s h) (hre : ∀ s h, Rc s h → Re s.2.2.2.1 s.2.2.2.2 h) {f : Nat} (R : RecP d x0 b S U sp Rc Re f) {D n c e : Nat} {r : List Nat} (hD : D + f = 5) (hn : n < S.1) (hc : kids S n = c :: r) (he : e < 5000) {y3 : Option Value} : ∀ (m k : Nat) (s : Ps ω) (h : Hp) (y4 : Option Value) (K : Int32 → Hp → Prop), k + m = 1000 → Rc s h → ¬ (pSd (psF S U sp f) c e m s).1 = 7 → (∀ h', Ro Rc Re (pSd (psF S U sp f) c e m s) h' → K (pSd (psF S U sp f) c e m s).1 h') →
    Wp (dd d f + 1) m_Co_passSized 30 [some (.ref x0), some (.ref (b + 2 + n)), some (.int (iv D)), y3, y4, some (.int 0), some (.long (jv e)), none, some (.int (iv k))] [] h (QI K) := by
  have fin : ∀ (s : Ps ω) (h : Hp) (y8 y4 : Option Value) (K : Int32 → Hp → Prop), Rc s h → (∀ h', Ro Rc Re (if e < bfN s.1 then (2, s) else (0, s)) h' → K (if e < bfN s.1 then (2, s) else (0, s) : Int32 × Ps ω).1 h') → Wp (dd d f + 1) m_Co_passSized 73 [some (.ref x0), some (.ref (b + 2 + n)), some (.int (iv D)), y3, y4, some (.int 0), some (.long (jv e)), none, y8] [] h (QI K) := by
    intro s h y8 y4 K r kk
    have B := hb s h r
    have l := bf_lt B.2.2.1.2
    refine w_Co_passSized_73 ?_
    rw [if_pos rfl]
    refine ⟨B.1, c_by B ?_⟩
    rw [iv_jv (by omega)]
    by_cases q : e < bfN s.1
    · rw [if_pos ((jv_lt (by omega) (by omega)).mpr q)]
      rw [if_pos q] at kk
      exact kk h ⟨fun z => absurd z (show ¬ (2 : Int32) = 0 by decide), hre s h r⟩
    · rw [if_neg (fun z => q ((jv_lt (by omega) (by omega)).mp z))]
      rw [if_neg q] at kk
      exact kk h ⟨fun _ => r, hre s h r⟩
  intro m
  induction m with
  | zero =>
    intro k s h y4 K ek r ne kk
    refine w_Co_passSized_30 ?_
    rw [if_neg (fun z => by have := (iv_lt (a := k) (b := 1000) (by omega) (by omega)).mp z; omega)]
    unfold pSd at ne kk
    by_cases q : bfN s.1 < e
    · rw [if_pos q] at ne; exact absurd rfl ne
    · rw [if_neg q] at kk
      exact fin s h _ _ K r kk
  | succ m ih =>
    intro k s h y4 K ek r ne kk
    have c1 : c < S.1 := (kids_mem.mp (show c ∈ kids S n by rw [hc]; simp)).1
    have B := hb s h r
    have l := bf_lt B.2.2.1.2
    obtain ⟨b1, ⟨C, F⟩, b3, b4⟩ := id B
    refine w_Co_passSized_30 ?_
    rw [if_pos (show iv k < 1000 from (iv_lt (a := k) (b := 1000) (by omega) (by omega)).mpr (by omega)), if_pos rfl]
    refine ⟨b1, c_by B ?_⟩
    rw [iv_jv (by omega)]
    unfold pSd at ne kk
    by_cases q : bfN s.1 < e
    · rw [if_pos ((jv_lt (by omega) (by omega)).mpr q)]
      rw [if_pos q] at ne kk
      refine ⟨CpT.s2 F C hn, b1, ?_⟩
      rw [(C.1.2.2.2.1 n hn).1, hc, iv1, iv_add]
      refine R (D + 1) c s h _ (by omega) c1 r (bnd_ne ne) fun h' o => ?_
      rintro _ rfl
      by_cases z : (psF S U sp f c s).1 = 0
      · rw [z, iv_add]
        rw [bnd_0 z] at ne kk
        exact ih (k + 1) _ h' _ K (by omega) (o.1 z) ne kk
      · rw [bnd_n z] at kk
        have e73 : ∀ y4 y8, Wp (dd d f + 1) m_Co_passSized 73 [some (.ref x0), some (.ref (b + 2 + n)), some (.int (iv D)), y3, y4, some (.int (psF S U sp f c s).1), some (.long (jv e)), none, y8] [] h' (QI K) := fun y4 y8 => by
          refine w_Co_passSized_73 ?_
          rw [if_neg z]
          exact kk h' o
        refine w_Co_passSized_30 ?_
        by_cases w : iv k + iv 1 < 1000
        · rw [if_pos w, if_neg z]; exact e73 _ _
        · rw [if_neg w]; exact e73 _ _
    · rw [if_neg (fun z => q ((jv_lt (by omega) (by omega)).mp z))]
      rw [if_neg q] at kk
      exact fin s h _ _ K r kk
theorem c_chs (hb : ∀ s h, Rc s h → Bse x0 b S s h) (hre : ∀ s h, Rc s h → Re s.2.2.2.1 s.2.2.2.2 h) {f : Nat} (R : RecP d x0 b S U sp Rc Re f) {D n : Nat} (hD : D + f = 5) (hn : n < S.1) (h63 : tG S n 0 = 63) {v : Int64} {y1 : Option Value} {s : Ps ω} {h : Hp} {K : Int32 → Hp → Prop} (r : Rc s h) : ∀ (l pre : List Nat), kids S n = pre ++ l → ¬ (pCh S (psF S U sp f) v l s).1 = 7 → (∀ h', Ro Rc Re (pCh S (psF S U sp f) v l s) h' → K (pCh S (psF S U sp f) v l s).1 h') →
    Wp (dd d f + 1) m_Co_passChoice 11 [some (.ref x0), y1, some (.int (iv D)), some (.long v), none, some (.ref (hdR b l))] [] h (QI K)
  | [], pre, e, ne, kk => by
    refine w_Co_passChoice_11 ?_
    rw [if_pos (show hdR b [] = 0 from rfl)]
    exact kk h ⟨fun z => absurd z (show ¬ (2 : Int32) = 0 by decide), hre s h r⟩
  | x :: l, pre, e, ne, kk => by
    have xk : x ∈ kids S n := by rw [e]; simp
    obtain ⟨x1, x2⟩ := kids_mem.mp xk
    have e' : kids S n = (pre ++ [x]) ++ l := by rw [e]; simp
    obtain ⟨b1, ⟨C, F⟩, b3, b4⟩ := hb s h r
    refine w_Co_passChoice_11 ?_
    rw [if_neg (show ¬ hdR b (x :: l) = 0 by show ¬ b + 2 + x = 0; omega), show hI h (hdR b (x :: l)) 3 = tG S x 6 from C.1.2.2.2.2 x x1 (by simp) n x2 h63]
    refine ⟨CpT.s2 F C x1, ?_⟩
    unfold pCh at ne kk
    by_cases q : (tG S x 6).toInt64 = v
    · rw [if_pos q]
      rw [if_pos q] at ne kk
      refine ⟨b1, ?_⟩
      rw [iv1, iv_add]
      exact R (D + 1) x s h _ (by omega) x1 r ne kk
    · rw [if_neg q]
      rw [if_neg q] at ne kk
      rintro _ rfl
      rw [show hR h (hdR b (x :: l)) 8 = hdR b l from C.1.2.2.2.1 n hn |>.2.2 |> fun _ => C.nx hn e]
      exact c_chs hb hre R hD hn h63 r l (pre ++ [x]) e' ne kk
theorem kids_one {n : Nat} (T : TW S) (hn : n < S.1) (hd : dp (tG S n 0) = true) : ∃ c r, kids S n = c :: r := by
  obtain ⟨x, x1, x2⟩ := (T.2.2.1 n hn).1.2.2 hd
  have : x ∈ kids S n := kids_mem.mpr ⟨x1, x2⟩
  cases e : kids S n with
  | nil => rw [e] at this; simp at this
  | cons c r => exact ⟨c, r, rfl⟩
theorem jv_of {v : Int64} (h : ¬ v < 0) : v = jv v.toInt.toNat := by
  rw [Int64.lt_iff_toInt_lt, show (0 : Int64).toInt = 0 from rfl] at h
  have := v.toInt_lt
  rw [← Int64.toInt_inj, jv_toInt (by omega)]; omega
theorem c_passP (T : TW S) (hb : ∀ s h, Rc s h → Bse x0 b S s h) (hre : ∀ s h, Rc s h → Re s.2.2.2.1 s.2.2.2.2 h) (hsp : SpC x0 sp Rc Re) (hun : UnC x0 b S U Rc Re) : ∀ f, RecP d x0 b S U sp Rc Re f
  | 0 => fun D n s h K _ _ _ ne _ => absurd rfl ne
  | f + 1 => by
    intro D n s h K hD hn r ne kk
    have R := c_passP T hb hre hsp hun f
    have B := hb s h r
    obtain ⟨b1, ⟨C, F⟩, b3, b4⟩ := id B
    have e0 : hI h (b + 2 + n) 0 = tG S n 0 := (C.1.2.1 n hn).1
    obtain ⟨gk, -, -⟩ := (T.2.2.1 n hn).1
    show Ca (dd d f + 1 + 1) m_Co_passType [.ref x0, .ref (b + 2 + n), .int (iv D)] h (QI K)
    refine w_Co_passType ?_
    rw [if_neg (show ¬ b + 2 + n = 0 by omega), if_neg (fun z => by have := (iv_lt (a := 5) (b := D) (by omega) (by omega)).mp z; omega), e0]
    refine ⟨CpT.s2 F C hn, ?_⟩
    have ti : ∀ m : Nat, m < 200 → ((tG S n 0).toInt = (m : Int) ↔ tG S n 0 = iv m) := fun m hm => by rw [← iv_toInt (n := m) (by omega), Int32.toInt_inj]
    have t42 : (tG S n 0).toInt = 42 ↔ tG S n 0 = 42 := ti 42 (by decide)
    have t47 : (tG S n 0).toInt = 47 ↔ tG S n 0 = 47 := ti 47 (by decide)
    have t63 : (tG S n 0).toInt = 63 ↔ tG S n 0 = 63 := ti 63 (by decide)
    have t123 : (tG S n 0).toInt = 123 ↔ tG S n 0 = 123 := ti 123 (by decide)
    unfold psF at ne kk
    by_cases q : tG S n 0 = 123
    · rw [if_pos q] at ne kk
      rw [if_neg (fun z => by rw [t42, q] at z; exact absurd z (by decide)), if_neg (fun z => by rw [t47, q] at z; exact absurd z (by decide)), if_neg (fun z => by rw [t63, q] at z; exact absurd z (by decide)), if_pos (t123.mpr q)]
      refine ⟨b1, w_Co_passFields ⟨CpT.s2 F C hn, ?_⟩⟩
      rintro _ rfl
      rw [(C.1.2.2.2.1 n hn).1]
      exact c_flds hb hre hsp R (by omega) hn (kids S n) [] s h none K rfl r ne kk
    · rw [if_neg q] at ne kk
      by_cases p : dp (tG S n 0) = true
      · rw [if_pos p] at ne kk
        cases em : mnt S n with
        | zero => rw [em, if_pos rfl] at ne; exact absurd rfl ne
        | succ m =>
        rw [em, if_neg (Nat.succ_ne_zero m), Nat.succ_sub_one] at ne kk
        cases ev : s.2.2.1 m with
        | none => rw [ev] at ne; exact absurd rfl ne
        | some v =>
        rw [ev] at ne kk
        have told : ∀ (K : Int64 → Hp → Prop) (d : Nat), K v h → Ca d m_Co_told [.ref (b + 2 + n)] h (QL K) := by
          intro K d k
          have m5 := C.2.1 n hn p
          rw [em] at m5
          obtain ⟨v1, v2⟩ := b4 m v ev
          refine w_Co_told ⟨CpT.s2 F C hn, ?_⟩
          rw [m5, if_neg (show ¬ rfN b (m + 1) = 0 by show ¬ b + 2 + m = 0; omega)]
          exact ⟨CpT.s2 F C v1, by rw [show hL h (rfN b (m + 1)) 15 = v from v2]; exact k⟩
        obtain ⟨c, rr, hc⟩ := kids_one T hn p
        have k2 : Ro Rc Re ((2 : Int32), s) h := ⟨fun z => absurd z (show ¬ (2 : Int32) = 0 by decide), hre s h r⟩
        have hv2 := v.toInt_lt
        rw [pDp] at ne kk
        by_cases q42 : tG S n 0 = 42
        · rw [if_pos (t42.mpr q42)]
          rw [if_pos q42] at ne kk
          refine ⟨b1, w_Co_passCounted (told _ _ ?_)⟩
          by_cases v0 : v < 0
          · rw [if_pos v0] at ne kk ⊢
            refine w_Co_passCounted_21 ?_
            rw [if_neg (fun z => by rw [Int64.lt_iff_toInt_lt] at z v0; omega)]
            exact kk h k2
          · rw [if_neg v0] at ne kk ⊢
            rw [hc] at ne kk
            exact c_ctd hb hre R (by omega) hn hc v0 _ 0 s h K (by omega) r ne kk
        · rw [if_neg (fun z => q42 (t42.mp z))]
          rw [if_neg q42] at ne kk
          by_cases q47 : tG S n 0 = 47
          · rw [if_pos (t47.mpr q47)]
            rw [if_pos q47] at ne kk
            refine ⟨b1, w_Co_passSized (told _ _ ?_)⟩
            by_cases v0 : v < 0
            · rw [if_pos v0] at ne kk ⊢
              refine ⟨b1, c_by B ?_⟩
              rintro _ rfl
              refine w_Co_passSized_30 ?_
              rw [if_pos (by decide), if_neg (by decide)]
              refine w_Co_passSized_73 ?_
              rw [if_neg (by decide)]
              exact kk h k2
            · rw [if_neg v0] at ne kk ⊢
              by_cases v1 : 1000 < v
              · rw [if_pos v1] at ne; exact absurd rfl ne
              rw [if_neg v1] at ne kk
              refine ⟨b1, c_by B ?_⟩
              rintro _ rfl
              have l := bf_lt B.2.2.1.2
              have ej := jv_of v0
              have v3 : v.toInt.toNat ≤ 1000 := by
                rw [Int64.lt_iff_toInt_lt, show (1000 : Int64).toInt = 1000 from rfl] at v1; omega
              have ee : (iv (bfN s.1)).toInt64 + v = jv (bfN s.1 + v.toInt.toNat) := by
                rw [iv_jv (by omega), ← jv_add, ← ej]
              rw [ee]
              rw [hc] at ne kk
              exact c_szd hb hre R (by omega) hn hc (by omega) 1000 0 s h _ K (by omega) r ne kk
          · rw [if_neg (fun z => q47 (t47.mp z))]
            rw [if_neg q47] at ne kk
            have q63 : tG S n 0 = 63 := by
              unfold dp at p
              simp only [Bool.or_eq_true, decide_eq_true_eq] at p
              rcases p with (p | p) | p
              · exact absurd p q42
              · exact absurd p q47
              · exact p
            rw [if_pos (t63.mpr q63)]
            refine ⟨b1, w_Co_passChoice (told _ _ ⟨CpT.s2 F C hn, ?_⟩)⟩
            rintro _ rfl
            rw [(C.1.2.2.2.1 n hn).1]
            exact c_chs hb hre R (by omega) hn q63 r (kids S n) [] rfl ne kk
      · rw [if_neg p] at ne kk
        have hu : sz (tG S n 0) = true ∨ sm (tG S n 0) = true := by
          rcases gk with g | g | g | g
          · exact Or.inl g
          · exact Or.inr g
          · exact absurd g q
          · exact absurd g p
        have np : ∀ c : Int32, dp c = true → ¬ tG S n 0 = c := fun c hc z => p (by rw [z]; exact hc)
        rw [if_neg (fun z => np 42 rfl (t42.mp z)), if_neg (fun z => np 47 rfl (t47.mp z)), if_neg (fun z => np 63 rfl (t63.mp z)), if_neg (fun z => q (t123.mp z))]
        refine ⟨b1, ?_⟩
        have := hun (d + 2 * f + 1) n s h K hn hu r kk
        rw [show d + 2 * f + 1 + 6 = dd d f + 1 by rw [dd_eq]] at this
        exact this
end CLS2
