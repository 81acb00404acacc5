section BSN
variable {d b n : Nat} {h : Hp} {S : Tb}
theorem c_holds {K : Int32 → Hp → Prop} (F : Fcx h b S) (hn : n < S.1) {x : Int64} (k1 : ¬ x < loT S n → ¬ hiT S n < x → K 1 h) (k0 : (x < loT S n ∨ hiT S n < x) → K 0 h) : Ca d m_No_holds [.ref (b + 2 + n), .long x] h (QI K) := by
  obtain ⟨-, -, e1, e2⟩ := F.1.2.2.1 n hn
  refine w_No_holds ⟨F.s2 hn, ?_⟩
  rw [e1, e2]
  by_cases a : x < loT S n
  · rw [if_pos a]; exact k0 (Or.inl a)
  rw [if_neg a]
  by_cases c : hiT S n < x
  · rw [if_pos c]; exact k0 (Or.inr c)
  rw [if_neg c]; exact k1 a c
/-- no earlier case is alike -/
theorem c_good_38 {K : Int32 → Hp → Prop} {x : Nat} {pp : Nat} (F : Fcx h b S) (hx : x < S.1) (fx : hI h (b + 2 + x) 3 = tG S x 6) : ∀ (l : List Nat) (z : Nat), BkC h b z l → (∀ k, k ∈ l → k < S.1 ∧ hI h (b + 2 + k) 3 = tG S k 6) → ((∀ k, k ∈ l → ¬ tG S k 6 = tG S x 6) → Wp (d + 1) m_Fo_hasGoodFigures 5 [some (.ref pp), some (.ref (hR h (b + 2 + x) 8)), some (.ref 0)] [] h (QI K)) → (∀ k, k ∈ l → tG S k 6 = tG S x 6 → K 0 h) →
    Wp (d + 1) m_Fo_hasGoodFigures 38 [some (.ref pp), some (.ref (b + 2 + x)), some (.ref (hR h (b + 2 + z) 7))] [] h (QI K)
  | [], z, B, hl, k1, k0 => by
    refine w_Fo_hasGoodFigures_38 ?_
    rw [if_pos (show hR h (b + 2 + z) 7 = 0 from B)]
    refine ⟨F.s2 hx, ?_⟩
    rintro _ rfl
    rw [show hR h (b + 2 + z) 7 = 0 from B]
    exact k1 fun k hk => (nomatch hk)
  | y :: l, z, B, hl, k1, k0 => by
    obtain ⟨y1, y2⟩ := hl y (List.mem_cons_self ..)
    refine w_Fo_hasGoodFigures_38 ?_
    rw [B.1, if_neg (by omega)]
    refine ⟨F.s2 y1, F.s2 hx, ?_⟩
    rw [y2, fx]
    by_cases c : tG S y 6 = tG S x 6
    · rw [if_pos c]; exact k0 y (List.mem_cons_self ..) c
    · rw [if_neg c]
      rintro _ rfl
      refine c_good_38 F hx fx l y B.2 (fun k hk => hl k (List.mem_cons_of_mem _ hk)) (fun q => k1 fun k hk => ?_) fun k hk => k0 k (List.mem_cons_of_mem _ hk)
      rcases List.mem_cons.mp hk with rfl | hk
      · exact c
      · exact q k hk
theorem c_good_5 {K : Int32 → Hp → Prop} {f : Nat} (F : Fcx h b S) (hn : n < S.1) (h63 : tG S n 0 = 63) (hf : f < S.1) (hm : hR h (b + 2 + n) 5 = b + 2 + f) (k1 : GoodC S n f → K 1 h) (k0 : ¬ GoodC S n f → K 0 h) : ∀ (suf pre : List Nat) (y : Option Value), kids S n = pre ++ suf →
    (∀ x, x ∈ pre → ¬ (tG S x 6).toInt64 < loT S f ∧ ¬ hiT S f < (tG S x 6).toInt64) → (pre.Pairwise fun x y => ¬ tG S x 6 = tG S y 6) → Wp (d + 1) m_Fo_hasGoodFigures 5 [some (.ref (b + 2 + n)), some (.ref (hdR b suf)), y] [] h (QI K)
  | [], pre, y, e, hin, hpw => by
    refine w_Fo_hasGoodFigures_5 ?_
    rw [if_pos (show hdR b [] = 0 from rfl)]
    rw [List.append_nil] at e
    exact k1 ⟨by rw [e]; exact hin, by rw [e]; exact hpw⟩
  | x :: suf, pre, y, e, hin, hpw => by
    have xk : x ∈ kids S n := by rw [e]; simp
    obtain ⟨x1, x2⟩ := kids_mem.mp xk
    have fig : ∀ k, k ∈ kids S n → hI h (b + 2 + k) 3 = tG S k 6 := fun k hk => F.1.2.2.2.2 k (kids_mem.mp hk).1 (by simp) n (kids_mem.mp hk).2 h63
    have R := (F.1.2.2.2.1 n hn).2.2
    rw [e] at R
    obtain ⟨pr', L⟩ := R.at
    refine w_Fo_hasGoodFigures_5 ?_
    rw [show hdR b (x :: suf) = b + 2 + x from rfl, if_neg (by omega), hm, if_neg (by omega)]
    refine ⟨F.s2 hn, F.s2 x1, F.s2 hf, ?_⟩
    show Ca d m_No_holds [.ref (b + 2 + f), .long ((hI h (b + 2 + x) 3).toInt64)] h _
    rw [fig x xk]
    refine c_holds F hf (fun a c => ?_) fun q => ?_
    · rw [if_neg (by decide)]
      refine ⟨F.s2 x1, ?_⟩
      rintro _ rfl
      have srt := kids_sorted S n
      have bk : befs S n x = pre.reverse := by
        unfold befs
        rw [e] at srt ⊢
        rw [split_lt srt]
      refine c_good_38 F x1 (fig x xk) (befs S n x) x (befs_bk (F.1.2.2.2.1 n hn) xk) (fun k hk => ⟨(befs_lt hk).1, fig k (by rw [e]; rw [bk] at hk; simp at hk; simp [hk])⟩) (fun q => ?_) fun k hk q => ?_
      · rw [bk] at q
        rw [L.2.1]
        refine c_good_5 F hn h63 hf hm k1 k0 suf (pre ++ [x]) _ (by rw [e, List.append_assoc]; rfl) (fun z hz => ?_) ?_
        · rcases List.mem_append.mp hz with hz | hz
          · exact hin z hz
          · rw [List.mem_singleton] at hz; rw [hz]; exact ⟨a, c⟩
        · rw [List.pairwise_append]
          refine ⟨hpw, List.pairwise_singleton _ _, fun z hz w hw => ?_⟩
          rw [List.mem_singleton] at hw
          rw [hw]; exact q z (List.mem_reverse.mpr hz)
      · refine k0 fun G => ?_
        have pw := G.2
        rw [e, List.pairwise_append] at pw
        rw [bk, List.mem_reverse] at hk
        exact pw.2.2 k hk x (List.mem_cons_self ..) q
    · rw [if_pos rfl]
      refine k0 fun G => ?_
      obtain ⟨g1, g2⟩ := G.1 x xk
      rcases q with q | q
      · exact g1 q
      · exact g2 q
theorem c_findMeaning {K : Int32 → Hp → Prop} (F : Fcx h b S) (hn : n < S.1)
    (k1 : (dp (tG S n 0) = true → ¬ mnt S n = 0 ∧ (tG S n 0 = 63 → GoodC S n (mnt S n - 1))) → ∀ h', SFr b h h' → (dp (tG S n 0) = true → hR h' (b + 2 + n) 5 = rfN b (mnt S n)) → (∀ k, ¬ k = n → hR h' (b + 2 + k) 5 = hR h (b + 2 + k) 5) → hL h' = hL h → K 1 h')
    (k0 : ¬ (dp (tG S n 0) = true → ¬ mnt S n = 0 ∧ (tG S n 0 = 63 → GoodC S n (mnt S n - 1))) → ∀ h', SFr b h h' → K 0 h') : Ca (d + 3) m_Fo_findMeaning [.ref (b + 2 + n)] h (QI K) := by
  have a1 := (F.1.2.1 n hn).1
  have n90 := F.n90 hn
  refine w_Fo_findMeaning ⟨F.s2 hn, w_No_hasKey ⟨F.s2 hn, ?_⟩⟩
  rw [a1]
  have key : dp (tG S n 0) = true → Ca (d + 2) m_Fo_fieldMeantIn [.ref (b + 2 + n)] h (QR fun v5 h6 => ((hS h6 (b + 2 + n)).1 = 2 ∧ (∀ h9 : Hp, h9 = sR h6 (b + 2 + n) 5 v5 → (if (hR h9 (b + 2 + n) 5) = 0 then K (0 : Int32) h9 else (if (hI h9 (b + 2 + n) 0) = (63 : Int32) then Ca (d + 2) m_Fo_hasGoodFigures [.ref (b + 2 + n)] h9 (QI (fun v10 h11 => (if v10 = 0 then K (0 : Int32) h11 else K (1 : Int32) h11))) else K (1 : Int32) h9))))) := by
    intro hd
    refine c_fieldMeant F hn hd ⟨F.s2 hn, ?_⟩
    rintro _ rfl
    have fr : SFr b h (sR h (b + 2 + n) 5 (rfN b (mnt S n))) := ⟨⟨rfl, rfl, rfl, rfl, rfl⟩, fun c j q => hR_o (by omega), fun _ _ _ => rfl⟩
    have F' := F.fr fr
    have oth : ∀ k, ¬ k = n → hR (sR h (b + 2 + n) 5 (rfN b (mnt S n))) (b + 2 + k) 5 = hR h (b + 2 + k) 5 := fun k q => hR_o (by omega)
    rw [hR_s]
    cases e : mnt S n with
    | zero =>
      show (if (0 : Nat) = 0 then _ else _)
      rw [if_pos rfl]
      rw [e] at fr
      exact k0 (fun q => (q hd).1 e) _ fr
    | succ f =>
      rw [e] at fr F' oth
      show (if b + 2 + f = 0 then _ else _)
      rw [if_neg (by omega), hI_sR, a1]
      have fl := mnt_sz F.2.2.2.1 hn (by rw [e]; exact Nat.succ_ne_zero f)
      rw [e] at fl
      have fl := fl.1
      by_cases c : tG S n 0 = 63
      · rw [if_pos c]
        refine w_Fo_hasGoodFigures ⟨F'.s2 hn, ?_⟩
        rintro _ rfl
        rw [(F'.1.2.2.2.1 n hn).1]
        refine c_good_5 (f := f) F' hn c (by omega) hR_s (fun G => ?_) (fun G => ?_) (kids S n) [] _ rfl (fun x hx => (nomatch hx)) List.Pairwise.nil
        · rw [if_neg (by decide)]
          exact k1 (fun _ => ⟨by rw [e]; exact Nat.succ_ne_zero f, fun _ => by rw [e]; exact G⟩) _ fr (fun _ => by rw [hR_s, e]) oth rfl
        · rw [if_pos rfl]
          exact k0 (fun q => G (by have := (q hd).2 c; rw [e] at this; exact this)) _ fr
      · rw [if_neg c]
        exact k1 (fun _ => ⟨by rw [e]; exact Nat.succ_ne_zero f, fun q => absurd q c⟩) _ fr (fun _ => by rw [hR_s, e]) oth rfl
  by_cases c1 : tG S n 0 = 42
  · rw [if_pos c1, if_neg (by decide)]; exact key (by rw [c1]; rfl)
  rw [if_neg c1]
  by_cases c2 : tG S n 0 = 47
  · rw [if_pos c2, if_neg (by decide)]; exact key (by rw [c2]; rfl)
  rw [if_neg c2]
  by_cases c3 : tG S n 0 = 63
  · rw [if_pos c3, if_neg (by decide)]; exact key (by rw [c3]; rfl)
  rw [if_neg c3, if_pos rfl]
  have nd : dp (tG S n 0) = true → False := fun q => by
    unfold dp at q; rw [decide_eq_false c1, decide_eq_false c2, decide_eq_false c3] at q; cases q
  exact k1 (fun q => (nd q).elim) h (SFr.refl b h) (fun q => (nd q).elim) (fun _ _ => rfl) rfl
/-- the first pass: names, places, intervals -/
theorem c_sound_2 {K : Int32 → Hp → Prop} {h0 : Hp} (k0 : (¬ ∀ n, n < S.1 → AOk S n) → ∀ h', SFr b h0 h' → K 0 h')
    (k1 : (∀ n, n < S.1 → AOk S n) → ∀ h', SFr b h0 h' → hL h' = hL h0 → (∀ n, n < S.1 → dp (tG S n 0) = true → hR h' (b + 2 + n) 5 = rfN b (mnt S n)) → Wp (d + 4) m_Fo_isSound 58 [some (.ref b), some (.int (hI h' b 1 - 1)), some (.ref (b + 2 + (S.1 - 1)))] [] h' (QI K)) :
    ∀ (m i : Nat) (h : Hp) (y : Option Value), i + m = S.1 → Fcx h b S → SFr b h0 h → hL h = hL h0 → (∀ n, n < i → AOk S n ∧ (dp (tG S n 0) = true → hR h (b + 2 + n) 5 = rfN b (mnt S n))) → (0 < i → y = some (.ref (b + 2 + (i - 1)))) → Wp (d + 4) m_Fo_isSound 2 [some (.ref b), some (.int (iv i)), y] [] h (QI K)
  | 0, i, h, y, hm, F, fr, hl, hi, hy => by
    have u := F.2.2.2.2.1
    refine w_Fo_isSound_2 ⟨F.2.1.1, ?_⟩
    rw [F.1.1.1, if_neg (fun q => by have := (iv_lt (by omega) (by omega)).mp q; omega)]
    rintro _ rfl
    have : y = some (.ref (b + 2 + (S.1 - 1))) := by rw [hy (by omega)]; congr 3; omega
    rw [this, ← F.1.1.1]
    exact k1 (fun n hn => (hi n (by omega)).1) h fr hl fun n hn => (hi n (by omega)).2
  | m + 1, i, h, y, hm, F, fr, hl, hi, hy => by
    have u := F.2.2.2.2.1
    have hil : i < S.1 := by omega
    refine w_Fo_isSound_2 ⟨F.2.1.1, ?_⟩
    rw [F.1.1.1, if_pos ((iv_lt (by omega) (by omega)).mpr hil), F.2.1.2.1, F.2.1.2.2.1]
    refine ⟨rfl, ainr_iv (by omega) (by omega), ?_⟩
    rintro _ rfl
    rw [iv_clamp (by omega), (F.2.1.2.2.2 i (by omega)).1]
    refine c_isInPlace F hil (fun ip => ?_) fun ip => ?_
    · rw [if_neg (by decide)]
      refine ⟨F.s2 hil, ?_⟩
      obtain ⟨-, -, e1, e2⟩ := F.1.2.2.1 i hil
      rw [e1, e2]
      by_cases c : hiT S i < loT S i
      · rw [if_pos c]
        exact k0 (fun q => (q i hil).2.1 c) h fr
      · rw [if_neg c]
        refine c_findMeaning F hil (fun q h' f' m1 m2 l' => ?_) fun q h' f' => ?_
        · rw [if_neg (by decide)]
          rintro _ rfl
          rw [iv1, iv_add]
          refine c_sound_2 k0 k1 m (i + 1) h' _ (by omega) (F.fr f') (fr.trans f') (l'.trans hl) (fun n hn => ?_) (fun _ => rfl)
          by_cases z : n = i
          · rw [z]; exact ⟨⟨ip, c, q⟩, m1⟩
          · obtain ⟨a1, a2⟩ := hi n (by omega)
            exact ⟨a1, fun w => by rw [m2 n z]; exact a2 w⟩
        · rw [if_pos rfl]
          exact k0 (fun w => q (w i hil).2.2) h' (fr.trans f')
    · rw [if_pos rfl]
      exact k0 (fun w => ip (w i hil).1) h fr
end BSN
