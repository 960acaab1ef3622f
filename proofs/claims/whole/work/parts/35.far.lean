/-! roads: the reference's table of how far all cells are -/
theorem vI_n9 {o : Option Nat} (h : ∀ k, o = some k → k < 2 ^ 31) : vI o = -9 ↔ o = none := by
  cases o with
  | none => exact ⟨fun _ => rfl, fun _ => rfl⟩
  | some k =>
    constructor
    · intro q
      exact absurd (show nI k = -9 from q).symm (fa_of_lt (nm9_lt (h k rfl))).2.2.2.1
    · intro q
      cases q
theorem vI_is {o : Option Nat} {n : Nat} (hn : n < 2 ^ 31) (h : ∀ k, o = some k → k < 2 ^ 31) : vI o = nI n ↔ o = some n := by
  cases o with
  | none =>
    constructor
    · intro q
      exact absurd (show (-9 : Int32) = nI n from q) (fa_of_lt (nm9_lt hn)).2.2.2.1
    · intro q
      cases q
  | some k =>
    show nI k = nI n ↔ _
    rw [nI_eq (h k rfl) hn]
    exact ⟨fun q => by rw [q], fun q => by cases q; rfl⟩
def AR (op : Nat → Bool) (d n c : Nat) (far : Nat → Int32) : Prop := ∀ e, e < 12 → far e = vI (fw1 (fun m => wn op m e d) (if e < c then n + 1 else n))
def sc (op : Nat → Bool) (n : Nat) (far : Nat → Int32) (c w : Nat) : Bool := match tgt c w with
  | none => false
  | some t => op t && decide (far t = nI (n - 1))
theorem way_1 {g : Nat → Nat} {a : AL} {l p : Nat → Int32} {B n c w f : Nat} {v2 : Int32} {far : Nat → Int32} (hp : PR a p) (hl : LR g l) (hg : WG g) (hw : WA B a) (h1n : 1 ≤ n) (hn : n < 12) (hc : c < 12) (hw4 : w < 4) {K : Int32 → (Nat → Int32) → Option (Nat → Int32)} : f_X4_layFar_L52 K v2 (nI n) (nI c) l p (f + 1) (nI w) far = if far c = -9 then f_X4_layFar_L52 K v2 (nI n) (nI c) l p f (nI (w + 1)) (upd far c (if sc (opt g a (decide (v2 = 0))) n far c w = true then nI n else -9)) else K (nI w) far := by
  have oc : ∀ X : Option (Nat → Int32), o_g (nI c) 12 X = X := fun X => o_g_nI hc (by decide)
  generalize hB : sc (opt g a (decide (v2 = 0))) n far c w = b
  unfold sc at hB
  rw [f_X4_layFar_L52]
  dsimp only
  simp only [oc]
  rw [if_neg (nge_nI 4 4 rfl hw4 (by omega)), nI_clamp (by omega), to_tgt c hc w hw4, nI_1]
  by_cases q : far c = -9
  · rw [if_pos q, if_pos q]
    cases e : tgt c w with
    | none =>
      rw [e] at hB
      dsimp only at hB ⊢
      unfold f_X4_mayEnter
      rw [if_pos rfl, bd, if_pos rfl, if_neg (by rw [← hB]; decide)]
    | some t =>
      have ht := tgt_lt hc e
      have ot : ∀ X : Option (Nat → Int32), o_g (nI t) 12 X = X := fun X => o_g_nI ht (by decide)
      have hgt := hg t ht
      rw [e] at hB
      dsimp only at hB ⊢
      simp only [ot]
      rw [enterM (hp.1 t ht) (hw.1 t ht) ht, bd, nI_clamp (by omega), hl t ht, one_nI, pk_sub h1n]
      by_cases o : opn a t = true
      · rw [if_pos o, if_neg (show ¬ nI 1 = 0 by decide)]
        by_cases z : v2 = 0
        · have ho : opt g a (decide (v2 = 0)) t = true := by simp [opt, o, z]
          rw [ho, Bool.true_and] at hB
          rw [if_pos z]
          by_cases y : far t = nI (n - 1)
          · rw [if_pos y, if_pos (by rw [← hB]; exact decide_eq_true y)]
          · rw [if_neg y, if_neg (by rw [← hB]; simpa using y)]
        · rw [if_neg z]
          by_cases w4 : g t = 4
          · have ho : opt g a (decide (v2 = 0)) t = false := by simp [opt, z, w4]
            rw [ho, Bool.false_and] at hB
            rw [if_pos (by rw [w4]; rfl), if_neg (by rw [← hB]; decide)]
          · have ho : opt g a (decide (v2 = 0)) t = true := by simp [opt, o, w4]
            rw [ho, Bool.true_and] at hB
            rw [if_neg (neq_nI 4 4 rfl w4 (by omega) (by decide))]
            by_cases y : far t = nI (n - 1)
            · rw [if_pos y, if_pos (by rw [← hB]; exact decide_eq_true y)]
            · rw [if_neg y, if_neg (by rw [← hB]; simpa using y)]
      · have ho : opt g a (decide (v2 = 0)) t = false := by simp [opt, o]
        rw [ho, Bool.false_and] at hB
        rw [if_neg o, if_pos rfl, if_neg (by rw [← hB]; decide)]
  · rw [if_neg q, if_neg q]
theorem sc_upd {op : Nat → Bool} {n c w : Nat} {far : Nat → Int32} {x : Int32} : sc op n (upd far c x) c w = sc op n far c w := by
  unfold sc
  cases e : tgt c w with
  | none => rfl
  | some t =>
    (try dsimp only)
    rw [upd_ne (tgt_ne e)]
theorem way_L {g : Nat → Nat} {a : AL} {l p : Nat → Int32} {B n c : Nat} {v2 : Int32} {far : Nat → Int32} (hp : PR a p) (hl : LR g l) (hg : WG g) (hw : WA B a) (h1n : 1 ≤ n) (hn : n < 12) (hc : c < 12) {K : Int32 → (Nat → Int32) → Option (Nat → Int32)} : ∀ (k f w : Nat), w + k = 4 → k + 1 < f → ∃ v5, f_X4_layFar_L52 K v2 (nI n) (nI c) l p f (nI w) (upd far c (if anyw (sc (opt g a (decide (v2 = 0))) n far c) w = true then nI n else -9)) = K v5 (upd far c (if anyw (sc (opt g a (decide (v2 = 0))) n far c) 4 = true then nI n else -9))
  | 0, f, w, hik, h1 => by
    obtain ⟨f, rfl⟩ : ∃ m, f = m + 1 := ⟨f - 1, by omega⟩
    obtain rfl : w = 4 := by omega
    rw [f_X4_layFar_L52]
    (try dsimp only)
    rw [if_pos (ge_nI 4 4 rfl (by omega) (by omega))]
    exact ⟨_, rfl⟩
  | k + 1, f, w, hik, h1 => by
    obtain ⟨f, rfl⟩ : ∃ m, f = m + 1 := ⟨f - 1, by omega⟩
    rw [way_1 (g := g) hp hl hg hw h1n hn hc (by omega), upd_eq]
    by_cases q : anyw (sc (opt g a (decide (v2 = 0))) n far c) w = true
    · have q4 : anyw (sc (opt g a (decide (v2 = 0))) n far c) 4 = true := by
        rw [anyw_iff] at q ⊢
        obtain ⟨w', h2, h3⟩ := q
        exact ⟨w', by omega, h3⟩
      rw [if_pos q, if_pos q4, if_neg (fun z => absurd z.symm (fa_of_lt (nm9_lt (a := n) (by omega))).2.2.2.1)]
      exact ⟨_, rfl⟩
    · have e0 : anyw (sc (opt g a (decide (v2 = 0))) n far c) (w + 1) = sc (opt g a (decide (v2 = 0))) n far c w := by
        show (anyw _ w || _) = _
        rw [show anyw (sc (opt g a (decide (v2 = 0))) n far c) w = false by simpa using q]
        rfl
      rw [if_neg q, if_pos rfl, sc_upd, fa_upd_twice, ← e0]
      exact way_L hp hl hg hw h1n hn hc k f (w + 1) (by omega) (by omega)
theorem sc_wn {op : Nat → Bool} {d n c w : Nat} {far : Nat → Int32} (h1n : 1 ≤ n) (hn : n < 12) (hc : c < 12) (hA : AR op d n c far) (h0 : fw1 (fun m => wn op m c d) n = none) (h4 : w < 4) : sc op n far c w = (match tgt c w with | none => false | some t => op t && wn op (n - 1) t d) := by
  unfold sc
  cases e : tgt c w with
  | none => rfl
  | some t =>
    (try dsimp only)
    have ht := tgt_lt hc e
    by_cases o : op t = true
    · rw [o, Bool.true_and, Bool.true_and, hA t ht, Bool.eq_iff_iff, decide_eq_true_eq]
      have hf := fw1_none.mp h0
      have hno : ∀ j, j < n - 1 → wn op j t d = false := by
        intro j hj
        cases q : wn op j t d with
        | false => rfl
        | true =>
          have := hf (j + 1) (by omega)
          rw [wn_succ.mpr ⟨w, t, h4, e, o, q⟩] at this
          cases this
      have hlt : ∀ N, N ≤ 13 → ∀ k, fw1 (fun m => wn op m t d) N = some k → k < 2 ^ 31 := fun N hN k hk => by
        have := (fw1_some hk).1
        omega
      rw [vI_is (by omega) (by split <;> exact hlt _ (by omega))]
      constructor
      · intro q
        split at q <;> exact (fw1_some q).2.1
      · intro q
        split
        · exact fw1_intro (by omega) q hno
        · exact fw1_intro (by omega) q hno
    · rw [show op t = false by simpa using o]
      rfl
theorem fa_upd_id {far : Nat → Int32} {c : Nat} : upd far c (far c) = far := fa_upd_same rfl
theorem cell_A {g : Nat → Nat} {a : AL} {l p : Nat → Int32} {B n c d : Nat} {v2 : Int32} {far : Nat → Int32} (hp : PR a p) (hl : LR g l) (hg : WG g) (hw : WA B a) (h1n : 1 ≤ n) (hn : n < 12) (hc : c < 12) (hA : AR (opt g a (decide (v2 = 0))) d n c far) {K : Int32 → (Nat → Int32) → Option (Nat → Int32)} : ∃ v5 far', f_X4_layFar_L52 K v2 (nI n) (nI c) l p FU 0 far = K v5 far' ∧ AR (opt g a (decide (v2 = 0))) d n (c + 1) far' := by
  have hcc := hA c hc
  rw [if_neg (Nat.lt_irrefl c)] at hcc
  have rest : ∀ far' : Nat → Int32, (∀ e, e ≠ c → far' e = far e) → far' c = vI (fw1 (fun m => wn (opt g a (decide (v2 = 0))) m c d) (n + 1)) → AR (opt g a (decide (v2 = 0))) d n (c + 1) far' := by
    intro far' h1 h2 e he
    by_cases q : e = c
    · subst q
      rw [if_pos (by omega)]
      exact h2
    · rw [h1 e q, hA e he]
      by_cases z : e < c
      · rw [if_pos z, if_pos (by omega)]
      · rw [if_neg z, if_neg (by omega)]
  cases h0 : fw1 (fun m => wn (opt g a (decide (v2 = 0))) m c d) n with
  | some k =>
    rw [h0] at hcc
    have hk := (fw1_some h0).1
    have h := way_1 (g := g) (f := 9999) (w := 0) (v2 := v2) (far := far) (K := K) hp hl hg hw h1n hn hc (by omega)
    rw [hcc, if_neg (show ¬ vI (some k) = -9 from fun z => absurd z.symm (fa_of_lt (nm9_lt (a := k) (by omega))).2.2.2.1), show nI 0 = (0 : Int32) from rfl] at h
    refine ⟨_, far, h, rest far (fun _ _ => rfl) ?_⟩
    rw [fw1_up h0]
    exact hcc
  | none =>
    rw [h0] at hcc
    have hcc' : far c = -9 := hcc
    obtain ⟨v5, h⟩ := way_L (g := g) (v2 := v2) (far := far) (K := K) hp hl hg hw h1n hn hc 4 FU 0 rfl (by decide)
    rw [show (if anyw (sc (opt g a (decide (v2 = 0))) n far c) 0 = true then nI n else (-9 : Int32)) = -9 from if_neg (by intro q; cases q)] at h
    rw [show upd far c (-9 : Int32) = far by rw [← hcc', fa_upd_id], show nI 0 = (0 : Int32) from rfl] at h
    refine ⟨v5, _, h, rest _ (fun e he => upd_ne he) ?_⟩
    rw [upd_eq, fw1_up0 h0]
    have e1 : anyw (sc (opt g a (decide (v2 = 0))) n far c) 4 = wn (opt g a (decide (v2 = 0))) n c d := by
      obtain ⟨m, rfl⟩ : ∃ m, n = m + 1 := ⟨n - 1, by omega⟩
      rw [Bool.eq_iff_iff, anyw_iff]
      show _ ↔ anyw _ 4 = true
      rw [anyw_iff]
      constructor
      · rintro ⟨w, h1, h2⟩
        rw [sc_wn h1n hn hc hA h0 h1] at h2
        exact ⟨w, h1, h2⟩
      · rintro ⟨w, h1, h2⟩
        refine ⟨w, h1, ?_⟩
        rw [sc_wn h1n hn hc hA h0 h1]
        exact h2
    rw [e1]
    by_cases q : wn (opt g a (decide (v2 = 0))) n c d = true
    · rw [if_pos q, if_pos q]; rfl
    · rw [if_neg q, if_neg q]; rfl
theorem cells_L {g : Nat → Nat} {a : AL} {l p : Nat → Int32} {B n d : Nat} {v2 : Int32} (hp : PR a p) (hl : LR g l) (hg : WG g) (hw : WA B a) (h1n : 1 ≤ n) (hn : n < 12) {K : Int32 → (Nat → Int32) → Option (Nat → Int32)} : ∀ (k f c : Nat) (far : Nat → Int32), c + k = 12 → k < f → AR (opt g a (decide (v2 = 0))) d n c far → ∃ v4 far', f_X4_layFar_L42 K v2 (nI n) l p f (nI c) far = K v4 far' ∧ AR (opt g a (decide (v2 = 0))) d (n + 1) 0 far'
  | 0, f, c, far, hik, h1, hA => by
    obtain ⟨f, rfl⟩ : ∃ m, f = m + 1 := ⟨f - 1, by omega⟩
    obtain rfl : c = 12 := by omega
    rw [f_X4_layFar_L42]
    (try dsimp only)
    rw [if_pos (ge_nI 12 12 rfl (by omega) (by omega))]
    refine ⟨_, far, rfl, fun e he => ?_⟩
    have := hA e he
    rw [if_pos he] at this
    rw [if_neg (by omega)]
    exact this
  | k + 1, f, c, far, hik, h1, hA => by
    obtain ⟨f, rfl⟩ : ∃ m, f = m + 1 := ⟨f - 1, by omega⟩
    rw [f_X4_layFar_L42]
    (try dsimp only)
    rw [if_neg (nge_nI 12 12 rfl (by omega) (by omega)), nI_1]
    obtain ⟨v5, far', h2, h3⟩ := cell_A (K := (fun (v5_4 : Int32) (r_far_5 : Nat → Int32) => f_X4_layFar_L42 K v2 (nI n) l p f (nI (c + 1)) r_far_5)) hp hl hg hw h1n hn (show c < 12 by omega) hA
    rw [h2]
    exact cells_L hp hl hg hw h1n hn k f (c + 1) far' (by omega) (by omega) h3
theorem rounds_L {g : Nat → Nat} {a : AL} {l p : Nat → Int32} {B d : Nat} {v2 : Int32} (hp : PR a p) (hl : LR g l) (hg : WG g) (hw : WA B a) : ∀ (k f n : Nat) (far : Nat → Int32), 1 ≤ n → n + k = 12 → k < f → AR (opt g a (decide (v2 = 0))) d n 0 far → ∃ far', f_X4_layFar_L33 (fun (v3_8 : Int32) (r_far_9 : Nat → Int32) => some r_far_9) v2 l p f (nI n) far = some far' ∧ ∀ e, e < 12 → far' e = vI (dst (opt g a (decide (v2 = 0))) e d)
  | 0, f, n, far, h1n, hik, h1, hA => by
    obtain ⟨f, rfl⟩ : ∃ m, f = m + 1 := ⟨f - 1, by omega⟩
    obtain rfl : n = 12 := by omega
    rw [f_X4_layFar_L33]
    (try dsimp only)
    rw [if_pos (ge_nI 12 12 rfl (by omega) (by omega))]
    refine ⟨far, rfl, fun e he => ?_⟩
    have := hA e he
    rw [if_neg (by omega)] at this
    exact this
  | k + 1, f, n, far, h1n, hik, h1, hA => by
    obtain ⟨f, rfl⟩ : ∃ m, f = m + 1 := ⟨f - 1, by omega⟩
    rw [f_X4_layFar_L33]
    (try dsimp only)
    rw [if_neg (nge_nI 12 12 rfl (by omega) (by omega)), nI_1]
    obtain ⟨v4, far', h2, h3⟩ := cells_L (K := (fun (v4_6 : Int32) (r_far_7 : Nat → Int32) => f_X4_layFar_L33 (fun (v3_8 : Int32) (r_far_9 : Nat → Int32) => some r_far_9) v2 l p f (nI (n + 1)) r_far_7)) hp hl hg hw h1n (by omega) 12 FU 0 far rfl (by decide) hA
    rw [show nI 0 = (0 : Int32) from rfl] at h2
    rw [h2]
    exact rounds_L hp hl hg hw k f (n + 1) far' (by omega) (by omega) (by omega) h3
theorem init_L {K : Int32 → (Nat → Int32) → Option (Nat → Int32)} {d : Nat} (hd : d < 12) : ∀ (k f i : Nat) (far : Nat → Int32), i + k = 12 → k < f → (∀ e, e < i → far e = if e = d then 0 else -9) → ∃ v3 far', f_X4_layFar_L2 K (nI d) f (nI i) far = K v3 far' ∧ ∀ e, e < 12 → far' e = if e = d then 0 else -9
  | 0, f, i, far, hik, h1, h => by
    obtain ⟨f, rfl⟩ : ∃ m, f = m + 1 := ⟨f - 1, by omega⟩
    obtain rfl : i = 12 := by omega
    rw [f_X4_layFar_L2]
    (try dsimp only)
    rw [if_pos (ge_nI 12 12 rfl (by omega) (by omega))]
    exact ⟨_, far, rfl, h⟩
  | k + 1, f, i, far, hik, h1, h => by
    obtain ⟨f, rfl⟩ : ∃ m, f = m + 1 := ⟨f - 1, by omega⟩
    rw [f_X4_layFar_L2]
    (try dsimp only)
    rw [if_neg (nge_nI 12 12 rfl (by omega) (by omega)), nI_1, o_g_nI (by omega) (by decide), o_g_nI (by omega) (by decide), nI_clamp (by omega)]
    have hx : ∀ v, v = (if i = d then (0 : Int32) else -9) → ∀ e, e < i + 1 → upd far i v e = if e = d then 0 else -9 := by
      intro v hv e he
      by_cases q : e = i
      · subst q
        rw [upd_eq, hv]
      · rw [upd_ne q]
        exact h e (by omega)
    by_cases q : i = d
    · rw [if_pos (by rw [q])]
      exact init_L hd k f (i + 1) _ (by omega) (by omega) (hx _ (by rw [if_pos q]))
    · rw [if_neg (fun z => q ((nI_eq (by omega) (by omega)).mp z))]
      exact init_L hd k f (i + 1) _ (by omega) (by omega) (hx _ (by rw [if_neg q]))
theorem far_M {g : Nat → Nat} {a : AL} {l p : Nat → Int32} {B d : Nat} {v2 : Int32} (hd : d < 12) (hp : PR a p) (hl : LR g l) (hg : WG g) (hw : WA B a) (far : Nat → Int32) : ∃ far', f_X4_layFar l p far (nI d) v2 = some far' ∧ ∀ e, e < 12 → far' e = vI (dst (opt g a (decide (v2 = 0))) e d) := by
  obtain ⟨v3, f1, h1, h2⟩ := init_L (K := (fun (v3_1 : Int32) (r_far_2 : Nat → Int32) => f_X4_layFar_L33 (fun (v3_8 : Int32) (r_far_9 : Nat → Int32) => some r_far_9) v2 l p FU (1 : Int32) r_far_2)) hd 12 FU 0 far rfl (by decide) (fun e he => by omega)
  obtain ⟨f2, h3, h4⟩ := rounds_L (d := d) (v2 := v2) hp hl hg hw 11 FU 1 f1 (by omega) rfl (by decide) (fun e he => by
    rw [h2 e he, if_neg (show ¬ e < 0 by omega)]
    show _ = vI (if decide (e = d) = true then some 0 else none)
    by_cases q : e = d
    · rw [if_pos q, if_pos (decide_eq_true q)]; rfl
    · rw [if_neg q, if_neg (by simpa using q)]; rfl)
  refine ⟨f2, ?_, h4⟩
  unfold f_X4_layFar
  rw [show nI 0 = (0 : Int32) from rfl] at h1
  rw [h1]
  exact h3
