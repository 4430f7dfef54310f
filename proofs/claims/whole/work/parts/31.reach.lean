/-! PURE: the least prices, by rounds; eight types want nine rounds at most -/
theorem sm_le {F G : Nat → Nat} {n : Nat} (h : ∀ i, i < n → F i ≤ G i) : sm F n ≤ sm G n := by
  induction n with
  | zero => exact Nat.le_refl _
  | succ n ih =>
    have h1 := ih (fun i hi => h i (by omega))
    have h2 := h n (by omega)
    show sm F n + F n ≤ sm G n + G n
    omega
theorem sm_lt {F G : Nat → Nat} {n a : Nat} (h : ∀ i, i < n → F i ≤ G i) (ha : a < n) (hl : F a < G a) : sm F n < sm G n := by
  induction n with
  | zero => omega
  | succ n ih =>
    have h2 := h n (by omega)
    show sm F n + F n < sm G n + G n
    by_cases e : a = n
    · subst e
      have := sm_le (fun i hi => h i (by omega) : ∀ i, i < a → F i ≤ G i)
      omega
    · have := ih (fun i hi => h i (by omega)) (by omega)
      omega
def lw (w : Nat → Nat) (l : Nat → Nat) (k : Nat) : Nat := pr w k + (if 0 < w (47 + k) then l (w (59 + k)) else 0) + (if 1 < w (47 + k) then l (w (71 + k)) else 0)
def low (w : Nat → Nat) (l : Nat → Nat) (k : Nat) : Nat → Nat := fun t => if t < w 0 ∧ bt (ofb w (w (23 + k))) t = 1 ∧ lw w l k < l t then lw w l k else l t
def rd (w : Nat → Nat) (h : Nat) (l : Nat → Nat) : Nat → Nat → Nat
  | 0 => l
  | n + 1 => if bt h n = 1 then rd w h l n else low w (rd w h l n) n
theorem low_le (w l : Nat → Nat) (k t : Nat) : low w l k t ≤ l t := by
  unfold low; split <;> omega
theorem rd_step (w : Nat → Nat) (h : Nat) (l : Nat → Nat) (n t : Nat) : rd w h l (n + 1) t ≤ rd w h l n t := by
  show (if bt h n = 1 then rd w h l n else low w (rd w h l n) n) t ≤ _
  split
  · exact Nat.le_refl _
  · exact low_le _ _ _ _
theorem rd_mono (w : Nat → Nat) (h : Nat) (l : Nat → Nat) (t : Nat) {n m : Nat} (hn : n ≤ m) : rd w h l m t ≤ rd w h l n t := by
  induction m with
  | zero => rw [show n = 0 by omega]; exact Nat.le_refl _
  | succ m ih =>
    by_cases e : n = m + 1
    · rw [e]; exact Nat.le_refl _
    · exact Nat.le_trans (rd_step w h l m t) (ih (by omega))
theorem rd_low {w : Nat → Nat} {h : Nat} {l : Nat → Nat} {k n t : Nat} (hk : k < n) (h1 : bt h k ≠ 1) (ht : t < w 0) (h2 : bt (ofb w (w (23 + k))) t = 1) : rd w h l n t ≤ lw w (rd w h l k) k := by
  refine Nat.le_trans (rd_mono w h l t (show k + 1 ≤ n by omega)) ?_
  show (if bt h k = 1 then rd w h l k else low w (rd w h l k) k) t ≤ _
  rw [if_neg h1]
  unfold low
  by_cases e : lw w (rd w h l k) k < rd w h l k t
  · rw [if_pos ⟨ht, h2, e⟩]; exact Nat.le_refl _
  · rw [if_neg (fun q => e q.2.2)]; omega
theorem lw_le {w l l' : Nat → Nat} (k : Nat) (h : ∀ t, l t ≤ l' t) : lw w l k ≤ lw w l' k := by
  unfold lw
  have h1 := h (w (59 + k))
  have h2 := h (w (71 + k))
  by_cases e1 : 0 < w (47 + k)
  · rw [if_pos e1, if_pos e1]
    by_cases e2 : 1 < w (47 + k)
    · rw [if_pos e2, if_pos e2]; omega
    · rw [if_neg e2, if_neg e2]; omega
  · rw [if_neg e1, if_neg e1]
    by_cases e2 : 1 < w (47 + k)
    · omega
    · rw [if_neg e2, if_neg e2]; omega
/-- nothing that is told is too low -/
def snd_ (w : Nat → Nat) (h : Nat) (l : Nat → Nat) : Prop := ∀ t, l t ≤ 100000000 ∧ (l t < 100000000 → 0 < ct w h t (l t))
theorem snd_low {w : Nat → Nat} (hw : WF w) {h : Nat} {l : Nat → Nat} {k : Nat} (hk : k < w 1) (h1 : bt h k ≠ 1) (hs : snd_ w h l) : snd_ w h (low w l k) := by
  intro t
  unfold low
  by_cases e : t < w 0 ∧ bt (ofb w (w (23 + k))) t = 1 ∧ lw w l k < l t
  · rw [if_pos e]
    obtain ⟨e1, e2, e3⟩ := e
    have hlt := (hs t).1
    refine ⟨by omega, fun _ => ?_⟩
    rw [ct_pos hw]
    refine ⟨k, hk, h1, e2, ?_⟩
    have htk := (hw.2.2.2.2.2 k hk).2.2.2.1
    have q1 := hs (w (59 + k))
    have q2 := hs (w (71 + k))
    unfold lw at e3 ⊢
    rcases (show w (47 + k) = 0 ∨ w (47 + k) = 1 ∨ w (47 + k) = 2 by omega) with e | e | e
    · left
      rw [if_neg (by omega), if_neg (by omega)]
      exact ⟨e, rfl⟩
    · right; left
      rw [if_pos (by omega), if_neg (by omega)] at e3 ⊢
      exact ⟨e, _, q1.2 (by omega), rfl⟩
    · right; right
      rw [if_pos (by omega), if_pos (by omega)] at e3 ⊢
      exact ⟨e, _, _, q1.2 (by omega), q2.2 (by omega), rfl⟩
  · rw [if_neg e]; exact hs t
theorem snd_rd {w : Nat → Nat} (hw : WF w) {h : Nat} {l : Nat → Nat} (hs : snd_ w h l) : ∀ n, n ≤ w 1 → snd_ w h (rd w h l n) := by
  intro n
  induction n with
  | zero => intro _; exact hs
  | succ n ih =>
    intro hn
    have := ih (by omega)
    show snd_ w h (if bt h n = 1 then rd w h l n else low w (rd w h l n) n)
    by_cases e : bt h n = 1
    · rw [if_pos e]; exact this
    · rw [if_neg e]; exact snd_low hw (by omega) e this
/-- how many types have an expression below a price -/
def nb (w : Nat → Nat) (h p : Nat) : Nat := sm (fun u => if 0 < sm (ct w h u) p then 1 else 0) (w 0)
theorem nb_le (w : Nat → Nat) (h p : Nat) : nb w h p ≤ w 0 := by
  unfold nb
  have : ∀ n, sm (fun u => if 0 < sm (ct w h u) p then 1 else 0) n ≤ n := by
    intro n
    induction n with
    | zero => exact Nat.le_refl _
    | succ n ih =>
      show sm _ n + (if 0 < sm (ct w h n) p then 1 else 0) ≤ n + 1
      split <;> omega
  exact this _
theorem nb_lt {w : Nat → Nat} {h a q p : Nat} (ha : a < w 0) (hq : 0 < ct w h a q) (hm : ∀ j, j < q → ¬ 0 < ct w h a j) (hp : q < p) : nb w h q < nb w h p := by
  unfold nb
  refine sm_lt (a := a) (fun u _ => ?_) ha ?_
  · have := sm_mono (F := ct w h u) (show q ≤ p by omega)
    by_cases e : 0 < sm (ct w h u) q
    · rw [if_pos e, if_pos (by omega)]; omega
    · rw [if_neg e]; omega
  · have h1 : sm (ct w h a) q = 0 := sm_zero (fun i hi => by have := hm i hi; omega)
    have h2 := sm_ge (F := ct w h a) hp
    show (if 0 < sm (ct w h a) q then 1 else 0) < (if 0 < sm (ct w h a) p then 1 else 0)
    rw [if_neg (by omega), if_pos (by omega)]; omega
/-- the arguments of an expression: each has a least price, of lesser rank -/
theorem nb_arg {w : Nat → Nat} {h a q p : Nat} (ha : a < w 0) (hq : 0 < ct w h a q) (hp : q < p) : ∃ q0, q0 ≤ q ∧ 0 < ct w h a q0 ∧ nb w h q0 < nb w h p := by
  obtain ⟨q0, h0, hm⟩ := pk_least (fun j => 0 < ct w h a j) ⟨q, hq⟩
  have : q0 ≤ q := Nat.le_of_not_lt (fun hlt => hm q hlt hq)
  exact ⟨q0, this, h0, nb_lt ha h0 hm (by omega)⟩
def rk (w : Nat → Nat) (h : Nat) (l : Nat → Nat) (r : Nat) : Prop := ∀ t p, t < w 0 → 0 < ct w h t p → nb w h p < r → l t ≤ p
theorem rk_step {w : Nat → Nat} (hw : WF w) {h : Nat} {l : Nat → Nat} {r : Nat} (hr : rk w h l r) : rk w h (rd w h l (w 1)) (r + 1) := by
  intro t p ht hp hn
  obtain ⟨k, hk, e1, e2, e3⟩ := (ct_pos hw).mp hp
  have hpos := (pr_pos hw hk).1
  obtain ⟨-, -, -, htk, -, -, hf, hs⟩ := hw.2.2.2.2.2 k hk
  refine Nat.le_trans (rd_low hk e1 ht e2) ?_
  have hle : ∀ t, rd w h l k t ≤ l t := fun t => rd_mono w h l t (Nat.zero_le k)
  refine Nat.le_trans (lw_le k hle) ?_
  unfold lw
  rcases e3 with ⟨e4, e5⟩ | ⟨e4, q, h4, e5⟩ | ⟨e4, q, q', h4, h5, e5⟩
  · rw [if_neg (by omega), if_neg (by omega)]; omega
  · rw [if_pos (by omega), if_neg (by omega)]
    have ha := hf (by omega)
    obtain ⟨q0, h6, h7, h8⟩ := nb_arg (p := p) ha h4 (by omega)
    have := hr _ q0 ha h7 (by omega)
    omega
  · rw [if_pos (by omega), if_pos (by omega)]
    have ha := hf (by omega)
    have hb := hs (by omega)
    obtain ⟨q0, h6, h7, h8⟩ := nb_arg (p := p) ha h4 (by omega)
    obtain ⟨q1, g6, g7, g8⟩ := nb_arg (p := p) hb h5 (by omega)
    have := hr _ q0 ha h7 (by omega)
    have := hr _ q1 hb g7 (by omega)
    omega
theorem rk_fix {w : Nat → Nat} (hw : WF w) {h : Nat} {l : Nat → Nat} (hfix : ∀ t, l t ≤ rd w h l (w 1) t) : ∀ p t, t < w 0 → 0 < ct w h t p → l t ≤ p := by
  intro p
  induction p using Nat.strongRecOn with
  | ind p ih =>
    intro t ht hp
    obtain ⟨k, hk, e1, e2, e3⟩ := (ct_pos hw).mp hp
    have hpos := (pr_pos hw hk).1
    obtain ⟨-, -, -, htk, -, -, hf, hs⟩ := hw.2.2.2.2.2 k hk
    refine Nat.le_trans (hfix t) (Nat.le_trans (rd_low hk e1 ht e2) ?_)
    have hle : ∀ t, rd w h l k t ≤ l t := fun t => rd_mono w h l t (Nat.zero_le k)
    refine Nat.le_trans (lw_le k hle) ?_
    unfold lw
    rcases e3 with ⟨e4, e5⟩ | ⟨e4, q, h4, e5⟩ | ⟨e4, q, q', h4, h5, e5⟩
    · rw [if_neg (by omega), if_neg (by omega)]; omega
    · rw [if_pos (by omega), if_neg (by omega)]
      have := ih q (by omega) _ (hf (by omega)) h4
      omega
    · rw [if_pos (by omega), if_pos (by omega)]
      have := ih q (by omega) _ (hf (by omega)) h4
      have := ih q' (by omega) _ (hs (by omega)) h5
      omega
/-- what can be had at all can be had for little -/
theorem ct_small {w : Nat → Nat} (hw : WF w) {h : Nat} : ∀ p t, 0 < ct w h t p → ∃ q, 0 < ct w h t q ∧ q ≤ 27 * (2 ^ (nb w h p + 1) - 1) := by
  intro p
  induction p using Nat.strongRecOn with
  | ind p ih =>
    intro t hp
    obtain ⟨k, hk, e1, e2, e3⟩ := (ct_pos hw).mp hp
    have hpos := pr_pos hw hk
    obtain ⟨-, -, -, htk, -, -, hf, hs⟩ := hw.2.2.2.2.2 k hk
    have hpw : ∀ n m : Nat, n < m → 2 ^ (n + 1) ≤ 2 ^ m := fun n m hnm => Nat.pow_le_pow_right (by omega) (by omega)
    have h2 : (2 : Nat) ^ (nb w h p + 1) = 2 * 2 ^ nb w h p := by rw [Nat.pow_succ]; omega
    have h1 : 1 ≤ (2 : Nat) ^ nb w h p := Nat.one_le_two_pow
    rcases e3 with ⟨e4, e5⟩ | ⟨e4, q, h4, e5⟩ | ⟨e4, q, q', h4, h5, e5⟩
    · exact ⟨pr w k, (ct_pos hw).mpr ⟨k, hk, e1, e2, Or.inl ⟨e4, rfl⟩⟩, by omega⟩
    · obtain ⟨q0, h6, h7, h8⟩ := nb_arg (p := p) (hf (by omega)) h4 (by omega)
      obtain ⟨x, g1, g2⟩ := ih q0 (by omega) _ h7
      have := hpw _ _ h8
      exact ⟨pr w k + x, (ct_pos hw).mpr ⟨k, hk, e1, e2, Or.inr (Or.inl ⟨e4, x, g1, rfl⟩)⟩, by omega⟩
    · obtain ⟨q0, h6, h7, h8⟩ := nb_arg (p := p) (hf (by omega)) h4 (by omega)
      obtain ⟨x, g1, g2⟩ := ih q0 (by omega) _ h7
      obtain ⟨q1, k6, k7, k8⟩ := nb_arg (p := p) (hs (by omega)) h5 (by omega)
      obtain ⟨y, g3, g4⟩ := ih q1 (by omega) _ k7
      have := hpw _ _ h8
      have := hpw _ _ k8
      exact ⟨pr w k + x + y, (ct_pos hw).mpr ⟨k, hk, e1, e2, Or.inr (Or.inr ⟨e4, x, y, g1, g3, rfl⟩)⟩, by omega⟩
/-- the least prices are told -/
def fin_ (w : Nat → Nat) (h : Nat) (l : Nat → Nat) : Prop := ∀ t, t < w 0 → l t ≤ 100000000 ∧ (l t < 100000000 → 0 < ct w h t (l t)) ∧ ∀ p, 0 < ct w h t p → l t ≤ p ∧ l t < 100000000
theorem fin_of {w : Nat → Nat} (hw : WF w) {h : Nat} {l : Nat → Nat} (hs : snd_ w h l) (hl : ∀ p t, t < w 0 → 0 < ct w h t p → l t ≤ p) : fin_ w h l := by
  intro t ht
  refine ⟨(hs t).1, (hs t).2, fun p hp => ⟨hl p t ht hp, ?_⟩⟩
  obtain ⟨q, h1, h2⟩ := ct_small hw p t hp
  have h3 := hl q t ht h1
  have h4 := nb_le w h p
  have h5 := hw.1
  have h6 : (2 : Nat) ^ (nb w h p + 1) ≤ 2 ^ 9 := Nat.pow_le_pow_right (by omega) (by omega)
  have h7 : (2 : Nat) ^ 9 = 512 := by decide
  omega
theorem fin_nine {w : Nat → Nat} (hw : WF w) {h : Nat} {l : Nat → Nat} (hs : snd_ w h l) (hr : rk w h l 9) : fin_ w h l :=
  fin_of hw hs (fun p t ht hp => hr t p ht hp (by have := nb_le w h p; have := hw.1; omega))
theorem fin_fix {w : Nat → Nat} (hw : WF w) {h : Nat} {l : Nat → Nat} (hs : snd_ w h l) (hfix : ∀ t, l t ≤ rd w h l (w 1) t) : fin_ w h l := fin_of hw hs (rk_fix hw hfix)
/-- a set of types that is closed and has nothing too much -/
def clo (w : Nat → Nat) (h S : Nat) : Prop := ∀ k, k < w 1 → bt h k ≠ 1 → (0 < w (47 + k) → bt S (w (59 + k)) = 1) → (1 < w (47 + k) → bt S (w (71 + k)) = 1) → ∀ t, t < w 0 → bt (ofb w (w (23 + k))) t = 1 → bt S t = 1
theorem clo_all {w : Nat → Nat} (hw : WF w) {h S : Nat} (hc : clo w h S) : ∀ p t, t < w 0 → 0 < ct w h t p → bt S t = 1 := by
  intro p
  induction p using Nat.strongRecOn with
  | ind p ih =>
    intro t ht hp
    obtain ⟨k, hk, e1, e2, e3⟩ := (ct_pos hw).mp hp
    have hpos := (pr_pos hw hk).1
    obtain ⟨-, -, -, htk, -, -, hf, hs⟩ := hw.2.2.2.2.2 k hk
    refine hc k hk e1 (fun h1 => ?_) (fun h1 => ?_) t ht e2
    · rcases e3 with ⟨e4, e5⟩ | ⟨e4, q, h4, e5⟩ | ⟨e4, q, q', h4, h5, e5⟩
      · omega
      · exact ih q (by omega) _ (hf h1) h4
      · exact ih q (by omega) _ (hf h1) h4
    · rcases e3 with ⟨e4, e5⟩ | ⟨e4, q, h4, e5⟩ | ⟨e4, q, q', h4, h5, e5⟩
      · omega
      · omega
      · exact ih q' (by omega) _ (hs h1) h5
