/-! UNDONE, A WEEK. -/
theorem x_recalls {K : Nat} {σ : St} {post : St → Prop} (hK : K < 10) (hk : σ.1 39 4 = nI (K + 1))
    (h : ∀ a' h', (∀ i, i < 6 → a' i = σ.1 42 (14 * K + i)) → (∀ i, i < 6 → h' i = σ.1 42 (14 * K + (6 + i))) → post (st_up (st_up (st_row (st_row (st_up σ 39 4 (nI K)) 40 a') 41 h') 39 2 (σ.1 42 (14 * K + 12))) 39 3 (σ.1 42 (14 * K + 13)))) : f_X4_recalls σ post := by
  obtain ⟨z1, z2, z3, z4⟩ := cpy_neg
  have e14 : nI K * 14 = nI (14 * K) := by rw [nl 14, pk_mul, Nat.mul_comm]
  have e6 : nI (14 * K) + 6 = nI (14 * K + 6) := by rw [nl 6, nI_add]
  have e12 : nI (14 * K) + 14 - 2 = nI (14 * K + 12) := by rw [nl 14, nI_add, nl 2, pk_sub (by omega), show 14 * K + 14 - 2 = 14 * K + 12 by omega]
  have e13 : nI (14 * K) + 14 - 1 = nI (14 * K + 13) := by rw [nl 14, nI_add, nl 1, pk_sub (by omega), show 14 * K + 14 - 1 = 14 * K + 13 by omega]
  rw [f_X4_recalls, hk, nI_pred]
  refine br_t (nI_lt (a := 0) (by omega) (by omega)) ?_
  rintro _ rfl
  rw [st_up_at, e14, e6, e12, e13, z3, z4, nI_clamp (n := 14 * K) (by omega), nI_clamp (n := 14 * K + 6) (by omega), nI_clamp (n := 14 * K + 12) (by omega), nI_clamp (n := 14 * K + 13) (by omega)]
  refine ⟨⟨nI_pos (by omega), z1, z2, by omega, by omega⟩, ?_⟩
  rintro _ rfl
  refine ⟨⟨nI_pos (by omega), z1, z2, by omega, by omega⟩, pk_in (14 * K + 12) 140 (by omega), ?_⟩
  rintro _ rfl
  refine ⟨pk_in (14 * K + 13) 140 (by omega), ?_⟩
  rintro _ rfl
  refine h _ _ (fun i hi => ?_) (fun i hi => ?_)
  · rw [pk_cpy_in (by omega) (by omega)]
    exact congrArg (σ.1 42) (by omega)
  · rw [pk_cpy_in (by omega) (by omega)]
    exact congrArg (σ.1 42) (by omega)
theorem m_undo {K : Nat} {τ : St} {post : Int32 → St → Prop} (hK : K < 10) (hk : τ.1 8 14 = nI (K + 1)) (h : post (nI K) (st_row τ 8 (fl' (fun i => τ.1 8 (15 + 14 * K + i)) (upd (τ.1 8) 14 (nI K)) 14))) : f_X12_undo τ post := by
  rw [f_X12_undo, hk, nI_pred]
  refine ⟨fun _ => ?_, fun w => absurd ((nI_eq (b := 0) (by omega) (by omega)).mp w) (by omega)⟩
  have e : st_up τ 8 14 (nI K) = st_row τ 8 (upd (τ.1 8) 14 (nI K)) := rfl
  rw [e]
  refine Exists.imp (fun n hn => ?_) (floop (P := fun n j => f_X12_undo_L26 post n (nI j) (st_row τ 8 (fl' (fun i => τ.1 8 (15 + 14 * K + i)) (upd (τ.1 8) 14 (nI K)) j))) 14 (fun n => ?_) (fun n j hj ih => ?_))
  · rw [fl_0] at hn
    exact hn
  · rw [f_X12_undo_L26]
    refine br_t (le_t (nl 14) rfl (by omega) (by omega)) ?_
    rw [st_row_self, fl_ge (by omega), upd, if_pos rfl]
    exact h
  · rw [f_X12_undo_L26]
    refine br_f (le_f (nl 14) rfl (by omega) (by omega)) ?_
    have e : 15 + 14 * nI K + nI j = nI (15 + 14 * K + j) := by rw [nl 15, nl 14, pk_mul, nI_add, nI_add]
    have e2 : upd (τ.1 8) 14 (nI K) (15 + 14 * K + j) = τ.1 8 (15 + 14 * K + j) := by rw [upd, if_neg (by omega)]
    rw [st_row_self, fl_ge (i := 14) (by omega), upd, if_pos rfl, e, nI_clamp (by omega), nI_clamp (by omega), fl_ge (i := 15 + 14 * K + j) (by omega), e2, st_up_row]
    have ec : upd (fl' (fun i => τ.1 8 (15 + 14 * K + i)) (upd (τ.1 8) 14 (nI K)) j) j (τ.1 8 (15 + 14 * K + j)) = fl' (fun i => τ.1 8 (15 + 14 * K + i)) (upd (τ.1 8) 14 (nI K)) (j + 1) := fl_succ (fun i => τ.1 8 (15 + 14 * K + i)) _ j
    rw [ec, nI_1]
    exact ⟨pk_in (15 + 14 * K + j) 465 (by omega), pk_in j 465 (by omega), ih⟩
theorem sim_undo : Sm f_X11_undo f_X12_undo := by
  intro σ τ h
  obtain ⟨N, hc, hn, hi, hl, ht, htx, htr, hp⟩ := id h
  obtain ⟨c1, c2, c3, -⟩ := id hc
  obtain ⟨n1, n2, n3, n4, K, k1, k2, k3, k4⟩ := id hn
  rw [f_X11_undo, k2]
  refine ⟨fun q => ?_, fun q => ?_⟩
  · obtain ⟨J, rfl⟩ : ∃ J, K = J + 1 := by
      cases K with
      | zero => exact absurd rfl q
      | succ J => exact ⟨J, rfl⟩
    obtain ⟨g1, g2, g3, g4⟩ := k4 J (by omega)
    refine x_recalls (by omega) k2 (fun a' h' ha hh => ?_)
    have e : (st_up (st_up (st_row (st_row (st_up σ 39 4 (nI J)) 40 a') 41 h') 39 2 (σ.1 42 (14 * J + 12))) 39 3 (σ.1 42 (14 * J + 13))).1 39 4 = nI J := rfl
    rw [e]
    refine m_undo (by omega) k3 ⟨rfl, ?_⟩
    refine Rl_now hc hi hl ht htx htr hp (fun c h1 h2 h3 h4 => by rw [st_up_ne _ h1, st_up_ne _ h1, st_row_ne _ _ h3, st_row_ne _ _ h2, st_up_ne _ h1]) rfl (fun c _ h => st_row_ne _ _ h) (fun i h => ?_) rfl ?_
    · rw [st_row_self, fl_ge (by omega), upd, if_neg (by omega)]
    · show NR N a' h' (σ.1 42) (σ.1 42 (14 * J + 12)) (σ.1 42 (14 * J + 13)) (nI J) (fl' (fun i => τ.1 8 (15 + 14 * J + i)) (upd (τ.1 8) 14 (nI J)) 14)
      refine ⟨fun m hm => ?_, ?_, ?_, g4, J, by omega, rfl, ?_, fun q hq => ?_⟩
      · rw [fl_lt (by omega), fl_lt (by omega), ha m (by omega), hh m (by omega)]
        exact g1 m hm
      · rw [fl_lt (by omega)]; exact g2
      · rw [fl_lt (by omega)]; exact g3
      · rw [fl_ge (by omega), upd, if_pos rfl]
      · have e : (fun i => fl' (fun i => τ.1 8 (15 + 14 * J + i)) (upd (τ.1 8) 14 (nI J)) 14 (15 + 14 * q + i)) = fun i => τ.1 8 (15 + 14 * q + i) := funext fun i => by rw [fl_ge (by omega), upd, if_neg (by omega)]
        rw [e]; exact k4 q (by omega)
  · have : K = 0 := (nI_eq (b := 0) (by omega) (by omega)).mp q
    subst this
    rw [f_X12_undo, k3]
    exact ⟨fun w => absurd rfl w, fun _ => ⟨rfl, h⟩⟩
/-! A WEEK -/
theorem flr_same {F G : Nat → Int32} {j : Nat} (h : F j = G j) : fl' F G (j + 1) = fl' F G j := by
  rw [← fl_succ]
  funext i
  unfold upd
  by_cases e : i = j
  · subst e; rw [if_pos rfl, fl_ge (by omega), h]
  · rw [if_neg e]
/-- HEAP behind a week -/
def hrow (N : Nat) (ne : Nat → Nat → Int32) (sh s : Int32) (x hp : Nat → Int32) : Nat → Int32 := fun m => if co N (ne m) sh s m (x m) ≤ 0 then hp m else co N (ne m) sh s m (x m)
theorem PT_A {N : Nat} {σ σ' : St} (hN : N ≤ 6) (hX : ∀ c, 21 ≤ c → c ≤ 38 → σ'.1 c = σ.1 c) (h : PT N σ) : PT N σ' := fun m hm k hk => by
  rw [hX (25 + m) (by omega) (by omega), hX (32 + m) (by omega) (by omega)]; exact h m hm k hk
theorem x_weekL {N k : Nat} {σ : St} {k98 : Int32 → St → Prop} {post : Int32 → St → Prop} (hx : σ.1 21 0 = nI N) (hN : N ≤ 6) (hT : PT N σ) (hk : k < 2 ^ N)
    (h : k98 (brs N (xne σ) (σ.1 21 2) (nI k) (σ.1 40)) (st_row σ 41 (fl' (hrow N (xne σ) (σ.1 21 2) (nI k) (σ.1 40) (σ.1 41)) (σ.1 41) N))) : ∃ n, f_X11_week_L40 (nI k) k98 post n 0 0 σ := by
  generalize hF : hrow N (xne σ) (σ.1 21 2) (nI k) (σ.1 40) (σ.1 41) = F at h
  refine Exists.imp (fun n hn => ?_) (floop (P := fun n j => f_X11_week_L40 (nI k) k98 post n (sm (fun m => co N (xne σ m) (σ.1 21 2) (nI k) m (σ.1 40 m)) j) (nI j) (st_row σ 41 (fl' F (σ.1 41) j))) N (fun n => ?_) (fun n j hj ih => ?_))
  · rw [fl_0, st_row_id] at hn
    exact hn
  · rw [f_X11_week_L40]
    exact br_t (le_t hx rfl (by omega) (by omega)) h
  · rw [f_X11_week_L40]
    refine br_f (le_f hx rfl (by omega) (by omega)) ⟨pk_in j 6 (by omega), ?_⟩
    rw [nI_clamp (by omega)]
    refine x_coins (N := N) hN (PT_row hN hT (by omega)) hj hk ?_
    have e1 : (st_row σ 41 (fl' F (σ.1 41) j)).1 (25 + j) = σ.1 (25 + j) := st_row_ne _ _ (by omega)
    have e2 : (st_row σ 41 (fl' F (σ.1 41) j)).1 40 = σ.1 40 := rfl
    have e3 : (st_row σ 41 (fl' F (σ.1 41) j)).1 21 = σ.1 21 := rfl
    rw [e1, e2, e3, nI_1, st_up_row]
    rw [sm] at ih
    refine ⟨fun c => ?_, fun c => ⟨pk_in j 6 (by omega), ?_⟩⟩
    · rw [flr_same (by rw [← hF]; unfold hrow; rw [if_pos c])] at ih
      exact ih
    · have : F j = co N (xne σ j) (σ.1 21 2) (nI k) j (σ.1 40 j) := by rw [← hF]; unfold hrow; rw [if_neg c]
      rw [← this, fl_succ, this]
      exact ih
theorem m_weekL {N : Nat} {s : Int32} {τ : St} {x : Nat → Int32} {k109 : St → Prop} {post : Int32 → St → Prop} (hx : τ.1 2 0 = nI N) (hN : N ≤ 6) (hz : ∀ m, m < N → τ.1 5 (6 * m + m) = 0) (ht : ∀ m, m < N → τ.1 10 m = x m)
    (h : k109 (st_row τ 8 (wr (hrow N (mne τ) (τ.1 7 0) s x (fun m => τ.1 8 (6 + m))) (τ.1 8) 6 N))) : ∃ n, f_X12_week_L36 s k109 post n 0 τ := by
  generalize hF : hrow N (mne τ) (τ.1 7 0) s x (fun m => τ.1 8 (6 + m)) = F at h
  refine Exists.imp (fun n hn => ?_) (floop (P := fun n j => f_X12_week_L36 s k109 post n (nI j) (st_row τ 8 (wr F (τ.1 8) 6 j))) N (fun n => ?_) (fun n j hj ih => ?_))
  · rw [wr_0, st_row_id] at hn
    exact hn
  · rw [f_X12_week_L36]
    exact br_t (le_t hx rfl (by omega) (by omega)) h
  · rw [f_X12_week_L36]
    refine br_f (le_f hx rfl (by omega) (by omega)) ?_
    have step : f_X12_week_J76_36 s (f_X12_week_L36 s k109 post n) k109 post (nI j) (co N (mne τ j) (τ.1 7 0) s j (x j)) (st_row τ 8 (wr F (τ.1 8) 6 j)) := by
      rw [f_X12_week_J76_36, show (6 : Int32) + nI j = nI (6 + j) by rw [nl 6, nI_add], nI_clamp (by omega), st_row_self, wr_out (i := 6 + j) (by omega), st_up_row, st_up_row, nI_1]
      refine ⟨fun c => ⟨pk_in (6 + j) 465 (by omega), pk_in (6 + j) 465 (by omega), ?_⟩, fun c => ⟨pk_in (6 + j) 465 (by omega), ?_⟩⟩
      · have : F j = τ.1 8 (6 + j) := by rw [← hF]; unfold hrow; rw [if_pos c]
        rw [← this, wr_succ]; exact ih
      · have : F j = co N (mne τ j) (τ.1 7 0) s j (x j) := by rw [← hF]; unfold hrow; rw [if_neg c]
        rw [← this, wr_succ]; exact ih
    refine ⟨fun c => ?_, fun c => ?_⟩
    · unfold co at step
      rw [if_neg c] at step
      exact step
    · refine m_begins (N := N) (b := 0) hx hN (by omega) (by omega) (by omega) (hz j hj) (m_brings.mpr ?_)
      have e : (st_row τ 8 (wr F (τ.1 8) 6 j)).1 10 (0 + j) = x j := by rw [Nat.zero_add]; exact ht j hj
      rw [e]
      unfold co at step
      rw [if_pos c] at step
      exact step
theorem rich {v : Int32} : (if v < 999999 then v else 999999) = if v ≤ 999999 then v else 999999 := by
  by_cases c : v < 999999
  · rw [if_pos c, if_pos (by rw [Int32.le_iff_toInt_le]; rw [Int32.lt_iff_toInt_lt] at c; omega)]
  · rw [if_neg c]
    by_cases c2 : v ≤ 999999
    · rw [if_pos c2]
      apply Int32.toInt_inj.mp
      rw [Int32.lt_iff_toInt_lt] at c
      rw [Int32.le_iff_toInt_le] at c2
      omega
    · rw [if_neg c2]
theorem NR_week {N : Nat} {a h p g a' h' g' : Nat → Int32} {br wk kn : Int32} (hN : N ≤ 6) (H : NR N a h p br wk kn g) (hg : ∀ i, 12 ≤ i → g' i = g i) (h1 : ∀ m, m < N → g' m = a' m ∧ rg 0 999 (a' m) ∧ g' (6 + m) = h' m ∧ rg 0 499 (h' m)) : NR N a' h' p br wk kn g' := by
  obtain ⟨q1, h2, h3, h4, K, k1, k2, k3, k4⟩ := H
  refine ⟨h1, ?_, ?_, h4, K, k1, k2, ?_, fun q hq => ?_⟩
  · rw [hg 12 (by omega)]; exact h2
  · rw [hg 13 (by omega)]; exact h3
  · rw [hg 14 (by omega)]; exact k3
  · have e : (fun i => g' (15 + 14 * q + i)) = fun i => g (15 + 14 * q + i) := funext fun i => hg _ (by omega)
    rw [e]; exact k4 q hq
theorem co_eq {N : Nat} {σ τ : St} (h : RC N σ τ) {x x' : Int32} (hx : x' = x) (s : Int32) {m : Nat} (hm : m < N) : co N (mne τ m) (τ.1 7 0) s m x' = co N (xne σ m) (σ.1 21 2) s m x := by
  have hp : pl N (mne τ m) s = pl N (xne σ m) s := sm_cong (fun o ho => by rw [h.ne m hm o ho])
  simp only [co, ah, hp, hx, h.2.2.2.2.1]
theorem sim_week (a : Int32) : Sm (f_X11_week a) (f_X12_week a) := by
  intro σ τ h
  obtain ⟨N, hc, hn, hi, hl, ht, htx, htr, hp⟩ := id h
  obtain ⟨c1, c2, c3, c4, c5, c6, c7, c8, c9, c10, c11, c12⟩ := id hc
  obtain ⟨n1, n2, n3, n4, K, k1, k2, k3, k4⟩ := id hn
  rw [f_X11_week]
  refine x_isShift c2 c1 (fun q => ⟨fun _ => ?_, fun q => absurd q (by decide)⟩) (fun q => ⟨fun q => absurd rfl q, fun _ => ?_⟩)
  · obtain ⟨k, hk, rfl, hb⟩ := id q
    obtain ⟨W, hW, eW⟩ := rg_nI (b := 300) n4 (by omega)
    refine ⟨fun q1 => ?_, fun q1 => ?_⟩
    · have hlt : W < 300 := by rw [eW] at q1; exact (nI_ltI (b := 300) (by omega) (by omega)).mp q1
      refine x_remembers k1 k2 (fun p' hx => ?_)
      generalize hS : st_up (st_row σ 42 p') 39 4 (nI (kk K + 1)) = σ1
      have hX : ∀ c, 21 ≤ c → c ≤ 38 → σ1.1 c = σ.1 c := fun c h1 h2 => by rw [← hS, st_up_ne _ (by omega), st_row_ne _ _ (by omega)]
      have e40 : σ1.1 40 = σ.1 40 := by rw [← hS]; rfl
      have e41 : σ1.1 41 = σ.1 41 := by rw [← hS]; rfl
      have e21 : σ1.1 21 = σ.1 21 := hX 21 (by omega) (by omega)
      have e23 : σ1.1 23 = σ.1 23 := hX 23 (by omega) (by omega)
      have e392 : σ1.1 39 2 = σ.1 39 2 := by rw [← hS]; rfl
      have e393 : σ1.1 39 3 = σ.1 39 3 := by rw [← hS]; rfl
      have ene : ∀ a, a < N → ∀ b, b < N → xne σ1 a b = xne σ a b := fun a ha b _ => by rw [xne, hX (25 + a) (by omega) (by omega)]
      have hT1 : PT N σ1 := PT_A c1 hX c11
      refine x_weekL (by rw [e21]; exact c2) c1 hT1 hk ?_
      have eb : brs N (xne σ1) (σ1.1 21 2) (nI k) (σ1.1 40) = brs N (xne σ) (σ.1 21 2) (nI k) (σ.1 40) := by rw [e21, e40]; exact brs_cong ene (fun _ _ => rfl)
      generalize hH : fl' (hrow N (xne σ1) (σ1.1 21 2) (nI k) (σ1.1 40) (σ1.1 41)) (σ1.1 41) N = H
      refine x_lives (N := N) (by rw [st_row_ne _ _ (by decide), e21]; exact c2) c1 (PT_row c1 hT1 (by omega)) hk (by decide) (by decide) (by decide) (fun m hm => by rw [st_row_ne _ _ (by decide), e40]; exact (n1 m hm).2.1) (fun m hm => by rw [st_row_ne _ _ (by decide), e23]; exact (c8 m hm).2) ?_
      generalize hL : fl' (lrow N (fun m => (st_row σ1 41 H).1 (25 + m)) ((st_row σ1 41 H).1 23) (nI k) ((st_row σ1 41 H).1 40)) ((st_row σ1 41 H).1 40) N = L
      rintro _ rfl
      rw [eb]
      have d1 : (st_row (st_row σ1 41 H) 40 L).1 39 = σ1.1 39 := rfl
      have d2 : ∀ x, (st_up (st_row (st_row σ1 41 H) 40 L) 39 2 x).1 39 3 = σ1.1 39 3 := fun x => rfl
      rw [d1, d2, e392, e393, eW, nI_1]
      rw [f_X12_week]
      refine m_isShift c3 c1 (fun w => ⟨fun _ => ?_, fun q => absurd q (by decide)⟩) (fun w => absurd (by rw [c4]; exact q) w)
      rw [n3, eW]
      refine ⟨fun _ => ?_, fun w => absurd ((nI_eq (b := 300) (by omega) (by omega)).mp w) (by omega)⟩
      refine m_know k1 k3 (fun g' hg => ?_)
      refine m_take ?_
      have t8 : (st_row τ 8 g').1 8 = g' := st_row_self _ _ _
      rw [t8]
      generalize hT : fl' g' ((st_row τ 8 g').1 10) 6 = tr
      have htr2 : ∀ m, m < N → tr m = τ.1 8 m := fun m hm => by rw [← hT, fl_lt (by omega)]; exact hg.1 m (by omega)
      refine m_weekL (N := N) (x := τ.1 8) c3 c1 hc.z htr2 ?_
      have u8 : (st_row (st_row τ 8 g') 10 tr).1 8 = g' := rfl
      rw [u8]
      generalize hG : wr (hrow N (mne (st_row (st_row τ 8 g') 10 tr)) ((st_row (st_row τ 8 g') 10 tr).1 7 0) (nI k) (τ.1 8) (fun m => g' (6 + m))) g' 6 N = G
      refine m_pass (N := N) (a := 0) (b := 0) c3 c1 hc.z (by decide) (by decide) (by decide) (by decide) (Or.inl rfl) (fun gg hgg _ => ?_)
      have ebm : brs N (mne (st_row (st_row (st_row τ 8 g') 10 tr) 8 G)) ((st_row (st_row (st_row τ 8 g') 10 tr) 8 G).1 7 0) (nI k) (fun m => (st_row (st_row (st_row τ 8 g') 10 tr) 8 G).1 10 (0 + m)) = brs N (xne σ) (σ.1 21 2) (nI k) (σ.1 40) := by
        show brs N (mne τ) (τ.1 7 0) (nI k) (fun m => tr (0 + m)) = _
        exact brs_eq hc (fun m hm => by rw [Nat.zero_add, htr2 m hm]; exact (n1 m hm).1) _
      rw [ebm]
      have hgg2 : ∀ m, m < N → gg m = lrow N (xne σ) (σ.1 23) (nI k) (σ.1 40) m := fun m hm => by
        have e := hgg m hm
        rw [Nat.zero_add] at e
        rw [e]
        exact lrow_cong (ne := xne σ) (gr := σ.1 23) (x := σ.1 40) hc.ne hc.gr (fun m hm => by show tr (0 + m) = _; rw [Nat.zero_add, htr2 m hm]; exact (n1 m hm).1) m hm
      generalize hB : brs N (xne σ) (σ.1 21 2) (nI k) (σ.1 40) = B
      -- the sorrows come back from the row of trying
      have fin : ∀ τ2 : St, τ2 = st_row (st_row (st_row (st_row τ 8 g') 10 tr) 8 G) 10 gg → ∃ n, f_X12_week_L123 (nI k) (fun x26 σ25 => (((σ25.1 8 12) + x26) ≤ 999999 → (f_X12_week_J187 (nI k) (fun r' τ' => B = r' ∧ Rl (st_up (st_up (st_row (st_row σ1 41 H) 40 L) 39 2 (if σ.1 39 2 + B < 999999 then σ.1 39 2 + B else 999999)) 39 3 (nI (W + 1))) τ') x26 ((σ25.1 8 12) + x26) 12 σ25)) ∧ (¬ ((σ25.1 8 12) + x26) ≤ 999999 → (f_X12_week_J187 (nI k) (fun r' τ' => B = r' ∧ Rl (st_up (st_up (st_row (st_row σ1 41 H) 40 L) 39 2 (if σ.1 39 2 + B < 999999 then σ.1 39 2 + B else 999999)) 39 3 (nI (W + 1))) τ') x26 999999 12 σ25))) (fun r' τ' => B = r' ∧ Rl (st_up (st_up (st_row (st_row σ1 41 H) 40 L) 39 2 (if σ.1 39 2 + B < 999999 then σ.1 39 2 + B else 999999)) 39 3 (nI (W + 1))) τ') n B 0 τ2 := by
        intro τ2 eτ
        have w2 : τ2.1 2 = τ.1 2 := by rw [eτ]; rfl
        have w8 : τ2.1 8 = G := by rw [eτ]; rfl
        have w10 : τ2.1 10 = gg := by rw [eτ]; rfl
        generalize hE : (fun r' τ' => B = r' ∧ Rl (st_up (st_up (st_row (st_row σ1 41 H) 40 L) 39 2 (if σ.1 39 2 + B < 999999 then σ.1 39 2 + B else 999999)) 39 3 (nI (W + 1))) τ') = PP
        refine Exists.imp (fun n hn => ?_) (floop (P := fun n j => f_X12_week_L123 (nI k) (fun x26 σ25 => (((σ25.1 8 12) + x26) ≤ 999999 → (f_X12_week_J187 (nI k) PP x26 ((σ25.1 8 12) + x26) 12 σ25)) ∧ (¬ ((σ25.1 8 12) + x26) ≤ 999999 → (f_X12_week_J187 (nI k) PP x26 999999 12 σ25))) PP n B (nI j) (st_row τ2 8 (fl' gg G j))) N (fun n => ?_) (fun n j hj ih => ?_))
        · rw [fl_0, ← w8, st_row_id] at hn
          exact hn
        · rw [f_X12_week_L123]
          refine br_t (le_t (by rw [st_row_ne _ _ (by decide), w2]; exact c3) rfl (by omega) (by omega)) ?_
          have g12 : (st_row τ2 8 (fl' gg G N)).1 8 12 = σ.1 39 2 := by
            rw [st_row_self, fl_ge (by omega), ← hG, wr_out (by omega), hg.1 12 (by omega)]; exact n2
          have g13 : G 13 = nI W := by rw [← hG, wr_out (by omega), hg.1 13 (by omega), n3, eW]
          rw [g12]
          have last : ∀ v : Int32, v = (if σ.1 39 2 + B < 999999 then σ.1 39 2 + B else 999999) → f_X12_week_J187 (nI k) PP B v 12 (st_row τ2 8 (fl' gg G N)) := by
            intro v hv
            rw [f_X12_week_J187]
            refine ⟨pk_in 12 465 (by omega), ?_⟩
            have e12 : (12 : Int32).toNatClampNeg = 12 := by decide
            rw [e12, st_up_row]
            rintro _ rfl
            rw [st_row_self, st_up_row]
            have e13 : upd (fl' gg G N) 12 v 13 = nI W := by rw [upd, if_neg (by omega), fl_ge (by omega), g13]
            rw [e13, nI_1, ← hE]
            refine ⟨rfl, ?_⟩
            rw [← hv, eτ]
            refine Rl_now hc hi hl ht htx htr hp (fun c h1 h2 h3 h4 => by rw [st_up_ne _ h1, st_up_ne _ h1, st_row_ne _ _ h2, st_row_ne _ _ h3, ← hS, st_up_ne _ h1, st_row_ne _ _ h4]) (by rw [← hS]; rfl) (fun c hm9 h => ?_) (fun i h => ?_) rfl ?_
            · have hc10 : c ≠ 10 := fun e => by rw [e] at hm9; cases hm9
              rw [st_row_ne _ _ h, st_row_ne _ _ hc10, st_row_ne _ _ h, st_row_ne _ _ hc10, st_row_ne _ _ h]
            · rw [st_row_self, upd, if_neg (by omega), upd, if_neg (by omega), fl_ge (by omega), ← hG, wr_out (by omega)]; exact hg.2.2.2.2 i h
            · have hk := NR_know (σ := σ) (τ := τ) c1 k1 k2 hx hg hn
              have p42 : σ1.1 42 = p' := by rw [← hS]; rfl
              have p394 : σ1.1 39 4 = nI (kk K + 1) := by rw [← hS]; rfl
              show NR N L H (σ1.1 42) v (nI (W + 1)) (σ1.1 39 4) (upd (upd (fl' gg G N) 12 v) 13 (nI (W + 1)))
              rw [p42, p394]
              refine NR_wk c1 (nI_rg (by omega) (by omega)) (NR_br (br := σ.1 39 2) c1 (NR_week (g := g') c1 hk (fun i hi => ?_) (fun m hm => ?_)))
              · rw [fl_ge (by omega), ← hG, wr_out (by omega)]
              · have l1 : L m = lrow N (xne σ) (σ.1 23) (nI k) (σ.1 40) m := by
                  rw [← hL, fl_lt hm]
                  exact lrow_cong (fun a ha b hb => by rw [st_row_ne _ _ (by omega)]; exact ene a ha b hb) (fun m _ => by rw [st_row_ne _ _ (by decide), e23]) (fun m _ => by rw [st_row_ne _ _ (by decide), e40]) m hm
                have l2 : H m = hrow N (xne σ) (σ.1 21 2) (nI k) (σ.1 40) (σ.1 41) m := by
                  rw [← hH, fl_lt hm]
                  have hp : pl N (xne σ1 m) (nI k) = pl N (xne σ m) (nI k) := sm_cong (fun o ho => by rw [ene m hm o ho])
                  simp only [hrow, co, ah, hp, e21, e40, e41]
                  rfl
                have l3 : fl' gg G N m = L m := by rw [fl_lt hm, hgg2 m hm, l1]
                have l4 : fl' gg G N (6 + m) = H m := by
                  rw [fl_ge (by omega), ← hG, wr_in hm, l2]
                  unfold hrow
                  rw [show (st_row (st_row τ 8 g') 10 tr).1 7 0 = τ.1 7 0 from rfl, show mne (st_row (st_row τ 8 g') 10 tr) m = mne τ m from rfl, co_eq hc (n1 m hm).1 _ hm]
                  dsimp only
                  rw [hg.1 (6 + m) (by omega), (n1 m hm).2.2.1]
                refine ⟨l3, ?_, l4, ?_⟩
                · rw [l1]; exact li_rg _ _ _ _ _ _
                · rw [l2]; unfold hrow; split
                  · exact (n1 m hm).2.2.2
                  · exact co_rg _ _ _ _ _ _
          refine ⟨fun c => last _ ?_, fun c => last _ ?_⟩
          · rw [rich, if_pos c]
          · rw [rich, if_neg c]
        · rw [f_X12_week_L123]
          refine br_f (le_f (by rw [st_row_ne _ _ (by decide), w2]; exact c3) rfl (by omega) (by omega)) ?_
          rw [Int32.zero_add, nI_clamp (by omega), st_row_ne (c' := 10) _ _ (by decide), w10, st_up_row, fl_succ, nI_1]
          exact ⟨pk_in j 24 (by omega), pk_in j 465 (by omega), ih⟩
      exact fin _ rfl
    · have hge : W = 300 := by
        rw [eW] at q1
        have : ¬ W < 300 := fun w => q1 ((nI_ltI (b := 300) (a := W) (by omega) (by omega)).mpr w)
        omega
      subst hge
      rw [f_X12_week]
      refine m_isShift c3 c1 (fun w => ⟨fun _ => ?_, fun q => absurd q (by decide)⟩) (fun w => absurd (by rw [c4]; exact q) w)
      rw [n3, eW]
      exact ⟨fun w => absurd rfl w, fun _ => ⟨rfl, h⟩⟩
  · rw [f_X12_week]
    refine m_isShift c3 c1 (fun w => absurd (by rw [c4] at w; exact w) q) (fun _ => ⟨fun q => absurd rfl q, fun _ => ⟨rfl, h⟩⟩)
