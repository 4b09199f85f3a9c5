/-! ===== one step ===== -/
section SP
variable {σ : Hp}
theorem st_fault (h : Inv σ) {p : Int32} {post : Int32 → Int32 → Hp → Prop} (K : ∀ a σ', Inv σ' → post a a σ') : vX8_fault p σ (fun a σ1 => vX9_fault p σ1 (fun b σ2 => post a b σ2)) := by
  obtain ⟨T, hC, hM, hO⟩ := h
  exact sC_fault hC hO (fun σ1 hF hC1 => sM_fault (hM.cl hF) (fun σ2 hF2 hM2 => K _ σ2 ⟨T, hC1.fm hF2, hM2, hO⟩))
theorem st_chain (h : Inv σ) {p : Int32} {post : Int32 → Int32 → Hp → Prop} (K : ∀ a σ', Inv σ' → post a a σ') : vX8_chain p σ (fun a σ1 => vX9_chain p σ1 (fun b σ2 => post a b σ2)) := by
  obtain ⟨T, hC, hM, hO⟩ := h
  exact sC_chain hC hO (fun σ1 hF hC1 => sM_chain (hM.cl hF) (fun σ2 hF2 hM2 => K _ σ2 ⟨T, hC1.fm hF2, hM2, hO⟩))
theorem st_duck (h : Inv σ) {p q : Int32} {post : Int32 → Int32 → Hp → Prop} (K : ∀ a σ', Inv σ' → post a a σ') : vX8_duck p q σ (fun a σ1 => vX9_duck p q σ1 (fun b σ2 => post a b σ2)) := by
  obtain ⟨T, hC, hM, hO⟩ := h
  exact sC_duck hC hO (fun σ1 hF hC1 => sM_duck (hM.cl hF) hO (fun σ2 hF2 hM2 => K _ σ2 ⟨T, hC1.fm hF2, hM2, hO⟩))
theorem st_shot (h : Inv σ) {p q : Int32} {post : Int32 → Int32 → Hp → Prop} (K : ∀ a σ', Inv σ' → post a a σ') : vX8_shot p q σ (fun a σ1 => vX9_shot p q σ1 (fun b σ2 => post a b σ2)) := by
  obtain ⟨T, hC, hM, hO⟩ := h
  exact sC_shot hC hO (fun σ1 hF hC1 => sM_shot (hM.cl hF) hO (fun σ2 hF2 hM2 => K _ σ2 ⟨T, hC1.fm hF2, hM2, hO⟩))
theorem st_at (h : Inv σ) {p q r : Int32} {post : Int32 → Int32 → Hp → Prop} (K : ∀ a σ', Inv σ' → post a a σ') : vX8_at p q r σ (fun a σ1 => vX9_at p q r σ1 (fun b σ2 => post a b σ2)) := by
  obtain ⟨T, hC, hM, hO⟩ := h
  exact sC_at hC hO (fun σ1 hF hC1 => sM_at (hM.cl hF) hO (fun σ2 hF2 hM2 => K _ σ2 ⟨T, hC1.fm hF2, hM2, hO⟩))
theorem st_sees (h : Inv σ) {p q r : Int32} {post : Int32 → Int32 → Hp → Prop} (K : ∀ a σ', Inv σ' → post a a σ') : vX8_sees p q r σ (fun a σ1 => vX9_sees p q r σ1 (fun b σ2 => post a b σ2)) := by
  obtain ⟨T, hC, hM, hO⟩ := h
  exact sC_sees hC hO (fun σ1 hF hC1 => sM_sees (hM.cl hF) hO (fun σ2 hF2 hM2 => K _ σ2 ⟨T, hC1.fm hF2, hM2, hO⟩))
theorem st_down (h : Inv σ) {p : Int32} {post : Int32 → Int32 → Hp → Prop} (K : ∀ a σ', Inv σ' → post a a σ') : vX8_down p σ (fun a σ1 => vX9_down p σ1 (fun b σ2 => post a b σ2)) := by
  obtain ⟨T, hC, hM, hO⟩ := h
  exact sC_down hC hO (fun σ1 hF hC1 => sM_down (hM.cl hF) hO (fun σ2 hF2 hM2 => K _ σ2 ⟨T, hC1.fm hF2, hM2, hO⟩))
theorem st_hits (h : Inv σ) {p q : Int32} {post : Int32 → Int32 → Hp → Prop} (K : ∀ a σ', Inv σ' → post a a σ') : vX8_hits p q σ (fun a σ1 => vX9_hits p q σ1 (fun b σ2 => post a b σ2)) := by
  obtain ⟨T, hC, hM, hO⟩ := h
  exact sC_hits hC hO (fun σ1 hF hC1 => sM_hits (hM.cl hF) hO (fun σ2 hF2 hM2 => K _ σ2 ⟨T, hC1.fm hF2, hM2, hO⟩))
theorem st_sum (h : Inv σ) {p : Int32} {post : Int32 → Int32 → Hp → Prop} (K : ∀ a σ', Inv σ' → post a a σ') : vX8_sum p σ (fun a σ1 => vX9_sum p σ1 (fun b σ2 => post a b σ2)) := by
  obtain ⟨T, hC, hM, hO⟩ := h
  exact sC_sum hC hO (fun σ1 hF hC1 => sM_sum (hM.cl hF) hO (fun σ2 hF2 hM2 => K _ σ2 ⟨T, hC1.fm hF2, hM2, hO⟩))
theorem st_run (h : Inv σ) {p : Int32} {post : Int32 → Int32 → Hp → Prop} (K : ∀ a σ', Inv σ' → post a a σ') : vX8_run p σ (fun a σ1 => vX9_run p σ1 (fun b σ2 => post a b σ2)) := by
  obtain ⟨T, hC, hM, hO⟩ := h
  exact sC_run hC hO (fun σ1 hF hC1 => sM_run (hM.cl hF) hO (fun σ2 hF2 hM2 => K _ σ2 ⟨T, hC1.fm hF2, hM2, hO⟩))
theorem st_easy (h : Inv σ) {post : Int32 → Int32 → Hp → Prop} (K : ∀ a σ', Inv σ' → post a a σ') : vX8_easy σ (fun a σ1 => vX9_easy σ1 (fun b σ2 => post a b σ2)) := by
  obtain ⟨T, hC, hM, hO⟩ := h
  exact sC_easy hC hO (fun σ1 hF hC1 => sM_easy (hM.cl hF) hO (fun σ2 hF2 hM2 => K _ σ2 ⟨T, hC1.fm hF2, hM2, hO⟩))
theorem st_safe (h : Inv σ) {post : Int32 → Int32 → Hp → Prop} (K : ∀ a σ', Inv σ' → post a a σ') : vX8_safe σ (fun a σ1 => vX9_safe σ1 (fun b σ2 => post a b σ2)) := by
  obtain ⟨T, hC, hM, hO⟩ := h
  exact sC_safe hC hO (fun σ1 hF hC1 => sM_safe (hM.cl hF) hO (fun σ2 hF2 hM2 => K _ σ2 ⟨T, hC1.fm hF2, hM2, hO⟩))
theorem st_aim (h : Inv σ) {p q : Int32} {post : Int32 → Int32 → Hp → Prop} (K : ∀ a σ', Inv σ' → post a a σ') : vX8_aim p q σ (fun a σ1 => vX9_aim p q σ1 (fun b σ2 => post a b σ2)) := by
  obtain ⟨T, hC, hM, hO⟩ := h
  exact sC_aim hC hO (fun σ1 hF hC1 => sM_aim (hM.cl hF) hO (fun σ2 hF2 hM2 => K _ σ2 ⟨T, hC1.fm hF2, hM2, hO⟩))
theorem st_fire (h : Inv σ) {p q : Int32} {post : Int32 → Int32 → Hp → Prop} (K : ∀ a σ', Inv σ' → post a a σ') : vX8_fire p q σ (fun a σ1 => vX9_fire p q σ1 (fun b σ2 => post a b σ2)) := by
  obtain ⟨T, hC, hM, hO⟩ := h
  exact sC_fire hC hO (fun σ1 hF hC1 => sM_fire (hM.cl hF) hO (fun σ2 hF2 hM2 => K _ σ2 ⟨T, hC1.fm hF2, hM2, hO⟩))
theorem st_mend (h : Inv σ) {p : Int32} {post : Int32 → Int32 → Hp → Prop} (K : ∀ a σ', Inv σ' → post a a σ') : vX8_mend p σ (fun a σ1 => vX9_mend p σ1 (fun b σ2 => post a b σ2)) := by
  obtain ⟨T, hC, hM, hO⟩ := h
  exact sC_mend hC hO (fun σ1 hF hC1 => sM_mend (hM.cl hF) hO (fun σ2 hF2 hM2 => K _ σ2 ⟨T, hC1.fm hF2, hM2, hO⟩))
theorem st_spare (h : Inv σ) {p : Int32} {post : Int32 → Int32 → Hp → Prop} (K : ∀ a σ', Inv σ' → post a a σ') : vX8_spare p σ (fun a σ1 => vX9_spare p σ1 (fun b σ2 => post a b σ2)) := by
  obtain ⟨T, hC, hM, hO⟩ := h
  exact sC_spare hC hO (fun σ1 hF hC1 => sM_spare (hM.cl hF) hO (fun σ2 hF2 hM2 => K _ σ2 ⟨T, hC1.fm hF2, hM2, hO⟩))
theorem st_might (h : Inv σ) {p : Int32} {post : Int32 → Int32 → Hp → Prop} (K : ∀ a σ', Inv σ' → post a a σ') : vX8_might p σ (fun a σ1 => vX9_might p σ1 (fun b σ2 => post a b σ2)) := by
  obtain ⟨T, hC, hM, hO⟩ := h
  exact sC_might hC hO (fun σ1 hF hC1 => sM_might (hM.cl hF) hO (fun σ2 hF2 hM2 => K _ σ2 ⟨T, hC1.fm hF2, hM2, hO⟩))
theorem st_kind (h : Inv σ) {p : Int32} {post : Int32 → Int32 → Hp → Prop} (K : ∀ a σ', Inv σ' → post a a σ') : vX8_kind p σ (fun a σ1 => vX9_kind p σ1 (fun b σ2 => post a b σ2)) := by
  obtain ⟨T, hC, hM, hO⟩ := h
  exact sC_kind hC hO (fun σ1 hF hC1 => sM_kind (hM.cl hF) hO (fun σ2 hF2 hM2 => K _ σ2 ⟨T, hC1.fm hF2, hM2, hO⟩))
theorem st_ask (h : Inv σ) {post : Int32 → Int32 → Hp → Prop} (K : ∀ a σ', Inv σ' → post a a σ') : vX8_ask σ (fun a σ1 => vX9_ask σ1 (fun b σ2 => post a b σ2)) := by
  obtain ⟨T, hC, hM, hO⟩ := h
  exact sC_ask hC hO (fun σ1 hF hC1 => sM_ask (hM.cl hF) hO (fun σ2 hF2 hM2 => K _ σ2 ⟨T, hC1.fm hF2, hM2, hO⟩))
theorem st_chance (h : Inv σ) {p q r : Int32} {post : Int64 → Int64 → Hp → Prop} (K : ∀ a σ', Inv σ' → post a a σ') : vX8_chance p q r σ (fun a σ1 => vX9_chance p q r σ1 (fun b σ2 => post a b σ2)) := by
  obtain ⟨T, hC, hM, hO⟩ := h
  exact sC_chance hC hO (fun σ1 hF hC1 => sM_chance (hM.cl hF) hO (fun σ2 hF2 hM2 => K _ σ2 ⟨T, hC1.fm hF2, hM2, hO⟩))
theorem st_fairs (h : Inv σ) {p q r : Int32} {post : Int32 → Int32 → Hp → Prop} (K : ∀ a σ', Inv σ' → post a a σ') : vX8_fairs p q r σ (fun a σ1 => vX9_fairs p q r σ1 (fun b σ2 => post a b σ2)) := by
  obtain ⟨T, hC, hM, hO⟩ := h
  exact sC_fairs hC hO (fun σ1 hF hC1 => sM_fairs (hM.cl hF) hO (fun σ2 hF2 hM2 => K _ σ2 ⟨T, hC1.fm hF2, hM2, hO⟩))
theorem st_count (h : Inv σ) {p : Int32} {post : Int32 → Int32 → Hp → Prop} (K : ∀ a σ', Inv σ' → post a a σ') : vX8_count p σ (fun a σ1 => vX9_count p σ1 (fun b σ2 => post a b σ2)) := by
  obtain ⟨T, hC, hM, hO⟩ := h
  exact sC_count hC hO (fun σ1 hF hC1 => sM_count (hM.cl hF) hO (fun σ2 hF2 hM2 => K _ σ2 ⟨T, hC1.fm hF2, hM2, hO⟩))
theorem st_digest (h : Inv σ) {post : Int64 → Int64 → Hp → Prop} (K : ∀ a σ', Inv σ' → post a a σ') : vX8_digest σ (fun a σ1 => vX9_digest σ1 (fun b σ2 => post a b σ2)) := by
  obtain ⟨T, hC, hM, hO⟩ := h
  exact sC_digest hC hO (fun σ1 hF hC1 => sM_digest (hM.cl hF) hO (fun σ2 hF2 hM2 => K _ σ2 ⟨T, hC1.fm hF2, hM2, hO⟩))
theorem st_type (h : Inv σ) {p q : Int32} {post : Int32 → Int32 → Hp → Prop} (K : ∀ a σ', Inv σ' → post a a σ') : vX8_type p q σ (fun a σ1 => vX9_type p q σ1 (fun b σ2 => post a b σ2)) := by
  obtain ⟨T, hC, hM, hO⟩ := h
  exact sC_type hC hO (fun σ1 hF hC1 => sM_type (hM.cl hF) hO (fun σ2 hF2 hM2 => K _ σ2 ⟨_, hC1.fm hF2, hM2, (hO.type _ _)⟩))
theorem st_wipe (h : Inv σ) {p : Int32} {post : Int32 → Int32 → Hp → Prop} (K : ∀ a σ', Inv σ' → post a a σ') : vX8_wipe p σ (fun a σ1 => vX9_wipe p σ1 (fun b σ2 => post a b σ2)) := by
  obtain ⟨T, hC, hM, hO⟩ := h
  exact sC_wipe hC hO (fun σ1 hF hC1 => sM_wipe (hM.cl hF) hO (fun σ2 hF2 hM2 => K _ σ2 ⟨_, hC1.fm hF2, hM2, (hO.wipe _)⟩))
theorem st_undo (h : Inv σ) {p : Int32} {post : Int32 → Int32 → Hp → Prop} (K : ∀ a σ', Inv σ' → post a a σ') : vX8_undo p σ (fun a σ1 => vX9_undo p σ1 (fun b σ2 => post a b σ2)) := by
  obtain ⟨T, hC, hM, hO⟩ := h
  exact sC_undo hC hO (fun σ1 hF hC1 => sM_undo (hM.cl hF) hO (fun σ2 hF2 hM2 => K _ σ2 ⟨_, hC1.fm hF2, hM2, (hO.undo _)⟩))
theorem st_rifle (h : Inv σ) {p q : Int32} {post : Int32 → Int32 → Hp → Prop} (K : ∀ a σ', Inv σ' → post a a σ') : vX8_rifle p q σ (fun a σ1 => vX9_rifle p q σ1 (fun b σ2 => post a b σ2)) := by
  obtain ⟨T, hC, hM, hO⟩ := h
  exact sC_rifle hC hO (fun σ1 hF hC1 => sM_rifle (hM.cl hF) hO (fun σ2 hF2 hM2 => K _ σ2 ⟨_, hC1.fm hF2, hM2, (hO.rifle _ _)⟩))
theorem st_event (h : Inv σ) {p q r : Int32} {post : Int32 → Int32 → Hp → Prop} (K : ∀ a σ', Inv σ' → post a a σ') : vX8_event p q r σ (fun a σ1 => vX9_event p q r σ1 (fun b σ2 => post a b σ2)) := by
  obtain ⟨T, hC, hM, hO⟩ := h
  exact sC_event hC hO (fun σ1 hF hC1 => sM_event (hM.cl hF) hO (fun σ2 hF2 hM2 => K _ σ2 ⟨_, hC1.fm hF2, hM2, (hO.ev _ _ _)⟩))
theorem st_back (h : Inv σ) {post : Int32 → Int32 → Hp → Prop} (K : ∀ a σ', Inv σ' → post a a σ') : vX8_back σ (fun a σ1 => vX9_back σ1 (fun b σ2 => post a b σ2)) := by
  obtain ⟨T, hC, hM, hO⟩ := h
  exact sC_back hC hO (fun σ1 hF hC1 => sM_back (hM.cl hF) hO (fun σ2 hF2 hM2 => K _ σ2 ⟨_, hC1.fm hF2, hM2, hO.back⟩))
theorem st_read (h : Inv σ) {p : Int32} {post : Int32 → Int32 → Hp → Prop} (K : ∀ a σ', Inv σ' → post a a σ') : vX8_read p σ (fun a σ1 => vX9_read p σ1 (fun b σ2 => post a b σ2)) := by
  obtain ⟨T, hC, hM, hO⟩ := h
  exact sC_read hC hO (fun σ1 hF hC1 => sM_read (hM.cl hF) hO (fun σ2 hF2 hM2 => K _ σ2 ⟨_, hC1.fm hF2, hM2, (hO.read _)⟩))
theorem st_seen (h : Inv σ) {p q r : Int32} {post : Int32 → Int32 → Hp → Prop} (K : ∀ a σ', Inv σ' → post a a σ') : vX8_seen p q r σ (fun a σ1 => vX9_seen p q r σ1 (fun b σ2 => post a b σ2)) := by
  obtain ⟨T, hC, hM, hO⟩ := h
  exact sC_seen hC hO (fun σ1 hF hC1 => sM_seen (hM.cl hF) hO (fun σ2 hF2 hM2 => K _ σ2 ⟨_, hC1.fm hF2, hM2, (hO.seen _ _ _)⟩))
theorem st_forget (h : Inv σ) {post : Int32 → Int32 → Hp → Prop} (K : ∀ a σ', Inv σ' → post a a σ') : vX8_forget σ (fun a σ1 => vX9_forget σ1 (fun b σ2 => post a b σ2)) := by
  obtain ⟨T, hC, hM, hO⟩ := h
  exact sC_forget hC hO (fun σ1 hF hC1 => sM_forget (hM.cl hF) (fun σ2 hF2 hM2 => K _ σ2 ⟨_, hC1.fm hF2, hM2, hO.forget⟩))
theorem st_sheet (h : Inv σ) {p q r : Int32} {post : Int32 → Int32 → Hp → Prop} (K : ∀ a σ', Inv σ' → post a a σ') : vX8_sheet p q r σ (fun a σ1 => vX9_sheet p q r σ1 (fun b σ2 => post a b σ2)) := by
  obtain ⟨T, hC, hM, hO⟩ := h
  exact sC_sheet hC hO (fun σ1 hF hC1 => sM_sheet (hM.cl hF) hO (fun σ2 hF2 hM2 => K _ σ2 ⟨_, hC1.fm hF2, hM2, (hO.sheet _ _ _)⟩))
theorem st_lose (h : Inv σ) {p : Int32} {post : Int32 → Int32 → Hp → Prop} (K : ∀ a σ', Inv σ' → post a a σ') : vX8_lose p σ (fun a σ1 => vX9_lose p σ1 (fun b σ2 => post a b σ2)) := by
  obtain ⟨T, hC, hM, hO⟩ := h
  exact sC_lose hC hO (fun σ1 hF hC1 => sM_lose (hM.cl hF) hO (fun σ2 hF2 hM2 => K _ σ2 ⟨_, hC1.fm hF2, hM2, (hO.lose _)⟩))
theorem st_lay (h : Inv σ) {p q r v : Int32} {post : Int32 → Int32 → Hp → Prop} (K : ∀ a σ', Inv σ' → post a a σ') : vX8_lay p q r v σ (fun a σ1 => vX9_lay p q r v σ1 (fun b σ2 => post a b σ2)) := by
  obtain ⟨T, hC, hM, hO⟩ := h
  exact sC_lay hC hO (fun σ1 hF hC1 => sM_lay (hM.cl hF) hO (fun σ2 hF2 hM2 => K _ σ2 ⟨_, hC1.fm hF2, hM2, (hO.lay _ _ _ _)⟩))
theorem st_get (h : Inv σ) {p q r : Int32} {post : Int32 → Int32 → Hp → Prop} (K : ∀ a σ', Inv σ' → post a a σ') : vX8_get p q r σ (fun a σ1 => vX9_get p q r σ1 (fun b σ2 => post a b σ2)) := by
  obtain ⟨T, hC, hM, hO⟩ := h
  exact sC_get hC hO (fun σ1 hF hC1 => sM_get (hM.cl hF) hO (fun σ2 hF2 hM2 => K _ σ2 ⟨_, hC1.fm hF2, hM2, (hO.get _ _ _)⟩))
theorem st_copy (h : Inv σ) {p q r v w : Int32} {post : Int32 → Int32 → Hp → Prop} (K : ∀ a σ', Inv σ' → post a a σ') : vX8_copy p q r v w σ (fun a σ1 => vX9_copy p q r v w σ1 (fun b σ2 => post a b σ2)) := by
  obtain ⟨T, hC, hM, hO⟩ := h
  exact sC_copy hC hO (fun σ1 hF hC1 => sM_copy (hM.cl hF) hO (fun σ2 hF2 hM2 => K _ σ2 ⟨_, hC1.fm hF2, hM2, (hO.copy _ _ _ _ _)⟩))
theorem st_write (h : Inv σ) {p q : Int32} {post : Int32 → Int32 → Hp → Prop} (K : ∀ a σ', Inv σ' → post a a σ') : vX8_write p q σ (fun a σ1 => vX9_write p q σ1 (fun b σ2 => post a b σ2)) := by
  obtain ⟨T, hC, hM, hO⟩ := h
  exact sC_write hC hO (fun σ1 hF hC1 => sM_write (hM.cl hF) hO (fun σ2 hF2 hM2 => K _ σ2 ⟨_, hC1.fm hF2, hM2, (hO.write _ _)⟩))
end SP
