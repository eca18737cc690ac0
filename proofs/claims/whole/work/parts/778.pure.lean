theorem ok_feed {ΓC ΓM : ly} (hS : SCok ΓC.2) (hS' : SMok ΓM.2) (t : Nat × (Int → Int)) : Op_feed ΓC ΓM (SimX t) (SimX t) := fun σC σM a1 a2 a3 a4 a5 h => op_feed hS hS' a1 a2 a3 a4 a5 t σC σM h
theorem ok_end {ΓC ΓM : ly} (hS : SCok ΓC.2) (hS' : SMok ΓM.2) (t : Nat × (Int → Int)) : Op_end ΓC ΓM (SimX t) (SimX t) := fun σC σM a1 h => op_end hS hS' a1 t σC σM h
theorem ok_parish {ΓC ΓM : ly} (hS : SCok ΓC.2) (hS' : SMok ΓM.2) (t : Nat × (Int → Int)) : Op_parish ΓC ΓM (SimX t) (SimX t) := fun σC σM  h => op_parish hS hS'  t σC σM h
theorem ok_fault {ΓC ΓM : ly} (hS : SCok ΓC.2) (hS' : SMok ΓM.2) (t : Nat × (Int → Int)) : Op_fault ΓC ΓM (SimX t) (SimX t) := fun σC σM  h => by
  obtain ⟨r, σM', h1, h2, h3⟩ := op_fault hS hS'  t σC σM h
  exact ⟨r, σC, σM', ⟨h1, rfl⟩, h2, h3⟩
theorem ok_now {ΓC ΓM : ly} (hS : SCok ΓC.2) (hS' : SMok ΓM.2) (t : Nat × (Int → Int)) : Op_now ΓC ΓM (SimX t) (SimX t) := fun σC σM a1 h => by
  obtain ⟨r, σM', h1, h2, h3⟩ := op_now hS hS' a1 t σC σM h
  exact ⟨r, σC, σM', ⟨h1, rfl⟩, h2, h3⟩
theorem ok_turn {ΓC ΓM : ly} (hS : SCok ΓC.2) (hS' : SMok ΓM.2) (t : Nat × (Int → Int)) : Op_turn ΓC ΓM (SimX t) (SimX t) := fun σC σM a1 h => op_turn hS hS' a1 t σC σM h
theorem ok_wake {ΓC ΓM : ly} (hS : SCok ΓC.2) (hS' : SMok ΓM.2) (t : Nat × (Int → Int)) : Op_wake ΓC ΓM (SimX t) (SimX t) := fun σC σM a1 h => op_wake hS hS' a1 t σC σM h
theorem ok_woo {ΓC ΓM : ly} (hS : SCok ΓC.2) (hS' : SMok ΓM.2) (t : Nat × (Int → Int)) : Op_woo ΓC ΓM (SimX t) (SimX t) := fun σC σM a1 a2 h => op_woo hS hS' a1 a2 t σC σM h
theorem ok_tilt {ΓC ΓM : ly} (hS : SCok ΓC.2) (hS' : SMok ΓM.2) (t : Nat × (Int → Int)) : Op_tilt ΓC ΓM (SimX t) (SimX t) := fun σC σM a1 a2 h => op_tilt hS hS' a1 a2 t σC σM h
theorem ok_widen {ΓC ΓM : ly} (hS : SCok ΓC.2) (hS' : SMok ΓM.2) (t : Nat × (Int → Int)) : Op_widen ΓC ΓM (SimX t) (SimX t) := fun σC σM a1 a2 h => op_widen hS hS' a1 a2 t σC σM h
theorem ok_spill {ΓC ΓM : ly} (hS : SCok ΓC.2) (hS' : SMok ΓM.2) (t : Nat × (Int → Int)) : Op_spill ΓC ΓM (SimX t) (SimX t) := fun σC σM a1 a2 h => op_spill hS hS' a1 a2 t σC σM h
theorem ok_hours {ΓC ΓM : ly} (hS : SCok ΓC.2) (hS' : SMok ΓM.2) (t : Nat × (Int → Int)) : Op_hours ΓC ΓM (SimX t) (SimX t) := fun σC σM a1 h => op_hours hS hS' a1 t σC σM h
theorem ok_undo {ΓC ΓM : ly} (hS : SCok ΓC.2) (hS' : SMok ΓM.2) (t : Nat × (Int → Int)) : Op_undo ΓC ΓM (SimX t) (SimX t) := fun σC σM  h => op_undo hS hS'  t σC σM h
theorem ok_ends {ΓC ΓM : ly} (hS : SCok ΓC.2) (hS' : SMok ΓM.2) (t : Nat × (Int → Int)) : Op_ends ΓC ΓM (SimX t) (SimX t) := fun σC σM a1 h => op_ends hS hS' a1 t σC σM h
theorem ok_lapses {ΓC ΓM : ly} (hS : SCok ΓC.2) (hS' : SMok ΓM.2) (t : Nat × (Int → Int)) : Op_lapses ΓC ΓM (SimX t) (SimX t) := fun σC σM a1 h => op_lapses hS hS' a1 t σC σM h
theorem ok_soonest {ΓC ΓM : ly} (hS : SCok ΓC.2) (hS' : SMok ΓM.2) (t : Nat × (Int → Int)) : Op_soonest ΓC ΓM (SimX t) (SimX t) := fun σC σM  h => op_soonest hS hS'  t σC σM h
theorem ok_watch {ΓC ΓM : ly} (hS : SCok ΓC.2) (hS' : SMok ΓM.2) (t : Nat × (Int → Int)) : Op_watch ΓC ΓM (SimX t) (SimX t) := fun σC σM a1 a2 h => op_watch hS hS' a1 a2 t σC σM h
theorem ok_waking {ΓC ΓM : ly} (hS : SCok ΓC.2) (hS' : SMok ΓM.2) (t : Nat × (Int → Int)) : Op_waking ΓC ΓM (SimX t) (SimX t) := fun σC σM a1 h => by
  obtain ⟨r, σM', h1, h2, h3⟩ := op_waking hS hS' a1 t σC σM h
  exact ⟨r, σC, σM', ⟨h1, rfl⟩, h2, h3⟩
theorem ok_chosen {ΓC ΓM : ly} (hS : SCok ΓC.2) (hS' : SMok ΓM.2) (t : Nat × (Int → Int)) : Op_chosen ΓC ΓM (SimX t) (SimX t) := fun σC σM a1 h => op_chosen hS hS' a1 t σC σM h
theorem ok_choices {ΓC ΓM : ly} (hS : SCok ΓC.2) (hS' : SMok ΓM.2) (t : Nat × (Int → Int)) : Op_choices ΓC ΓM (SimX t) (SimX t) := fun σC σM a1 h => op_choices hS hS' a1 t σC σM h
theorem ok_play {ΓC ΓM : ly} (hS : SCok ΓC.2) (hS' : SMok ΓM.2) (t : Nat × (Int → Int)) : Op_play ΓC ΓM (SimX t) (SimX t) := fun σC σM a1 h => op_play hS hS' a1 t σC σM h
theorem ok_playAt {ΓC ΓM : ly} (hS : SCok ΓC.2) (hS' : SMok ΓM.2) (t : Nat × (Int → Int)) : Op_playAt ΓC ΓM (SimX t) (SimX t) := fun σC σM a1 h => op_playAt hS hS' a1 t σC σM h
theorem ok_steal {ΓC ΓM : ly} (hS : SCok ΓC.2) (hS' : SMok ΓM.2) (t : Nat × (Int → Int)) : Op_steal ΓC ΓM (SimX t) (SimX t) := fun σC σM a1 a2 h => op_steal hS hS' a1 a2 t σC σM h
theorem ok_parts {ΓC ΓM : ly} (hS : SCok ΓC.2) (hS' : SMok ΓM.2) (t : Nat × (Int → Int)) : Op_parts ΓC ΓM (SimX t) (SimX t) := fun σC σM a1 h => by
  obtain ⟨r, σM', h1, h2, h3⟩ := op_parts hS hS' a1 t σC σM h
  exact ⟨r, σC, σM', ⟨h1, rfl⟩, h2, h3⟩
theorem ok_parted {ΓC ΓM : ly} (hS : SCok ΓC.2) (hS' : SMok ΓM.2) (t : Nat × (Int → Int)) : Op_parted ΓC ΓM (SimX t) (SimX t) := fun σC σM a1 h => by
  obtain ⟨r, σM', h1, h2, h3⟩ := op_parted hS hS' a1 t σC σM h
  exact ⟨r, σC, σM', ⟨h1, rfl⟩, h2, h3⟩
theorem ok_good {ΓC ΓM : ly} (hS : SCok ΓC.2) (hS' : SMok ΓM.2) (t : Nat × (Int → Int)) : Op_good ΓC ΓM (SimX t) (SimX t) := fun σC σM a1 a2 h => by
  obtain ⟨r, σM', h1, h2, h3⟩ := op_good hS hS' a1 a2 t σC σM h
  exact ⟨r, σC, σM', ⟨h1, rfl⟩, h2, h3⟩
theorem ok_law {ΓC ΓM : ly} (hS : SCok ΓC.2) (hS' : SMok ΓM.2) (t : Nat × (Int → Int)) : Op_law ΓC ΓM (SimX t) (SimX t) := fun σC σM a1 a2 h => op_law hS hS' a1 a2 t σC σM h
theorem ok_rings {ΓC ΓM : ly} (hS : SCok ΓC.2) (hS' : SMok ΓM.2) (t : Nat × (Int → Int)) : Op_rings ΓC ΓM (SimX t) (SimX t) := fun σC σM a1 h => op_rings hS hS' a1 t σC σM h
theorem ok_together {ΓC ΓM : ly} (hS : SCok ΓC.2) (hS' : SMok ΓM.2) (t : Nat × (Int → Int)) : Op_together ΓC ΓM (SimX t) (SimX t) := fun σC σM a1 a2 h => by
  obtain ⟨r, σM', h1, h2, h3⟩ := op_together hS hS' a1 a2 t σC σM h
  exact ⟨r, σC, σM', ⟨h1, rfl⟩, h2, h3⟩
theorem ok_drawn {ΓC ΓM : ly} (hS : SCok ΓC.2) (hS' : SMok ΓM.2) (t : Nat × (Int → Int)) : Op_drawn ΓC ΓM (SimX t) (SimX t) := fun σC σM a1 a2 h => op_drawn hS hS' a1 a2 t σC σM h
theorem ok_odds {ΓC ΓM : ly} (hS : SCok ΓC.2) (hS' : SMok ΓM.2) (t : Nat × (Int → Int)) : Op_odds ΓC ΓM (SimX t) (SimX t) := fun σC σM a1 a2 a3 h => op_odds hS hS' a1 a2 a3 t σC σM h
theorem ok_roll {ΓC ΓM : ly} (hS : SCok ΓC.2) (hS' : SMok ΓM.2) (t : Nat × (Int → Int)) : Op_roll ΓC ΓM (SimX t) (SimX t) := fun σC σM a1 h => op_roll hS hS' a1 t σC σM h
theorem ok_rolled {ΓC ΓM : ly} (hS : SCok ΓC.2) (hS' : SMok ΓM.2) (t : Nat × (Int → Int)) : Op_rolled ΓC ΓM (SimX t) (SimX t) := fun σC σM a1 h => by
  obtain ⟨r, σM', h1, h2, h3⟩ := op_rolled hS hS' a1 t σC σM h
  exact ⟨r, σC, σM', ⟨h1, rfl⟩, h2, h3⟩
theorem ok_sentence {ΓC ΓM : ly} (hS : SCok ΓC.2) (hS' : SMok ΓM.2) (t : Nat × (Int → Int)) : Op_sentence ΓC ΓM (SimX t) (SimX t) := fun σC σM  h => op_sentence hS hS'  t σC σM h
theorem ok_said {ΓC ΓM : ly} (hS : SCok ΓC.2) (hS' : SMok ΓM.2) (t : Nat × (Int → Int)) : Op_said ΓC ΓM (SimX t) (SimX t) := fun σC σM a1 h => by
  obtain ⟨r, σM', h1, h2, h3⟩ := op_said hS hS' a1 t σC σM h
  exact ⟨r, σC, σM', ⟨h1, rfl⟩, h2, h3⟩
theorem ok_image {ΓC ΓM : ly} (hS : SCok ΓC.2) (hS' : SMok ΓM.2) (t : Nat × (Int → Int)) : Op_image ΓC ΓM (SimX t) (SimX t) := fun σC σM a1 h => op_image hS hS' a1 t σC σM h
theorem ok_restore {ΓC ΓM : ly} (hS : SCok ΓC.2) (hS' : SMok ΓM.2) (t : Nat × (Int → Int)) : Op_restore ΓC ΓM (SimX t) (SimX t) := fun σC σM a1 h => op_restore hS hS' a1 t σC σM h
theorem ok_count {ΓC ΓM : ly} (hS : SCok ΓC.2) (hS' : SMok ΓM.2) (t : Nat × (Int → Int)) : Op_count ΓC ΓM (SimX t) (SimX t) := fun σC σM a1 h => by
  obtain ⟨r, σM', h1, h2, h3⟩ := op_count hS hS' a1 t σC σM h
  exact ⟨r, σC, σM', ⟨h1, rfl⟩, h2, h3⟩
theorem ops_ok {ΓC ΓM : ly} (hS : SCok ΓC.2) (hS' : SMok ΓM.2) (t : Nat × (Int → Int)) : OpsOK ΓC ΓM (SimX t) (SimX t) := ⟨ok_feed hS hS' t, ok_end hS hS' t, ok_parish hS hS' t, ok_fault hS hS' t, ok_now hS hS' t, ok_turn hS hS' t, ok_wake hS hS' t, ok_woo hS hS' t, ok_tilt hS hS' t, ok_widen hS hS' t, ok_spill hS hS' t, ok_hours hS hS' t, ok_undo hS hS' t, ok_ends hS hS' t, ok_lapses hS hS' t, ok_soonest hS hS' t, ok_watch hS hS' t, ok_waking hS hS' t, ok_chosen hS hS' t, ok_choices hS hS' t, ok_play hS hS' t, ok_playAt hS hS' t, ok_steal hS hS' t, ok_parts hS hS' t, ok_parted hS hS' t, ok_good hS hS' t, ok_law hS hS' t, ok_rings hS hS' t, ok_together hS hS' t, ok_drawn hS hS' t, ok_odds hS hS' t, ok_roll hS hS' t, ok_rolled hS hS' t, ok_sentence hS hS' t, ok_said hS hS' t, ok_image hS hS' t, ok_restore hS hS' t, ok_count hS hS' t⟩
