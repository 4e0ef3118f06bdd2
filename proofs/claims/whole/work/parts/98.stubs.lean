/-! ===== not proved yet ===== -/
