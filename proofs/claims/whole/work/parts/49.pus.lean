/-! ===== what is not yet proved ===== -/
