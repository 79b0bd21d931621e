theorem am_law : am_Law := by sorry
