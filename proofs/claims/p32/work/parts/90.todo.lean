theorem am_law : am_Law := am_law_p
