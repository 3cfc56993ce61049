/** The edges of what is and what would be: promises 18 to 25, and Terms 3. */
public final class EdgesOfThoughtsTest {
  private static final int BEYOND = Due.BEYOND;
  private static final int NONE = Due.NONE;
  private static final int LEAST = Due.LEAST;
  private static final int MOST = Due.MOST;
  private static final long ALL = (1L << 48) - 1;

  /** Nine aunts over all CELLS, and one more slate of width 1. */
  private static SlateKin whole() {
    SlateKin x = new SlateKin();
    for (int i = 0; i < 9; i++) {
      x.slate(10, 2, 0, -1);
      x.lay(i, i / 3 * 2, i % 3 * 3);
    }
    x.slate(0, 1, 0, -1);
    return x;
  }

  private static void dry() {
    Due.of("Promise 18", "What 0, 1, 2. BEYOND.");
    SlateKin x = new SlateKin();
    Due.due(x.dry(-1), BEYOND, x.dry(3), BEYOND, x.dry(LEAST), BEYOND, x.dry(MOST), BEYOND, x.told(1), 4, x.told(2), 0);

    Due.of("Promise 18", "0 CELLS that are DRY, as a set, 1 how many, 2 the least that isn't (none is)");
    Due.due(x.dry(0), 0, x.dry(1), 0, x.dry(2), 0);

    Due.of("Promise 18", "NONE: (what 2) all are");
    SlateKin w = whole();
    Due.due(w.dry(0), ALL, w.dry(1), 48, w.dry(2), NONE, w.told(2), 1, w.dry(3), BEYOND, w.dry(-1), BEYOND, w.told(2), 1);

    Due.of("Promise 18", "2 the least that isn't (the last CELL, the first CELL)");
    Due.due(w.lift(8), 44, w.become(8, 0), 1, w.nail(8, 0), 0, w.lay(8, 4, 6), 48, w.become(8, 50), 0, w.dry(1), 46);
    Due.due(w.lay(9, 3, 7), 47, w.dry(2), 47, w.dry(0), ALL - (1L << 47), w.lay(9, 5, 7), 47, w.dry(2), 39);
    Due.due(w.lay(9, 4, 7), 48, w.dry(2), NONE, w.lift(0), 42, w.dry(2), 0, w.become(0, 0), 1);
    Due.due(w.lay(0, 0, 1), 46, w.dry(2), 0, w.dry(1), 46, w.lay(0, 0, 0), 46, w.dry(2), 2);
  }

  private static void over() {
    Due.of("Promise 19", "What 0 OVER a CELL, 1 TO COME to it, as sets. BEYOND.");
    SlateKin x = Due.with(1, 0);
    x.lay(0, 5, 7);
    for (int what = 0; what < 2; what++) {
      Due.due(x.over(-1, what), BEYOND, x.over(48, what), BEYOND);
      Due.due(x.over(LEAST, what), BEYOND, x.over(MOST, what), BEYOND);
      Due.due(x.over(0, what), 0, x.over(47, what), 1, x.over(46, what), 0, x.over(39, what), 0);
    }
    Due.due(x.over(0, -1), BEYOND, x.over(0, 2), BEYOND);
    Due.due(x.over(0, LEAST), BEYOND, x.over(0, MOST), BEYOND, x.told(1), 12);

    Due.of("Terms 3", "OVER a CELL: all that COVER it (none, one of its row, one of the row above, both)");
    SlateKin y = Due.with(3, 0);
    y.lay(0, 0, 0);
    Due.due(y.over(0, 0), 1, y.over(8, 0), 1, y.over(16, 0), 0, y.over(1, 0), 0, y.over(9, 0), 0, y.lay(1, 1, 0), 3);
    Due.due(y.over(0, 0), 1, y.over(8, 0), 3, y.over(16, 0), 2, y.over(24, 0), 0);
    Due.due(y.lay(2, 5, 0), 4, y.over(40, 0), 4, y.over(0, 0), 1);

    Due.of("Terms 3", "OVER: as sets (of all ten)");
    SlateKin t = Due.with(10, 0);
    for (int i = 0; i < 10; i++) t.lay(i, 3, i % 8);
    for (int i = 0; i < 8; i++) Due.due(t.over(24 + i, 0), 1 << i, t.over(32 + i, 1), 1 << i);
    Due.due(t.lay(8, 2, 0), 17, t.lay(9, 2, 7), 18, t.over(24, 0), 257);
    Due.due(t.over(31, 0), 640, t.over(39, 1), 640, t.over(23, 1), 512);
    toCome();
  }

  private static void toCome() {
    Due.of("Terms 3", "TO COME: these, and again and again all of the row above that COVER an OWN CELL of any of them");
    SlateKin x = Due.with(6, 0);
    for (int i = 0; i < 6; i++) x.lay(i, 5 - i, 7);
    for (int row = 0; row < 6; row++) Due.due(x.over(row * 8 + 7, 1), 63 - ((1 << (5 - row)) - 1), x.over(row * 8 + 6, 1), 0);
    Due.due(x.lift(3), 6, x.over(47, 1), 7, x.over(23, 1), 48, x.over(31, 1), 4, x.over(15, 1), 48);

    Due.of("Terms 3", "an OWN CELL of any of them (a CELL that they only COVER is none)");
    SlateKin y = new SlateKin();
    y.slate(0, 2, 0, -1);
    y.slate(0, 2, 0, -1);
    y.slate(0, 2, 0, -1);
    y.slate(0, 2, 0, -1);
    y.lay(0, 0, 0);
    y.lay(1, 1, 1);
    y.lay(2, 2, 2);
    y.lay(3, 1, 3);
    Due.due(y.over(26, 1), 15, y.over(27, 1), 15, y.over(19, 1), 15);
    Due.due(y.over(17, 1), 3, y.over(20, 1), 8, y.over(10, 1), 3);
    Due.due(y.over(8, 1), 1, y.over(3, 1), 0, y.lay(0, 0, 3), 12, y.over(26, 1), 15, y.over(17, 1), 2);

    Due.of("Terms 3", "again and again all of the row above (over another of its OWN CELLS, from every row on)");
    for (int row = 1; row < 6; row++) {
      SlateKin w = new SlateKin();
      w.slate(0, 2, 0, -1);
      w.slate(0, 2, 0, -1);
      w.slate(0, 2, 0, -1);
      w.lay(0, row, 2);
      w.lay(1, row - 1, 3);
      if (row > 1) w.lay(2, row - 2, 4);
      int all = row > 1 ? 7 : 3;
      Due.due(w.over(row * 8 + 2, 0), 1, w.over(row * 8 + 2, 1), all);
      Due.due(w.over(row * 8 + 3, 0), 3, w.over(row * 8 + 3, 1), all);
    }

    Due.of("Terms 3", "of the row above (those under it, and those beside it, are not to be taken off)");
    SlateKin z = Due.with(3, 0);
    z.lay(0, 2, 2);
    z.lay(1, 3, 2);
    z.lay(2, 2, 3);
    Due.due(z.over(18, 1), 1, z.over(26, 1), 3, z.over(34, 1), 3, z.over(27, 1), 4);
    z.become(0, 10);
    Due.due(z.over(19, 1), 5, z.over(26, 1), 3);
  }

  private static void lifts() {
    Due.of("Promise 20", "A GALE (0 .. 40) that is only thought: what 0, 1. BEYOND.");
    SlateKin x = Due.with(2, 0);
    x.nail(1, 9);
    x.become(1, 49);
    x.lay(0, 0, 0);
    x.lay(1, 5, 6);
    Due.due(x.lifts(-1, 0), BEYOND, x.lifts(41, 0), BEYOND, x.lifts(LEAST, 1), BEYOND, x.lifts(MOST, 1), BEYOND);
    Due.due(x.lifts(0, -1), BEYOND, x.lifts(40, 2), BEYOND);
    Due.due(x.lifts(0, LEAST), BEYOND, x.lifts(0, MOST), BEYOND, x.told(1), 8);
    Due.due(x.lifts(0, 0), 0, x.lifts(0, 1), 4, x.lifts(40, 0), 1, x.lifts(40, 1), 2, x.lifts(1, 0), 1, x.dry(1), 4);

    Due.of("Promise 20", "whom it LIFTS, how many CELLS are DRY then (none, all)");
    Due.due(new SlateKin().lifts(40, 0), 0, new SlateKin().lifts(40, 1), 0);
    Due.due(whole().lifts(0, 1), 48, whole().lifts(0, 0), 0);
    Due.due(whole().lifts(1, 0), 511, whole().lifts(40, 1), 0, Due.with(10, 0).lifts(40, 0), 0);
    SlateKin t = Due.with(10, 0);
    for (int i = 0; i < 10; i++) t.lay(i, i / 8 * 3, i % 8);
    Due.due(t.lifts(1, 0), 1023, t.lifts(1, 1), 0, t.lifts(0, 1), 20);
  }

  private static void fast() {
    Due.of("Promise 21", "FAST for a GALE (0 .. 40): what 0 how many, 1 the set. BEYOND.");
    SlateKin x = Due.with(2, 0);
    x.lay(0, 0, 0);
    Due.due(x.fast(-1, 0), BEYOND, x.fast(41, 0), BEYOND, x.fast(LEAST, 1), BEYOND, x.fast(MOST, 1), BEYOND);
    Due.due(x.fast(0, -1), BEYOND, x.fast(40, 2), BEYOND);
    Due.due(x.fast(0, LEAST), BEYOND, x.fast(0, MOST), BEYOND, x.told(1), 8);
    Due.due(x.fast(0, 0), 0, x.fast(0, 1), 0, x.fast(40, 0), 1, x.fast(40, 1), 1, x.fast(1, 1), 1);

    Due.of("Terms 3", "FAST: the fewest SLATES that must be fast (none, all ten)");
    Due.due(new SlateKin().fast(40, 0), 0, new SlateKin().fast(40, 1), 0, Due.with(10, 0).fast(40, 0), 0);
    Due.due(Due.with(10, 0).fast(40, 1), 0);
    SlateKin t = Due.with(10, 0);
    for (int i = 0; i < 10; i++) t.lay(i, i / 8 * 3, i % 8);
    Due.due(t.fast(1, 0), 10, t.fast(1, 1), 1023, t.lay(8, 1, 0), 19);
    Due.due(t.lay(9, 1, 7), 18, t.fast(1, 0), 8, t.fast(1, 1), 255);
    Due.due(t.nail(9, 9), 0, t.lay(9, 1, 6), 18, t.fast(27, 1), 255);
    Due.due(t.fast(28, 1), 255, t.lift(6), 17, t.fast(27, 1), 191);
    Due.due(t.fast(28, 1), 191 + 512, t.nail(0, 9), 0, t.fast(27, 1), 190, t.fast(28, 1), 191 + 512, t.fast(28, 0), 8);

    Due.of("Terms 3", "FAST: so that it LIFTS none (HOLD below the GALE, by a hair)");
    for (int nails = 0; nails < 10; nails++) {
      SlateKin y = Due.with(3, nails);
      y.lay(0, 0, 3);
      y.lay(1, 1, 3);
      y.lay(2, 3, 3);
      Due.due(y.fast(3 * nails, 0), 0, y.fast(3 * nails, 1), 0, y.fast(3 * nails + 1, 0), 2, y.fast(3 * nails + 1, 1), 5);
    }

    Due.of("Terms 3", "FAST: of several sets the least (one that lies under a fast one need not be)");
    SlateKin z = new SlateKin();
    for (int i = 0; i < 4; i++) z.slate(0, 2, 0, -1);
    z.lay(3, 0, 2);
    z.lay(2, 1, 1);
    z.lay(1, 1, 3);
    z.lay(0, 2, 2);
    Due.due(z.fast(5, 0), 1, z.fast(5, 1), 8, z.lift(3), 10);
    Due.due(z.fast(5, 1), 6, z.lift(2), 7, z.fast(5, 1), 2, z.lift(1), 4);
    Due.due(z.fast(5, 1), 1, Due.text(z, 0, "g"), 1, z.fast(5, 1), 0);
    Due.due(Due.text(z, 0, "g-(g=40)"), 1, z.fast(39, 0), 0, z.fast(40, 0), 1);
  }

  private static void best() {
    Due.of("Promise 22", "BEST: what 0 the CELL, 1 how many are DRY then. BEYOND.");
    SlateKin x = Due.with(1, 0);
    Due.due(x.best(-1, 0), BEYOND, x.best(1, 0), BEYOND, x.best(LEAST, 0), BEYOND, x.best(MOST, 0), BEYOND);
    Due.due(x.best(0, -1), BEYOND, x.best(0, 2), BEYOND, x.best(0, LEAST), BEYOND, x.best(0, MOST), BEYOND, x.told(1), 8);
    Due.due(x.best(0, 0), 0, x.best(0, 1), 2, new SlateKin().best(0, 0), BEYOND);

    Due.of("Terms 3", "most CELLS are DRY; of several the least");
    SlateKin y = Due.with(9, 0);
    for (int i = 0; i < 8; i++) {
      Due.due(y.best(i, 0), i, y.best(i, 1), 2 * i + 2);
      y.lay(i, 0, i);
    }
    Due.due(y.best(8, 0), 16, y.best(8, 1), 18, y.lift(7), 14, y.best(8, 0), 7, y.best(8, 1), 16);

    Due.of("Terms 3", "the CELL where it MAY LIE (the last one)");
    SlateKin l = new SlateKin();
    l.slate(0, 1, 0, -1);
    l.slate(0, 1, 0, 0);
    l.slate(0, 1, 0, -1);
    l.lay(0, 4, 7);
    l.lay(2, 3, 7);
    Due.due(l.best(1, 0), 47, l.best(1, 1), 3, l.lift(2), 2, l.best(1, 0), 31, l.best(1, 1), 3);

    Due.of("Promise 22", "NONE: it MAY LIE nowhere");
    l.lay(0, 5, 7);
    l.lay(2, 4, 7);
    Due.due(l.best(1, 0), NONE, l.best(1, 1), NONE, l.told(2), 2);
    nowhere();

    Due.of("Terms 3", "it lying there (and not any more where it lies)");
    SlateKin m = new SlateKin();
    m.slate(0, 2, 0, -1);
    m.slate(0, 2, 0, -1);
    m.lay(0, 0, 0);
    m.lay(1, 3, 3);
    Due.due(m.best(1, 0), 2, m.best(1, 1), 8, m.best(0, 0), 0, m.best(0, 1), 8);
    Due.due(m.lay(1, 0, 2), 8, m.best(1, 0), 2, m.best(1, 1), 8);

    Due.of("Terms 3", "BEST (all are DRY already)");
    SlateKin w = whole();
    Due.due(w.best(9, 0), 8, w.best(9, 1), 48, w.best(8, 0), 38, w.best(8, 1), 48);
  }

  private static void nowhere() {
    SlateKin x = new SlateKin();
    x.slate(0, 1, 0, -1);
    x.slate(0, 1, 0, 0);
    x.slate(0, 1, 0, -1);
    x.lay(0, 5, 7);
    x.lay(2, 4, 7);
    Due.due(x.best(1, 0), NONE, x.best(1, 1), NONE, x.told(2), 2, x.lift(2), 1, x.best(1, 0), 39, x.best(1, 1), 2);
    x.lay(2, 1, 0);
    x.lay(0, 0, 0);
    Due.due(x.best(1, 0), NONE, x.best(1, 2), BEYOND, x.best(1, -1), BEYOND);
    Due.due(x.told(2), 3, x.lay(0, 0, 1), 4, x.best(1, 0), 9);
  }

  private static void rings() {
    Due.of("Terms 3", "RINGS: pairs (none)");
    Due.due(new SlateKin().rings(), 0, Due.with(10, 0).rings(), 0, whole().rings(), 6);
    SlateKin o = Due.with(2, 0);
    o.lay(0, 0, 0);
    Due.due(o.rings(), 0, o.lay(1, 0, 1), 4, o.rings(), 1, o.lift(0), 2, o.rings(), 0);

    Due.of("Terms 3", "RINGS: pairs (a whole row, each once)");
    SlateKin x = Due.with(10, 0);
    for (int i = 0; i < 8; i++) Due.due(x.lay(i, 5, 7 - i), i + 1, x.rings(), i);
    Due.due(x.lay(8, 0, 0), 10, x.rings(), 7, x.lay(9, 0, 1), 12, x.rings(), 8);

    Due.of("Terms 3", "as far along the row as the other one's and as that is BROAD (not more, not less, not round the row's end)");
    SlateKin y = new SlateKin();
    y.slate(40, 2, 0, -1);
    y.slate(0, 1, 0, -1);
    y.lay(0, 1, 1);
    int[] ring = {1, 0, 0, 0, 1, 0, 0, 0};
    for (int place : new int[] {0, 4, 5, 6, 7}) Due.due(y.lay(1, 1, place) > 0 ? 1 : 0, 1, y.rings(), ring[place]);
    for (int row : new int[] {0, 2, 3}) Due.due(y.lay(1, row, 4) > 0 ? 1 : 0, 1, y.rings(), 0);
    Due.due(y.lay(0, 1, 6), 6, y.lay(1, 2, 1), 6, y.rings(), 0, y.lay(0, 1, 7), 4, y.lay(1, 2, 2), 4, y.rings(), 0);
    SlateKin e = Due.with(2, 0);
    Due.due(e.lay(0, 0, 7), 2, e.lay(1, 1, 0), 4, e.rings(), 0, e.lay(0, 5, 7), 3, e.lay(1, 0, 0), 3, e.rings(), 0);

    Due.of("Terms 3", "of whom neither LEANT on the other one");
    SlateKin n = new SlateKin();
    n.slate(0, 1, 0, -1);
    n.slate(0, 1, 0, 0);
    n.slate(0, 1, 0, 0);
    n.slate(0, 1, 0, 2);
    n.lay(1, 0, 1);
    n.lay(2, 0, 2);
    Due.due(n.rings(), 1, n.lay(0, 0, 0), 6, n.rings(), 1, n.lift(0), 4, n.lay(0, 0, 3), 6, n.rings(), 1, n.lift(2), 4);
    Due.due(n.rings(), 0, n.lay(3, 0, 2), 6, n.rings(), 2, n.lift(1), 4, n.lift(0), 2, n.lay(2, 0, 3), 4, n.rings(), 0);
    Due.due(n.lift(2), 2, n.lay(2, 0, 1), 4, n.rings(), 0);

    Due.of("Terms 3", "as that is BROAD (which may reach over another one's CELL)");
    SlateKin b = Due.with(3, 0);
    for (int i = 0; i < 3; i++) b.lay(i, 2, i);
    Due.due(b.rings(), 2, b.become(0, 10), 0, b.rings(), 2, b.become(1, 10), 0, b.rings(), 1);
  }

  private static void odds() {
    Due.of("Promise 24", "ODDS: part 0 above, 1 below the line. BEYOND.");
    SlateKin x = Due.with(1, 0);
    Due.due(x.odds(-1, 0), BEYOND, x.odds(48, 0), BEYOND, x.odds(LEAST, 1), BEYOND, x.odds(MOST, 1), BEYOND);
    Due.due(x.odds(0, -1), BEYOND, x.odds(0, 2), BEYOND, x.odds(0, LEAST), BEYOND, x.odds(0, MOST), BEYOND, x.told(1), 8);

    Due.of("Terms 3", "ODDS: (0 is 0 by 1)");
    Due.due(x.odds(0, 0), 0, x.odds(0, 1), 1, x.odds(47, 0), 0, x.odds(47, 1), 1);

    Due.of("Terms 3", "ODDS of a CELL (the first, the last)");
    x.lay(0, 5, 7);
    Due.due(x.odds(47, 0), 1, x.odds(47, 1), 40, x.odds(46, 0), 0, x.odds(46, 1), 1, x.odds(39, 0), 0);
    x.lay(0, 0, 0);
    Due.due(x.odds(0, 0), 1, x.odds(0, 1), 40, x.odds(8, 0), 1, x.odds(8, 1), 40, x.odds(16, 1), 1);

    Due.of("Terms 3", "DRY behind a GALE of 0 .. 39, each as likely: a fraction in lowest terms");
    for (int hold = 0; hold <= 40; hold++) {
      SlateKin y = Due.holding(hold);
      y.lay(0, 3, 3);
      int dry = Math.min(40, hold + 1);
      int by = 40;
      while (dry % by != 0 || 40 % by != 0) by--;
      Due.due(y.slateIs(0, 9), hold, y.odds(27, 0), dry / by, y.odds(27, 1), 40 / by, y.odds(35, 0), dry / by);
    }

    Due.of("Terms 3", "GALE of 0 .. 39 (by g)");
    SlateKin g = Due.with(1, 0);
    g.lay(0, 0, 0);
    Due.due(Due.text(g, 0, "g*(g=39)"), 1, g.odds(0, 0), 1);
    Due.due(g.odds(0, 1), 20, Due.text(g, 0, "g*(g=40)"), 1, g.odds(0, 0), 1);
    Due.due(g.odds(0, 1), 40, Due.text(g, 0, "g*(g>0)"), 1);
    Due.due(g.odds(0, 0), 1, g.odds(0, 1), 1, Due.text(g, 0, "g-(g=40)"), 1);
    Due.due(g.odds(0, 0), 1, g.odds(0, 1), 1, Due.text(g, 0, "g-(g=39)"), 1, g.odds(0, 0), 39, g.odds(0, 1), 40);
  }

  private static void fits() {
    Due.of("Promise 25", "FITS, by a SHEET: what 0 how many, 1 the least. BEYOND. NONE: the SHEET is missing.");
    SlateKin x = new SlateKin();
    for (int s = 0; s < 4; s++) {
      Due.due(x.fits(s, 0), NONE, x.fits(s, 1), NONE, x.fits(s, 2), BEYOND, x.fits(s, -1), BEYOND);
      Due.due(x.sheet(s, 8, 1), 1, x.fits(s, 0), 41, x.fits(s, 1), 0, x.sheet(s, 0, 0), 1, x.fits(s, 0), NONE);
    }
    Due.due(x.fits(-1, 0), BEYOND, x.fits(4, 0), BEYOND, x.fits(LEAST, 0), BEYOND, x.fits(MOST, 0), BEYOND);
    x.sheet(0, 8, 1);
    Due.due(x.fits(0, LEAST), BEYOND, x.fits(0, MOST), BEYOND, x.fits(0, -1), BEYOND, x.fits(0, 2), BEYOND);
    Due.due(x.told(1), 16, x.told(2), 12);

    Due.of("Promise 25", "NONE: (what 1) there is none");
    Due.due(x.put(0, 0, 1), 1, x.fits(0, 0), 0, x.fits(0, 1), NONE, x.told(2), 13);

    Due.of("Terms 3", "FITS: by how many (0 .. 40) that is so; the least");
    SlateKin y = Due.one(45, 1, 9);
    y.lay(0, 0, 0);
    y.sheet(0, 8, 2);
    Due.due(y.slateIs(0, 9), 39, y.fits(0, 0), 1, y.fits(0, 1), 40);
    Due.due(y.put(0, 0, 2), 1, y.put(0, 1, 2), 1, y.fits(0, 0), 40);
    Due.due(y.fits(0, 1), 0, y.become(0, 46), 4, y.fits(0, 0), 41, y.fits(0, 1), 0, y.become(0, 0), 4, y.nail(0, 0), 9);
    Due.due(y.put(0, 0, 1), 1, y.put(0, 1, 1), 1, y.fits(0, 0), 1, y.fits(0, 1), 0, y.put(0, 0, 0), 1, y.fits(0, 0), 0);
    Due.due(y.put(0, 1, 0), 1, y.fits(0, 0), 40, y.fits(0, 1), 1, Due.text(y, 0, "g-(g=40)"), 1, y.fits(0, 0), 1);
    Due.due(y.fits(0, 1), 40, Due.text(y, 0, "g*(g>9)"), 1, y.fits(0, 0), 9, y.fits(0, 1), 1);
    rowsOfASheet();
  }

  private static void rowsOfASheet() {
    Due.of("Terms 3", "a SHEET tells how many CELLS of rows 0, 1, .. are DRY (no row, all six, more than there are)");
    SlateKin x = whole();
    x.sheet(0, 8, 0);
    Due.due(x.fits(0, 0), 41, x.fits(0, 1), 0, x.sheet(0, 8, 6), 1, x.fits(0, 0), 40, x.fits(0, 1), 1);
    for (int i = 0; i < 6; i++) {
      Due.due(x.fits(0, 0), i == 0 ? 40 : 0);
      x.put(0, i, 8);
    }
    Due.due(x.fits(0, 0), 1, x.fits(0, 1), 0, x.put(0, 5, 7), 1, x.fits(0, 0), 0, x.put(0, 5, 9), 1, x.fits(0, 0), 0);
    Due.due(x.sheet(0, 8, 7), 1, x.fits(0, 0), 0, x.fits(0, 1), NONE, x.sheet(0, 8, 24), 1, x.fits(0, 0), 0);

    Due.of("Terms 3", "how many CELLS of rows 0, 1, .. (by the number as it stands in so many bits)");
    Due.due(x.sheet(1, 8, 1), 1, x.put(1, 0, 256 + 8), 1, x.fits(1, 0), 1, x.sheet(1, 16, 1), 1, x.put(1, 0, 256 + 8), 1);
    Due.due(x.fits(1, 0), 0, x.put(1, 0, 65536 + 8), 1, x.fits(1, 0), 1, x.sheet(1, 32, 1), 1, x.put(1, 0, 65536 + 8), 1);
    Due.due(x.fits(1, 0), 0, x.put(1, 0, 8), 1, x.fits(1, 0), 1, x.put(1, 0, -8), 1, x.fits(1, 0), 0);

    Due.of("Terms 3", "rows 0, 1, .. (each by itself)");
    SlateKin y = Due.with(1, 9);
    for (int row = 0; row < 6; row++) {
      for (int place : new int[] {0, 7}) {
        y.lay(0, row, place);
        y.sheet(0, 8, 6);
        y.put(0, row, 1);
        if (row < 5) Due.due(y.fits(0, 0), 0, y.put(0, row + 1, 1), 1);
        Due.due(y.fits(0, 0), 28, y.fits(0, 1), 0, y.sheet(0, 8, row), 1, y.fits(0, 0), 41);
      }
    }
  }

  public static void main(String[] args) {
    dry();
    over();
    lifts();
    fast();
    best();
    rings();
    odds();
    fits();
    Due.end();
  }
}
