/** The edges of the slates: promises 1 to 9, and what Terms 1 says of slates, cells and where one may lie. */
public final class EdgesOfSlatesTest {
  private static final int BEYOND = Due.BEYOND;
  private static final int FULL = Due.FULL;
  private static final int STATE = Due.STATE;
  private static final int KIND = Due.KIND;
  private static final int LEAST = Due.LEAST;
  private static final int MOST = Due.MOST;

  private static void aNewObject() {
    Due.of("Promise 1", "All as at first; no SLATES, no TEXTS");
    SlateKin x = new SlateKin();
    for (int k = 1; k <= 6; k++) Due.due(x.told(k), 0);
    for (int what = 0; what < 7; what++) Due.due(x.count(what), 0);
    Due.due(x.count(7), 1, x.dry(0), 0, x.dry(1), 0, x.dry(2), 0, x.rings(), 0, x.check(), 0);
    Due.due(x.untell(0), 0, x.untell(1), 0, x.slateIs(0, 0), BEYOND, x.body(0), Due.NONE, x.restore(), Due.NONE);
    for (int s = 0; s < 4; s++) Due.due(x.judge(s), Due.NONE);
    Due.due(x.told(1), 1, x.told(2), 6, x.image(), 1);

    Due.of("Promise 1", "All as at first (whatever befell another object)");
    SlateKin y = Due.one(15, 2, 3);
    y.lay(0, 0, 0);
    y.years(3);
    y.sells(1);
    Due.text(y, 0, "5");
    y.sheet(0, 8, 3);
    y.tell(1);
    y.voice(0, 0, 0);
    y.lift(7);
    y.image();
    SlateKin z = new SlateKin();
    for (int what = 0; what < 7; what++) Due.due(z.count(what), 0);
    Due.due(z.dry(0), 0, z.law(0, 9, 0, 0), 9, z.told(1), 0, z.judge(0), Due.NONE, z.restore(), Due.NONE);
  }

  private static void howManySlates() {
    Due.of("Terms 1", "SLATES 0, 1, .. (at most 10)");
    SlateKin x = new SlateKin();
    for (int i = 0; i < 10; i++) Due.due(x.count(0), i, x.slate(0, 1, 0, -1), i);
    Due.due(x.slate(0, 1, 0, -1), FULL, x.count(0), 10, x.told(4), 1, x.slateIs(9, 0), 0, x.slateIs(10, 0), BEYOND);

    Due.of("Promise 2", "BEYOND. FULL. (in this order)");
    Due.due(x.slate(-1, 1, 0, -1), BEYOND, x.slate(70, 1, 0, -1), BEYOND, x.slate(0, 0, 0, -1), BEYOND);
    Due.due(x.slate(0, 3, 0, -1), BEYOND, x.slate(0, 1, -1, -1), BEYOND, x.slate(0, 1, 10, -1), BEYOND);
    Due.due(x.slate(0, 1, 0, -2), BEYOND, x.slate(0, 1, 0, 10), BEYOND, x.slate(0, 1, 0, 9), FULL, x.told(4), 2);
  }

  private static void whatASlateIsMadeOf() {
    Due.of("Promise 2", "km: 10 times the KIND, and m (0 .. 9)");
    SlateKin x = new SlateKin();
    Due.due(x.slate(0, 1, 0, -1), 0, x.slateIs(0, 0), 0, x.slateIs(0, 1), 0);
    Due.due(x.slate(9, 1, 0, -1), 1, x.slateIs(1, 0), 0, x.slateIs(1, 1), 9);
    Due.due(x.slate(10, 1, 0, -1), 2, x.slateIs(2, 0), 1, x.slateIs(2, 1), 0);
    Due.due(x.slate(60, 1, 0, -1), 3, x.slateIs(3, 0), 6, x.slateIs(3, 1), 0);
    Due.due(x.slate(69, 1, 0, -1), 4, x.slateIs(4, 0), 6, x.slateIs(4, 1), 9);
    Due.due(x.slate(-1, 1, 0, -1), BEYOND, x.slate(-10, 1, 0, -1), BEYOND, x.slate(70, 1, 0, -1), BEYOND);
    Due.due(x.slate(LEAST, 1, 0, -1), BEYOND, x.slate(MOST, 1, 0, -1), BEYOND, x.count(0), 5, x.told(1), 5);

    Due.of("Terms 1", "a WIDTH (1, 2)");
    SlateKin w = new SlateKin();
    Due.due(w.slate(0, 1, 0, -1), 0, w.slateIs(0, 2), 1, w.slate(0, 2, 0, -1), 1, w.slateIs(1, 2), 2);
    Due.due(w.slate(0, 0, 0, -1), BEYOND, w.slate(0, 3, 0, -1), BEYOND, w.slate(0, -1, 0, -1), BEYOND);
    Due.due(w.slate(0, LEAST, 0, -1), BEYOND, w.slate(0, MOST, 0, -1), BEYOND, w.count(0), 2, w.told(1), 5);

    Due.of("Terms 1", "NAILS (0 .. 9)");
    SlateKin n = new SlateKin();
    Due.due(n.slate(0, 1, 0, -1), 0, n.slateIs(0, 3), 0, n.slate(0, 1, 9, -1), 1, n.slateIs(1, 3), 9);
    Due.due(n.slate(0, 1, -1, -1), BEYOND, n.slate(0, 1, 10, -1), BEYOND, n.slate(0, 1, LEAST, -1), BEYOND);
    Due.due(n.slate(0, 1, MOST, -1), BEYOND, n.count(0), 2, n.told(1), 4);
    onWhomItLeant();
  }

  private static void onWhomItLeant() {
    Due.of("Promise 2", "who LEANT on one that there is (-1: none)");
    SlateKin x = new SlateKin();
    Due.due(x.slate(0, 1, 0, 0), BEYOND, x.slate(0, 1, 0, -2), BEYOND, x.slate(0, 1, 0, -1), 0, x.slateIs(0, 4), -1);
    Due.due(x.slate(0, 1, 0, 1), BEYOND, x.slate(0, 1, 0, 0), 1, x.slateIs(1, 4), 0);
    Due.due(x.slate(0, 1, 0, 2), BEYOND, x.slate(0, 1, 0, 1), 2, x.slateIs(2, 4), 1, x.slate(0, 1, 0, 0), 3);
    Due.due(x.slate(0, 1, 0, LEAST), BEYOND, x.slate(0, 1, 0, MOST), BEYOND, x.count(0), 4, x.told(1), 6);

    Due.of("Terms 1", "AGE (0 .. 999; 0 at first); LAID at a CELL, or not (at first)");
    SlateKin y = Due.with(1, 0);
    y.lay(0, 0, 0);
    y.years(5);
    Due.due(y.slate(0, 1, 0, -1), 1, y.slateIs(1, 7), 0, y.slateIs(1, 5), -1, y.slateIs(1, 6), -1, y.slateIs(0, 7), 5);
    Due.due(y.dry(1), 2, y.lift(1), STATE);
  }

  private static void whatASlateIs() {
    Due.of("Promise 3", "Of a SLATE: 0 .. 9. BEYOND.");
    SlateKin x = new SlateKin();
    x.slate(0, 1, 0, -1);
    x.slate(47, 2, 8, 0);
    int[] due = {4, 7, 2, 8, 0, -1, -1, 0, 3, 37};
    for (int what = 0; what < 10; what++) Due.due(x.slateIs(1, what), due[what]);
    Due.due(x.slateIs(1, -1), BEYOND, x.slateIs(1, 10), BEYOND, x.slateIs(1, LEAST), BEYOND, x.slateIs(1, MOST), BEYOND);
    Due.due(x.slateIs(-1, 0), BEYOND, x.slateIs(2, 0), BEYOND, x.slateIs(LEAST, 0), BEYOND, x.slateIs(MOST, 0), BEYOND);
    Due.due(x.told(1), 8, new SlateKin().slateIs(0, 0), BEYOND);

    Due.of("Promise 3", "5 the row (-1: not LAID), 6 the place (-1)");
    Due.due(x.lay(0, 0, 0), 2, x.slateIs(0, 5), 0, x.slateIs(0, 6), 0, x.lay(0, 5, 7), 1, x.slateIs(0, 5), 5);
    Due.due(x.slateIs(0, 6), 7, x.lay(0, 0, 7), 2, x.slateIs(0, 5), 0, x.slateIs(0, 6), 7, x.lay(0, 5, 0), 1);
    Due.due(x.slateIs(0, 5), 5, x.slateIs(0, 6), 0, x.lift(0), 0, x.slateIs(0, 5), -1, x.slateIs(0, 6), -1);

    Due.of("Promise 3", "9 HOLD for a GALE 0");
    Due.due(Due.text(x, 0, "5+g+n"), 1, x.slateIs(0, 9), 5, x.slateIs(1, 9), 13, Due.text(x, 0, "0-1"), 1);
    Due.due(x.slateIs(0, 9), 0, Due.text(x, 0, "100"), 1, x.slateIs(0, 9), 99);
  }

  private static void howBroad() {
    Due.of("Terms 1", "BROAD by KIND: WIDTH; AUNT WIDTH and 1; ROBSON as AUNT; LICHEN 1 less than MOSSY (1 at least)");
    int[] narrow = {1, 2, 1, 1, 2, 1, 1};
    int[] wide = {2, 3, 2, 2, 3, 1, 2};
    for (int kind = 0; kind < 7; kind++) {
      SlateKin x = Due.one(10 * kind, 1, 0);
      SlateKin y = Due.one(10 * kind, 2, 0);
      Due.due(x.slateIs(0, 8), narrow[kind], y.slateIs(0, 8), wide[kind]);
      Due.due(x.lay(0, 0, 0), 2 * narrow[kind], y.lay(0, 0, 0), 2 * wide[kind]);
    }
  }

  /** HOLD less a shift, so that what lies below 0 or above 99 is seen. */
  private static int holdAnd(SlateKin x, int slate, String text) {
    Due.text(x, 0, text);
    int hold = x.slateIs(slate, 9);
    x.untell(0);
    return hold;
  }

  private static void howItHolds() {
    Due.of("Terms 1", "HOLDS of a SLATE: 3 times NAILS, and m");
    Due.due(Due.one(0, 1, 0).slateIs(0, 9), 0, Due.one(9, 2, 9).slateIs(0, 9), 36, Due.one(1, 1, 1).slateIs(0, 9), 4);

    Due.of("Terms 1", "HOLDS of an AUNT: as SLATE, less 2");
    SlateKin a = Due.one(10, 1, 0);
    Due.due(a.slateIs(0, 9), 0, holdAnd(a, 0, "h+5"), 3, Due.one(12, 1, 0).slateIs(0, 9), 0);
    Due.due(Due.one(13, 1, 0).slateIs(0, 9), 1, Due.one(19, 1, 9).slateIs(0, 9), 34);

    Due.of("Terms 1", "HOLDS of a ROBSON: as AUNT, and NAILS");
    SlateKin r = Due.one(40, 1, 0);
    Due.due(r.slateIs(0, 9), 0, holdAnd(r, 0, "h+5"), 3, Due.one(40, 1, 1).slateIs(0, 9), 2);
    Due.due(Due.one(49, 2, 9).slateIs(0, 9), 43);

    Due.of("Terms 1", "HOLDS of an HEIR: 0, if the house is SOLD, else as SLATE");
    SlateKin h = Due.one(69, 1, 9);
    Due.due(h.slateIs(0, 9), 36, h.sells(1), 0, h.slateIs(0, 9), 0, holdAnd(h, 0, "h+5"), 5, h.sells(0), 1);
    Due.due(h.slateIs(0, 9), 36);

    Due.of("Terms 1", "0, if the house is SOLD (an HEIR alone)");
    for (int kind = 0; kind < 6; kind++) {
      SlateKin x = Due.one(10 * kind + 4, 1, 2);
      int before = x.slateIs(0, 9);
      x.sells(1);
      Due.due(x.slateIs(0, 9), before, before > 0 ? 1 : 0, 1);
    }
    byAgeAndYear();
  }

  private static void byAgeAndYear() {
    Due.of("Terms 1", "HOLDS of a MOSSY: as SLATE, and AGE by 5 (cut); of a LICHEN: twice MOSSY's, less m");
    SlateKin x = new SlateKin();
    x.slate(23, 1, 0, -1);
    x.slate(53, 1, 0, -1);
    int[] age = {0, 1, 4, 5, 6, 9, 10, 11};
    int was = 0;
    for (int a : age) {
      Due.years(x, a - was);
      was = a;
      Due.due(x.slateIs(0, 9), 3 + a / 5, x.slateIs(1, 9), 2 * (3 + a / 5) - 3);
    }
    Due.due(Due.one(50, 1, 0).slateIs(0, 9), 0, Due.one(59, 1, 0).slateIs(0, 9), 9, Due.one(59, 1, 9).slateIs(0, 9), 63);

    Due.of("Terms 1", "HOLDS of a STRANGER: as SLATE, and the rest of YEAR by 3");
    SlateKin s = Due.one(34, 1, 0);
    for (int year = 0; year < 8; year++) {
      Due.due(s.slateIs(0, 9), 4 + year % 3);
      s.years(1);
    }

    Due.of("Terms 1", "the rest of YEAR by 3 (YEAR's, not AGE's)");
    SlateKin y = new SlateKin();
    y.years(4);
    y.slate(30, 1, 0, -1);
    y.slate(20, 1, 0, -1);
    y.years(1);
    Due.due(y.slateIs(0, 9), 2, y.slateIs(1, 9), 0, y.slateIs(1, 7), 1);

    Due.of("Terms 2", "HOLD: held within 0 .. 99; without a TEXT h (held likewise)");
    SlateKin m = Due.one(29, 1, 0);
    Due.years(m, 449);
    Due.due(m.slateIs(0, 9), 98, m.years(1), 450 * 48, m.slateIs(0, 9), 99, m.years(5), 455 * 48, m.slateIs(0, 9), 99);
    Due.due(holdAnd(m, 0, "h-1"), 99, holdAnd(m, 0, "h-2"), 98, holdAnd(m, 0, "h-100"), 0, holdAnd(m, 0, "h-101"), 0);
  }

  private static void become() {
    Due.of("Promise 4", "A SLATE becomes one of a KIND, with m (km; where it is): the KIND that it was. BEYOND.");
    SlateKin x = new SlateKin();
    x.slate(0, 1, 0, -1);
    x.slate(25, 2, 7, 0);
    x.lay(1, 2, 6);
    x.years(2);
    Due.due(x.become(1, 69), 2, x.slateIs(1, 0), 6, x.slateIs(1, 1), 9, x.become(1, 0), 6, x.slateIs(1, 0), 0);
    Due.due(x.slateIs(1, 1), 0, x.become(1, 10), 0, x.slateIs(1, 0), 1, x.become(1, 19), 1, x.become(1, 19), 1);
    int[] same = {1, 9, 2, 7, 0, 2, 6, 2};
    for (int what = 0; what < 8; what++) Due.due(x.slateIs(1, what), same[what]);
    Due.due(x.become(1, -1), BEYOND, x.become(1, 70), BEYOND, x.become(1, LEAST), BEYOND, x.become(1, MOST), BEYOND);
    Due.due(x.become(-1, 0), BEYOND, x.become(2, 0), BEYOND, x.become(LEAST, 0), BEYOND, x.become(MOST, 0), BEYOND);
    for (int what = 0; what < 8; what++) Due.due(x.slateIs(1, what), same[what]);

    Due.of("Promise 4", "where it is (be it broader there than it MAY LIE)");
    SlateKin y = Due.with(2, 0);
    y.lay(0, 0, 0);
    y.lay(1, 0, 1);
    Due.due(y.become(0, 10), 0, y.slateIs(0, 5), 0, y.slateIs(0, 6), 0, y.over(1, 0), 3, y.dry(1), 4, y.told(3), 0);
    Due.due(y.lay(0, 0, 0), STATE, y.become(0, 0), 1, y.lay(0, 0, 0), 4);
  }

  private static void as() {
    Due.of("Promise 5", "A SLATE as one of a KIND: m. BEYOND. KIND: it isn't of that KIND, nor of one under it.");
    String[] above = {"0", "01", "02", "03", "014", "025", "06"};
    for (int kind = 0; kind < 7; kind++) {
      SlateKin x = Due.one(10 * kind + 9, 1, 0);
      for (int wanted = 0; wanted < 7; wanted++) {
        Due.due(x.as(0, wanted), above[kind].indexOf('0' + wanted) >= 0 ? 9 : KIND);
      }
      Due.due(x.as(0, -1), BEYOND, x.as(0, 7), BEYOND, x.as(0, LEAST), BEYOND, x.as(0, MOST), BEYOND);
      Due.due(x.as(-1, 0), BEYOND, x.as(1, 0), BEYOND, x.as(LEAST, 0), BEYOND, x.as(MOST, 0), BEYOND);
      Due.due(x.told(1), 8, x.told(5), 7 - above[kind].length());
    }
    Due.due(Due.one(0, 1, 0).as(0, 0), 0);
  }

  private static void lay() {
    Due.of("Promise 6", "A SLATE is LAID at a row, a place. BEYOND.");
    SlateKin x = Due.with(1, 0);
    Due.due(x.lay(0, 0, 0), 2, x.dry(0), Due.cells(0, 8), x.lay(0, 0, 7), 2, x.dry(0), Due.cells(7, 15));
    Due.due(x.lay(0, 5, 0), 1, x.dry(0), Due.cells(40), x.lay(0, 5, 7), 1, x.dry(0), Due.cells(47));
    Due.due(x.lay(0, -1, 7), BEYOND, x.lay(0, 6, 0), BEYOND, x.lay(0, 5, -1), BEYOND, x.lay(0, 0, 8), BEYOND);
    Due.due(x.lay(0, LEAST, 0), BEYOND, x.lay(0, MOST, 0), BEYOND, x.lay(0, 0, LEAST), BEYOND);
    Due.due(x.lay(0, 0, MOST), BEYOND, x.lay(-1, 0, 0), BEYOND, x.lay(1, 0, 0), BEYOND, x.lay(LEAST, 0, 0), BEYOND);
    Due.due(x.lay(MOST, 0, 0), BEYOND, x.told(1), 12, x.told(3), 0, x.dry(0), Due.cells(47));

    Due.of("Promise 6", "(from wherever it was)");
    Due.due(x.lay(0, 2, 2), 2, x.dry(0), Due.cells(18, 26), x.lay(0, 2, 2), 2, x.lay(0, 2, 3), 2);
    Due.due(x.dry(0), Due.cells(19, 27));

    Due.of("Promise 6", "STATE: it MAY not LIE there (it stays where it was)");
    SlateKin y = Due.with(2, 0);
    Due.due(y.lay(0, 0, 0), 2, y.lay(1, 0, 0), STATE, y.slateIs(1, 5), -1, y.lay(1, 3, 3), 4, y.lay(1, 0, 0), STATE);
    Due.due(y.slateIs(1, 5), 3, y.slateIs(1, 6), 3, y.dry(0), Due.cells(0, 8, 27, 35));

    Due.of("Promise 6", "BEYOND. STATE. (in this order)");
    Due.due(y.lay(2, 0, 0), BEYOND, y.lay(1, 0, 8), BEYOND);
    Due.due(y.lay(1, -1, 8), BEYOND, y.lay(1, 6, -48), BEYOND, y.told(3), 2);
  }

  private static void ownCells() {
    Due.of("Terms 1", "OWN CELLS: from its CELL on along the row as many as it is BROAD (none beyond place 7)");
    SlateKin x = Due.one(40, 2, 0);
    Due.due(x.lay(0, 0, 4), 6, x.lay(0, 0, 5), 6, x.dry(0), Due.cells(5, 6, 7, 13, 14, 15));
    Due.due(x.lay(0, 0, 6), 4, x.dry(0), Due.cells(6, 7, 14, 15), x.over(8, 0), 0, x.over(16, 0), 0);
    Due.due(x.lay(0, 0, 7), 2, x.dry(0), Due.cells(7, 15), x.over(8, 0), 0, x.over(9, 0), 0);
    SlateKin y = Due.one(0, 2, 0);
    Due.due(y.lay(0, 3, 6), 4, y.dry(0), Due.cells(30, 31, 38, 39), y.lay(0, 3, 7), 2, y.dry(0), Due.cells(31, 39));

    Due.of("Terms 1", "It COVERS these, and those right under them (row 5: there are none under)");
    Due.due(x.lay(0, 4, 0), 6, x.dry(0), Due.cells(32, 33, 34, 40, 41, 42), x.lay(0, 5, 0), 3);
    Due.due(x.dry(0), Due.cells(40, 41, 42), x.lay(0, 5, 6), 2, x.dry(0), Due.cells(46, 47));
    Due.due(x.lay(0, 5, 7), 1, x.dry(0), Due.cells(47), x.over(0, 0), 0, x.over(7, 0), 0);
    Due.due(x.lay(0, 0, 0), 6, x.dry(0), Due.cells(0, 1, 2, 8, 9, 10));
  }

  private static void besideAnother() {
    Due.of("Terms 1", "It MAY LIE at a CELL, if none of its OWN CELLS there would be one of another one's");
    SlateKin x = new SlateKin();
    x.slate(0, 2, 0, -1);
    x.slate(0, 2, 0, -1);
    x.lay(0, 2, 3);
    Due.due(x.lay(1, 2, 1), 8, x.lay(1, 2, 2), STATE, x.lay(1, 2, 3), STATE, x.lay(1, 2, 4), STATE, x.lay(1, 2, 5), 8);
    Due.due(x.lay(1, 1, 3), 6, x.lay(1, 3, 3), 6, x.lay(1, 1, 2), 7, x.lay(0, 2, 3), 7);

    Due.of("Terms 1", "OWN CELLS there (none beyond place 7) .. one of another one's");
    SlateKin y = new SlateKin();
    y.slate(10, 2, 0, -1);
    y.slate(0, 1, 0, -1);
    y.lay(1, 1, 0);
    Due.due(y.lay(0, 0, 6), 6, y.lay(0, 0, 7), 4, y.lay(0, 5, 6), 4, y.lay(1, 0, 0), 4, y.lay(0, 5, 7), 3);
    Due.due(y.lay(0, 0, 5), 8, y.lay(1, 0, 7), STATE, y.lay(1, 0, 4), 8, y.lay(1, 1, 0), 8, y.lay(1, 0, 5), STATE);

    Due.of("Terms 1", "another one's (its own ones of before don't hinder it)");
    SlateKin z = Due.one(40, 2, 0);
    Due.due(z.lay(0, 1, 1), 6, z.lay(0, 1, 2), 6, z.lay(0, 1, 1), 6, z.lay(0, 1, 0), 6, z.told(3), 0);

    Due.of("Terms 1", "another one's (of one that is LAID)");
    SlateKin l = Due.with(2, 0);
    Due.due(l.lay(0, 0, 0), 2, l.lay(1, 0, 0), STATE, l.lift(0), 0, l.lay(1, 0, 0), 2);
  }

  private static void onWhomItLies() {
    Due.of("Terms 1", "one of its OWN CELLS there lies right above or right under one of that one's");
    SlateKin x = new SlateKin();
    x.slate(0, 1, 0, -1);
    x.slate(0, 1, 0, 0);
    x.lay(0, 2, 3);
    int[] may = {1 * 8 + 3, 3 * 8 + 3};
    for (int row = 0; row < 6; row++) {
      for (int place = 1; place < 6; place++) {
        int cell = row * 8 + place;
        Due.due(x.lay(1, row, place) >= 0 ? 1 : 0, cell == may[0] || cell == may[1] ? 1 : 0);
      }
    }

    Due.of("Terms 1", "one of its OWN CELLS (any of them, of any of that one's)");
    SlateKin w = new SlateKin();
    w.slate(0, 2, 0, -1);
    w.slate(10, 2, 0, 0);
    w.lay(0, 2, 3);
    Due.due(w.lay(1, 1, 0), STATE, w.lay(1, 1, 1), 9, w.lay(1, 1, 4), 9, w.lay(1, 1, 5), STATE);
    Due.due(w.lay(1, 3, 0), STATE, w.lay(1, 3, 1), 9, w.lay(1, 3, 4), 9, w.lay(1, 3, 5), STATE);

    Due.of("Terms 1", "right above or right under (none above row 0, none under row 5)");
    SlateKin e = new SlateKin();
    e.slate(0, 1, 0, -1);
    e.slate(0, 1, 0, 0);
    e.lay(0, 0, 0);
    Due.due(e.lay(1, 5, 0), STATE, e.lay(1, 5, 7), STATE, e.lay(1, 0, 0), STATE, e.lay(1, 1, 0), 3, e.lift(1), 2);
    e.lay(0, 5, 7);
    Due.due(e.lay(1, 0, 7), STATE, e.lay(1, 0, 0), STATE, e.lay(1, 4, 7), 2, e.lay(1, 5, 7), STATE);
    e.lay(0, 0, 7);
    Due.due(e.lay(1, 1, 0), STATE, e.lay(1, 2, 0), STATE, e.lay(1, 5, 7), STATE);
    leaningAtPlace7();
    leaningOnNoneThatIsLaid();
  }

  private static void leaningAtPlace7() {
    Due.of("Terms 1", "OWN CELLS (none beyond place 7) .. right above or right under one of that one's");
    SlateKin x = new SlateKin();
    x.slate(0, 2, 0, -1);
    x.slate(0, 2, 0, 0);
    x.lay(0, 2, 7);
    Due.due(x.lay(1, 2, 0), STATE, x.lay(1, 4, 0), STATE, x.lay(1, 3, 0), STATE, x.lay(1, 1, 6), 5, x.lay(1, 3, 7), 3);
    x.lift(1);
    x.lay(0, 3, 0);
    Due.due(x.lay(1, 1, 7), STATE, x.lay(1, 3, 7), STATE, x.lay(1, 4, 0), 6);
    x.lift(1);
    x.lay(0, 1, 0);
    Due.due(x.lay(1, 1, 7), STATE, x.lay(1, 2, 1), 7);
  }

  private static void leaningOnNoneThatIsLaid() {
    Due.of("Terms 1", "should the one on whom it LEANT be LAID");
    SlateKin x = new SlateKin();
    x.slate(0, 1, 0, -1);
    x.slate(0, 1, 0, 0);
    Due.due(x.lay(1, 5, 7), 1, x.lay(1, 0, 0), 2, x.lay(0, 3, 3), 4, x.lay(1, 0, 1), STATE, x.lay(1, 0, 0), STATE);
    Due.due(x.lift(0), 2, x.lay(1, 0, 1), 2);

    Due.of("Terms 1", "the one on whom it LEANT (not the ones who LEANT on it)");
    Due.due(x.lay(0, 1, 1), 3, x.lay(0, 4, 4), 4, x.lay(0, 0, 2), 4, x.told(3), 2);
    SlateKin y = new SlateKin();
    y.slate(0, 1, 0, -1);
    y.slate(0, 1, 0, 0);
    y.slate(0, 1, 0, 1);
    y.lay(0, 0, 0);
    Due.due(y.lay(2, 5, 5), 3, y.lift(2), 2, y.lay(1, 1, 0), 3, y.lay(2, 1, 1), STATE, y.lay(2, 2, 0), 4);
  }

  private static void lift() {
    Due.of("Promise 7", "A SLATE is not LAID any more: how many CELLS are DRY. BEYOND. STATE: it wasn't LAID.");
    SlateKin x = Due.with(2, 0);
    Due.due(x.lift(0), STATE, x.lay(0, 0, 0), 2, x.lay(1, 5, 7), 3, x.lift(0), 1, x.lift(0), STATE, x.lift(1), 0);
    Due.due(x.lift(1), STATE, x.lift(-1), BEYOND, x.lift(2), BEYOND, x.lift(LEAST), BEYOND, x.lift(MOST), BEYOND);
    Due.due(x.told(3), 3, x.told(1), 4, x.dry(0), 0, new SlateKin().lift(0), BEYOND);
    Due.due(x.lay(0, 0, 0), 2, x.lift(0), 0, x.slateIs(0, 5), -1, x.slateIs(0, 6), -1);
  }

  private static void nail() {
    Due.of("Promise 8", "NAILS of a SLATE become n: what they were. BEYOND.");
    SlateKin x = Due.with(2, 4);
    Due.due(x.nail(0, 0), 4, x.slateIs(0, 3), 0, x.nail(0, 9), 0, x.slateIs(0, 3), 9, x.nail(0, 9), 9);
    Due.due(x.nail(0, -1), BEYOND, x.nail(0, 10), BEYOND, x.nail(0, LEAST), BEYOND, x.nail(0, MOST), BEYOND);
    Due.due(x.nail(-1, 0), BEYOND, x.nail(2, 0), BEYOND, x.nail(LEAST, 0), BEYOND, x.nail(MOST, 0), BEYOND);
    Due.due(x.slateIs(0, 3), 9, x.slateIs(1, 3), 4, x.told(1), 8);
  }

  private static void sells() {
    Due.of("Promise 9", "The house is SOLD (1), or isn't (0): what it was. BEYOND.");
    SlateKin x = new SlateKin();
    Due.due(x.count(2), 0, x.sells(0), 0, x.sells(1), 0, x.count(2), 1, x.sells(1), 1, x.sells(-1), BEYOND);
    Due.due(x.sells(2), BEYOND, x.sells(LEAST), BEYOND, x.sells(MOST), BEYOND, x.count(2), 1, x.sells(0), 1);
    Due.due(x.sells(-1), BEYOND, x.sells(2), BEYOND, x.count(2), 0, x.told(1), 6);
  }

  private static void howLong() {
    Due.of("What it is", "An object is used for at most 512 calls");
    SlateKin x = Due.with(1, 0);
    for (int i = 1; i < 511; i++) x.lay(0, 0, i % 8);
    Due.due(x.lay(0, 5, 7), 1);
  }

  public static void main(String[] args) {
    aNewObject();
    howManySlates();
    whatASlateIsMadeOf();
    whatASlateIs();
    howBroad();
    howItHolds();
    become();
    as();
    lay();
    ownCells();
    besideAnother();
    onWhomItLies();
    lift();
    nail();
    sells();
    howLong();
    Due.end();
  }
}
