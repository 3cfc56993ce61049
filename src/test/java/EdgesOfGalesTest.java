/** The edges of gales and years: promises 14 to 17, and what Terms 1 says of GALES, YEARS and DRAWS. */
public final class EdgesOfGalesTest {
  private static final int BEYOND = Due.BEYOND;
  private static final int STATE = Due.STATE;
  private static final int LEAST = Due.LEAST;
  private static final int MOST = Due.MOST;

  private static void gale() {
    Due.of("Promise 14", "A GALE (0 .. 40). BEYOND.");
    SlateKin x = Due.with(1, 0);
    x.lay(0, 0, 0);
    Due.due(x.gale(-1), BEYOND, x.gale(41), BEYOND, x.gale(LEAST), BEYOND, x.gale(MOST), BEYOND, x.dry(1), 2);
    Due.due(x.gale(0), 0, x.dry(1), 2, x.gale(40), 1, x.dry(1), 0, x.told(1), 4);

    Due.of("Promise 14", "whom it LIFTS, as a set (none)");
    Due.due(new SlateKin().gale(40), 0, x.gale(40), 0, x.gale(1), 0, Due.with(10, 0).gale(40), 0);

    Due.of("Promise 14", "whom it LIFTS, as a set (all ten)");
    SlateKin ten = Due.with(10, 0);
    for (int i = 0; i < 10; i++) ten.lay(i, i / 8 * 2, i % 8);
    Due.due(ten.nail(0, 9), 0, ten.nail(9, 9), 0, ten.gale(27), 0x1FE, ten.gale(28), 0x201, ten.dry(0), 0);

    Due.of("Terms 1", "What is LIFTED is not LAID any more");
    SlateKin y = Due.with(2, 0);
    y.nail(1, 1);
    y.lay(0, 5, 7);
    y.lay(1, 0, 0);
    Due.due(y.gale(3), 1, y.slateIs(0, 5), -1, y.slateIs(0, 6), -1, y.dry(0), Due.cells(0, 8), y.lift(0), STATE);
    Due.due(y.gale(3), 0, y.lay(0, 0, 1), 4, y.slateIs(1, 5), 0);
  }

  private static void below() {
    Due.of("Terms 1", "each that is LAID and whose HOLD is below g");
    for (int nails = 0; nails < 10; nails++) {
      for (int m = 0; m < 10; m += 3) {
        SlateKin x = Due.one(m, 1, nails);
        x.lay(0, 3, 3);
        int hold = 3 * nails + m;
        Due.due(x.gale(hold), 0, x.slateIs(0, 5), 3, x.gale(hold + 1), 1, x.slateIs(0, 5), -1);
      }
    }

    Due.of("Terms 1", "whose HOLD is below g (40, the most)");
    SlateKin r = Due.one(45, 1, 9);
    Due.due(r.slateIs(0, 9), 39, r.lay(0, 0, 0), 4, r.gale(39), 0, r.gale(40), 1);
    Due.due(r.become(0, 46), 4, r.slateIs(0, 9), 40, r.lay(0, 0, 0), 4, r.gale(40), 0, r.dry(1), 4);

    Due.of("Terms 2", "HOLD: NAMES .. g the GALE");
    SlateKin g = Due.with(1, 4);
    g.lay(0, 0, 0);
    Due.text(g, 0, "g");
    for (int wind = 0; wind <= 40; wind += 8) Due.due(g.gale(wind), 0);
    Due.text(g, 0, "g-(g=40)");
    Due.due(g.gale(0), 0, g.gale(39), 0, g.gale(40), 1, Due.text(g, 0, "g-1"), 1);
    Due.due(g.lay(0, 0, 0), 2, g.gale(0), 0, g.gale(1), 1);
    Due.due(Due.text(g, 0, "n*9"), 1, g.lay(0, 0, 0), 2, g.gale(36), 0, g.gale(37), 1);
  }

  private static void fromTheRidgeDown() {
    Due.of("Terms 1", "rows from the ridge down .. unless another one of the row above, which is not LIFTED");
    SlateKin x = Due.with(6, 0);
    for (int i = 0; i < 6; i++) x.lay(i, i, 4);
    Due.due(x.nail(0, 1), 0, x.gale(3), 0, x.gale(4), 63);
    for (int i = 0; i < 6; i++) x.lay(5 - i, i, 4);
    Due.due(x.gale(3), 0b111110, x.dry(0), Due.cells(44), x.gale(4), 1);

    Due.of("Terms 1", "another one of the row above, which is not LIFTED (be it that it holds in the midst)");
    SlateKin m = Due.with(6, 0);
    for (int i = 0; i < 6; i++) m.lay(i, i, 4);
    Due.due(m.nail(3, 5), 0, m.gale(15), 0b000111, m.gale(15), 0, m.dry(0), Due.cells(28, 36, 44));

    Due.of("Terms 1", "of the row above (not of its own row)");
    SlateKin own = Due.with(2, 0);
    own.nail(0, 9);
    own.lay(0, 1, 0);
    own.lay(1, 1, 1);
    own.become(0, 10);
    Due.due(own.over(9, 0), 3, own.gale(5), 2);

    Due.of("Terms 1", "of the row above (not two above, not of the row under, not across the ridge)");
    SlateKin two = Due.with(3, 0);
    two.nail(0, 9);
    two.lay(0, 2, 2);
    Due.due(two.lay(1, 4, 2), 4, two.lay(2, 1, 2), 5, two.gale(5), 6, two.lay(0, 5, 2), 1, two.lay(1, 0, 2), 3);
    Due.due(two.gale(5), 2, two.lay(0, 0, 2), 2, two.lay(1, 5, 2), 3, two.gale(5), 2);
  }

  private static void coveredCells() {
    Due.of("Terms 1", "COVERS one of its OWN CELLS (one is enough, the next cell is not)");
    for (int place = 0; place < 6; place++) {
      SlateKin x = new SlateKin();
      x.slate(0, 2, 9, -1);
      x.slate(0, 2, 0, -1);
      x.lay(0, 2, 2);
      x.lay(1, 3, place);
      Due.due(x.gale(20), place >= 1 && place <= 3 ? 0 : 2);
    }

    Due.of("Terms 1", "COVERS (no CELL beyond place 7)");
    SlateKin y = new SlateKin();
    y.slate(40, 2, 9, -1);
    y.slate(10, 2, 0, -1);
    y.lay(0, 1, 7);
    Due.due(y.lay(1, 2, 0), 8, y.gale(20), 2, y.lay(1, 3, 0), 8, y.gale(20), 2, y.lay(1, 2, 5), 7, y.gale(20), 0);

    Due.of("Terms 1", "its OWN CELLS (none beyond place 7)");
    y.lay(0, 2, 0);
    Due.due(y.lay(1, 2, 7), 8, y.gale(20), 2, y.lay(1, 1, 7), 8, y.gale(20), 2, y.lay(0, 3, 0), 6);
    Due.due(y.lay(1, 2, 6), 10, y.gale(20), 2);

    Due.of("Terms 1", "another one .. COVERS (two that hold, one of which is taken off)");
    SlateKin z = Due.with(3, 9);
    z.nail(2, 0);
    z.become(2, 10);
    z.lay(0, 0, 0);
    z.lay(1, 0, 1);
    z.lay(2, 1, 0);
    Due.due(z.gale(20), 0, z.lift(0), 5, z.gale(20), 0, z.lift(1), 4, z.gale(20), 4);
  }

  private static void years() {
    Due.of("Promise 15", "n (1 .. 60) YEARS go by: THE TUB. BEYOND.");
    SlateKin x = new SlateKin();
    Due.due(x.years(0), BEYOND, x.years(61), BEYOND, x.years(-1), BEYOND, x.years(LEAST), BEYOND, x.years(MOST), BEYOND);
    Due.due(x.count(1), 0, x.count(3), 0, x.years(1), 48, x.count(1), 1);
    Due.due(x.years(60), 61 * 48, x.count(1), 61, x.told(1), 5);

    Due.of("Promise 15", "STATE: YEAR would be above 9999");
    SlateKin y = new SlateKin();
    for (int i = 0; i < 165; i++) y.years(60);
    Due.due(y.count(1), 9900, y.years(60), 99999, y.years(40), STATE);
    Due.due(y.years(60), STATE, y.count(1), 9960, y.years(39), 99999);
    Due.due(y.count(1), 9999, y.years(1), STATE, y.loose(1), STATE, y.count(1), 9999, y.told(3), 4);

    Due.of("Promise 15", "BEYOND. STATE. (in this order)");
    Due.due(y.years(61), BEYOND, y.years(0), BEYOND, y.years(MOST), BEYOND, y.loose(21), BEYOND, y.loose(0), BEYOND);
    Due.due(y.loose(MOST), BEYOND, y.told(1), 6, y.told(3), 4);

    Due.of("Terms 1", "YEAR (0 .. 9999): the last one goes by as any other");
    SlateKin z = Due.with(1, 9);
    for (int i = 0; i < 166; i++) z.years(60);
    Due.due(z.years(38), 99999, z.nail(0, 9), 0, Due.text(z, 1, "0"), 1, z.count(1), 9998, z.years(1), 99999);
    Due.due(z.count(1), 9999, z.slateIs(0, 3), 9, z.years(1), STATE, z.slateIs(0, 3), 9, z.become(0, 30), 0);
    Due.due(z.slateIs(0, 9), 27 + 9999 % 3);

    Due.of("Promise 16", "STATE: YEAR would be above 9999 (by draws)");
    SlateKin w = new SlateKin();
    for (int i = 0; i < 166; i++) w.years(60);
    Due.due(w.loose(20), 0, w.loose(20), STATE, w.count(1), 9980, w.loose(19), 0, w.count(1), 9999, w.loose(1), STATE);
  }

  private static void theTub() {
    Due.of("Terms 1", "THE TUB has DROP of each CELL that isn't DRY more (none is, all are)");
    SlateKin x = new SlateKin();
    Due.due(x.years(1), 48);
    for (int i = 0; i < 9; i++) {
      x.slate(10, 2, 0, -1);
      x.lay(i, i / 3 * 2, i % 3 * 3);
    }
    Due.due(x.dry(1), 48, x.years(1), 48, x.years(60), 48);
    Due.due(x.become(8, 0), 1, x.years(1), 48, x.lift(8), 44, x.years(1), 52);

    Due.of("Terms 2", "DROP: r the row, c the place, y YEAR (as it is before it is 1 more)");
    SlateKin y = new SlateKin();
    Due.text(y, 1, "(r=0&c=0)*9+(r=5&c=7)*80");
    Due.due(y.years(1), 89, y.slate(0, 1, 0, -1), 0, y.lay(0, 0, 0), 2);
    Due.due(y.years(1), 169, y.lay(0, 5, 7), 1, y.years(1), 178);
    Due.text(y, 1, "(y=3)*(r=0&c=7)*5+(y=4)*(r=5&c=0)*6");
    Due.due(y.years(1), 183, y.years(1), 189, y.years(1), 189);
    Due.text(y, 1, "(r>5)+(c>7)+(r<0)+(c<0)");
    Due.due(y.years(1), 189, Due.text(y, 1, "r*8+c"), 1, y.years(1), 189 + 47 * 24 - 47);

    Due.of("Terms 1", "THE TUB (0 .. 99999): held at 99999");
    SlateKin z = new SlateKin();
    Due.text(z, 1, "99");
    Due.due(z.years(21), 99792, Due.text(z, 1, "(r=0&c<2)*99+(r=0&c=2)*8"), 1, z.years(1), 99998);
    Due.due(Due.text(z, 1, "r=0&c=0"), 1, z.years(1), 99999);
    Due.due(z.years(1), 99999, z.count(3), 99999, Due.text(z, 1, "99"), 1);
    Due.due(z.years(60), 99999, z.loose(1), 0, z.count(3), 99999);

    Due.of("Terms 1", "(all together; held at 99999), from below at once");
    SlateKin w = new SlateKin();
    Due.text(w, 1, "99");
    Due.due(w.years(21), 99792, Due.text(w, 1, "(r=0&c<2)*99+(r=0&c=2)*9"), 1, w.years(1), 99999);
    SlateKin v = new SlateKin();
    Due.text(v, 1, "99");
    Due.due(v.years(21), 99792, Due.text(v, 1, "(r=0&c<2)*99+(r=0&c=2)*10"), 1, v.years(1), 99999);
    SlateKin u = new SlateKin();
    Due.text(u, 1, "99");
    Due.due(u.years(21), 99792, u.years(1), 99999, u.years(1), 99999);
  }

  private static void ageAndNails() {
    Due.of("Terms 1", "AGE of each SLATE is 1 more (held at 999)");
    SlateKin x = Due.with(2, 0);
    x.lay(0, 0, 0);
    Due.years(x, 998);
    Due.due(x.slateIs(0, 7), 998, x.slateIs(1, 7), 998, x.slate(0, 1, 0, -1), 2);
    x.years(1);
    Due.due(x.slateIs(0, 7), 999, x.slateIs(1, 7), 999, x.slateIs(2, 7), 1);
    x.years(1);
    Due.due(x.slateIs(0, 7), 999, x.slateIs(1, 7), 999, x.slateIs(2, 7), 2);
    x.years(60);
    Due.due(x.slateIs(0, 7), 999, x.slateIs(2, 7), 62, x.count(1), 1060);

    Due.of("Terms 1", "NAILS are 1 less (0 at least), if the rest of YEAR by 4 is 3");
    SlateKin y = Due.with(2, 3);
    y.lay(1, 0, 0);
    for (int year = 0; year < 18; year++) {
      int nails = Math.max(0, 3 - (year + 1) / 4);
      y.years(1);
      Due.due(y.slateIs(0, 3), nails, y.slateIs(1, 3), nails);
    }
    Due.due(y.nail(0, 9), 0, y.years(60) > 0 ? 1 : 0, 1, y.slateIs(0, 3), 0, y.slateIs(1, 3), 0);

    Due.of("Terms 1", "then YEAR is 1 more (AGE and what HOLDS by it come with it)");
    SlateKin z = new SlateKin();
    z.years(3);
    z.slate(0, 1, 1, -1);
    Due.due(z.years(1), 4 * 48, z.slateIs(0, 3), 0, z.slateIs(0, 7), 1, z.count(1), 4);
  }

  private interface Wanted {
    boolean are(int first, int second, int third);
  }

  /** The least z whose next three draws are as wanted. */
  private static int seedOf(Wanted wanted) {
    for (int v = 0; v < 50000000; v++) {
      int a = Due.draw(v);
      int b = Due.draw(a);
      int c = Due.draw(b);
      if (wanted.are(a >>> 8, b >>> 8, c >>> 8)) return v;
    }
    Due.fail("no such seed");
    return 0;
  }

  private static int after(int z, int draws) {
    int v = z;
    for (int i = 0; i < draws; i++) v = Due.draw(v);
    return v;
  }

  private static void byDraws() {
    Due.of("Promise 16", "n (1 .. 20) YEARS BY DRAWS. BEYOND.");
    SlateKin x = new SlateKin();
    Due.due(x.loose(0), BEYOND, x.loose(21), BEYOND, x.loose(-1), BEYOND, x.loose(LEAST), BEYOND, x.loose(MOST), BEYOND);
    Due.due(x.count(7), 1, x.count(1), 0, x.loose(1), 0, x.count(1), 1, x.loose(20), 0, x.count(1), 21, x.told(1), 5);

    Due.of("Terms 1", "then, if there are SLATES, two draws");
    Due.due(x.count(7), after(1, 21), x.slate(0, 1, 0, -1), 0, x.loose(1), 0, x.count(7), after(1, 24));

    Due.of("Terms 1", "a GALE of its rest by 40 (0 .. 39)");
    for (int rest : new int[] {0, 1, 2, 38, 39}) {
      int least = Math.max(0, rest - 1);
      int seed = seedOf((a, b, c) -> a % 40 == rest && c % 48 == 47);
      for (int hold = least; hold <= least + 1; hold++) {
        SlateKin y = Due.holding(hold);
        y.lay(0, 5, 0);
        y.seed(seed);
        long stays = y.dry(0);
        Due.due(y.slateIs(0, 9), hold, y.loose(1), hold < rest ? 1 : 0, y.count(7), after(seed, 3));
        Due.due(y.dry(0), hold < rest ? Due.cells(47) : stays);
      }
    }
    whoIsLaid();
    isItLaid();
  }

  private static void whoIsLaid() {
    Due.of("Terms 1", "the first one's rest by how many there are is LAID at the CELL that is the second one's rest by 48");
    for (int many : new int[] {1, 2, 10}) {
      for (int who : new int[] {0, many - 1}) {
        for (int cell : new int[] {0, 47}) {
          SlateKin x = Due.with(many, 0);
          x.seed(seedOf((a, b, c) -> b % many == who && c % 48 == cell));
          Due.due(x.loose(1), 0, x.slateIs(who, 5), cell / 8, x.slateIs(who, 6), cell % 8, x.dry(1), cell == 0 ? 2 : 1);
        }
      }
    }

    Due.of("Terms 1", "z * 1103515245 + 12345 (an int), and gives z >>> 8");
    for (int i = 0; i < 8; i++) {
      int signs = i;
      int v = 0;
      while (((after(v, 1) >>> 31) | (after(v, 2) >>> 31) << 1 | (after(v, 3) >>> 31) << 2) != signs) v++;
      SlateKin x = Due.with(7, 9);
      x.seed(v);
      int cell = (after(v, 3) >>> 8) % 48;
      int who = (after(v, 2) >>> 8) % 7;
      Due.due(x.loose(1), 0, x.slateIs(who, 5), cell / 8, x.slateIs(who, 6), cell % 8, x.count(7), after(v, 3));
    }

    Due.of("Promise 17", "z becomes v: what it was (any number)");
    SlateKin z = new SlateKin();
    Due.due(z.seed(0), 1, z.seed(LEAST), 0, z.seed(MOST), LEAST, z.seed(-1), MOST, z.seed(BEYOND), -1, z.seed(5), BEYOND);
    Due.due(z.told(1), 0, z.seed(LEAST), 5, z.loose(1), 0, z.count(7), LEAST + 12345, z.seed(0), LEAST + 12345);
    Due.due(z.loose(1), 0, z.count(7), 12345, z.seed(MOST), 12345, z.loose(2), 0, z.count(7), after(MOST, 2));
  }

  private static void isItLaid() {
    Due.of("Terms 1", "if it isn't LAID");
    SlateKin x = Due.with(1, 9);
    x.lay(0, 0, 0);
    x.seed(seedOf((a, b, c) -> a % 40 == 20 && c % 48 == 33));
    Due.due(x.loose(1), 0, x.dry(0), Due.cells(0, 8));

    Due.of("Terms 1", "if it isn't LAID (as the GALE left it, which comes first)");
    SlateKin y = Due.with(1, 0);
    y.lay(0, 0, 0);
    y.seed(seedOf((a, b, c) -> a % 40 == 20 && c % 48 == 33));
    Due.due(y.loose(1), 1, y.dry(0), Due.cells(33, 41), y.count(3), 46);

    Due.of("Terms 1", "and MAY LIE there");
    SlateKin z = Due.with(2, 9);
    z.lay(1, 4, 1);
    z.seed(seedOf((a, b, c) -> b % 2 == 0 && c % 48 == 33));
    Due.due(z.loose(1), 0, z.slateIs(0, 5), -1, z.dry(0), Due.cells(33, 41), z.count(3), 46);
    SlateKin l = new SlateKin();
    l.slate(0, 1, 9, -1);
    l.slate(0, 1, 9, 0);
    l.lay(0, 0, 0);
    int seed = seedOf((a, b, c) -> b % 2 == 1 && c % 48 == 33);
    l.seed(seed);
    Due.due(l.loose(1), 0, l.slateIs(1, 5), -1, l.lay(0, 5, 1), 1, l.seed(seed), after(seed, 3), l.loose(1), 0);
    Due.due(l.slateIs(1, 5), 4, l.slateIs(1, 6), 1);

    Due.of("Terms 1", "then a YEAR (THE TUB has the drops of what isn't DRY by then)");
    SlateKin t = Due.with(1, 9);
    Due.text(t, 0, "99");
    t.seed(seedOf((a, b, c) -> c % 48 == 0));
    Due.due(t.loose(1), 0, t.count(3), 46, t.count(1), 1, t.slateIs(0, 7), 1, t.slateIs(0, 3), 9, t.loose(3), 0);
    Due.due(t.slateIs(0, 3), 8, t.slateIs(0, 7), 4, t.count(1), 4, t.count(3), 4 * 46);

    Due.of("Promise 16", "all that was LIFTED, as a set (be it LAID again)");
    allThatWasLifted();
  }

  private static void allThatWasLifted() {
    for (int seed = 1; seed < 12; seed++) {
      SlateKin x = Due.with(10, 0);
      SlateKin y = Due.with(10, 0);
      int all = 0;
      x.seed(seed);
      y.seed(seed);
      for (int i = 0; i < 20; i++) all |= y.loose(1);
      Due.due(x.loose(20), all, x.dry(0), y.dry(0), x.count(7), y.count(7), x.count(3), y.count(3), x.count(1), 20);
    }
    int seed = 0;
    while (rest(seed, 1) == 0 || rest(seed, 4) != 0) seed++;
    SlateKin z = Due.with(1, 0);
    z.lay(0, 0, 0);
    z.seed(seed);
    Due.due(z.loose(2), 1, z.slateIs(0, 5) >= 0 ? 1 : 0, 1, z.loose(1), rest(seed, 7) > 0 ? 1 : 0);
  }

  /** The GALE of the draw that is so many away. */
  private static int rest(int z, int draws) {
    return (after(z, draws) >>> 8) % 40;
  }

  public static void main(String[] args) {
    gale();
    below();
    fromTheRidgeDown();
    coveredCells();
    years();
    theTub();
    ageAndNails();
    byDraws();
    Due.end();
  }
}
