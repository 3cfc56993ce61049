/** The edges of voices, sheets, images and what is told: promises 26 to 38, and Terms 4. */
public final class EdgesOfVoicesTest {
  private static final int BEYOND = Due.BEYOND;
  private static final int NONE = Due.NONE;
  private static final int STATE = Due.STATE;
  private static final int FULL = Due.FULL;
  private static final int KIND = Due.KIND;
  private static final int PARTED = Due.PARTED;
  private static final int LEAST = Due.LEAST;
  private static final int MOST = Due.MOST;

  private static void voice() {
    Due.of("Promise 26", "A VOICE of a SLATE (0 .. 3). BEYOND.");
    SlateKin x = Due.one(3, 1, 0);
    Due.due(x.voice(0, 0, 7), 7, x.voice(0, 1, 7), 14, x.voice(0, 2, 7), 11, x.voice(0, 3, 7), 2);
    Due.due(x.voice(0, -1, 7), BEYOND, x.voice(0, 4, 7), BEYOND);
    Due.due(x.voice(0, LEAST, 7), BEYOND, x.voice(0, MOST, 7), BEYOND);
    Due.due(x.voice(-1, 0, 7), BEYOND, x.voice(1, 0, 7), BEYOND);
    Due.due(x.voice(LEAST, 0, 7), BEYOND, x.voice(MOST, 0, 7), BEYOND);
    Due.due(x.told(1), 8, new SlateKin().voice(0, 0, 0), BEYOND);

    Due.of("Promise 26", "any number (one as an ERROR's is none)");
    Due.due(x.voice(0, 0, BEYOND), BEYOND, x.voice(0, 0, PARTED), PARTED, x.told(1), 8, x.told(6), 0);

    Due.of("Terms 4", "a number x (ints that wrap)");
    SlateKin w = new SlateKin();
    for (int kind = 0; kind < 7; kind++) w.slate(10 * kind + 9, 1, 0, -1);
    Due.due(w.voice(0, 0, MOST), MOST, w.voice(1, 0, MOST), MOST - 3, w.voice(2, 0, MOST), LEAST + 1);
    Due.due(w.voice(1, 0, LEAST), MOST - 2, w.voice(4, 0, MOST), 3 * (LEAST + 3 - 4), w.voice(4, 0, LEAST), LEAST);
    Due.due(w.voice(0, 1, 1 << 30), LEAST, w.voice(0, 1, LEAST), 0);
    Due.due(w.voice(0, 2, 1 << 30), MOST - 8, w.voice(2, 1, (1 << 30) - 2), LEAST);
    Due.due(w.voice(5, 1, MOST), -2 * (LEAST + 5), w.voice(6, 1, MOST), 27, w.voice(3, 2, MOST), (MOST / 2 + 3) * 2 - 9);
    Due.due(w.voice(2, 0, BEYOND), BEYOND + 2, w.told(1), 0);

    Due.of("Terms 4", "parts: x by (m - k), cut");
    SlateKin p = new SlateKin();
    p.slate(2, 1, 0, -1);
    p.slate(0, 1, 0, -1);
    Due.due(p.voice(0, 3, 5), 2, p.voice(0, 3, -5), -2, p.voice(0, 3, 1), 0);
    Due.due(p.voice(0, 3, -1), 0, p.voice(0, 3, LEAST), LEAST / 2);
    Due.due(p.voice(1, 3, 5), -5, p.voice(1, 3, LEAST), LEAST);
    Due.due(p.voice(1, 3, MOST), -MOST, p.become(0, 3), 0, p.voice(0, 3, -8), -2);

    Due.of("Terms 4", "40 creaks: super.creaks(x / 2) (cut)");
    SlateKin s = Due.one(30, 1, 0);
    Due.due(s.voice(0, 2, 7), 6, s.voice(0, 2, -7), -6, s.voice(0, 2, 1), 0);
    Due.due(s.voice(0, 2, -1), 0, s.voice(0, 2, LEAST), LEAST);
    parted();
    everyBody();
  }

  private static void parted() {
    Due.of("Terms 4", "PARTED if that is 0; that is all that voice() answers then");
    for (int kind = 0; kind < 7; kind++) {
      SlateKin x = new SlateKin();
      for (int k = 0; k < 10; k++) x.slate(10 * kind + k, 1, 0, -1);
      for (int k = 0; k < 10; k++) Due.due(x.voice(k, 3, k - 3), PARTED, x.voice(k, 3, 0), PARTED, x.voice(k, 3, LEAST), PARTED);
      Due.due(x.told(6), 30, x.told(1), 0);
      for (int k = 0; k < 10; k++) {
        for (int voice = 0; voice < 3; voice++) Due.due(x.voice(k, voice, 1) > PARTED + 9 ? 1 : 0, 1);
      }
      Due.due(x.become(0, 10 * kind + 1), kind, x.become(9, 10 * kind + 8), kind, x.become(9, 10 * kind + 8), kind);
      int rings0 = kind == 1 ? (1 + 0 - 4) * 2 : kind == 4 ? (1 + 0 - 4) * 3 * 2 : 0;
      int rings9 = kind == 1 ? (1 + 9 - 4) * 2 : kind == 4 ? (1 + 9 - 4) * 3 * 2 : 0;
      Due.due(x.voice(0, 3, 6), 6 + rings0, x.voice(9, 3, 6), -6 + rings9, x.told(6), 30);
    }

    Due.of("Promise 26", "BEYOND. PARTED. (in this order)");
    SlateKin y = Due.one(0, 1, 0);
    Due.due(y.voice(0, 4, 1), BEYOND, y.voice(0, -1, 1), BEYOND);
    Due.due(y.voice(1, 3, 1), BEYOND, y.voice(0, 3, 1), PARTED, y.told(6), 1);
  }

  /** What a voice answers, and the bodies of its trace, as they began. */
  private static void sung(SlateKin x, int slate, int voice, int v, int answer, int... bodies) {
    Due.due(x.voice(slate, voice, v), answer, x.count(6), bodies.length);
    for (int i = 0; i < bodies.length; i++) Due.due(x.body(i), bodies[i]);
    Due.due(x.body(bodies.length), NONE);
  }

  private static void everyBody() {
    SlateKin x = new SlateKin();
    int[] m = {5, 7, 9, 1, 8, 2, 3};
    for (int kind = 0; kind < 7; kind++) x.slate(10 * kind + m[kind], 1, 0, -1);
    Due.of("Terms 4", "BODIES: Slate, 10 drips, 11 rings, 12 creaks, 13 parts");
    sung(x, 0, 0, 20, 20, 10);
    sung(x, 0, 1, 20, 40, 11, 10);
    sung(x, 0, 2, 20, 35, 12, 11, 10);
    sung(x, 0, 3, 20, 4, 13);
    Due.of("Terms 4", "BODIES: Aunt, 20 drips, 21 parts; drips(..) is the BODY of its KIND");
    sung(x, 1, 0, 20, 17, 20, 10);
    sung(x, 1, 1, 20, 34, 11, 20, 10);
    sung(x, 1, 2, 20, 27, 12, 11, 20, 10);
    sung(x, 1, 3, 20, 3 - 4, 21, 13, 11, 20, 10);
    Due.of("Terms 4", "BODIES: Mossy, 30 rings");
    sung(x, 2, 0, 20, 22, 10);
    sung(x, 2, 1, 20, -44, 30, 11, 10);
    sung(x, 2, 2, 20, -53, 12, 30, 11, 10);
    sung(x, 2, 3, 20, 2, 13);
    Due.of("Terms 4", "BODIES: Stranger, 40 creaks");
    sung(x, 3, 0, 20, 23, 10);
    sung(x, 3, 1, 20, 46, 11, 10);
    sung(x, 3, 2, 20, 25, 40, 12, 11, 10);
    sung(x, 3, 3, 20, -10, 13);
    Due.of("Terms 4", "BODIES: Robson, 50 drips, 51 creaks; super.drips(..) that from the KIND above the BODY's on");
    sung(x, 4, 0, 20, 60, 50, 20, 10);
    sung(x, 4, 1, 20, 120, 11, 50, 20, 10);
    sung(x, 4, 2, 20, 112 ^ 4, 51, 12, 11, 50, 20, 10);
    sung(x, 4, 3, 20, 5 + 6, 21, 13, 11, 50, 20, 10);
    sung(x, 4, 2, 22, 124 ^ 4, 51, 12, 11, 50, 20, 10);
    sung(x, 4, 2, -9, -62 ^ 4, 51, 12, 11, 50, 20, 10);
    Due.of("Terms 4", "BODIES: Lichen, 60 rings");
    sung(x, 5, 0, 20, 25, 10);
    sung(x, 5, 1, 20, -52, 60, 30, 11, 10);
    sung(x, 5, 2, 20, -54, 12, 60, 30, 11, 10);
    sung(x, 5, 3, 20, -6, 13);
    Due.of("Terms 4", "BODIES: Heir, 70 drips, 71 rings");
    sung(x, 6, 0, 20, 9, 70);
    sung(x, 6, 1, 20, 21, 71, 11, 70);
    sung(x, 6, 2, 20, 18, 12, 71, 11, 70);
    sung(x, 6, 3, 20, -6, 13);
  }

  private static void body() {
    Due.of("Promise 27", "THE TRACE's i-th. NONE: there is none such.");
    SlateKin x = Due.one(48, 1, 0);
    for (int i : new int[] {-1, 0, 1, 29, 30, LEAST, MOST}) Due.due(x.body(i), NONE);
    Due.due(x.told(2), 7, x.told(1), 0, x.voice(0, 2, 1), -26, x.count(6), 6, x.body(0), 51, x.body(5), 10);
    for (int i : new int[] {-1, 6, 7, 29, 30, 31, LEAST, MOST}) Due.due(x.body(i), NONE);
    Due.due(x.told(2), 15, x.told(1), 0);

    Due.of("Terms 4", "THE TRACE: of the latest voice()");
    sung(x, 0, 2, 1, -26, 51, 12, 11, 50, 20, 10);
    x.become(0, 68);
    sung(x, 0, 0, 1, 9, 70);

    Due.of("Terms 4", "THE TRACE: of the latest voice(), as they began (PARTED)");
    x.become(0, 40);
    sung(x, 0, 3, 1, PARTED, 21, 13);
    x.become(0, 60);
    sung(x, 0, 3, 1, PARTED, 13);

    Due.of("Terms", "one that answers an ERROR changes nothing (THE TRACE of the one ahead of a BEYOND)");
    Due.due(x.voice(0, 0, 0), 9, x.voice(1, 0, 0), BEYOND, x.voice(0, 4, 0), BEYOND, x.count(6), 1, x.body(0), 70);
  }

  private static void sheet() {
    Due.of("Promise 28", "A SHEET (0 .. 3). BEYOND.");
    SlateKin x = new SlateKin();
    for (int s = 0; s < 4; s++) Due.due(x.judge(s), NONE, x.sheet(s, 8, 1), 1, x.judge(s), 0);
    Due.due(x.sheet(-1, 8, 1), BEYOND, x.sheet(4, 8, 1), BEYOND);
    Due.due(x.sheet(LEAST, 8, 1), BEYOND, x.sheet(MOST, 8, 1), BEYOND);
    Due.due(x.sheet(-1, 0, 1), BEYOND, x.sheet(4, 0, 1), BEYOND, x.told(1), 6);

    Due.of("Promise 28", "of so many bits (8, 16, 32; 0: it is missing, n doesn't matter)");
    for (int bits = -40; bits <= 70; bits++) {
      boolean right = bits == 8 || bits == 16 || bits == 32;
      Due.due(x.sheet(0, bits, 1), right || bits == 0 ? 1 : BEYOND, x.judge(0), bits >= 0 && bits < 8 ? NONE : 0);
      if (bits == 0) Due.due(x.judge(0), NONE);
    }
    SlateKin m = new SlateKin();
    for (int n : new int[] {0, 1, 24, 25, -1, LEAST, MOST}) {
      Due.due(m.sheet(2, 16, 3), 1, m.judge(2), 0, m.sheet(2, 0, n), 1, m.judge(2), NONE, m.sheet(2, 0, n), 1);
    }
    Due.due(m.told(1), 0, m.told(3), 0, m.sheet(2, LEAST, 1), BEYOND, m.sheet(2, MOST, 1), BEYOND);

    Due.of("Terms 4", "at most 24 numbers");
    SlateKin n = new SlateKin();
    for (int bits : new int[] {8, 16, 32}) {
      Due.due(n.sheet(1, bits, 24), 1, n.put(1, 23, 1), 1, n.put(1, 24, 1), BEYOND, n.sheet(1, bits, 25), BEYOND);
      Due.due(n.sheet(1, bits, MOST), BEYOND, n.put(1, 23, 1), 1, n.sheet(1, bits, 0), 1, n.put(1, 0, 1), BEYOND);
      Due.due(n.sheet(1, bits, 1), 1, n.put(1, 0, 1), 1);
      Due.due(n.put(1, 1, 1), BEYOND, n.sheet(1, 0, 0), 1, n.put(1, 0, 1), NONE);
    }

    Due.of("Promise 28", "n numbers, all 0 (whatever stood there)");
    SlateKin z = Due.with(10, 5);
    z.sheet(0, 8, 10);
    for (int i = 0; i < 10; i++) z.put(0, i, 7);
    Due.due(z.sheet(0, 8, 10), 1, z.nailed(0), 10);
    for (int i = 0; i < 10; i++) Due.due(z.slateIs(i, 3), 0, z.put(0, i, 7), 1, z.nail(i, 4), 0);
    Due.due(z.sheet(0, 8, 2), 1, z.sheet(0, 16, 10), 1, z.nailed(0), 10, z.slateIs(2, 3), 0, z.slateIs(9, 3), 0);
    Due.due(z.put(0, 9, 3), 1, z.sheet(0, 0, 0), 1, z.sheet(0, 16, 10), 1, z.nailed(0), 10, z.slateIs(9, 3), 0);
    whichErrorOfASheet();
  }

  private static void whichErrorOfASheet() {
    Due.of("Promise 28", "BEYOND. STATE: n is below 0 (ahead of BEYOND of n)");
    SlateKin x = new SlateKin();
    x.sheet(0, 8, 2);
    Due.due(x.sheet(0, 8, -1), STATE, x.sheet(0, 16, LEAST), STATE);
    Due.due(x.sheet(0, 32, -25), STATE, x.sheet(0, 8, 25), BEYOND);
    Due.due(x.sheet(4, 8, -1), BEYOND, x.sheet(-1, 8, -1), BEYOND, x.sheet(0, 7, -1), BEYOND, x.sheet(0, -1, -1), BEYOND);
    Due.due(x.sheet(0, 64, LEAST), BEYOND, x.sheet(0, 9, 25), BEYOND, x.told(3), 3, x.told(1), 7, x.put(0, 1, 5), 1);
    Due.due(x.sheet(0, 8, 0), 1, x.sheet(0, 8, -1), STATE, x.judge(0), 0);
  }

  private static void put() {
    Due.of("Promise 29", "BEYOND: no such SHEET. NONE: it is missing. BEYOND: no such number. (in this order)");
    SlateKin x = Due.with(3, 0);
    x.sheet(0, 8, 3);
    x.sheet(2, 16, 0);
    x.sheet(3, 32, 24);
    Due.due(x.put(-1, 0, 0), BEYOND, x.put(4, 0, 0), BEYOND, x.put(LEAST, 0, 0), BEYOND, x.put(MOST, -1, 0), BEYOND);
    Due.due(x.put(1, 0, 0), NONE, x.put(1, -1, 0), NONE, x.put(1, 24, 0), NONE);
    Due.due(x.put(1, MOST, 0), NONE, x.put(-1, 99, 0), BEYOND);
    Due.due(x.put(0, -1, 0), BEYOND, x.put(0, 3, 0), BEYOND, x.put(0, LEAST, 0), BEYOND, x.put(0, MOST, 0), BEYOND);
    Due.due(x.put(2, 0, 0), BEYOND, x.put(2, -1, 0), BEYOND, x.put(3, 23, 0), 1, x.put(3, 24, 0), BEYOND, x.told(2), 4);
    Due.due(x.put(0, 0, 4), 1, x.put(0, 2, 6), 1, x.nailed(0), 3);
    Due.due(x.slateIs(0, 3), 4, x.slateIs(1, 3), 0, x.slateIs(2, 3), 6);

    Due.of("Promise 29", "v (its lowest bits): 1");
    int[] bits = {8, 16, 32};
    for (int b : bits) {
      SlateKin y = Due.with(1, 0);
      y.sheet(0, b, 1);
      long all = 1L << b;
      for (long v : new long[] {5, all + 5, 5 - all, 7 * all + 5}) {
        Due.due(y.nail(0, 0) >= 0 ? 1 : 0, 1, y.put(0, 0, (int) v), 1, y.nailed(0), 1, y.slateIs(0, 3), 5);
      }
      for (long v : new long[] {-1, all - 1}) Due.due(y.put(0, 0, (int) v), 1, y.judge(0), 1, y.nailed(0), 0);
      for (long v : new long[] {all / 2 - 1, all / 2, 10, all / 2 + 5, 255}) {
        Due.due(y.put(0, 0, (int) v), 1, y.nailed(0), 0, y.judge(0), v == all - 1 ? 1 : 0);
      }
      y.lay(0, 5, 7);
      Due.due(y.put(0, 0, 47), 1, y.judge(0), 1, y.put(0, 0, (int) (all + 47)), 1, y.judge(0), 1);
      Due.due(y.put(0, 0, 47 + 128), 1, y.judge(0), 0, y.put(0, 0, 256 + 47), 1, y.judge(0), b == 8 ? 1 : 0);
      Due.due(y.put(0, 0, 65536 + 47), 1, y.judge(0), b == 32 ? 0 : 1);
      Due.due(y.put(0, 0, LEAST + 47), 1, y.judge(0), b == 32 ? 0 : 1);
    }
  }

  /** A sheet's numbers as the nails of the first slates, one digit each. */
  private static int digits(SlateKin x, int sheet, int many) {
    Due.due(x.nailed(sheet), many);
    int n = 0;
    for (int i = 0; i < many; i++) n = n * 10 + x.slateIs(i, 3);
    return n;
  }

  private static SlateKin withSheets() {
    SlateKin x = Due.with(6, 0);
    x.sheet(0, 8, 6);
    x.sheet(1, 8, 4);
    x.sheet(2, 16, 6);
    for (int i = 0; i < 6; i++) {
      x.put(0, i, i + 1);
      x.put(2, i, i + 1);
    }
    for (int i = 0; i < 4; i++) x.put(1, i, 9 - i);
    return x;
  }

  private static void move() {
    Due.of("Promise 30", "n numbers of a SHEET, from number i on, come to another one, from its number j on: n");
    SlateKin x = withSheets();
    Due.due(x.move(0, 0, 1, 0, 4), 4, digits(x, 1, 4), 1234, x.move(0, 5, 1, 3, 1), 1, digits(x, 1, 4), 1236);
    Due.due(x.move(0, 4, 1, 0, 2), 2, digits(x, 1, 4), 5636, x.move(1, 0, 0, 2, 4), 4, digits(x, 0, 6), 125636);
    Due.due(x.move(1, 2, 0, 0, 1), 1, digits(x, 0, 6), 325636, digits(x, 1, 4), 5636);

    Due.of("Promise 30", "(or the same) .. as they all were");
    SlateKin y = withSheets();
    Due.due(y.move(0, 0, 0, 1, 5), 5, digits(y, 0, 6), 112345, y.move(0, 1, 0, 0, 5), 5, digits(y, 0, 6), 123455);
    Due.due(y.move(0, 0, 0, 0, 6), 6, digits(y, 0, 6), 123455, y.move(0, 0, 0, 2, 4), 4, digits(y, 0, 6), 121234);
    Due.due(y.move(2, 2, 2, 0, 4), 4, digits(y, 2, 6), 345656, y.move(2, 0, 2, 3, 3), 3, digits(y, 2, 6), 345345);

    Due.of("Promise 30", "n numbers (none, all of the most)");
    Due.due(y.move(0, 0, 1, 0, 0), 0, y.move(0, 6, 1, 4, 0), 0, y.move(0, 3, 1, 4, 0), 0, digits(y, 1, 4), 9876);
    Due.due(y.sheet(3, 16, 24), 1, y.sheet(2, 16, 24), 1, y.move(3, 0, 2, 0, 24), 24, y.move(3, 0, 2, 0, 25), BEYOND);
    Due.due(y.sheet(0, 8, 0), 1, y.move(0, 0, 0, 0, 0), 0, y.move(0, 0, 0, 0, 1), BEYOND, y.move(0, 0, 1, 4, 0), 0);
    theyDoNotStandThere();
    whichErrorOfAMove();
  }

  private static void theyDoNotStandThere() {
    Due.of("Promise 30", "BEYOND: n, i, or j is below 0, or they don't stand there");
    SlateKin x = withSheets();
    Due.due(x.move(0, 0, 1, 0, -1), BEYOND, x.move(0, -1, 1, 0, 1), BEYOND, x.move(0, 0, 1, -1, 1), BEYOND);
    Due.due(x.move(0, -1, 1, 0, 0), BEYOND, x.move(0, 0, 1, -1, 0), BEYOND, x.move(0, -1, 1, -1, -1), BEYOND);
    Due.due(x.move(0, 3, 1, 0, 4), BEYOND, x.move(0, 6, 1, 0, 1), BEYOND);
    Due.due(x.move(0, 2, 1, 0, 4), 4, x.move(0, 0, 1, 1, 4), BEYOND);
    Due.due(x.move(0, 0, 1, 4, 1), BEYOND, x.move(0, 0, 1, 1, 3), 3);
    Due.due(x.move(1, 0, 0, 0, 5), BEYOND, x.move(1, 1, 0, 0, 4), BEYOND);
    Due.due(x.move(1, 0, 0, 3, 4), BEYOND, x.move(1, 0, 0, 2, 4), 4);
    Due.due(x.move(0, 7, 1, 0, 0), BEYOND, x.move(0, 0, 1, 5, 0), BEYOND);
    Due.due(x.move(0, MOST, 1, 0, 1), BEYOND, x.move(0, 0, 1, MOST, 1), BEYOND, x.move(0, 0, 1, 0, MOST), BEYOND);
    Due.due(x.move(0, MOST, 1, MOST, MOST), BEYOND);
    Due.due(x.move(0, MOST, 1, MOST, 2), BEYOND, x.move(0, LEAST, 1, 0, 1), BEYOND);
    Due.due(x.move(0, 0, 1, LEAST, 1), BEYOND, x.move(0, 0, 1, 0, LEAST), BEYOND, x.move(0, 1, 1, 1, MOST), BEYOND);
    Due.due(x.move(0, LEAST, 1, LEAST, LEAST), BEYOND, x.told(1), 25, digits(x, 0, 6), 123123, digits(x, 1, 4), 3123);
  }

  private static void whichErrorOfAMove() {
    Due.of("Promise 30", "BEYOND: no such SHEET. NONE: one is missing. KIND: they are of unlike bits. BEYOND. (in this order)");
    SlateKin x = withSheets();
    Due.due(x.move(-1, 0, 0, 0, 1), BEYOND, x.move(4, 0, 0, 0, 1), BEYOND);
    Due.due(x.move(0, 0, -1, 0, 1), BEYOND, x.move(0, 0, 4, 0, 1), BEYOND);
    Due.due(x.move(3, 0, 4, 0, 1), BEYOND, x.move(3, 0, -1, 0, 1), BEYOND);
    Due.due(x.move(4, 0, 3, 0, 1), BEYOND, x.move(-1, 0, 3, 0, -1), BEYOND);
    Due.due(x.move(LEAST, 0, 0, 0, 1), BEYOND, x.move(0, 0, MOST, 0, 1), BEYOND, x.told(1), 10, x.told(2), 0);
    Due.due(x.move(3, 0, 0, 0, 1), NONE, x.move(0, 0, 3, 0, 1), NONE);
    Due.due(x.move(3, 0, 3, 0, 1), NONE, x.move(3, 0, 2, 0, 0), NONE);
    Due.due(x.move(3, -1, 0, 0, 1), NONE, x.move(0, 0, 3, -1, 1), NONE);
    Due.due(x.move(0, 0, 3, 0, -1), NONE, x.told(2), 7, x.told(5), 0);
    Due.due(x.move(0, 0, 2, 0, 1), KIND, x.move(2, 0, 1, 0, 1), KIND);
    Due.due(x.move(0, 0, 2, 0, 0), KIND, x.move(0, -1, 2, 0, 1), KIND);
    Due.due(x.move(0, 0, 2, 0, 99), KIND, x.move(0, 0, 2, 99, 1), KIND);
    Due.due(x.move(0, 0, 2, 0, -1), KIND, x.told(5), 7, x.told(1), 10);
    Due.due(x.sheet(3, 32, 6), 1, x.move(3, 0, 2, 0, 1), KIND, x.move(3, 0, 0, 0, 1), KIND, x.move(3, 0, 3, 1, 5), 5);
    Due.due(x.move(2, 0, 2, 1, 5), 5, digits(x, 0, 6), 123456, digits(x, 2, 6), 112345, digits(x, 1, 4), 9876);
  }

  private static void nailed() {
    Due.of("Promise 31", "Numbers of a SHEET become NAILS .. BEYOND: no such SHEET. NONE: it is missing.");
    SlateKin x = Due.with(3, 5);
    Due.due(x.nailed(-1), BEYOND, x.nailed(4), BEYOND, x.nailed(LEAST), BEYOND, x.nailed(MOST), BEYOND, x.told(1), 4);
    for (int s = 0; s < 4; s++) {
      x.nail(0, 5);
      Due.due(x.nailed(s), NONE, x.sheet(s, 8, 1), 1, x.slateIs(0, 3), 5, x.nailed(s), 1, x.slateIs(0, 3), 0);
    }
    Due.due(x.told(2), 4, x.slateIs(1, 3), 5);

    Due.of("Promise 31", "how many, up to the first that is not 0 to 9 (no ERROR then)");
    for (int bits : new int[] {8, 16, 32}) {
      for (int bad : new int[] {-1, 10, 127, -128, 255}) {
        SlateKin y = Due.with(3, 5);
        y.sheet(0, bits, 3);
        y.put(0, 0, 9);
        y.put(0, 1, bad);
        y.put(0, 2, 1);
        Due.due(y.nailed(0), 1, y.slateIs(0, 3), 9, y.slateIs(1, 3), 5, y.slateIs(2, 3), 5);
        Due.due(y.put(0, 1, 0), 1, y.put(0, 0, bad), 1, y.nailed(0), 0);
        Due.due(y.slateIs(0, 3), 9, y.slateIs(1, 3), 5, y.told(1), 0);
        Due.due(y.put(0, 0, 0), 1, y.put(0, 2, bad), 1, y.nailed(0), 2);
        Due.due(y.slateIs(0, 3), 0, y.slateIs(1, 3), 0, y.slateIs(2, 3), 5);
      }
    }

    Due.of("Promise 31", "or for which there is no SLATE");
    for (int many = 0; many <= 10; many++) {
      SlateKin z = Due.with(many, 5);
      z.sheet(0, 8, 24);
      Due.due(z.nailed(0), many, many > 0 ? z.slateIs(many - 1, 3) : 0, 0, z.told(1), 0, z.told(2), 0);
    }

    Due.of("Promise 31", "Numbers of a SHEET (fewer than SLATES, none)");
    SlateKin f = Due.with(3, 5);
    Due.due(f.sheet(0, 8, 2), 1, f.nailed(0), 2, f.slateIs(1, 3), 0);
    Due.due(f.slateIs(2, 3), 5, f.sheet(0, 8, 0), 1, f.nail(0, 6), 0);
    Due.due(f.nailed(0), 0, f.slateIs(0, 3), 6);
  }

  private static void judge() {
    Due.of("Promise 32", "Numbers of a SHEET are the CELLS .. BEYOND: no such SHEET. NONE: it is missing.");
    SlateKin x = Due.with(1, 0);
    Due.due(x.judge(-1), BEYOND, x.judge(4), BEYOND, x.judge(LEAST), BEYOND, x.judge(MOST), BEYOND, x.told(1), 4);
    for (int s = 0; s < 4; s++) Due.due(x.judge(s), NONE, x.sheet(s, 32, 1), 1, x.judge(s), 0, x.put(s, 0, -1), 1, x.judge(s), 1);
    Due.due(x.told(2), 4);

    Due.of("Promise 32", "the CELLS at which SLATES are LAID (-1: not)");
    for (int bits : new int[] {8, 16, 32}) {
      SlateKin y = Due.with(1, 0);
      y.sheet(0, bits, 1);
      Due.due(y.judge(0), 0, y.put(0, 0, -1), 1, y.judge(0), 1, y.put(0, 0, -2), 1, y.judge(0), 0, y.lay(0, 0, 0), 2);
      Due.due(y.judge(0), 0, y.put(0, 0, -1), 1, y.judge(0), 0);
      Due.due(y.put(0, 0, 0), 1, y.judge(0), 1, y.put(0, 0, 1), 1, y.judge(0), 0);
      Due.due(y.lay(0, 5, 7), 1, y.put(0, 0, 46), 1, y.judge(0), 0);
      Due.due(y.put(0, 0, 47), 1, y.judge(0), 1, y.put(0, 0, 48), 1);
      Due.due(y.judge(0), 0, y.lay(0, 1, 0), 2, y.put(0, 0, 8), 1);
      Due.due(y.judge(0), 1, y.gale(1), 1, y.judge(0), 0, y.slateIs(0, 3), 0);
    }

    Due.of("Promise 32", "how many are right, from the first on");
    SlateKin z = Due.with(10, 0);
    z.sheet(0, 8, 10);
    for (int i = 0; i < 10; i++) {
      z.lay(i, i / 8 * 2, i % 8);
      z.put(0, i, i < 8 ? i : 8 + i);
    }
    Due.due(z.judge(0), 10);
    for (int i = 9; i >= 0; i--) Due.due(z.put(0, i, -1), 1, z.judge(0), i);
    Due.due(z.put(0, 0, 0), 1, z.judge(0), 1, z.put(0, 9, 17), 1, z.judge(0), 1);

    Due.of("Promise 32", "(-1: not), any more");
    SlateKin g = Due.with(2, 0);
    g.sheet(0, 8, 2);
    g.put(0, 0, -1);
    g.put(0, 1, -1);
    Due.due(g.lay(0, 0, 0), 2, g.lay(1, 3, 3), 4, g.judge(0), 0);
    Due.due(g.lift(0), 2, g.judge(0), 1, g.gale(1), 2, g.judge(0), 2);
    Due.due(g.image(), 1, g.lay(0, 0, 0), 2, g.restore(), 0, g.judge(0), 2);

    Due.of("Promise 32", "SLATES 0, 1, .. (fewer than numbers, more, none)");
    for (int many = 0; many <= 10; many++) {
      SlateKin w = Due.with(many, 0);
      w.sheet(0, 8, 24);
      for (int i = 0; i < 24; i++) w.put(0, i, -1);
      Due.due(w.judge(0), many, w.sheet(0, 8, 0), 1, w.judge(0), 0, w.told(1), 0, w.told(2), 0);
    }
    SlateKin v = Due.with(3, 0);
    v.sheet(1, 16, 2);
    Due.due(v.put(1, 0, -1), 1, v.put(1, 1, -1), 1, v.judge(1), 2);
    Due.due(v.lay(2, 0, 0), 2, v.judge(1), 2, v.sheet(1, 16, 0), 1);
    Due.due(v.lay(0, 3, 3), 4, v.lay(2, 5, 5), 3, v.lay(0, 0, 0), 3, v.judge(1), 0);
  }

  private static void tell() {
    Due.of("Promise 35", "One more number waits: how many. FULL: 24 wait.");
    SlateKin x = Due.with(10, 0);
    for (int i = 1; i <= 24; i++) Due.due(x.tell(i == 11 ? 5 : 0), i, x.count(5), i);
    Due.due(x.tell(0), FULL, x.tell(7), FULL, x.count(5), 24, x.told(4), 2, x.check(), 11, x.count(5), 0, x.tell(0), 1);

    Due.of("Promise 35", "One more number (any)");
    Due.due(x.check(), 0, x.tell(LEAST), 1, x.check(), 1, x.tell(MOST), 1, x.check(), 1, x.tell(BEYOND), 1, x.told(1), 0);
  }

  private static void check() {
    Due.of("Promise 36", "The numbers that wait are AGES of SLATES 0, 1, ..: 0 (none wait)");
    Due.due(new SlateKin().check(), 0, Due.with(10, 0).check(), 0);

    Due.of("Promise 36", "The numbers that wait (none do then)");
    SlateKin x = Due.with(2, 0);
    Due.due(x.tell(0), 1, x.check(), 0, x.count(5), 0, x.check(), 0);
    Due.due(x.tell(5), 1, x.check(), 1, x.count(5), 0, x.check(), 0);
    Due.due(x.tell(0), 1, x.tell(0), 2, x.tell(0), 3, x.check(), 3, x.count(5), 0, x.tell(0), 1, x.check(), 0);

    Due.of("Promise 36", "else 1 and the place (from 0) of the first that isn't so");
    SlateKin y = Due.with(10, 0);
    Due.years(y, 4);
    for (int bad = 0; bad < 10; bad++) {
      for (int i = 0; i < 10; i++) y.tell(i < bad ? 4 : i == bad ? bad % 2 == 0 ? 3 : 5 : i % 3);
      Due.due(y.check(), bad + 1);
    }
    for (int i = 0; i < 10; i++) y.tell(4);
    Due.due(y.check(), 0);

    Due.of("Promise 36", "(or for which there is no SLATE)");
    for (int many = 0; many <= 10; many++) {
      SlateKin z = Due.with(many, 0);
      for (int i = 0; i <= many; i++) z.tell(0);
      Due.due(z.check(), many + 1, z.told(1), 0, z.told(2), 0);
      for (int i = 0; i < 24; i++) z.tell(0);
      Due.due(z.check(), many + 1);
    }

    Due.of("Promise 36", "AGES (the most)");
    SlateKin a = Due.with(2, 0);
    Due.years(a, 1000);
    Due.due(a.tell(999), 1, a.tell(1000), 2, a.check(), 2, a.tell(1000), 1);
    Due.due(a.check(), 1, a.tell(999), 1, a.tell(999), 2, a.check(), 0);
  }

  private static void count() {
    Due.of("Promise 37", "0 .. 7. BEYOND.");
    SlateKin x = new SlateKin();
    Due.due(x.count(-1), BEYOND, x.count(8), BEYOND, x.count(LEAST), BEYOND, x.count(MOST), BEYOND, x.told(1), 4);

    Due.of("Promise 37", "0 SLATES .. 6 BODIES in THE TRACE (as many as there may be)");
    for (int i = 0; i < 10; i++) x.slate(48, 1, 0, -1);
    for (int i = 0; i < 60; i++) x.feed(0, 1);
    for (int i = 0; i < 24; i++) x.tell(0);
    x.voice(0, 2, 0);
    x.sells(1);
    for (int i = 0; i < 35; i++) x.years(60);
    int[] due = {10, 2100, 1, 99999, 60, 24, 6, 1};
    for (int what = 0; what < 8; what++) Due.due(x.count(what), due[what]);

    Due.of("Promise 37", "7 z (any number)");
    Due.due(x.seed(LEAST), 1, x.count(7), LEAST, x.seed(BEYOND), LEAST, x.count(7), BEYOND, x.told(1), 4);
  }

  private static void told() {
    Due.of("Promise 38", "LOW - k (k 1 .. 6); BEYOND: another k (counted, too)");
    SlateKin x = new SlateKin();
    for (int k = 1; k <= 6; k++) Due.due(x.told(k), 0);
    Due.due(x.told(0), BEYOND, x.told(7), BEYOND, x.told(1), 2);
    Due.due(x.told(-1), BEYOND, x.told(LEAST), BEYOND, x.told(MOST), BEYOND);
    Due.due(x.told(1), 5, x.told(1), 5);
    for (int k = 2; k <= 6; k++) Due.due(x.told(k), 0);

    Due.of("Promise 38", "How many acts have answered an ERROR LOW - k (each by itself)");
    SlateKin y = Due.one(0, 1, 0);
    for (int i = 0; i < 2; i++) y.nail(1, 0);
    for (int i = 0; i < 3; i++) y.body(0);
    for (int i = 0; i < 4; i++) y.lift(0);
    for (int i = 0; i < 24 + 5; i++) y.tell(0);
    for (int i = 0; i < 6; i++) y.as(0, 6);
    for (int i = 0; i < 7; i++) y.voice(0, 3, 0);
    for (int k = 1; k <= 6; k++) Due.due(y.told(k), k + 1);

    Due.of("Promise 38", "an ERROR (answers that look like one, a FAULT and a wrong number that waits are none)");
    SlateKin z = Due.one(0, 1, 0);
    Due.due(z.seed(BEYOND), 1, z.seed(1), BEYOND, z.voice(0, 0, Due.LOW - 2), Due.LOW - 2);
    Due.due(z.text(0), -10, z.tell(1), 1, z.check(), 1);
    for (int k = 1; k <= 6; k++) Due.due(z.told(k), 0);

    Due.of("Terms", "(PARTED and the others), in longs, too");
    Due.due(z.dry(3), -1000000001L, z.told(1), 1);
  }

  public static void main(String[] args) {
    voice();
    body();
    sheet();
    put();
    move();
    nailed();
    judge();
    tell();
    check();
    count();
    told();
    Due.end();
  }
}
