import java.util.function.Supplier;
import java.util.function.ToLongFunction;

/** A call that is refused, or that only asks, changes nothing (but what told() tells); what an IMAGE keeps. */
public final class RefusedCallsTest {
  private static final int LEAST = Due.LEAST;
  private static final int MOST = Due.MOST;

  private interface Act extends ToLongFunction<SlateKin> {}

  /** Something of everything: slate 2 PARTS, slate 4 MAY LIE nowhere, SHEET 3 is missing. */
  private static SlateKin furnished() {
    SlateKin x = new SlateKin();
    x.slate(5, 2, 6, -1);
    x.slate(13, 1, 9, 0);
    x.slate(22, 2, 8, -1);
    x.slate(51, 1, 7, 2);
    x.slate(64, 1, 5, 3);
    Due.text(x, 0, "h+g*9");
    Due.text(x, 1, "r*2+1");
    x.lay(0, 0, 0);
    x.lay(1, 1, 1);
    x.lay(3, 5, 7);
    x.lay(2, 4, 7);
    x.years(5);
    x.sells(1);
    Due.feed(x, "n*7");
    x.tell(6);
    x.image();
    x.nail(1, 4);
    x.years(1);
    x.image();
    x.nail(0, 2);
    x.sells(0);
    x.tell(6);
    x.tell(6);
    Due.feed(x, "+g");
    x.seed(77);
    sheets(x);
    x.voice(1, 2, 9);
    return x;
  }

  private static void sheets(SlateKin x) {
    x.sheet(0, 8, 3);
    x.sheet(1, 8, 2);
    x.sheet(2, 16, 2);
    for (int s = 0; s < 3; s++) {
      x.put(s, 0, s + 1);
      x.put(s, 1, s + 4);
    }
    x.put(0, 2, 9);
  }

  /** Ten slates over all CELLS, a full THE TAPE, as many numbers that wait as may be, no IMAGE. */
  private static SlateKin full() {
    SlateKin x = new SlateKin();
    for (int i = 0; i < 10; i++) x.slate(10, 2, 4, -1);
    for (int i = 0; i < 9; i++) x.lay(i, i / 3 * 2, i % 3 * 3);
    for (int i = 0; i < 24; i++) x.tell(0);
    Due.text(x, 0, "7");
    for (int i = 0; i < 7; i++) x.feed(0x2b312b312b312b31L, 8);
    x.feed(0x31312b31L, 4);
    sheets(x);
    return x;
  }

  private static SlateKin old() {
    SlateKin x = Due.with(2, 9);
    x.lay(0, 0, 0);
    for (int i = 0; i < 166; i++) x.years(60);
    x.years(38);
    x.image();
    return x;
  }

  private static void alike(String what, SlateKin got, SlateKin due, int error) {
    Dissection a = new Dissection(got);
    Dissection b = new Dissection(due);
    String unlike = a.unlike(b);
    if (!unlike.isEmpty()) Due.fail(what + " changed something:" + unlike);
    for (int k = 1; k <= 6; k++) {
      if (a.told[k] != b.told[k] + (Due.LOW - k == error ? 1 : 0)) Due.fail(what + ": told(" + k + ") is " + a.told[k]);
    }
  }

  private static void refused(int error, Supplier<SlateKin> maker, Act... acts) {
    for (int i = 0; i < acts.length; i++) {
      SlateKin x = maker.get();
      Due.due(acts[i].applyAsLong(x), error);
      alike("act " + i, x, maker.get(), error);
    }
  }

  private static void asked(Supplier<SlateKin> maker, Act... acts) {
    for (int i = 0; i < acts.length; i++) {
      SlateKin x = maker.get();
      if (acts[i].applyAsLong(x) <= Due.LOW) Due.fail("act " + i + " is refused");
      alike("act " + i, x, maker.get(), 0);
    }
  }

  private static void beyondOfSlates() {
    Due.of("Terms", "one that answers an ERROR changes nothing (BEYOND, of slates)");
    refused(Due.BEYOND, RefusedCallsTest::furnished,
        x -> x.slate(-1, 1, 0, -1), x -> x.slate(70, 1, 0, -1), x -> x.slate(0, 0, 0, -1), x -> x.slate(0, 3, 0, -1),
        x -> x.slate(0, 1, -1, -1), x -> x.slate(0, 1, 10, -1), x -> x.slate(0, 1, 0, -2), x -> x.slate(0, 1, 0, 5),
        x -> x.slateIs(5, 0), x -> x.slateIs(-1, 0), x -> x.slateIs(0, 10), x -> x.slateIs(0, -1),
        x -> x.become(5, 0), x -> x.become(-1, 0), x -> x.become(0, 70), x -> x.become(0, -1),
        x -> x.as(5, 0), x -> x.as(-1, 0), x -> x.as(0, 7), x -> x.as(0, -1),
        x -> x.lay(5, 3, 3), x -> x.lay(-1, 3, 3), x -> x.lay(0, 6, 0), x -> x.lay(0, -1, 7), x -> x.lay(0, 3, 8),
        x -> x.lay(0, 3, -1), x -> x.lift(5), x -> x.lift(-1), x -> x.nail(5, 1), x -> x.nail(-1, 1),
        x -> x.nail(0, 10), x -> x.nail(0, -1), x -> x.sells(2), x -> x.sells(-1));
  }

  private static void beyondOfTextsAndYears() {
    Due.of("Terms", "one that answers an ERROR changes nothing (BEYOND, of texts, gales and years)");
    refused(Due.BEYOND, RefusedCallsTest::furnished,
        x -> x.feed(0x3131313131313131L, 0), x -> x.feed(0x31, 9), x -> x.feed(0x31, -1), x -> x.feed(0x31, LEAST),
        x -> x.feed(0x31, MOST), x -> x.text(2), x -> x.text(-1), x -> x.untell(2), x -> x.untell(-1),
        x -> x.law(2, 1, 1, 1), x -> x.law(-1, 1, 1, 1), x -> x.gale(41), x -> x.gale(-1), x -> x.years(0),
        x -> x.years(61), x -> x.years(-1), x -> x.loose(0), x -> x.loose(21), x -> x.loose(-1), x -> x.years(MOST),
        x -> x.loose(MOST), x -> x.gale(MOST));
  }

  private static void beyondOfThoughts() {
    Due.of("Terms", "one that answers an ERROR changes nothing (BEYOND, of what is, what would be)");
    refused(Due.BEYOND, RefusedCallsTest::furnished,
        x -> x.dry(3), x -> x.dry(-1), x -> x.over(48, 0), x -> x.over(-1, 0), x -> x.over(0, 2), x -> x.over(0, -1),
        x -> x.lifts(41, 0), x -> x.lifts(-1, 0), x -> x.lifts(40, 2), x -> x.lifts(40, -1), x -> x.fast(41, 0),
        x -> x.fast(-1, 0), x -> x.fast(40, 2), x -> x.fast(40, -1), x -> x.best(5, 0), x -> x.best(-1, 0),
        x -> x.best(0, 2), x -> x.best(0, -1), x -> x.odds(48, 0), x -> x.odds(-1, 0), x -> x.odds(0, 2),
        x -> x.odds(0, -1), x -> x.fits(4, 0), x -> x.fits(-1, 0), x -> x.fits(0, 2), x -> x.fits(0, -1));
  }

  private static void beyondOfVoicesAndSheets() {
    Due.of("Terms", "one that answers an ERROR changes nothing (BEYOND, of voices, sheets and what is told)");
    refused(Due.BEYOND, RefusedCallsTest::furnished,
        x -> x.voice(5, 0, 1), x -> x.voice(-1, 0, 1), x -> x.voice(0, 4, 1), x -> x.voice(0, -1, 1),
        x -> x.sheet(4, 8, 1), x -> x.sheet(-1, 8, 1), x -> x.sheet(0, 7, 1), x -> x.sheet(0, 8, 25),
        x -> x.sheet(3, 16, 25), x -> x.sheet(1, 64, 1), x -> x.put(4, 0, 8), x -> x.put(-1, 0, 8), x -> x.put(0, 3, 8),
        x -> x.put(0, -1, 8), x -> x.put(2, 2, 8), x -> x.move(4, 0, 0, 0, 1), x -> x.move(0, 0, 4, 0, 1),
        x -> x.move(-1, 0, 0, 0, 1), x -> x.move(0, 0, -1, 0, 1), x -> x.move(0, 0, 1, 0, 3), x -> x.move(1, 0, 0, 2, 2),
        x -> x.move(0, 1, 1, 0, -1), x -> x.move(0, -1, 1, 0, 1), x -> x.move(0, 2, 1, -1, 1), x -> x.move(0, 2, 0, 1, 2),
        x -> x.move(0, 2, 1, 1, 2), x -> x.nailed(4), x -> x.nailed(-1), x -> x.judge(4), x -> x.judge(-1),
        x -> x.count(8), x -> x.count(-1), x -> x.told(0), x -> x.told(7), x -> x.told(-1));
  }

  private static void theOtherErrors() {
    Due.of("Terms", "one that answers an ERROR changes nothing (NONE)");
    refused(Due.NONE, RefusedCallsTest::furnished,
        x -> x.best(4, 0), x -> x.best(4, 1), x -> x.fits(3, 0), x -> x.fits(0, 1), x -> x.body(-1), x -> x.body(9),
        x -> x.put(3, 0, 1), x -> x.move(3, 0, 0, 0, 1), x -> x.move(0, 0, 3, 0, 1), x -> x.nailed(3), x -> x.judge(3));
    refused(Due.NONE, RefusedCallsTest::full, x -> x.dry(2), x -> x.restore(), x -> x.body(0));
    refused(Due.NONE, SlateKin::new, x -> x.restore(), x -> x.body(0), x -> x.judge(0));

    Due.of("Terms", "one that answers an ERROR changes nothing (STATE)");
    refused(Due.STATE, RefusedCallsTest::furnished,
        x -> x.lay(0, 1, 0), x -> x.lay(4, 0, 5), x -> x.lay(1, 5, 5), x -> x.lift(4), x -> x.sheet(0, 8, -1),
        x -> x.sheet(0, 16, LEAST), x -> x.sheet(3, 8, -1));
    refused(Due.STATE, RefusedCallsTest::old, x -> x.years(2), x -> x.years(60), x -> x.loose(2), x -> x.loose(20));
    refused(Due.STATE, RefusedCallsTest::full, x -> x.lay(0, 0, 1), x -> x.lay(9, 0, 0), x -> x.lift(9));

    Due.of("Terms", "one that answers an ERROR changes nothing (FULL)");
    refused(Due.FULL, RefusedCallsTest::full,
        x -> x.slate(0, 1, 0, -1), x -> x.slate(69, 2, 9, 9), x -> x.feed(0x31, 1), x -> x.feed(0x31, 8), x -> x.tell(0),
        x -> x.tell(MOST));
    refused(Due.FULL, RefusedCallsTest::almostFull, x -> x.feed(0x2b2b2b2bL, 4), x -> x.feed(0x2b2b2b2bL, 8));

    Due.of("Terms", "one that answers an ERROR changes nothing (KIND)");
    refused(Due.KIND, RefusedCallsTest::furnished,
        x -> x.as(0, 1), x -> x.as(1, 4), x -> x.as(3, 1), x -> x.move(0, 0, 2, 0, 1), x -> x.move(2, 0, 1, 0, 2));

    Due.of("Terms", "one that answers an ERROR changes nothing (PARTED: but THE TRACE, which is the latest voice()'s)");
    refused(Due.PARTED, RefusedCallsTest::oneOfWhomParts, x -> x.voice(2, 3, 5), x -> x.voice(2, 3, LEAST));
  }

  private static SlateKin almostFull() {
    SlateKin x = Due.with(1, 0);
    for (int i = 0; i < 7; i++) x.feed(0x2b312b312b312b31L, 8);
    x.feed('1', 1);
    return x;
  }

  /** THE TRACE is that of one that PARTS already. */
  private static SlateKin oneOfWhomParts() {
    SlateKin x = furnished();
    x.voice(0, 3, 9);
    return x;
  }

  private static void whichErrorWins() {
    Due.of("Terms", "Each act tells its ERRORS in the order in which they are asked");
    refused(Due.BEYOND, RefusedCallsTest::full,
        x -> x.slate(70, 1, 0, -1), x -> x.slate(0, 3, 0, -1), x -> x.slate(0, 1, 10, -1), x -> x.slate(0, 1, 0, 10),
        x -> x.feed(0x31, 0), x -> x.feed(0x31, 9), x -> x.dry(3), x -> x.lay(9, 0, 8), x -> x.lay(9, -1, 0),
        x -> x.lift(10), x -> x.text(2));
    refused(Due.BEYOND, RefusedCallsTest::furnished,
        x -> x.best(4, 2), x -> x.best(4, -1), x -> x.fits(3, 2), x -> x.fits(3, -1), x -> x.fits(0, 2),
        x -> x.voice(2, 4, 5), x -> x.as(0, 7), x -> x.sheet(4, 8, -1), x -> x.sheet(0, 9, -1), x -> x.put(4, 99, 1),
        x -> x.move(3, 0, 4, 0, 1), x -> x.move(4, 0, 3, 0, 1), x -> x.lift(5), x -> x.told(9));
    refused(Due.BEYOND, RefusedCallsTest::old, x -> x.years(61), x -> x.loose(21), x -> x.years(MOST), x -> x.loose(MOST));
    refused(Due.STATE, RefusedCallsTest::furnished, x -> x.sheet(0, 8, -25), x -> x.sheet(0, 32, LEAST));
    refused(Due.NONE, RefusedCallsTest::furnished,
        x -> x.put(3, 99, 1), x -> x.put(3, -1, 1), x -> x.move(3, 0, 0, 0, -1), x -> x.move(2, 0, 3, 99, 1),
        x -> x.move(3, -1, 3, 0, 1));
    refused(Due.KIND, RefusedCallsTest::furnished,
        x -> x.move(0, 0, 2, 0, -1), x -> x.move(2, 99, 0, 0, 1), x -> x.move(0, 0, 2, -1, 1));
  }

  private static void onlyThought() {
    Due.of("Terms 3", "(All this is only thought.)");
    Act[] thoughts = {
      x -> x.dry(0), x -> x.dry(1), x -> x.over(9, 0), x -> x.over(17, 1), x -> x.lifts(40, 0), x -> x.lifts(40, 1),
      x -> x.fast(40, 0), x -> x.fast(40, 1), x -> x.best(0, 0), x -> x.best(2, 1), x -> x.rings(), x -> x.odds(9, 0),
      x -> x.odds(9, 1), x -> x.fits(0, 0), x -> x.fits(1, 0),
    };
    asked(RefusedCallsTest::furnished, thoughts);
    asked(RefusedCallsTest::full, thoughts);
    asked(RefusedCallsTest::furnished, x -> x.dry(2));

    Due.of("Not promised", "Nothing beyond the answers and state changes described (acts that only tell)");
    asked(RefusedCallsTest::furnished,
        x -> x.slateIs(0, 9), x -> x.as(1, 0), x -> x.law(0, 1, 2, 3), x -> x.law(1, 1, 2, 3), x -> x.body(0),
        x -> x.judge(0), x -> x.count(7), x -> x.told(1), x -> x.gale(0), x -> x.move(0, 0, 1, 0, 0),
        x -> x.seed(77), x -> x.sells(0), x -> x.nail(0, 2), x -> x.become(0, 5), x -> x.lay(0, 0, 0));
  }

  private static SlateKin after(SlateKin x, Act... acts) {
    for (Act act : acts) act.applyAsLong(x);
    return x;
  }

  private static final Act IMAGE = x -> x.image();
  private static final Act RESTORE = x -> x.restore();

  private static void image() {
    Due.of("Promise 33", "All is kept as an IMAGE; Promise 34, All is as the IMAGE has it");
    Act[] changes = {
      x -> x.slate(15, 2, 1, 0), x -> x.become(0, 69), x -> x.lay(1, 1, 0), x -> x.lay(0, 2, 0), x -> x.lift(1),
      x -> x.nail(3, 9), x -> x.sells(1), x -> x.feed('1', 1), x -> x.text(0), x -> x.text(1), x -> x.untell(0),
      x -> x.untell(1), x -> x.gale(40), x -> x.years(1), x -> x.years(60), x -> x.loose(3), x -> x.seed(1),
      x -> x.nailed(0), x -> x.tell(1), x -> x.check(), x -> x.text(0) + x.feed('h', 1) + x.text(0),
      x -> x.check() + x.tell(3), x -> x.check() + x.tell(6) + x.tell(6) + x.tell(5),
    };
    for (int i = 0; i < changes.length; i++) {
      alike("change " + i, after(furnished(), IMAGE, changes[i], RESTORE), after(furnished(), IMAGE), 0);
      alike("change " + i + ", twice", after(furnished(), IMAGE, RESTORE, changes[i], RESTORE), after(furnished(), IMAGE), 0);
      alike("change " + i + ", ahead", after(furnished(), changes[i], IMAGE, RESTORE), after(furnished(), changes[i], IMAGE), 0);
    }

    Due.of("Promise 33", "(but SHEETS, THE TRACE, what told() tells, and how often this was done)");
    Act[] others = {
      x -> x.put(0, 0, 8), x -> x.sheet(0, 0, 0), x -> x.sheet(0, 32, 2), x -> x.sheet(3, 8, 3), x -> x.move(0, 0, 1, 0, 2),
      x -> x.voice(1, 0, 4), x -> x.voice(2, 3, 4), x -> x.lift(9), x -> x.told(0), x -> x.body(29), x -> x.as(0, 1),
    };
    for (int i = 0; i < others.length; i++) {
      alike("other " + i, after(furnished(), IMAGE, others[i], RESTORE), after(furnished(), IMAGE, others[i]), 0);
      alike("other " + i + ", ahead", after(furnished(), others[i], IMAGE, RESTORE), after(furnished(), IMAGE, others[i]), 0);
    }
    howOften();
  }

  private static void howOften() {
    Due.of("Promise 33", "in place of one ahead: how often that was done");
    SlateKin x = new SlateKin();
    for (int i = 1; i <= 200; i++) Due.due(x.image(), i);
    Due.due(x.years(1), 48, x.image(), 201, x.years(2), 144);
    Due.due(x.restore(), 1, x.image(), 202, x.restore(), 1, x.count(3), 48);
    Due.due(x.years(2), 144, x.image(), 203, x.years(3), 288, x.restore(), 3, x.count(3), 144);

    Due.of("Promise 34", "All is as the IMAGE has it, which stays: YEAR");
    SlateKin y = Due.with(1, 9);
    Due.due(y.years(7), 336, y.image(), 1);
    for (int i = 0; i < 20; i++) Due.due(y.years(1), 384, y.nail(0, 0), 7, y.restore(), 7, y.count(1), 7, y.slateIs(0, 3), 8);

    Due.of("Promise 34", "All is as the IMAGE has it (an empty one, a full one)");
    alike("an empty one", after(new SlateKin(), IMAGE, x1 -> x1.slate(0, 1, 0, -1) + x1.lay(0, 0, 0) + x1.years(60), RESTORE),
        after(new SlateKin(), IMAGE), 0);
    SlateKin e = new SlateKin();
    e.image();
    for (int i = 0; i < 10; i++) e.slate(15, 2, 5, i - 1);
    e.lay(0, 0, 0);
    e.years(4);
    Due.due(e.restore(), 0, e.count(0), 0, e.slateIs(0, 0), Due.BEYOND);
    Due.due(e.slate(0, 1, 0, 0), Due.BEYOND, e.slate(0, 1, 0, -1), 0);
    int[] fresh = {0, 0, 1, 0, -1, -1, -1, 0, 1, 0};
    for (int what = 0; what < 10; what++) Due.due(e.slateIs(0, what), fresh[what]);
    Due.due(e.slate(0, 1, 0, 0), 1, e.slateIs(1, 4), 0, e.dry(0), 0, e.count(3), 0);
    SlateKin f = full();
    Due.due(f.image(), 1, f.check(), 11, f.text(1), 1, f.lift(0), 42, f.restore(), 0, f.slate(0, 1, 0, -1), Due.FULL);
    Due.due(f.feed('1', 1), Due.FULL, f.tell(0), Due.FULL, f.dry(2), Due.NONE, f.untell(1), 0);

    Due.of("Promise 34", "NONE: there is none");
    SlateKin n = Due.with(1, 0);
    Due.due(n.restore(), Due.NONE, n.restore(), Due.NONE, n.count(0), 1, n.told(2), 2, n.image(), 1, n.restore(), 0);
  }

  public static void main(String[] args) {
    beyondOfSlates();
    beyondOfTextsAndYears();
    beyondOfThoughts();
    beyondOfVoicesAndSheets();
    theOtherErrors();
    whichErrorWins();
    onlyThought();
    image();
    Due.end();
  }
}
