/** A roof laid with slates, each a tile on its death; DOC.md tells what every call answers. */
public final class SlateKin {
  private static final int LOW = -1000000000;
  private static final int BEYOND = 1;
  private static final int NONE = 2;
  private static final int STATE = 3;
  private static final int FULL = 4;
  private static final int UNLIKE = 5;
  private static final int PARTED = 6;

  private static final int ROWS = 6;
  private static final int PLACES = 8;
  private static final int CELLS = 48;
  private static final long ALL_CELLS = (1L << CELLS) - 1;
  private static final int MOST_SLATES = 10;
  private static final int MOST_YEARS = 9999;
  private static final int MOST_AGE = 999;
  private static final int MOST_TUB = 99999;
  private static final int MOST_GALE = 40;

  private static final int USES = 2;
  private static final int TAPE_BYTES = 60;
  private static final int MOST_OPEN = 5;
  private static final int MOST_GIVEN = 99;
  private static final int FAULTY = -10;

  private static final int SHEETS = 4;
  private static final int SHEET_NUMBERS = 24;
  private static final int WAITING = 24;
  private static final int TRACED = 30;

  private final Roof now = new Roof();
  private final Roof kept = new Roof();
  private int timesKept = 0;
  private final Reader reader = new Reader();
  private final Choir choir = new Choir();
  private final Sheet[] sheets = new Sheet[SHEETS];
  private final int[] errors = new int[PARTED + 1];

  public SlateKin() {
    for (int i = 0; i < SHEETS; i++) {
      sheets[i] = new Sheet();
    }
  }

  // ---- slates

  public int slate(int km, int wide, int nails, int leant) {
    if (!isKindAndM(km) || wide < 1 || wide > 2 || !isDigit(nails) || leant < -1 || leant >= now.size) {
      return error(BEYOND);
    }
    if (now.size >= MOST_SLATES) {
      return error(FULL);
    }
    now.tiles[now.size].begin(km, wide, nails, leant);
    now.size++;
    return now.size - 1;
  }

  public int slateIs(int slate, int what) {
    if (!isSlate(slate)) {
      return error(BEYOND);
    }
    Tile tile = now.tiles[slate];
    switch (what) {
      case 0: return tile.kind;
      case 1: return tile.m;
      case 2: return tile.wide;
      case 3: return tile.nails;
      case 4: return tile.leant;
      case 5: return tile.row();
      case 6: return tile.place();
      case 7: return tile.age;
      case 8: return tile.broad();
      case 9: return now.holdOf(slate, 0);
      default: return error(BEYOND);
    }
  }

  public int become(int slate, int km) {
    if (!isSlate(slate) || !isKindAndM(km)) {
      return error(BEYOND);
    }
    int was = now.tiles[slate].kind;
    now.tiles[slate].turn(km);
    return was;
  }

  public int as(int slate, int kind) {
    if (!isSlate(slate) || kind < 0 || kind > Tile.HEIR) {
      return error(BEYOND);
    }
    return now.tiles[slate].isUnder(kind) ? now.tiles[slate].m : error(UNLIKE);
  }

  public int lay(int slate, int row, int place) {
    if (!isSlate(slate) || row < 0 || row >= ROWS || place < 0 || place >= PLACES) {
      return error(BEYOND);
    }
    int cell = row * PLACES + place;
    if (!now.mayLie(slate, cell)) {
      return error(STATE);
    }
    now.tiles[slate].cell = cell;
    return Long.bitCount(now.dryBut(0));
  }

  public int lift(int slate) {
    if (!isSlate(slate)) {
      return error(BEYOND);
    }
    if (!now.tiles[slate].isLaid()) {
      return error(STATE);
    }
    now.tiles[slate].cell = -1;
    return Long.bitCount(now.dryBut(0));
  }

  public int nail(int slate, int n) {
    if (!isSlate(slate) || !isDigit(n)) {
      return error(BEYOND);
    }
    int was = now.tiles[slate].nails;
    now.tiles[slate].nails = n;
    return was;
  }

  public int sells(int is) {
    if (!isBit(is)) {
      return error(BEYOND);
    }
    int was = now.sold;
    now.sold = is;
    return was;
  }

  // ---- texts

  public int feed(long word, int n) {
    if (n < 1 || n > 8) {
      return error(BEYOND);
    }
    if (n > TAPE_BYTES - now.fed) {
      return error(FULL);
    }
    for (int i = 0; i < n; i++) {
      now.tape[now.fed] = (byte) (word >>> (8 * i));
      now.fed++;
    }
    return now.fed;
  }

  public int text(int use) {
    if (!isUse(use)) {
      return error(BEYOND);
    }
    int fault = reader.read(now.tape, now.fed, use);
    now.fed = 0;
    if (fault >= 0) {
      return FAULTY - fault;
    }
    now.laws[use].adopt(reader.code, reader.size);
    return 1;
  }

  public int untell(int use) {
    if (!isUse(use)) {
      return error(BEYOND);
    }
    int was = now.laws[use].stands ? 1 : 0;
    now.laws[use].stands = false;
    return was;
  }

  public int law(int use, int a, int b, int c) {
    return isUse(use) ? now.laws[use].give(a, b, c) : error(BEYOND);
  }

  // ---- gales, years

  public int gale(int g) {
    if (!isGale(g)) {
      return error(BEYOND);
    }
    int gone = now.blown(g);
    now.takeOff(gone);
    return gone;
  }

  public int years(int n) {
    if (n < 1 || n > 60) {
      return error(BEYOND);
    }
    if (now.year + n > MOST_YEARS) {
      return error(STATE);
    }
    for (int i = 0; i < n; i++) {
      now.passYear();
    }
    return now.tub;
  }

  public int loose(int n) {
    if (n < 1 || n > 20) {
      return error(BEYOND);
    }
    if (now.year + n > MOST_YEARS) {
      return error(STATE);
    }
    int gone = 0;
    for (int i = 0; i < n; i++) {
      gone |= now.yearByDraws();
    }
    return gone;
  }

  public int seed(int v) {
    int was = now.z;
    now.z = v;
    return was;
  }

  // ---- what is, what would be

  public long dry(int what) {
    if (what < 0 || what > 2) {
      return error(BEYOND);
    }
    long cells = now.dryBut(0);
    if (what == 0) {
      return cells;
    }
    if (what == 1) {
      return Long.bitCount(cells);
    }
    return cells == ALL_CELLS ? error(NONE) : Long.numberOfTrailingZeros(~cells);
  }

  public int over(int cell, int what) {
    if (!isCell(cell) || !isBit(what)) {
      return error(BEYOND);
    }
    int tops = now.lyingOver(cell);
    return what == 0 ? tops : now.toComeTo(tops);
  }

  public int lifts(int g, int what) {
    if (!isGale(g) || !isBit(what)) {
      return error(BEYOND);
    }
    int gone = now.blown(g);
    return what == 0 ? gone : Long.bitCount(now.dryBut(gone));
  }

  public int fast(int g, int what) {
    if (!isGale(g) || !isBit(what)) {
      return error(BEYOND);
    }
    int set = now.mustBeFast(g);
    return what == 0 ? Integer.bitCount(set) : set;
  }

  public int best(int slate, int what) {
    if (!isSlate(slate) || !isBit(what)) {
      return error(BEYOND);
    }
    int cell = now.bestCell(slate);
    if (cell < 0) {
      return error(NONE);
    }
    return what == 0 ? cell : now.dryWith(slate, cell);
  }

  public int rings() {
    return now.ringing();
  }

  public int odds(int cell, int part) {
    if (!isCell(cell) || !isBit(part)) {
      return error(BEYOND);
    }
    int above = 0;
    for (int g = 0; g < MOST_GALE; g++) {
      above += (int) ((now.dryBut(now.blown(g)) >>> cell) & 1L);
    }
    int shared = commonDivisor(MOST_GALE, above);
    if (shared <= 0) {
      return 0;
    }
    return (part == 0 ? above : MOST_GALE) / shared;
  }

  public int fits(int sheet, int what) {
    if (!isSheet(sheet) || !isBit(what)) {
      return error(BEYOND);
    }
    if (sheets[sheet].isMissing()) {
      return error(NONE);
    }
    int many = 0;
    int least = -1;
    for (int g = MOST_GALE; g >= 0; g--) {
      if (sheets[sheet].tellsRows(now.dryBut(now.blown(g)))) {
        many++;
        least = g;
      }
    }
    if (what == 0) {
      return many;
    }
    return least < 0 ? error(NONE) : least;
  }

  // ---- voices, sheets, images, what is told

  public int voice(int slate, int voice, int x) {
    if (!isSlate(slate) || voice < 0 || voice > Choir.PARTS) {
      return error(BEYOND);
    }
    int answer = choir.sing(now.tiles[slate], slate, voice, x);
    return choir.parted ? error(PARTED) : answer;
  }

  public int body(int i) {
    return i < 0 || i >= choir.size ? error(NONE) : choir.trace[i];
  }

  public int sheet(int sheet, int bits, int n) {
    if (!isSheet(sheet) || (bits != 0 && bits != 8 && bits != 16 && bits != 32)) {
      return error(BEYOND);
    }
    if (bits != 0 && n < 0) {
      return error(STATE);
    }
    if (bits != 0 && n > SHEET_NUMBERS) {
      return error(BEYOND);
    }
    sheets[sheet].begin(bits, bits == 0 ? 0 : n);
    return 1;
  }

  public int put(int sheet, int i, int v) {
    if (!isSheet(sheet)) {
      return error(BEYOND);
    }
    if (sheets[sheet].isMissing()) {
      return error(NONE);
    }
    if (i < 0 || i >= sheets[sheet].size) {
      return error(BEYOND);
    }
    sheets[sheet].write(i, v);
    return 1;
  }

  public int move(int sheet, int i, int other, int j, int n) {
    if (!isSheet(sheet) || !isSheet(other)) {
      return error(BEYOND);
    }
    Sheet from = sheets[sheet];
    Sheet to = sheets[other];
    if (from.isMissing() || to.isMissing()) {
      return error(NONE);
    }
    if (from.bits != to.bits) {
      return error(UNLIKE);
    }
    if (!from.has(i, n) || !to.has(j, n)) {
      return error(BEYOND);
    }
    System.arraycopy(from.numbers, i, to.numbers, j, n);
    return n;
  }

  public int nailed(int sheet) {
    if (!isSheet(sheet)) {
      return error(BEYOND);
    }
    Sheet from = sheets[sheet];
    if (from.isMissing()) {
      return error(NONE);
    }
    int done = 0;
    for (int i = 0; i < from.size && i < now.size && isDigit(from.numbers[i]); i++) {
      now.tiles[i].nails = from.numbers[i];
      done++;
    }
    return done;
  }

  public int judge(int sheet) {
    if (!isSheet(sheet)) {
      return error(BEYOND);
    }
    Sheet told = sheets[sheet];
    if (told.isMissing()) {
      return error(NONE);
    }
    int right = 0;
    for (int i = 0; i < told.size && i < now.size && told.numbers[i] == now.tiles[i].cell; i++) {
      right++;
    }
    return right;
  }

  public int image() {
    kept.copy(now);
    timesKept++;
    return timesKept;
  }

  public int restore() {
    if (timesKept == 0) {
      return error(NONE);
    }
    now.copy(kept);
    return now.year;
  }

  public int tell(int v) {
    if (now.waiting >= WAITING) {
      return error(FULL);
    }
    now.waits[now.waiting] = v;
    now.waiting++;
    return now.waiting;
  }

  public int check() {
    int many = now.waiting;
    now.waiting = 0;
    for (int i = 0; i < many; i++) {
      if (i >= now.size || now.waits[i] != now.tiles[i].age) {
        return 1 + i;
      }
    }
    return 0;
  }

  public int count(int what) {
    switch (what) {
      case 0: return now.size;
      case 1: return now.year;
      case 2: return now.sold;
      case 3: return now.tub;
      case 4: return now.fed;
      case 5: return now.waiting;
      case 6: return choir.size;
      case 7: return now.z;
      default: return error(BEYOND);
    }
  }

  public int told(int k) {
    return k < 1 || k > PARTED ? error(BEYOND) : errors[k];
  }

  // ---- what the calls share

  private int error(int k) {
    errors[k]++;
    return LOW - k;
  }

  private boolean isSlate(int slate) {
    return slate >= 0 && slate < now.size;
  }

  private static boolean isKindAndM(int km) {
    return km >= 0 && km < 10 * (Tile.HEIR + 1);
  }

  private static boolean isDigit(int n) {
    return n >= 0 && n <= 9;
  }

  private static boolean isBit(int n) {
    return n == 0 || n == 1;
  }

  private static boolean isUse(int use) {
    return use >= 0 && use < USES;
  }

  private static boolean isGale(int g) {
    return g >= 0 && g <= MOST_GALE;
  }

  private static boolean isCell(int cell) {
    return cell >= 0 && cell < CELLS;
  }

  private static boolean isSheet(int sheet) {
    return sheet >= 0 && sheet < SHEETS;
  }

  private static int commonDivisor(int a, int b) {
    int large = a;
    int small = b;
    for (int i = 0; i < MOST_GALE && small != 0; i++) {
      int rest = large % small;
      large = small;
      small = rest;
    }
    return large;
  }

  /** One slate. */
  private static final class Tile {
    private static final int AUNT = 1;
    private static final int MOSSY = 2;
    private static final int STRANGER = 3;
    private static final int ROBSON = 4;
    private static final int LICHEN = 5;
    private static final int HEIR = 6;
    private static final int[] ABOVE = {-1, 0, 0, 0, AUNT, MOSSY, 0};

    private int kind = 0;
    private int m = 0;
    private int wide = 1;
    private int nails = 0;
    private int leant = -1;
    private int age = 0;
    private int cell = -1;

    private static int kindAbove(int kind) {
      return kind < 0 || kind >= ABOVE.length ? -1 : ABOVE[kind];
    }

    private void begin(int km, int width, int nailsIn, int leantOn) {
      turn(km);
      wide = width;
      nails = nailsIn;
      leant = leantOn;
      age = 0;
      cell = -1;
    }

    private void turn(int km) {
      kind = km / 10;
      m = km % 10;
    }

    private void copy(Tile other) {
      kind = other.kind;
      m = other.m;
      wide = other.wide;
      nails = other.nails;
      leant = other.leant;
      age = other.age;
      cell = other.cell;
    }

    private boolean isUnder(int wanted) {
      int k = kind;
      for (int i = 0; i <= HEIR && k >= 0; i++) {
        if (k == wanted) {
          return true;
        }
        k = kindAbove(k);
      }
      return false;
    }

    private boolean isLaid() {
      return cell >= 0;
    }

    private int row() {
      return isLaid() ? cell / PLACES : -1;
    }

    private int place() {
      return isLaid() ? cell % PLACES : -1;
    }

    private int broad() {
      switch (kind) {
        case AUNT:
        case ROBSON: return wide + 1;
        case LICHEN: return Math.max(1, wide - 1);
        default: return wide;
      }
    }

    private int holds(int year, int sold) {
      int plain = 3 * nails + m;
      switch (kind) {
        case AUNT: return plain - 2;
        case MOSSY: return plain + age / 5;
        case STRANGER: return plain + year % 3;
        case ROBSON: return plain - 2 + nails;
        case LICHEN: return 2 * (plain + age / 5) - m;
        case HEIR: return sold == 1 ? 0 : plain;
        default: return plain;
      }
    }

    /** The cells that would be its own at a cell, as a set; none at -1. */
    private long ownAt(int at) {
      if (!isCell(at)) {
        return 0L;
      }
      int place = at % PLACES;
      long alongTheRow = (((1L << broad()) - 1) << place) & 0xFFL;
      return alongTheRow << (at - place);
    }

    private long own() {
      return ownAt(cell);
    }
  }

  /** All that an image keeps, and what follows from it. */
  private static final class Roof {
    private final Tile[] tiles = new Tile[MOST_SLATES];
    private int size = 0;
    private int year = 0;
    private int sold = 0;
    private int tub = 0;
    private int z = 1;
    private final byte[] tape = new byte[TAPE_BYTES];
    private int fed = 0;
    private final Law[] laws = new Law[USES];
    private final int[] waits = new int[WAITING];
    private int waiting = 0;

    private Roof() {
      for (int i = 0; i < MOST_SLATES; i++) {
        tiles[i] = new Tile();
      }
      for (int use = 0; use < USES; use++) {
        laws[use] = new Law(use);
      }
    }

    private void copy(Roof other) {
      for (int i = 0; i < MOST_SLATES; i++) {
        tiles[i].copy(other.tiles[i]);
      }
      for (int use = 0; use < USES; use++) {
        laws[use].copy(other.laws[use]);
      }
      System.arraycopy(other.tape, 0, tape, 0, TAPE_BYTES);
      System.arraycopy(other.waits, 0, waits, 0, WAITING);
      size = other.size;
      year = other.year;
      sold = other.sold;
      tub = other.tub;
      z = other.z;
      fed = other.fed;
      waiting = other.waiting;
    }

    private int holdOf(int slate, int g) {
      Tile tile = tiles[slate];
      return laws[0].give(tile.holds(year, sold), tile.nails, g);
    }

    private static long rightUnder(long cells) {
      return (cells << PLACES) & ALL_CELLS;
    }

    private static long rightAbove(long cells) {
      return cells >>> PLACES;
    }

    private static long covered(long own) {
      return own | rightUnder(own);
    }

    private boolean mayLie(int slate, int cell) {
      long own = tiles[slate].ownAt(cell);
      for (int i = 0; i < size; i++) {
        if (i != slate && (own & tiles[i].own()) != 0) {
          return false;
        }
      }
      int leant = tiles[slate].leant;
      if (leant < 0 || leant >= size || !tiles[leant].isLaid()) {
        return true;
      }
      return ((rightAbove(own) | rightUnder(own)) & tiles[leant].own()) != 0;
    }

    /** The cells that are dry when a set of slates is gone. */
    private long dryBut(int gone) {
      long cells = 0L;
      for (int i = 0; i < size; i++) {
        if ((gone >> i & 1) == 0) {
          cells |= covered(tiles[i].own());
        }
      }
      return cells;
    }

    private int dryWith(int slate, int cell) {
      return Long.bitCount(dryBut(1 << slate) | covered(tiles[slate].ownAt(cell)));
    }

    private int bestCell(int slate) {
      int best = -1;
      int most = -1;
      for (int cell = 0; cell < CELLS; cell++) {
        if (mayLie(slate, cell) && dryWith(slate, cell) > most) {
          best = cell;
          most = dryWith(slate, cell);
        }
      }
      return best;
    }

    private int lyingOver(int cell) {
      int set = 0;
      for (int i = 0; i < size; i++) {
        set |= (int) (covered(tiles[i].own()) >>> cell & 1L) << i;
      }
      return set;
    }

    private int toComeTo(int tops) {
      int set = tops;
      // from the eaves up, so that whom a row adds is asked for in its turn
      for (int row = ROWS - 1; row > 0; row--) {
        long under = ownOf(set, row);
        for (int i = 0; i < size; i++) {
          if (tiles[i].row() == row - 1 && (rightUnder(tiles[i].own()) & under) != 0) {
            set |= 1 << i;
          }
        }
      }
      return set;
    }

    private long ownOf(int set, int row) {
      long cells = 0L;
      for (int i = 0; i < size; i++) {
        if ((set >> i & 1) == 1 && tiles[i].row() == row) {
          cells |= tiles[i].own();
        }
      }
      return cells;
    }

    /** Whom a gale would lift, as a set. */
    private int blown(int g) {
      int gone = 0;
      long sheltered = 0L;
      for (int row = 0; row < ROWS; row++) {
        for (int i = 0; i < size; i++) {
          if (tiles[i].row() == row && (tiles[i].own() & sheltered) == 0 && holdOf(i, g) < g) {
            gone |= 1 << i;
          }
        }
        sheltered = rightUnder(ownOf(~gone, row));
      }
      return gone;
    }

    private void takeOff(int gone) {
      for (int i = 0; i < size; i++) {
        if ((gone >> i & 1) == 1) {
          tiles[i].cell = -1;
        }
      }
    }

    /**
     * Where a gale lifts none, all that lie keep sheltering: so just the weak ones on whom
     * nothing lies must be fast, and no other set is as small.
     */
    private int mustBeFast(int g) {
      long sheltered = 0L;
      for (int i = 0; i < size; i++) {
        sheltered |= rightUnder(tiles[i].own());
      }
      int set = 0;
      for (int i = 0; i < size; i++) {
        if (tiles[i].isLaid() && (tiles[i].own() & sheltered) == 0 && holdOf(i, g) < g) {
          set |= 1 << i;
        }
      }
      return set;
    }

    private int ringing() {
      int pairs = 0;
      for (int a = 0; a < size; a++) {
        for (int b = 0; b < a; b++) {
          if ((follows(a, b) || follows(b, a)) && tiles[a].leant != b && tiles[b].leant != a) {
            pairs++;
          }
        }
      }
      return pairs;
    }

    private boolean follows(int a, int b) {
      return tiles[a].isLaid() && tiles[a].row() == tiles[b].row()
          && tiles[a].place() == tiles[b].place() + tiles[b].broad();
    }

    private void passYear() {
      long cells = dryBut(0);
      int drops = 0;
      for (int cell = 0; cell < CELLS; cell++) {
        if ((cells >>> cell & 1L) == 0) {
          drops += laws[1].give(cell / PLACES, cell % PLACES, year);
        }
      }
      tub = Math.min(MOST_TUB, tub + drops);
      for (int i = 0; i < size; i++) {
        tiles[i].age = Math.min(MOST_AGE, tiles[i].age + 1);
        if (year % 4 == 3) {
          tiles[i].nails = Math.max(0, tiles[i].nails - 1);
        }
      }
      year++;
    }

    private int draw() {
      z = z * 1103515245 + 12345;
      return z >>> 8;
    }

    private int yearByDraws() {
      int gone = blown(draw() % MOST_GALE);
      takeOff(gone);
      if (size > 0) {
        int slate = draw() % size;
        int cell = draw() % CELLS;
        if (!tiles[slate].isLaid() && mayLie(slate, cell)) {
          tiles[slate].cell = cell;
        }
      }
      passYear();
      return gone;
    }
  }

  /** What a use gives: by its text, worked out on a stack, or bare. */
  private static final class Law {
    private static final int NAME = -3;
    private static final int NOT = -4;
    private static final int OR = -5;
    private static final int AND = -6;
    private static final int LESS = -7;
    private static final int SAME = -8;
    private static final int MORE = -9;
    private static final int PLUS = -10;
    private static final int MINUS = -11;
    private static final int TIMES = -12;
    private static final int BY = -13;
    private static final int REST = -14;

    private final int use;
    private boolean stands = false;
    private final int[] code = new int[TAPE_BYTES];
    private int size = 0;
    private final int[] stack = new int[TAPE_BYTES];

    private Law(int of) {
      use = of;
    }

    private void adopt(int[] newCode, int newSize) {
      System.arraycopy(newCode, 0, code, 0, TAPE_BYTES);
      size = newSize;
      stands = true;
    }

    private void copy(Law other) {
      System.arraycopy(other.code, 0, code, 0, TAPE_BYTES);
      size = other.size;
      stands = other.stands;
    }

    private int give(int a, int b, int c) {
      int bare = use == 0 ? a : 1;
      return Math.max(0, Math.min(MOST_GIVEN, stands ? workOut(a, b, c) : bare));
    }

    private int workOut(int a, int b, int c) {
      int top = 0;
      for (int i = 0; i < size; i++) {
        int sign = code[i];
        if (sign == NOT && top >= 1) {
          stack[top - 1] = stack[top - 1] == 0 ? 1 : 0;
        } else if (sign < NOT && top >= 2) {
          top--;
          stack[top - 1] = join(sign, stack[top - 1], stack[top]);
        } else if (sign > NOT && top < TAPE_BYTES) {
          stack[top] = worth(sign, a, b, c);
          top++;
        }
      }
      return stack[0];
    }

    private static int worth(int sign, int a, int b, int c) {
      switch (sign) {
        case NAME: return a;
        case NAME + 1: return b;
        case NAME + 2: return c;
        default: return sign;
      }
    }

    private static int join(int sign, int left, int right) {
      switch (sign) {
        case OR: return left != 0 || right != 0 ? 1 : 0;
        case AND: return left != 0 && right != 0 ? 1 : 0;
        case LESS: return left < right ? 1 : 0;
        case SAME: return left == right ? 1 : 0;
        case MORE: return left > right ? 1 : 0;
        case PLUS: return left + right;
        case MINUS: return left - right;
        case TIMES: return left * right;
        case BY: return right == 0 ? 0 : left / right;
        case REST: return right == 0 ? 0 : left % right;
        default: return 0;
      }
    }
  }

  /** Reads a text from bytes into code for a law's stack. */
  private static final class Reader {
    private static final char[] NAMES = {'h', 'n', 'g', 'r', 'c', 'y'};
    private static final int NAMES_OF_A_USE = 3;
    private static final int MOST_DIGITS = 4;
    private static final int END = -1;

    private final byte[] bytes = new byte[TAPE_BYTES];
    private int end = 0;
    private int at = 0;
    private int use = 0;
    private final int[] code = new int[TAPE_BYTES];
    private int size = 0;

    /** The fault, or -1 if there is none: then the code stands. */
    private int read(byte[] tape, int many, int ofUse) {
      System.arraycopy(tape, 0, bytes, 0, TAPE_BYTES);
      end = Math.min(many, TAPE_BYTES);
      at = 0;
      use = ofUse;
      size = 0;
      return any(0) && at == end ? -1 : at;
    }

    private int sign() {
      return at < end ? bytes[at] & 255 : END;
    }

    private void emit(int sign) {
      if (size < TAPE_BYTES) {
        code[size] = sign;
        size++;
      }
    }

    private boolean any(int open) {
      boolean reads = all(open);
      for (int i = 0; i < TAPE_BYTES && reads && sign() == '|'; i++) {
        at++;
        reads = all(open);
        emit(Law.OR);
      }
      return reads;
    }

    private boolean all(int open) {
      boolean reads = comparison(open);
      for (int i = 0; i < TAPE_BYTES && reads && sign() == '&'; i++) {
        at++;
        reads = comparison(open);
        emit(Law.AND);
      }
      return reads;
    }

    private boolean comparison(int open) {
      boolean reads = sum(open);
      int join = sign() == '<' ? Law.LESS : sign() == '=' ? Law.SAME : sign() == '>' ? Law.MORE : 0;
      if (reads && join != 0) {
        at++;
        reads = sum(open);
        emit(join);
      }
      return reads;
    }

    private boolean sum(int open) {
      boolean reads = product(open);
      for (int i = 0; i < TAPE_BYTES && reads && (sign() == '+' || sign() == '-'); i++) {
        int join = sign() == '+' ? Law.PLUS : Law.MINUS;
        at++;
        reads = product(open);
        emit(join);
      }
      return reads;
    }

    private boolean product(int open) {
      boolean reads = single(open);
      for (int i = 0; i < TAPE_BYTES && reads && (sign() == '*' || sign() == '/' || sign() == '%'); i++) {
        int join = sign() == '*' ? Law.TIMES : sign() == '/' ? Law.BY : Law.REST;
        at++;
        reads = single(open);
        emit(join);
      }
      return reads;
    }

    private boolean single(int open) {
      int first = sign();
      if (first >= '0' && first <= '9') {
        number();
        return true;
      }
      if (first == '!' || first == '(') {
        return open < MOST_OPEN && opened(first, open + 1);
      }
      for (int i = 0; i < NAMES_OF_A_USE; i++) {
        if (first == NAMES[use * NAMES_OF_A_USE + i]) {
          at++;
          emit(Law.NAME + i);
          return true;
        }
      }
      return false;
    }

    private boolean opened(int first, int open) {
      at++;
      if (first == '!') {
        boolean reads = single(open);
        emit(Law.NOT);
        return reads;
      }
      if (!any(open) || sign() != ')') {
        return false;
      }
      at++;
      return true;
    }

    private void number() {
      int value = 0;
      for (int i = 0; i < MOST_DIGITS && sign() >= '0' && sign() <= '9'; i++) {
        value = value * 10 + sign() - '0';
        at++;
      }
      emit(value);
    }
  }

  /** The voices of a slate, and the trace of the bodies that began. */
  private static final class Choir {
    private static final int DRIPS = 0;
    private static final int RINGS = 1;
    private static final int CREAKS = 2;
    private static final int PARTS = 3;
    private static final int VOICES = 4;
    private static final int DEEPEST = 30;
    private static final int[] BODIES = {
      10, 11, 12, 13,
      20, 0, 0, 21,
      0, 30, 0, 0,
      0, 0, 40, 0,
      50, 0, 51, 0,
      0, 60, 0, 0,
      70, 71, 0, 0,
    };

    private final int[] trace = new int[TRACED];
    private int size = 0;
    private boolean parted = false;
    private int kind = 0;
    private int m = 0;
    private int k = 0;

    private int sing(Tile tile, int number, int voice, int x) {
      size = 0;
      parted = false;
      kind = tile.kind;
      m = tile.m;
      k = number;
      return own(voice, x, 0);
    }

    private int own(int voice, int x, int depth) {
      return from(kind, voice, x, depth);
    }

    /** A voice by the body of a kind, or of the next kind above that has one. */
    private int from(int lowest, int voice, int x, int depth) {
      int has = lowest;
      for (int i = 0; i <= Tile.HEIR && has > 0 && BODIES[has * VOICES + voice] == 0; i++) {
        has = Tile.kindAbove(has);
      }
      if (has < 0 || depth > DEEPEST) {
        return 0;
      }
      return begin(BODIES[has * VOICES + voice], Tile.kindAbove(has), x, depth + 1);
    }

    private int begin(int body, int above, int x, int depth) {
      if (size < TRACED) {
        trace[size] = body;
        size++;
      }
      switch (body) {
        case 10: return x + k;
        case 11: return own(DRIPS, x, depth) * 2;
        case 12: return own(RINGS, x, depth) - m;
        case 13: return shared(x);
        case 20: return from(above, DRIPS, x, depth) - 4;
        case 21: return partsAndRings(above, x, depth);
        case 30: return 0 - from(above, RINGS, x, depth);
        case 40: return from(above, CREAKS, x / 2, depth);
        case 50: return from(above, DRIPS, x, depth) * 3;
        case 51: return from(above, CREAKS, x, depth) ^ k;
        case 60: return from(above, RINGS, x + 1, depth);
        case 70: return 9;
        case 71: return from(above, RINGS, x, depth) + m;
        default: return 0;
      }
    }

    private int shared(int x) {
      int by = m - k;
      parted = by == 0;
      return by == 0 ? 0 : x / by;
    }

    private int partsAndRings(int above, int x, int depth) {
      int left = from(above, PARTS, x, depth);
      return parted ? 0 : left + own(RINGS, 1, depth);
    }
  }

  /** A row of numbers, signed, of so many bits; missing at 0 bits. */
  private static final class Sheet {
    private int bits = 0;
    private int size = 0;
    private final int[] numbers = new int[SHEET_NUMBERS];

    private boolean isMissing() {
      return bits == 0;
    }

    private void begin(int newBits, int n) {
      bits = newBits;
      size = n;
      for (int i = 0; i < SHEET_NUMBERS; i++) {
        numbers[i] = 0;
      }
    }

    private void write(int i, int v) {
      numbers[i] = bits == 8 ? (byte) v : bits == 16 ? (short) v : v;
    }

    private boolean has(int i, int n) {
      return n >= 0 && i >= 0 && n <= size && i <= size - n;
    }

    /** Whether its numbers are how many of these cells lie in rows 0, 1, ... */
    private boolean tellsRows(long cells) {
      for (int i = 0; i < size; i++) {
        if (i >= ROWS || numbers[i] != Long.bitCount(cells >>> (i * PLACES) & 0xFFL)) {
          return false;
        }
      }
      return true;
    }
  }
}
