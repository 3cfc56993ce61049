import java.math.BigInteger;
import java.util.ArrayDeque;
import java.util.ArrayList;
import java.util.Deque;
import java.util.List;
import java.util.Set;
import java.util.TreeSet;

/** The document told once more, as slowly and plainly as can be, to compare the program with. */
final class NaiveKin {
  static final int LOW = -1000000000;

  static final class Error extends RuntimeException {
    final int k;

    Error(int k) {
      super(null, null, false, false);
      this.k = k;
    }
  }

  static final class Parted extends RuntimeException {
    Parted() {
      super(null, null, false, false);
    }
  }

  static final class One implements Cloneable {
    int kind, m, wide, nails, leant, age, row = -1, place = -1;

    One twin() {
      try {
        return (One) clone();
      } catch (CloneNotSupportedException e) {
        throw new IllegalStateException(e);
      }
    }
  }

  static final class All {
    List<One> slates = new ArrayList<>();
    int year, sold, tub, z = 1;
    List<Integer> tape = new ArrayList<>();
    String[] texts = new String[2];
    List<Integer> waits = new ArrayList<>();

    All twin() {
      All t = new All();
      for (One s : slates) t.slates.add(s.twin());
      t.year = year;
      t.sold = sold;
      t.tub = tub;
      t.z = z;
      t.tape.addAll(tape);
      t.texts = texts.clone();
      t.waits.addAll(waits);
      return t;
    }
  }

  All now = new All();
  All kept;
  int images;
  List<Integer> trace = new ArrayList<>();
  long[][] sheets = new long[4][];
  int[] sheetBits = new int[4];
  int[] errors = new int[7];

  static void ask(boolean right, int k) {
    if (!right) throw new Error(k);
  }

  static void in(long v, long least, long most) {
    ask(v >= least && v <= most, 1);
  }

  One one(int slate) {
    in(slate, 0, now.slates.size() - 1);
    return now.slates.get(slate);
  }

  static final int[] UP = {-1, 0, 0, 0, 1, 2, 0};

  static int broad(One s, int kind) {
    if (kind == 1) return broad(s, 0) + 1;
    if (kind == 4) return broad(s, 1);
    if (kind == 5) return Math.max(1, broad(s, 2) - 1);
    return s.wide;
  }

  int holds(One s, int kind) {
    switch (kind) {
      case 0: return 3 * s.nails + s.m;
      case 1: return holds(s, 0) - 2;
      case 2: return holds(s, 0) + s.age / 5;
      case 3: return holds(s, 0) + now.year % 3;
      case 4: return holds(s, 1) + s.nails;
      case 5: return 2 * holds(s, 2) - s.m;
      default: return now.sold == 1 ? 0 : holds(s, 0);
    }
  }

  static Set<Integer> ownAt(One s, int row, int place) {
    Set<Integer> own = new TreeSet<>();
    if (row < 0) return own;
    for (int p = place; p < place + broad(s, s.kind) && p < 8; p++) own.add(8 * row + p);
    return own;
  }

  static Set<Integer> own(One s) {
    return ownAt(s, s.row, s.place);
  }

  static Set<Integer> covers(One s) {
    Set<Integer> all = own(s);
    for (int c : own(s)) if (c + 8 < 48) all.add(c + 8);
    return all;
  }

  static Set<Integer> dryOf(List<One> slates) {
    Set<Integer> all = new TreeSet<>();
    for (One s : slates) all.addAll(covers(s));
    return all;
  }

  static boolean meet(Set<Integer> a, Set<Integer> b) {
    for (int c : a) if (b.contains(c)) return true;
    return false;
  }

  boolean mayLie(One s, int row, int place) {
    Set<Integer> there = ownAt(s, row, place);
    for (One other : now.slates) if (other != s && meet(there, own(other))) return false;
    if (s.leant < 0 || now.slates.get(s.leant).row < 0) return true;
    for (int c : there) {
      for (int d : own(now.slates.get(s.leant))) if (Math.abs(c - d) == 8) return true;
    }
    return false;
  }

  int given(int use, int a, int b, int c) {
    int v = now.texts[use] == null ? (use == 0 ? a : 1) : worth(now.texts[use], use, a, b, c);
    return v < 0 ? 0 : v > 99 ? 99 : v;
  }

  int hold(One s, int g) {
    return given(0, holds(s, s.kind), s.nails, g);
  }

  /** Whom a gale lifts, where the slates of a set are fast. */
  Set<Integer> lifted(int g, int fastSet) {
    Set<Integer> gone = new TreeSet<>();
    for (int row = 0; row < 6; row++) {
      for (int i = 0; i < now.slates.size(); i++) {
        One s = now.slates.get(i);
        if (s.row != row || (fastSet >> i & 1) == 1 || hold(s, g) >= g) continue;
        boolean kept = false;
        for (int j = 0; j < now.slates.size(); j++) {
          One t = now.slates.get(j);
          if (t != s && t.row == row - 1 && t.row >= 0 && !gone.contains(j) && meet(covers(t), own(s))) kept = true;
        }
        if (!kept) gone.add(i);
      }
    }
    return gone;
  }

  List<One> left(int g) {
    List<One> rest = new ArrayList<>();
    Set<Integer> gone = lifted(g, 0);
    for (int i = 0; i < now.slates.size(); i++) if (!gone.contains(i)) rest.add(now.slates.get(i));
    return rest;
  }

  static int bits(Set<Integer> set) {
    int b = 0;
    for (int i : set) b |= 1 << i;
    return b;
  }

  int blow(int g) {
    Set<Integer> gone = lifted(g, 0);
    for (int i : gone) {
      now.slates.get(i).row = -1;
      now.slates.get(i).place = -1;
    }
    return bits(gone);
  }

  void passYear() {
    Set<Integer> dry = dryOf(now.slates);
    for (int c = 0; c < 48; c++) if (!dry.contains(c)) now.tub += given(1, c / 8, c % 8, now.year);
    if (now.tub > 99999) now.tub = 99999;
    for (One s : now.slates) {
      if (s.age < 999) s.age++;
      if (now.year % 4 == 3 && s.nails > 0) s.nails--;
    }
    now.year++;
  }

  int draw() {
    now.z = (int) ((long) now.z * 1103515245L + 12345L);
    return (int) ((now.z & 0xFFFFFFFFL) >> 8);
  }

  // ---- texts, by a machine of one sign a step for the fault, by splitting for the worth

  static final String[] NAMES = {"hng", "rcy"};

  static int fault(List<Integer> tape, int use) {
    Deque<Character> open = new ArrayDeque<>();
    Deque<Boolean> outer = new ArrayDeque<>();
    boolean wants = true;
    boolean compared = false;
    int digits = 0;
    for (int i = 0; i < tape.size(); i++) {
      int b = tape.get(i);
      char c = (char) b;
      boolean digit = c >= '0' && c <= '9';
      if (wants) {
        if (c == '!' || c == '(') {
          if (open.size() == 5) return i;
          open.push(c);
          if (c == '(') {
            outer.push(compared);
            compared = false;
          }
          continue;
        }
        if (!digit && NAMES[use].indexOf(c) < 0) return i;
        digits = digit ? 1 : 0;
        wants = false;
      } else if (digit && digits > 0 && digits < 4) {
        digits++;
      } else if (c == ')') {
        if (open.isEmpty()) return i;
        open.pop();
        compared = outer.pop();
        digits = 0;
      } else if ("+-*/%".indexOf(c) >= 0) {
        wants = true;
      } else if ("<=>".indexOf(c) >= 0) {
        if (compared) return i;
        compared = true;
        wants = true;
      } else if (c == '&' || c == '|') {
        compared = false;
        wants = true;
      } else {
        return i;
      }
      if (!wants) while (!open.isEmpty() && open.peek() == '!') open.pop();
    }
    return wants || !open.isEmpty() ? tape.size() : -1;
  }

  static int lastAt(String t, String signs) {
    int depth = 0;
    for (int i = t.length() - 1; i > 0; i--) {
      char c = t.charAt(i);
      if (c == ')') depth++;
      if (c == '(') depth--;
      if (depth == 0 && signs.indexOf(c) >= 0) return i;
    }
    return -1;
  }

  static int worth(String t, int use, int a, int b, int c) {
    for (String signs : new String[] {"|", "&", "<=>", "+-", "*/%"}) {
      int i = lastAt(t, signs);
      if (i < 0) continue;
      int l = worth(t.substring(0, i), use, a, b, c);
      int r = worth(t.substring(i + 1), use, a, b, c);
      switch (t.charAt(i)) {
        case '|': return l != 0 || r != 0 ? 1 : 0;
        case '&': return l != 0 && r != 0 ? 1 : 0;
        case '<': return l < r ? 1 : 0;
        case '=': return l == r ? 1 : 0;
        case '>': return l > r ? 1 : 0;
        case '+': return (int) ((long) l + r);
        case '-': return (int) ((long) l - r);
        case '*': return (int) ((long) l * r);
        case '/': return r == 0 ? 0 : (int) ((long) l / r);
        default: return r == 0 ? 0 : (int) ((long) l % r);
      }
    }
    char first = t.charAt(0);
    if (first == '!') return worth(t.substring(1), use, a, b, c) == 0 ? 1 : 0;
    if (first == '(') return worth(t.substring(1, t.length() - 1), use, a, b, c);
    int name = NAMES[use].indexOf(first);
    return name < 0 ? Integer.parseInt(t) : name == 0 ? a : name == 1 ? b : c;
  }

  // ---- voices, by the language's own inheritance

  static class VSlate {
    int k, m;
    List<Integer> t;

    int drips(int x) { t.add(10); return x + k; }
    int rings(int x) { t.add(11); return drips(x) * 2; }
    int creaks(int x) { t.add(12); return rings(x) - m; }
    int parts(int x) { t.add(13); if (m == k) throw new Parted(); return x / (m - k); }
  }

  static class VAunt extends VSlate {
    @Override int drips(int x) { t.add(20); return super.drips(x) - 4; }
    @Override int parts(int x) { t.add(21); return super.parts(x) + rings(1); }
  }

  static class VMossy extends VSlate {
    @Override int rings(int x) { t.add(30); return 0 - super.rings(x); }
  }

  static class VStranger extends VSlate {
    @Override int creaks(int x) { t.add(40); return super.creaks(x / 2); }
  }

  static class VRobson extends VAunt {
    @Override int drips(int x) { t.add(50); return super.drips(x) * 3; }
    @Override int creaks(int x) { t.add(51); return super.creaks(x) ^ k; }
  }

  static class VLichen extends VMossy {
    @Override int rings(int x) { t.add(60); return super.rings(x + 1); }
  }

  static class VHeir extends VSlate {
    @Override int drips(int x) { t.add(70); return 9; }
    @Override int rings(int x) { t.add(71); return super.rings(x) + m; }
  }

  static VSlate singer(int kind) {
    switch (kind) {
      case 0: return new VSlate();
      case 1: return new VAunt();
      case 2: return new VMossy();
      case 3: return new VStranger();
      case 4: return new VRobson();
      case 5: return new VLichen();
      default: return new VHeir();
    }
  }

  // ---- the calls

  long call(String name, long... a) {
    try {
      return act(name, a);
    } catch (Error e) {
      errors[e.k]++;
      return LOW - e.k;
    }
  }

  private long act(String name, long[] l) {
    int[] a = new int[l.length];
    for (int i = 0; i < a.length; i++) a[i] = (int) l[i];
    switch (name) {
      case "slate": {
        in(a[0], 0, 69);
        in(a[1], 1, 2);
        in(a[2], 0, 9);
        in(a[3], -1, now.slates.size() - 1);
        ask(now.slates.size() < 10, 4);
        One s = new One();
        s.kind = a[0] / 10;
        s.m = a[0] % 10;
        s.wide = a[1];
        s.nails = a[2];
        s.leant = a[3];
        now.slates.add(s);
        return now.slates.size() - 1;
      }
      case "slateIs": {
        One s = one(a[0]);
        in(a[1], 0, 9);
        return new int[] {s.kind, s.m, s.wide, s.nails, s.leant, s.row, s.place, s.age, broad(s, s.kind),
            hold(s, 0)}[a[1]];
      }
      case "become": {
        One s = one(a[0]);
        in(a[1], 0, 69);
        int was = s.kind;
        s.kind = a[1] / 10;
        s.m = a[1] % 10;
        return was;
      }
      case "as": {
        One s = one(a[0]);
        in(a[1], 0, 6);
        int k = s.kind;
        while (k != a[1] && k >= 0) k = UP[k];
        ask(k >= 0, 5);
        return s.m;
      }
      case "lay": {
        One s = one(a[0]);
        in(a[1], 0, 5);
        in(a[2], 0, 7);
        ask(mayLie(s, a[1], a[2]), 3);
        s.row = a[1];
        s.place = a[2];
        return dryOf(now.slates).size();
      }
      case "lift": {
        One s = one(a[0]);
        ask(s.row >= 0, 3);
        s.row = -1;
        s.place = -1;
        return dryOf(now.slates).size();
      }
      case "nail": {
        One s = one(a[0]);
        in(a[1], 0, 9);
        int was = s.nails;
        s.nails = a[1];
        return was;
      }
      case "sells": {
        in(a[0], 0, 1);
        int was = now.sold;
        now.sold = a[0];
        return was;
      }
      case "feed": {
        in(a[1], 1, 8);
        ask(now.tape.size() + a[1] <= 60, 4);
        for (int i = 0; i < a[1]; i++) now.tape.add((int) (l[0] >> 8 * i) & 255);
        return now.tape.size();
      }
      case "text": {
        in(a[0], 0, 1);
        int fault = fault(now.tape, a[0]);
        StringBuilder t = new StringBuilder();
        for (int b : now.tape) t.append((char) b);
        now.tape.clear();
        if (fault >= 0) return -10 - fault;
        now.texts[a[0]] = t.toString();
        return 1;
      }
      case "untell": {
        in(a[0], 0, 1);
        int was = now.texts[a[0]] == null ? 0 : 1;
        now.texts[a[0]] = null;
        return was;
      }
      case "law": {
        in(a[0], 0, 1);
        return given(a[0], a[1], a[2], a[3]);
      }
      case "gale": {
        in(a[0], 0, 40);
        return blow(a[0]);
      }
      case "years": {
        in(a[0], 1, 60);
        ask(now.year + a[0] <= 9999, 3);
        for (int i = 0; i < a[0]; i++) passYear();
        return now.tub;
      }
      case "loose": {
        in(a[0], 1, 20);
        ask(now.year + a[0] <= 9999, 3);
        int all = 0;
        for (int i = 0; i < a[0]; i++) {
          all |= blow(draw() % 40);
          if (!now.slates.isEmpty()) {
            One s = now.slates.get(draw() % now.slates.size());
            int cell = draw() % 48;
            if (s.row < 0 && mayLie(s, cell / 8, cell % 8)) {
              s.row = cell / 8;
              s.place = cell % 8;
            }
          }
          passYear();
        }
        return all;
      }
      case "seed": {
        int was = now.z;
        now.z = a[0];
        return was;
      }
      default:
        return thought(name, a);
    }
  }

  private long thought(String name, int[] a) {
    switch (name) {
      case "dry": {
        in(a[0], 0, 2);
        Set<Integer> dry = dryOf(now.slates);
        if (a[0] == 0) {
          long b = 0;
          for (int c : dry) b += 1L << c;
          return b;
        }
        if (a[0] == 1) return dry.size();
        for (int c = 0; c < 48; c++) if (!dry.contains(c)) return c;
        throw new Error(2);
      }
      case "over": {
        in(a[0], 0, 47);
        in(a[1], 0, 1);
        Set<Integer> set = new TreeSet<>();
        for (int i = 0; i < now.slates.size(); i++) if (covers(now.slates.get(i)).contains(a[0])) set.add(i);
        boolean more = a[1] == 1;
        while (more) {
          more = false;
          for (int i : new ArrayList<>(set)) {
            One s = now.slates.get(i);
            for (int j = 0; j < now.slates.size(); j++) {
              One t = now.slates.get(j);
              if (t.row >= 0 && t.row == s.row - 1 && meet(covers(t), own(s))) more |= set.add(j);
            }
          }
        }
        return bits(set);
      }
      case "lifts": {
        in(a[0], 0, 40);
        in(a[1], 0, 1);
        return a[1] == 0 ? bits(lifted(a[0], 0)) : dryOf(left(a[0])).size();
      }
      case "fast": {
        in(a[0], 0, 40);
        in(a[1], 0, 1);
        int best = (1 << now.slates.size()) - 1;
        for (int set = best; set >= 0; set--) {
          if (Integer.bitCount(set) <= Integer.bitCount(best) && lifted(a[0], set).isEmpty()) best = set;
        }
        return a[1] == 0 ? Integer.bitCount(best) : best;
      }
      case "best": {
        One s = one(a[0]);
        in(a[1], 0, 1);
        int row = s.row;
        int place = s.place;
        int cell = -1;
        int most = -1;
        for (int c = 0; c < 48; c++) {
          if (!mayLie(s, c / 8, c % 8)) continue;
          s.row = c / 8;
          s.place = c % 8;
          int many = dryOf(now.slates).size();
          if (many > most) {
            most = many;
            cell = c;
          }
          s.row = row;
          s.place = place;
        }
        ask(cell >= 0, 2);
        return a[1] == 0 ? cell : most;
      }
      case "rings": {
        int pairs = 0;
        List<One> all = now.slates;
        for (int i = 0; i < all.size(); i++) {
          for (int j = 0; j < all.size(); j++) {
            One s = all.get(i);
            One t = all.get(j);
            if (i == j || s.row < 0 || s.row != t.row || s.place != t.place + broad(t, t.kind)) continue;
            if (s.leant != j && t.leant != i) pairs++;
          }
        }
        return pairs;
      }
      case "odds": {
        in(a[0], 0, 47);
        in(a[1], 0, 1);
        int n = 0;
        for (int g = 0; g < 40; g++) if (dryOf(left(g)).contains(a[0])) n++;
        int d = BigInteger.valueOf(n).gcd(BigInteger.valueOf(40)).intValue();
        return a[1] == 0 ? n / d : 40 / d;
      }
      case "fits": {
        in(a[0], 0, 3);
        in(a[1], 0, 1);
        ask(sheets[a[0]] != null, 2);
        List<Integer> good = new ArrayList<>();
        for (int g = 0; g <= 40; g++) {
          int[] rows = new int[6];
          for (int c : dryOf(left(g))) rows[c / 8]++;
          boolean so = true;
          for (int i = 0; i < sheets[a[0]].length; i++) so &= i < 6 && rows[i] == sheets[a[0]][i];
          if (so) good.add(g);
        }
        if (a[1] == 0) return good.size();
        ask(!good.isEmpty(), 2);
        return good.get(0);
      }
      default:
        return rest(name, a);
    }
  }

  private long rest(String name, int[] a) {
    switch (name) {
      case "voice": {
        One s = one(a[0]);
        in(a[1], 0, 3);
        trace.clear();
        VSlate v = singer(s.kind);
        v.k = a[0];
        v.m = s.m;
        v.t = trace;
        try {
          return a[1] == 0 ? v.drips(a[2]) : a[1] == 1 ? v.rings(a[2]) : a[1] == 2 ? v.creaks(a[2]) : v.parts(a[2]);
        } catch (Parted p) {
          throw new Error(6);
        }
      }
      case "body":
        ask(a[0] >= 0 && a[0] < trace.size(), 2);
        return trace.get(a[0]);
      case "sheet": {
        in(a[0], 0, 3);
        ask(a[1] == 0 || a[1] == 8 || a[1] == 16 || a[1] == 32, 1);
        sheetBits[a[0]] = a[1] == 0 ? 0 : sheetBits[a[0]];
        if (a[1] == 0) {
          sheets[a[0]] = null;
          return 1;
        }
        ask(a[2] >= 0, 3);
        ask(a[2] <= 24, 1);
        sheets[a[0]] = new long[a[2]];
        sheetBits[a[0]] = a[1];
        return 1;
      }
      case "put": {
        in(a[0], 0, 3);
        ask(sheets[a[0]] != null, 2);
        in(a[1], 0, sheets[a[0]].length - 1);
        long low = a[2] & ((1L << sheetBits[a[0]]) - 1);
        long half = 1L << (sheetBits[a[0]] - 1);
        sheets[a[0]][a[1]] = low >= half ? low - 2 * half : low;
        return 1;
      }
      case "move": {
        in(a[0], 0, 3);
        in(a[2], 0, 3);
        ask(sheets[a[0]] != null && sheets[a[2]] != null, 2);
        ask(sheetBits[a[0]] == sheetBits[a[2]], 5);
        in(a[4], 0, 99);
        in(a[1], 0, (long) sheets[a[0]].length - a[4]);
        in(a[3], 0, (long) sheets[a[2]].length - a[4]);
        long[] from = sheets[a[0]].clone();
        for (int i = 0; i < a[4]; i++) sheets[a[2]][a[3] + i] = from[a[1] + i];
        return a[4];
      }
      case "nailed": {
        in(a[0], 0, 3);
        ask(sheets[a[0]] != null, 2);
        int done = 0;
        for (long v : sheets[a[0]]) {
          if (v < 0 || v > 9 || done == now.slates.size()) break;
          now.slates.get(done).nails = (int) v;
          done++;
        }
        return done;
      }
      case "judge": {
        in(a[0], 0, 3);
        ask(sheets[a[0]] != null, 2);
        int right = 0;
        for (long v : sheets[a[0]]) {
          if (right == now.slates.size()) break;
          One s = now.slates.get(right);
          if (v != (s.row < 0 ? -1 : 8 * s.row + s.place)) break;
          right++;
        }
        return right;
      }
      case "image":
        kept = now.twin();
        return ++images;
      case "restore":
        ask(kept != null, 2);
        now = kept.twin();
        return now.year;
      case "tell":
        ask(now.waits.size() < 24, 4);
        now.waits.add(a[0]);
        return now.waits.size();
      case "check": {
        List<Integer> all = now.waits;
        now.waits = new ArrayList<>();
        for (int i = 0; i < all.size(); i++) {
          if (i >= now.slates.size() || now.slates.get(i).age != all.get(i)) return 1 + i;
        }
        return 0;
      }
      case "count":
        in(a[0], 0, 7);
        return new int[] {now.slates.size(), now.year, now.sold, now.tub, now.tape.size(), now.waits.size(),
            trace.size(), now.z}[a[0]];
      case "told":
        in(a[0], 1, 6);
        return errors[a[0]];
      default:
        throw new IllegalArgumentException(name);
    }
  }
}
