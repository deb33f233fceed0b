import java.util.ArrayList;
import java.util.List;
import java.util.TreeMap;

/**
 * Runs of drawn calls, answered by PotHandles and by a second program that was written from the
 * document in another way (kinds as classes, errors as exceptions, TEXTS by cutting them up).
 */
public final class OracleTest {
  private static final int RUNS = 600;
  private static final int CALLS = 512;

  public static void main(String[] args) {
    int wrong = 0;
    TreeMap<String, Integer> seen = new TreeMap<>();
    for (int run = 0; run < RUNS && wrong < 5; run++) {
      wrong += runOnce(run, seen) ? 0 : 1;
    }
    String[] unseen = missing(seen);
    for (String name : unseen) {
      System.out.println("no run had " + name);
    }
    boolean good = wrong == 0 && unseen.length == 0;
    System.out.println(good ? "both programs answer alike" : wrong + " runs differ");
    if (!good) {
      System.exit(1);
    }
  }

  /** What the runs must have come to, lest they test nothing. */
  private static String[] missing(TreeMap<String, Integer> seen) {
    String[] wanted = {
      "pot FULL", "feed FULL", "tell FULL", "text fine", "text fault", "years STATE", "loose STATE",
      "shift STATE", "stick STATE", "place STATE", "whose STATE", "sheet STATE", "as KIND",
      "move KIND", "move NONE", "put NONE", "uses NONE", "judge NONE", "whose NONE", "when NONE",
      "use NONE", "needed NONE", "trace NONE", "restore NONE", "when fine", "use fine",
      "needed fine", "whose fine", "dealer fine", "check fine", "judge fine", "restore fine"
    };
    List<String> missing = new ArrayList<>();
    for (String name : wanted) {
      if (!seen.containsKey(name)) {
        missing.add(name);
      }
    }
    return missing.toArray(new String[0]);
  }

  private static boolean runOnce(int run, TreeMap<String, Integer> seen) {
    Draw draw = new Draw(run);
    PotHandles x = new PotHandles();
    Oracle o = new Oracle();
    StringBuilder log = new StringBuilder();
    int style = run % 4;
    for (int i = 0; i < CALLS; i++) {
      Call call = Call.drawn(draw, style, o);
      long want = call.askOracle(o);
      long got;
      log.append("  ").append(call).append(" = ").append(want).append('\n');
      try {
        got = call.ask(x);
      } catch (RuntimeException e) {
        System.out.println("run " + run + ":\n" + log + "  threw " + e);
        return false;
      }
      note(seen, call.name, want);
      if (got != want) {
        System.out.println("run " + run + ":\n" + log + "  but answered " + got);
        return false;
      }
    }
    return true;
  }

  private static void note(TreeMap<String, Integer> seen, String name, long want) {
    String[] errors = {"", "BEYOND", "NONE", "STATE", "FULL", "KIND"};
    long k = -1000000000L - want;
    String end = k >= 1 && k <= 5 ? errors[(int) k] : want <= -10 && name.equals("text") ? "fault" : "fine";
    if (name.equals("dealer") && want < 0) {
      end = "none";
    }
    seen.merge(name + " " + end, 1, Integer::sum);
  }

  /** Numbers from a seed: the same each time. */
  static final class Draw {
    private long state;

    Draw(long seed) {
      state = seed * 0x9E3779B97F4A7C15L + 12345;
    }

    int below(int n) {
      state = state * 6364136223846793005L + 1442695040888963407L;
      return (int) ((state >>> 33) % n);
    }

    int any() {
      state = state * 6364136223846793005L + 1442695040888963407L;
      int[] odd = {Integer.MIN_VALUE, Integer.MAX_VALUE, -1, 0, 1, 1 << 30, -1000000001, 255, 32768};
      int pick = (int) (state >>> 40 & 15);
      return pick < odd.length ? odd[pick] : (int) (state >>> 20);
    }

    /** Mostly 0 .. most, now and then a bit or far outside. */
    int near(int most) {
      int kind = below(60);
      if (kind == 0) {
        return any();
      }
      return kind < 3 ? -1 - below(2) + below(2) * (most + 2) : below(most + 1);
    }
  }

  /** One call with what it is given. */
  static final class Call {
    final String name;
    final int[] a;
    final long word;

    Call(String name, long word, int... a) {
      this.name = name;
      this.a = a;
      this.word = word;
    }

    static Call drawn(Draw d, int style, Oracle o) {
      int p = Math.max(0, o.now.pots.size() - 1);
      if (style == 1 && d.below(2) == 0) {
        return d.below(4) == 0 ? new Call("loose", 0, 40) : new Call("years", 0, 60);
      }
      int pick = d.below(100);
      if (pick < 8) {
        return new Call("pot", 0, d.near(69), d.near(4), d.near(9));
      }
      if (pick < 13) {
        return new Call("house", 0, d.near(4), d.near(1), d.near(9));
      }
      if (pick < 20) {
        return new Call("feed", word(d), style == 2 ? 1 + d.below(4) : d.near(8));
      }
      if (pick < 23) {
        return new Call("text", 0, d.near(1));
      }
      if (pick < 27) {
        return new Call(d.below(3) == 0 ? "loose" : "years", 0, d.near(style == 0 ? 6 : style == 3 ? 1 : 60));
      }
      switch (pick) {
        case 27: case 28: return new Call("change", 0, d.near(p), 0, d.near(9));
        case 29: case 30: return new Call("change", 0, d.near(p), d.near(2), d.near(999));
        case 31: return new Call("change", 0, d.near(p), 2, d.near(20));
        case 32: case 33: return new Call("shift", 0, d.near(p), d.near(4));
        case 34: case 35: return new Call("stick", 0, d.near(p));
        case 36: case 37: return new Call("become", 0, d.near(p), d.near(69));
        case 38: return new Call("as", 0, d.near(p), d.near(6));
        case 39: return new Call("ofHouse", 0, d.near(4), d.near(2));
        case 40: case 41: case 42: return new Call("ofPot", 0, d.near(p), d.near(9));
        case 43: case 44: return new Call("law", 0, d.near(1), d.near(9), d.near(9), d.near(9));
        case 45: return new Call("law", 0, d.near(1), d.any(), d.any(), d.any());
        case 46: case 47: return new Call("then", 0, d.near(60), d.near(p), d.near(2));
        case 48: case 49: return new Call("when", 0, d.near(p));
        case 50: case 51: return new Call("shelf", 0, d.near(4), d.near(60));
        case 52: case 53: case 54: return new Call("place", 0, d.near(p), d.near(60), d.near(1));
        case 55: case 56: return new Call("use", 0, d.near(p), d.near(60));
        case 57: case 58: return new Call("needed", 0, d.near((1 << p + 1) - 1), d.near(20));
        case 59: return new Call("needed", 0, 1 << d.below(p + 1), 11 + d.below(10));
        case 60: case 61: return new Call("carry", 0, d.near(4));
        case 62: return new Call("richest", 0, d.near(60), d.near(1));
        case 63: return new Call("breaks", 0, d.near(60));
        case 64: case 65: return new Call("dealer", 0, d.near(30));
        case 66: case 67: case 68: return new Call("odds", 0, d.near(p), d.near(60), d.near(1));
        case 69: return new Call("seed", 0, d.any());
        case 70: case 71: case 72: return new Call("voice", 0, d.near(p), d.near(3), d.below(2) == 0 ? d.any() : d.below(20));
        case 73: case 74: return new Call("trace", 0, d.near(8));
        case 75: case 76: return new Call("sheet", 0, d.near(3), bits(d), d.below(3) == 0 ? o.now.pots.size() : d.near(40));
        case 77: case 78: return new Call("put", 0, d.near(3), d.near(5), d.below(4) == 0 ? d.any() : d.below(10));
        case 79: case 80: return new Call("move", 0, d.near(3), d.near(3), d.near(3), d.near(3), d.near(3));
        case 81: return new Call("uses", 0, d.near(3));
        case 82: return new Call("judge", 0, d.near(3));
        case 83: return new Call("image", 0);
        case 84: return d.below(4) == 0 ? new Call("restore", 0) : new Call("image", 0);
        case 85: case 86: return new Call("tell", 0, d.below(2) == 0 ? d.any() : o.now.handles());
        case 87: return new Call(d.below(8) == 0 ? "check" : "tell", 0, o.now.handles() + d.below(2));
        case 88: case 89: case 90: case 91: return new Call("count", 0, d.near(9));
        case 92: case 93: return new Call("told", 0, d.near(5));
        case 94: case 95: return fitting(d, o, p);
        case 96: case 97: return new Call("whose", 0, d.near(3), d.near(p), d.near(1));
        case 98: return new Call("put", 0, d.near(3), d.below(40), o.liked(d.below(p + 1)));
        default: return new Call("change", 0, d.near(p), 1, d.below(60));
      }
    }

    /** A SHEET's number as a POT will be LIKED, or as it has HANDLES. */
    private static Call fitting(Draw d, Oracle o, int p) {
      int sheet = d.below(4);
      int pot = d.below(p + 1);
      int i = d.below(12);
      if (o.now.pots.isEmpty()) {
        return new Call("whose", 0, sheet, pot, 0);
      }
      if (d.below(3) == 0) {
        return new Call("put", 0, sheet, pot, o.now.pots.get(pot).handles);
      }
      return new Call("put", 0, sheet, i, o.behind(i).pots.get(pot).liked);
    }

    private static int bits(Draw d) {
      int[] bits = {8, 16, 32, 0, 8, 16, 32, 8, 16, 32, 7, -8, 64, 16};
      return bits[d.below(bits.length)];
    }

    private static long word(Draw d) {
      String[] often = {
        "u*c/5", "u+c", "9", "(u+h)*2", "u>c", "u<3|c>7", "!u*9", "h%3+u", "y=4", "(y=4)*9", "n*3-u",
        "y>10&n>1", "n", "u|n&y", "(((((u)))))", "!!!!!u", "!(!(!u))", "1234", "0", "u/0", "u-9", "99",
        "(u=9)*7", "(y=12)*(n>2)*9"
      };
      String signs = "uchyn0123456789+-*/%<=>&|!()!(";
      String text = often[d.below(often.length)];
      if (d.below(2) == 0) {
        StringBuilder b = new StringBuilder();
        for (int i = 0; i < 8; i++) {
          b.append(signs.charAt(d.below(signs.length())));
        }
        text = b.toString();
      }
      long word = 0;
      for (int i = 0; i < 8; i++) {
        long sign = i < text.length() ? text.charAt(i) : d.below(5) == 0 ? d.below(256) : '+';
        word |= sign << (8 * i);
      }
      return word;
    }

    long ask(PotHandles x) {
      switch (name) {
        case "house": return x.house(a[0], a[1], a[2]);
        case "ofHouse": return x.ofHouse(a[0], a[1]);
        case "pot": return x.pot(a[0], a[1], a[2]);
        case "ofPot": return x.ofPot(a[0], a[1]);
        case "change": return x.change(a[0], a[1], a[2]);
        case "shift": return x.shift(a[0], a[1]);
        case "stick": return x.stick(a[0]);
        case "become": return x.become(a[0], a[1]);
        case "as": return x.as(a[0], a[1]);
        case "feed": return x.feed(word, a[0]);
        case "text": return x.text(a[0]);
        case "law": return x.law(a[0], a[1], a[2], a[3]);
        case "years": return x.years(a[0]);
        case "loose": return x.loose(a[0]);
        case "then": return x.then(a[0], a[1], a[2]);
        case "when": return x.when(a[0]);
        case "shelf": return x.shelf(a[0], a[1]);
        case "place": return x.place(a[0], a[1], a[2]);
        case "use": return x.use(a[0], a[1]);
        case "needed": return x.needed(a[0], a[1]);
        case "whose": return x.whose(a[0], a[1], a[2]);
        case "carry": return x.carry(a[0]);
        case "richest": return x.richest(a[0], a[1]);
        case "breaks": return x.breaks(a[0]);
        case "dealer": return x.dealer(a[0]);
        case "odds": return x.odds(a[0], a[1], a[2]);
        case "seed": return x.seed(a[0]);
        case "voice": return x.voice(a[0], a[1], a[2]);
        case "trace": return x.trace(a[0]);
        case "sheet": return x.sheet(a[0], a[1], a[2]);
        case "put": return x.put(a[0], a[1], a[2]);
        case "move": return x.move(a[0], a[1], a[2], a[3], a[4]);
        case "uses": return x.uses(a[0]);
        case "judge": return x.judge(a[0]);
        case "image": return x.image();
        case "restore": return x.restore();
        case "tell": return x.tell(a[0]);
        case "check": return x.check();
        case "count": return x.count(a[0]);
        default: return x.told(a[0]);
      }
    }

    long askOracle(Oracle o) {
      try {
        return o.answer(name, a, word);
      } catch (Oracle.Err e) {
        o.told[e.k]++;
        return -1000000000L - e.k;
      }
    }

    @Override
    public String toString() {
      StringBuilder b = new StringBuilder(name).append('(');
      if (name.equals("feed")) {
        b.append(word).append("L, ");
      }
      for (int i = 0; i < a.length; i++) {
        b.append(i == 0 ? "" : ", ").append(a[i]);
      }
      return b.append(')').toString();
    }
  }

  /** The second program. */
  static final class Oracle {
    static final int BEYOND = 1;
    static final int NONE = 2;
    static final int STATE = 3;
    static final int FULL = 4;
    static final int KIND = 5;

    static final class Err extends RuntimeException {
      private static final long serialVersionUID = 1L;
      final int k;

      Err(int k) {
        super(null, null, false, false);
        this.k = k;
      }
    }

    /** All that an IMAGE keeps. */
    static final class World {
      int[] hands = {2, 2, 2, 2, 2};
      int[] care = {5, 5, 5, 5, 5};
      List<P> pots = new ArrayList<>();
      int year;
      int broken;
      String[] texts = {null, null};
      String tape = "";
      List<Integer> waiting = new ArrayList<>();
      int z = 1;

      World copy() {
        World w = new World();
        w.hands = hands.clone();
        w.care = care.clone();
        for (P p : pots) {
          w.pots.add(p.copyAs(p.kind()));
        }
        w.year = year;
        w.broken = broken;
        w.texts = texts.clone();
        w.tape = tape;
        w.waiting = new ArrayList<>(waiting);
        w.z = z;
        return w;
      }

      int handles() {
        return pots.stream().mapToInt(p -> p.handles).sum();
      }

      int law(int use, int a, int b, int c) {
        String text = texts[use];
        int v = text == null ? (use == 0 ? a * b / 5 : 0) : new Text(text, use, a, b, c).worth();
        return v < 0 ? 0 : v > 99 ? 99 : v;
      }

      World after(int n) {
        World w = copy();
        for (int i = 0; i < n; i++) {
          w.year();
        }
        return w;
      }

      void year() {
        for (P p : pots) {
          if (p.house == -1) {
            continue;
          }
          p.liked = Math.min(999, p.liked + p.warms(law(0, p.used, care[p.house], hands[p.house])));
          p.years = Math.min(999, p.years + 1);
          if (p.years >= 11 && p.liked >= p.wants() && p.handles < p.bears()) {
            p.liked = p.liked - p.wants();
            p.handles = p.handles + 1;
          }
          int in = 0;
          for (P q : pots) {
            in += q.house == p.house ? 1 : 0;
          }
          if (law(1, p.used, year - year / 13 * 13, in) > care[p.house]) {
            p.house = -1;
            broken = Math.min(999, broken + 1);
          }
        }
        year++;
      }
    }

    static class P {
      int m;
      int n;
      int house;
      int used;
      int liked;
      int years;
      int handles;
      boolean fals;
      List<Integer> trace;

      static P of(int kind) {
        switch (kind) {
          case 0: return new P();
          case 1: return new Crock();
          case 2: return new Jug();
          case 3: return new Cup();
          case 4: return new Stuck();
          case 5: return new Rooks();
          default: return new Chipped();
        }
      }

      P copyAs(int kind) {
        P p = of(kind);
        p.m = m;
        p.n = n;
        p.house = house;
        p.used = used;
        p.liked = liked;
        p.years = years;
        p.handles = handles;
        p.fals = fals;
        return p;
      }

      int kind() {
        return 0;
      }

      int warms(int v) {
        return v;
      }

      int wants() {
        return 50;
      }

      int bears() {
        return 1;
      }

      void moved(int to) {
        if (to == house) {
          return;
        }
        house = to;
        years = 0;
        liked = liked / 2;
        if (fals) {
          fals = false;
          handles = 0;
        }
      }

      int sayHolds(int x) {
        trace.add(10);
        return x + n;
      }

      int sayWarms(int x) {
        trace.add(11);
        return sayHolds(x) * 2;
      }

      int sayGrows(int x) {
        trace.add(12);
        return x - m;
      }

      int sayTells(int x) {
        trace.add(13);
        return sayWarms(x) ^ sayGrows(x);
      }
    }

    static class Crock extends P {
      @Override int kind() { return 1; }
      @Override int warms(int v) { return v + m; }
      @Override int wants() { return 2 * super.wants(); }
      @Override int sayHolds(int x) { trace.add(20); return super.sayHolds(x) * 3; }
    }

    static class Jug extends P {
      @Override int kind() { return 2; }
      @Override int warms(int v) { return v + v; }
      @Override int wants() { return super.wants() - m; }
      @Override int bears() { return 2; }
      @Override int sayWarms(int x) { trace.add(30); return super.sayWarms(x) - sayGrows(1); }
    }

    static class Cup extends P {
      @Override int kind() { return 3; }
      @Override int warms(int v) { return v / 2; }
      @Override int wants() { return 20; }
      @Override int sayGrows(int x) { trace.add(40); return -super.sayGrows(x); }
    }

    static final class Stuck extends Crock {
      @Override int kind() { return 4; }
      @Override int warms(int v) { return handles != 0 ? 0 : super.warms(v); }
      @Override int sayTells(int x) { trace.add(50); return super.sayTells(x) - sayHolds(2); }
    }

    static final class Rooks extends Jug {
      @Override int kind() { return 5; }
      @Override int warms(int v) { return super.warms(v) + handles; }
      @Override int wants() { return handles == 0 ? super.wants() : 2 * super.wants(); }
      @Override int bears() { return 3; }
      @Override int sayWarms(int x) { trace.add(60); return super.sayWarms(x + 1); }
    }

    static final class Chipped extends Cup {
      @Override int kind() { return 6; }
      @Override int warms(int v) { return Math.max(super.warms(v) - 1, 0); }
      @Override int wants() { return super.wants() + 10; }
      @Override int sayGrows(int x) { trace.add(70); return super.sayGrows(x) ^ n; }
      @Override int sayTells(int x) { trace.add(71); return sayWarms(x) - super.sayTells(x); }
    }

    /** A TEXT, by cutting it at its last sign of each rank. */
    static final class Text {
      static final String[] RANKS = {"|", "&", "<=>", "+-", "*/%"};
      final String text;
      final String names;
      final int[] values;

      Text(String text, int use, int... values) {
        this.text = text;
        this.names = use == 0 ? "uch" : "uyn";
        this.values = values;
      }

      int worth() {
        Integer v = cut(text, 0, 0);
        if (v == null) {
          throw new IllegalStateException("no TEXT: " + text);
        }
        return v;
      }

      boolean isText() {
        return cut(text, 0, 0) != null;
      }

      /** null: it isn't one. */
      private Integer cut(String s, int rank, int open) {
        if (rank == 5) {
          return last(s, open);
        }
        int at = lastOf(s, RANKS[rank]);
        if (at < 0) {
          return cut(s, rank + 1, open);
        }
        Integer left = cut(s.substring(0, at), rank == 2 ? 3 : rank, open);
        Integer right = cut(s.substring(at + 1), rank + 1, open);
        if (left == null || right == null) {
          return null;
        }
        return joined(s.charAt(at), left, right);
      }

      private static int lastOf(String s, String signs) {
        int deep = 0;
        for (int i = s.length() - 1; i >= 0; i--) {
          char c = s.charAt(i);
          deep += c == ')' ? 1 : c == '(' ? -1 : 0;
          if (deep == 0 && signs.indexOf(c) >= 0) {
            return i;
          }
        }
        return -1;
      }

      private static int joined(char c, int a, int b) {
        switch (c) {
          case '|': return a != 0 | b != 0 ? 1 : 0;
          case '&': return a != 0 & b != 0 ? 1 : 0;
          case '<': return a < b ? 1 : 0;
          case '=': return a == b ? 1 : 0;
          case '>': return a > b ? 1 : 0;
          case '+': return a + b;
          case '-': return a - b;
          case '*': return a * b;
          case '/': return b == 0 ? 0 : (int) ((long) a / b);
          default: return b == 0 ? 0 : (int) ((long) a % b);
        }
      }

      private Integer last(String s, int open) {
        if (s.matches("[0-9]{1,4}")) {
          return Integer.valueOf(s);
        }
        if (s.length() == 1 && names.contains(s)) {
          return values[names.indexOf(s)];
        }
        if (open < 5 && s.startsWith("!")) {
          Integer v = last(s.substring(1), open + 1);
          return v == null ? null : v == 0 ? 1 : 0;
        }
        if (open < 5 && s.startsWith("(") && s.endsWith(")")) {
          return cut(s.substring(1, s.length() - 1), 0, open + 1);
        }
        return null;
      }

      /** The first byte with which no TEXT goes on: every TEXT that goes on may end soon. */
      static int fault(String tape, int use) {
        for (int n = 1; n <= tape.length(); n++) {
          if (!goesOn(tape.substring(0, n), use)) {
            return n - 1;
          }
        }
        return tape.length();
      }

      private static boolean goesOn(String begun, int use) {
        for (String end : new String[] {"", "u"}) {
          String s = begun + end;
          for (int i = 0; i <= 5; i++) {
            if (new Text(s, use, 1, 1, 1).isText()) {
              return true;
            }
            s = s + ")";
          }
        }
        return false;
      }
    }

    World now = new World();
    World image;
    int images;
    int[] told = new int[6];
    List<Integer> trace = new ArrayList<>();
    long[][] sheets = new long[4][];
    int[] bits = new int[4];

    World behind(int n) {
      return now.after(n);
    }

    int liked(int pot) {
      return pot < now.pots.size() ? now.pots.get(pot).liked : 0;
    }

    static void need(boolean good, int k) {
      if (!good) {
        throw new Err(k);
      }
    }

    static void within(int v, int from, int to) {
      need(v >= from && v <= to, BEYOND);
    }

    P pot(int p) {
      within(p, 0, now.pots.size() - 1);
      return now.pots.get(p);
    }

    long answer(String name, int[] a, long word) {
      switch (name) {
        case "house": case "ofHouse": case "pot": case "ofPot": case "change": case "shift":
        case "stick": case "become": case "as": return things(name, a);
        case "feed": case "text": case "law": case "years": case "loose": return time(name, a, word);
        case "sheet": case "put": case "move": case "uses": case "judge": return rows(name, a);
        case "seed": case "voice": case "trace": case "image": case "restore": case "tell":
        case "check": case "count": case "told": return rest(name, a);
        default: return thoughts(name, a);
      }
    }

    private long things(String name, int[] a) {
      if (name.equals("house")) {
        within(a[0], 0, 4);
        within(a[1], 0, 1);
        within(a[2], 0, 9);
        int[] row = a[1] == 0 ? now.hands : now.care;
        int was = row[a[0]];
        row[a[0]] = a[2];
        return was;
      }
      if (name.equals("ofHouse")) {
        within(a[0], 0, 4);
        within(a[1], 0, 2);
        return a[1] == 0 ? now.hands[a[0]] : a[1] == 1 ? now.care[a[0]] : in(now, a[0]);
      }
      if (name.equals("pot")) {
        within(a[0], 0, 69);
        within(a[1], 0, 4);
        within(a[2], 0, 9);
        need(now.pots.size() < 10, FULL);
        P p = P.of(a[0] / 10);
        p.m = a[0] % 10;
        p.n = now.pots.size();
        p.house = a[1];
        p.used = a[2];
        now.pots.add(p);
        return p.n;
      }
      P p = pot(a[0]);
      switch (name) {
        case "ofPot":
          within(a[1], 0, 9);
          return new int[] {
            p.kind(), p.m, p.house, p.used, p.liked, p.years, p.handles, p.fals ? 1 : 0, p.wants(), p.bears()
          }[a[1]];
        case "change": return changed(p, a[1], a[2]);
        case "shift": {
          within(a[1], 0, 4);
          need(p.house != -1 && p.house != a[1], STATE);
          int was = p.house;
          p.moved(a[1]);
          return was;
        }
        case "stick":
          need(p.house != -1 && p.handles == 0, STATE);
          p.handles = 1;
          p.fals = true;
          return p.liked;
        case "become": {
          within(a[1], 0, 69);
          P q = p.copyAs(a[1] / 10);
          q.m = a[1] % 10;
          now.pots.set(a[0], q);
          return p.kind();
        }
        default: {
          within(a[1], 0, 6);
          Class<?>[] kinds = {P.class, Crock.class, Jug.class, Cup.class, Stuck.class, Rooks.class, Chipped.class};
          need(kinds[a[1]].isInstance(p), KIND);
          return p.m;
        }
      }
    }

    private static long changed(P p, int what, int v) {
      within(what, 0, 2);
      within(v, 0, what == 0 ? 9 : 999);
      int was;
      switch (what) {
        case 0: was = p.used; p.used = v; break;
        case 1: was = p.liked; p.liked = v; break;
        default: was = p.years; p.years = v; break;
      }
      return was;
    }

    private long time(String name, int[] a, long word) {
      switch (name) {
        case "feed":
          within(a[0], 1, 8);
          need(now.tape.length() + a[0] <= 50, FULL);
          for (int i = 0; i < a[0]; i++) {
            now.tape += (char) (word >> 8 * i & 255);
          }
          return now.tape.length();
        case "text": {
          within(a[0], 0, 1);
          String tape = now.tape;
          now.tape = "";
          if (!new Text(tape, a[0], 1, 1, 1).isText()) {
            return -10 - Text.fault(tape, a[0]);
          }
          now.texts[a[0]] = tape;
          return 1;
        }
        case "law":
          within(a[0], 0, 1);
          return now.law(a[0], a[1], a[2], a[3]);
        default:
          within(a[0], 1, name.equals("years") ? 60 : 40);
          need(now.year + a[0] <= 9999, STATE);
          for (int i = 0; i < a[0]; i++) {
            if (name.equals("loose")) {
              now.z = now.z * 1103515245 + 12345;
              int g = now.z >>> 8;
              if (!now.pots.isEmpty()) {
                now.pots.get(g % now.pots.size()).used = (g / 8) % 10;
              }
            }
            now.year();
          }
          return now.handles();
      }
    }

    private static int in(World w, int house) {
      int set = 0;
      for (P p : w.pots) {
        set += p.house == house ? 1 << p.n : 0;
      }
      return set;
    }

    private long thoughts(String name, int[] a) {
      switch (name) {
        case "then": {
          within(a[0], 0, 60);
          pot(a[1]);
          within(a[2], 0, 2);
          P p = behind(a[0]).pots.get(a[1]);
          return a[2] == 0 ? p.liked : a[2] == 1 ? p.handles : p.house;
        }
        case "when": {
          P p = pot(a[0]);
          for (int n = 0; n <= 60; n++) {
            if (behind(n).pots.get(a[0]).handles > p.handles) {
              return n;
            }
          }
          throw new Err(NONE);
        }
        case "shelf": {
          within(a[0], 0, 4);
          within(a[1], 0, 60);
          int set = 0;
          for (P p : behind(a[1]).pots) {
            set |= p.house == a[0] && p.handles > 0 ? 1 << p.n : 0;
          }
          return set;
        }
        case "place": return placed(a);
        case "use":
          pot(a[0]);
          within(a[1], 0, 60);
          for (int used = 0; used < 10; used++) {
            World w = now.copy();
            w.pots.get(a[0]).used = used;
            if (w.after(a[1]).pots.get(a[0]).handles > pot(a[0]).handles) {
              return used;
            }
          }
          throw new Err(NONE);
        case "needed": return need(a);
        case "whose": return whose(a);
        case "carry": {
          within(a[0], 0, 4);
          return carried(a[0]);
        }
        case "richest": {
          within(a[0], 0, 60);
          within(a[1], 0, 1);
          int[] many = new int[5];
          for (P p : behind(a[0]).pots) {
            if (p.house >= 0) {
              many[p.house] += p.handles;
            }
          }
          int best = 4;
          for (int h = 4; h >= 0; h--) {
            best = many[h] >= many[best] ? h : best;
          }
          return a[1] == 0 ? best : many[best];
        }
        case "breaks":
          within(a[0], 0, 60);
          return behind(a[0]).broken - now.broken;
        case "dealer": {
          within(a[0], 0, 30);
          int best = -1;
          int most = behind(a[0]).handles();
          for (P p : now.pots) {
            World w = now.copy();
            if (p.handles == 0 && p.house >= 0) {
              w.pots.get(p.n).handles = 1;
              w.pots.get(p.n).fals = true;
            }
            int all = w.after(a[0]).handles();
            if (all > most) {
              most = all;
              best = p.n;
            }
          }
          return best;
        }
        default: return odds(a);
      }
    }

    private long placed(int[] a) {
      P p = pot(a[0]);
      within(a[1], 0, 60);
      within(a[2], 0, 1);
      need(p.house >= 0, STATE);
      int best = -1;
      int bestKey = -1;
      for (int h = 0; h < 5; h++) {
        World w = now.copy();
        w.pots.get(a[0]).moved(h);
        P q = w.after(a[1]).pots.get(a[0]);
        int key = q.handles * 1000 + q.liked;
        if (key > bestKey) {
          bestKey = key;
          best = h;
        }
      }
      return a[2] == 0 ? best : bestKey / 1000;
    }

    private long need(int[] a) {
      within(a[0], 0, (1 << now.pots.size()) - 1);
      within(a[1], 0, 20);
      for (int size = 0; size <= 5; size++) {
        for (int set = 0; set < 32; set++) {
          if (Integer.bitCount(set) != size) {
            continue;
          }
          World w = now.copy();
          for (int h = 0; h < 5; h++) {
            w.care[h] = (set & 1 << h) != 0 ? 9 : w.care[h];
          }
          boolean all = true;
          for (P p : w.after(a[1]).pots) {
            all &= (a[0] & 1 << p.n) == 0 || p.handles > 0;
          }
          if (all) {
            return set;
          }
        }
      }
      throw new Err(NONE);
    }

    private long whose(int[] a) {
      within(a[0], 0, 3);
      P p = pot(a[1]);
      within(a[2], 0, 1);
      need(p.house >= 0, STATE);
      need(sheets[a[0]] != null, NONE);
      int set = 0;
      for (int h = 0; h < 5; h++) {
        World w = now.copy();
        w.pots.get(a[1]).house = h;
        boolean fits = true;
        for (int i = 0; i < sheets[a[0]].length; i++) {
          fits = fits && w.after(i).pots.get(a[1]).liked == sheets[a[0]][i];
        }
        set |= fits ? 1 << h : 0;
      }
      return a[2] == 0 ? set : Integer.bitCount(set);
    }

    /** The most of all sets of POTS of a HOUSE that its HANDS can take. */
    private int carried(int house) {
      int in = in(now, house);
      int most = 0;
      for (int set = 0; set < 1024; set++) {
        if ((set & ~in) != 0) {
          continue;
        }
        int hands = 0;
        for (P p : now.pots) {
          hands += (set & 1 << p.n) == 0 ? 0 : p.handles > 0 ? 1 : 2;
        }
        most = hands <= now.hands[house] ? Math.max(most, Integer.bitCount(set)) : most;
      }
      return most;
    }

    private long odds(int[] a) {
      P p = pot(a[0]);
      within(a[1], 0, 60);
      within(a[2], 0, 1);
      int above = 0;
      for (int h = 0; h < 5 && p.house >= 0; h++) {
        World w = now.copy();
        w.pots.get(a[0]).house = h;
        P q = w.after(a[1]).pots.get(a[0]);
        above += q.house >= 0 && q.handles > 0 ? 1 : 0;
      }
      int below = 5;
      for (int d = 5; d > 1; d--) {
        if (above % d == 0 && below % d == 0) {
          above /= d;
          below /= d;
        }
      }
      return a[2] == 0 ? above : below;
    }

    private long rows(String name, int[] a) {
      within(a[0], 0, 3);
      if (name.equals("sheet")) {
        need(List.of(0, 8, 16, 32).contains(a[1]), BEYOND);
        need(a[1] == 0 || a[2] >= 0, STATE);
        need(a[1] == 0 || a[2] <= 40, BEYOND);
        sheets[a[0]] = a[1] == 0 ? null : new long[a[2]];
        bits[a[0]] = a[1];
        return 1;
      }
      if (name.equals("move")) {
        within(a[2], 0, 3);
      }
      long[] row = sheets[a[0]];
      need(row != null, NONE);
      switch (name) {
        case "put":
          within(a[1], 0, row.length - 1);
          row[a[1]] = (long) a[2] << 64 - bits[a[0]] >> 64 - bits[a[0]];
          return 1;
        case "move": {
          long[] to = sheets[a[2]];
          need(to != null, NONE);
          need(bits[a[0]] == bits[a[2]], KIND);
          need(a[4] >= 0 && a[1] >= 0 && a[3] >= 0, BEYOND);
          need((long) a[1] + a[4] <= row.length && (long) a[3] + a[4] <= to.length, BEYOND);
          long[] were = row.clone();
          for (int i = 0; i < a[4]; i++) {
            to[a[3] + i] = were[a[1] + i];
          }
          return a[4];
        }
        case "uses":
          for (int i = 0; i < row.length; i++) {
            if (i >= now.pots.size() || row[i] < 0 || row[i] > 9) {
              return i;
            }
            now.pots.get(i).used = (int) row[i];
          }
          return row.length;
        default:
          for (int i = 0; i < Math.max(row.length, now.pots.size()); i++) {
            if (i >= row.length || i >= now.pots.size() || row[i] != now.pots.get(i).handles) {
              return i;
            }
          }
          return -1;
      }
    }

    private long rest(String name, int[] a) {
      switch (name) {
        case "seed": {
          int was = now.z;
          now.z = a[0];
          return was;
        }
        case "voice": {
          P p = pot(a[0]);
          within(a[1], 0, 3);
          trace.clear();
          p.trace = trace;
          switch (a[1]) {
            case 0: return p.sayHolds(a[2]);
            case 1: return p.sayWarms(a[2]);
            case 2: return p.sayGrows(a[2]);
            default: return p.sayTells(a[2]);
          }
        }
        case "trace":
          need(a[0] >= 0 && a[0] < Math.min(40, trace.size()), NONE);
          return trace.get(a[0]);
        case "image":
          image = now.copy();
          return ++images;
        case "restore":
          need(image != null, NONE);
          now = image.copy();
          return now.year;
        case "tell":
          need(now.waiting.size() < 20, FULL);
          now.waiting.add(a[0]);
          return now.waiting.size();
        case "check": {
          List<Integer> waited = now.waiting;
          now.waiting = new ArrayList<>();
          for (int i = 0; i < waited.size(); i++) {
            if (behind(i + 1).handles() != waited.get(i)) {
              return 1 + i;
            }
          }
          return 0;
        }
        case "count": return counted(a[0]);
        default:
          within(a[0], 1, 5);
          return told[a[0]];
      }
    }

    private long counted(int what) {
      switch (what) {
        case 0: return now.pots.size();
        case 1: return now.year;
        case 2: return now.broken;
        case 3: return now.handles();
        case 4: return now.pots.stream().mapToInt(p -> p.fals ? 1 << p.n : 0).sum();
        case 5: return in(now, -1);
        case 6: return now.tape.length();
        case 7: return now.waiting.size();
        case 8: return Math.min(40, trace.size());
        case 9: return now.z;
        default: throw new Err(BEYOND);
      }
    }
  }
}
