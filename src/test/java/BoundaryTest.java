/**
 * Each sentence of the document that names a boundary: what is held, the least and the most, empty
 * and full, what wraps around, what is cut. Which arguments are refused is RefusalTest's.
 */
public final class BoundaryTest {
  private static final int LOW = -1000000000;
  private static final int NONE = LOW - 2;
  private static final int STATE = LOW - 3;
  private static final int FULL = LOW - 4;
  private static final int KIND = LOW - 5;
  private static final int MIN = Integer.MIN_VALUE;
  private static final int MAX = Integer.MAX_VALUE;

  private static final int POT = 0;
  private static final int CROCK = 10;
  private static final int JUG = 20;
  private static final int CUP = 30;
  private static final int STUCK = 40;
  private static final int ROOKS = 50;
  private static final int CHIPPED = 60;
  private static final int[] KINDS = {POT, CROCK, JUG, CUP, STUCK, ROOKS, CHIPPED};

  private static final int USED = 0;
  private static final int LIKED = 1;
  private static final int YEARS = 2;

  private static int asked = 0;
  private static int wrong = 0;

  private static void due(String what, long got, long want) {
    asked++;
    if (got != want) {
      wrong++;
      System.out.println(what + ": answered " + got + ", due is " + want);
    }
  }

  public static void main(String[] args) {
    atFirst();
    asOneOfAKind();
    warms();
    grows();
    bears();
    held();
    breaksByCare();
    allBroken();
    moved();
    stuck();
    tape();
    digits();
    open();
    endsTooEarly();
    goesOnWithNone();
    wraps();
    cutAndByZero();
    truth();
    givenIsHeld();
    withoutText();
    yearByThirteen();
    manyInHouse();
    yearsAtTheEnd();
    thoughtBeyondTheEnd();
    behindNone();
    whenAndShelf();
    place();
    use();
    needed();
    whose();
    carry();
    richest();
    breaks();
    dealer();
    odds();
    draws();
    drawsForUsed();
    voicesGoRound();
    trace();
    sheetBits();
    moveFull();
    usesFull();
    judgeFull();
    imageAndRestore();
    waiting();
    sets();
    System.out.println(wrong + " of " + asked + " answers are not as due");
    if (wrong != 0) {
      System.exit(1);
    }
  }

  // ---- helpers

  private static int read(PotHandles x, int use, String text) {
    for (int i = 0; i < text.length(); i++) {
      x.feed(text.charAt(i), 1);
    }
    return x.text(use);
  }

  private static PotHandles withText(int use, String text) {
    PotHandles x = new PotHandles();
    due("text " + text, read(x, use, text), 1);
    return x;
  }

  /** An object where WARMTH gives v always. */
  private static PotHandles warmedBy(int v) {
    return withText(0, Integer.toString(v));
  }

  private static int withPot(PotHandles x, int km, int liked, int years) {
    int p = x.pot(km, 0, 5);
    x.change(p, LIKED, liked);
    x.change(p, YEARS, years);
    return p;
  }

  private static void aged(PotHandles x, int year) {
    int left = year;
    for (; left > 60; left -= 60) {
      x.years(60);
    }
    if (left > 0) {
      x.years(left);
    }
    due("year", x.count(1), year);
  }

  // ---- term 1: at first, KINDS, WARMS, GROWS, what is held

  private static void atFirst() {
    PotHandles x = new PotHandles();
    for (int h = 0; h < 5; h++) {
      due("3 HANDS at first", x.ofHouse(h, 0), 2);
      due("3 CARE at first", x.ofHouse(h, 1), 5);
      due("3 no POTS at first", x.ofHouse(h, 2), 0);
      due("2 HANDS at most", x.house(h, 0, 9), 2);
      due("2 CARE at least", x.house(h, 1, 0), 5);
      due("2 HANDS at least", x.house(h, 0, 0), 9);
      due("2 CARE at most", x.house(h, 1, 9), 0);
      due("3 HANDS then", x.ofHouse(h, 0), 0);
      due("3 CARE then", x.ofHouse(h, 1), 9);
    }
    for (int what = 0; what <= 8; what++) {
      due("40 at first " + what, x.count(what), 0);
    }
    due("40 z at first", x.count(9), 1);
    for (int k = 1; k <= 5; k++) {
      due("41 at first", x.told(k), 0);
    }
    for (int s = 0; s < 4; s++) {
      due("35 missing at first", x.judge(s), NONE);
    }
    for (int km : new int[] {0, 9, 10, 59, 60, 69}) {
      int p = x.pot(km, 4, km % 10);
      due("5 KIND of " + km, x.ofPot(p, 0), km / 10);
      due("5 m of " + km, x.ofPot(p, 1), km % 10);
      due("5 HOUSE", x.ofPot(p, 2), 4);
      due("5 USED", x.ofPot(p, 3), km % 10);
      for (int what = 4; what < 8; what++) {
        due("5 at first " + what, x.ofPot(p, what), 0);
      }
      due("9 the KIND that it was", x.become(p, 69 - km), km / 10);
      due("9 KIND of " + (69 - km), x.ofPot(p, 0), (69 - km) / 10);
      due("9 m of " + (69 - km), x.ofPot(p, 1), (69 - km) % 10);
    }
  }

  /** Of that KIND, or of one under it: POT is above all, and none above POT. */
  private static void asOneOfAKind() {
    String[] above = {"0", "01", "02", "03", "014", "025", "036"};
    for (int kind = 0; kind < 7; kind++) {
      PotHandles x = new PotHandles();
      x.pot(10 * kind + 9, 0, 0);
      for (int as = 0; as < 7; as++) {
        boolean is = above[kind].indexOf('0' + as) >= 0;
        due("10 KIND " + kind + " as " + as, x.as(0, as), is ? 9 : KIND);
      }
    }
  }

  /** CUP is cut, CHIPPED is 0 at least; the others by the least and the most that the TEXT gives. */
  private static void warms() {
    int[] given = {0, 1, 2, 3, 4, 5, 98, 99};
    int[][] want = {
      {0, 1, 2, 3, 4, 5, 98, 99}, {7, 8, 9, 10, 11, 12, 105, 106}, {0, 2, 4, 6, 8, 10, 196, 198},
      {0, 0, 1, 1, 2, 2, 49, 49}, {7, 8, 9, 10, 11, 12, 105, 106}, {0, 2, 4, 6, 8, 10, 196, 198},
      {0, 0, 0, 0, 1, 1, 48, 48}
    };
    for (int i = 0; i < given.length; i++) {
      PotHandles x = warmedBy(given[i]);
      for (int k = 0; k < KINDS.length; k++) {
        int p = x.pot(KINDS[k] + 7, 0, 5);
        due("WARMS of KIND " + k + " by " + given[i], x.then(1, p, 0), want[k][i]);
      }
      due("STUCK without a HANDLE, m 0", x.then(1, x.pot(STUCK, 0, 0), 0), given[i]);
      due("STUCK without a HANDLE, m 9", x.then(1, x.pot(STUCK + 9, 0, 0), 0), given[i] + 9);
      x.stick(4);
      due("STUCK with a HANDLE: 0", x.then(1, 4, 0), 0);
      x.stick(5);
      due("ROOKS with 1", x.then(1, 5, 0), 2 * given[i] + 1);
    }
    PotHandles x = warmedBy(0);
    withPot(x, ROOKS, 999, 999);
    int[] liked = {949, 850, 752, 755, 758};
    for (int handles = 1; handles <= 5; handles++) {
      x.years(1);
      due("ROOKS at most 3", x.ofPot(0, 6), Math.min(3, handles));
      due("ROOKS warms by its HANDLES", x.ofPot(0, 4), liked[handles - 1]);
    }
  }

  /** 11 YEARS or more, LIKED as much as it WANTS: one less of either, and it doesn't. */
  private static void grows() {
    int[] wants = {50, 100, 50, 20, 100, 50, 30};
    for (int k = 0; k < KINDS.length; k++) {
      PotHandles x = warmedBy(0);
      int p = withPot(x, KINDS[k], wants[k], 9);
      int less = withPot(x, KINDS[k], wants[k] - 1, 500);
      int more = withPot(x, KINDS[k], wants[k] + 1, 10);
      int late = withPot(x, KINDS[k], wants[k], 11);
      due("WANTS", x.ofPot(p, 8), wants[k]);
      x.years(1);
      due("GROWS not by 10 YEARS", x.ofPot(p, 6), 0);
      due("10 YEARS", x.ofPot(p, 5), 10);
      due("GROWS by 11 YEARS", x.ofPot(more, 6), 1);
      due("11 YEARS", x.ofPot(more, 5), 11);
      due("what is left", x.ofPot(more, 4), 1);
      due("GROWS by 12 YEARS", x.ofPot(late, 6), 1);
      due("nothing is left", x.ofPot(late, 4), 0);
      due("GROWS not, one less than it WANTS", x.ofPot(less, 6), 0);
      due("it is LIKED as it was", x.ofPot(less, 4), wants[k] - 1);
      x.years(1);
      due("GROWS in the next", x.ofPot(p, 6), 1);
      due("nothing is left", x.ofPot(p, 4), 0);
      due("still not", x.ofPot(less, 6), 0);
    }
    int[][] byNumber = {{JUG, 50}, {JUG + 9, 41}, {ROOKS, 50}, {ROOKS + 9, 41}, {POT + 9, 50}, {CROCK + 9, 100}, {CUP + 9, 20}, {STUCK + 9, 100}, {CHIPPED + 9, 30}};
    for (int[] one : byNumber) {
      PotHandles x = new PotHandles();
      x.pot(one[0], 0, 0);
      due("WANTS of " + one[0], x.ofPot(0, 8), one[1]);
      x.stick(0);
      due("WANTS with a HANDLE of " + one[0], x.ofPot(0, 8), one[0] / 10 == 5 ? 2 * one[1] : one[1]);
    }
    PotHandles x = warmedBy(0);
    int rooks = withPot(x, ROOKS + 9, 81, 20);
    x.stick(rooks);
    due("ROOKS WANTS twice that", x.years(1), 2);
    due("it warmed by 1 to 82", x.ofPot(rooks, 4), 0);
    x.change(rooks, LIKED, 79);
    due("one less than twice that", x.years(1), 2);
    due("it warmed by 2 to 81", x.ofPot(rooks, 4), 81);
  }

  /** HANDLES at most; one in a YEAR; one that has more than it BEARS keeps them. */
  private static void bears() {
    int[] most = {1, 1, 2, 1, 1, 3, 1};
    for (int k = 0; k < KINDS.length; k++) {
      PotHandles x = warmedBy(99);
      int p = withPot(x, KINDS[k], 999, 999);
      due("BEARS", x.ofPot(p, 9), most[k]);
      for (int n = 1; n <= 5; n++) {
        due("one in a YEAR, and no more than it BEARS", x.then(n, p, 1), Math.min(n, most[k]));
      }
      x.years(60);
      due("BEARS no more", x.ofPot(p, 6), most[k]);
      due("not LIKED less for none", x.ofPot(p, 4), k == 4 ? 899 : 999);
    }
    PotHandles x = warmedBy(9);
    int p = withPot(x, ROOKS, 999, 999);
    x.years(3);
    x.become(p, POT);
    due("more than it BEARS", x.years(60), 3);
    due("more than it BEARS", x.ofPot(p, 4), 999);
    PotHandles y = warmedBy(9);
    int q = withPot(y, JUG, 999, 999);
    y.years(9);
    y.become(q, ROOKS);
    due("the third", y.years(1), 3);
    y.become(q, JUG);
    due("JUG with three", y.when(q), NONE);
    PotHandles z = warmedBy(99);
    int r = withPot(z, POT, 999, 999);
    z.stick(r);
    due("a FALSE one is one of those that it BEARS", z.years(5), 1);
  }

  private static void held() {
    int[][] liked = {{0, 16}, {982, 998}, {983, 999}, {984, 999}, {998, 999}, {999, 999}};
    for (int[] one : liked) {
      PotHandles x = warmedBy(16);
      int p = withPot(x, POT, one[0], 0);
      due("LIKED is held in thought", x.then(1, p, 0), one[1]);
      x.years(1);
      due("LIKED is held", x.ofPot(p, 4), one[1]);
    }
    PotHandles most = warmedBy(99);
    withPot(most, JUG, 999, 9);
    withPot(most, CROCK + 9, 999, 9);
    most.years(1);
    due("LIKED is held, 198 more", most.ofPot(0, 4), 999);
    due("LIKED is held, 108 more", most.ofPot(1, 4), 999);
    most.years(1);
    due("held ahead of growing", most.ofPot(0, 4), 949);
    due("held ahead of growing", most.ofPot(1, 4), 899);
    int[][] years = {{0, 1}, {997, 998}, {998, 999}, {999, 999}};
    for (int[] one : years) {
      PotHandles x = warmedBy(0);
      int p = withPot(x, POT, 0, one[0]);
      x.years(1);
      due("YEARS are held", x.ofPot(p, 5), one[1]);
    }
    PotHandles x = warmedBy(0);
    withPot(x, POT, 50, 999);
    due("held YEARS are 11 or more", x.when(0), 1);
  }

  /** Only what gives more than CARE breaks. */
  private static void breaksByCare() {
    for (int care = 0; care <= 9; care++) {
      PotHandles x = withText(1, "u");
      x.house(0, 1, care);
      x.pot(POT, 0, care);
      due("as much as CARE " + care, x.years(1), 0);
      due("as much as CARE " + care, x.count(5), 0);
      due("it isn't broken then either", x.breaks(60), 0);
      PotHandles y = withText(1, "u+1");
      y.house(0, 1, care);
      y.pot(POT, 0, care);
      due("one more than CARE " + care, y.breaks(1), 1);
      y.years(1);
      due("one more than CARE " + care, y.count(5), 1);
    }
    PotHandles never = withText(1, "0-1");
    never.house(0, 1, 0);
    never.pot(POT, 0, 9);
    due("held at 0 isn't more than 0", never.breaks(60), 0);
  }

  /** POTS at most 10: BROKEN comes to 10, and once broken they rest. */
  private static void allBroken() {
    PotHandles x = withText(1, "10");
    for (int p = 0; p < 10; p++) {
      x.pot(KINDS[p % 7], p % 5, 9);
      x.house(p % 5, 1, 9);
    }
    due("25 all ten", x.breaks(1), 10);
    due("25 not more than all", x.breaks(60), 10);
    x.years(1);
    due("40 BROKEN", x.count(2), 10);
    due("40 as a set", x.count(5), 1023);
    due("25 none more", x.breaks(60), 0);
    for (int h = 0; h < 5; h++) {
      due("3 none there", x.ofHouse(h, 2), 0);
      due("23 none there", x.carry(h), 0);
    }
    int liked = x.ofPot(0, 4);
    due("14 the broken rest", x.years(60), 0);
    due("14 the broken rest", x.ofPot(0, 4), liked);
    due("14 the broken rest", x.ofPot(0, 5), 1);
    due("40 BROKEN no more", x.count(2), 10);
    due("26 none to stick on", x.dealer(30), -1);
    due("24 none", x.richest(60, 0), 0);
    due("24 none", x.richest(60, 1), 0);
  }

  /** Half is cut; YEARS begin again: ten are not enough, eleven are. */
  private static void moved() {
    int[][] halves = {{0, 0}, {1, 0}, {2, 1}, {3, 1}, {998, 499}, {999, 499}};
    for (int[] half : halves) {
      PotHandles x = warmedBy(0);
      int p = withPot(x, POT, half[0], 999);
      due("7 where it was", x.shift(p, 4), 0);
      due("7 half of " + half[0], x.ofPot(p, 4), half[1]);
      due("7 YEARS", x.ofPot(p, 5), 0);
      due("7 back", x.shift(p, 0), 4);
    }
    PotHandles x = warmedBy(0);
    int p = withPot(x, POT, 100, 999);
    x.shift(p, 1);
    due("17 eleven YEARS in the other", x.when(p), 11);
    due("16 ten aren't enough", x.then(10, p, 1), 0);
    PotHandles y = warmedBy(0);
    int odd = withPot(y, POT, 99, 999);
    y.shift(odd, 1);
    due("17 half of 99 isn't 50", y.when(odd), NONE);
  }

  private static void stuck() {
    PotHandles x = warmedBy(99);
    int p = withPot(x, ROOKS, 999, 999);
    due("8 LIKED at most", x.stick(p), 999);
    due("14 two more on a FALSE one", x.years(2), 3);
    due("5 FALSE yet", x.ofPot(p, 7), 1);
    due("40 FALSE", x.count(4), 1);
    x.shift(p, 1);
    due("7 three come off", x.ofPot(p, 6), 0);
    due("7 FALSE no more", x.ofPot(p, 7), 0);
    due("40 FALSE no more", x.count(4), 0);
    x.change(p, LIKED, 0);
    due("8 stuck again, LIKED at least", x.stick(p), 0);
    for (int handles = 1; handles <= 3; handles++) {
      PotHandles y = warmedBy(99);
      int q = withPot(y, ROOKS, 999, 999);
      y.years(handles);
      due("8 has " + handles, y.ofPot(q, 6), handles);
      due("8 has " + handles, y.stick(q), STATE);
      y.shift(q, 1);
      due("7 true ones stay", y.ofPot(q, 6), handles);
    }
  }

  // ---- term 2: THE TAPE and TEXTS

  private static void tape() {
    PotHandles x = new PotHandles();
    due("12 THE TAPE is empty", x.text(0), -10);
    due("12 and for the other USE", x.text(1), -10);
    due("41 no ERROR", x.told(1) + x.told(2) + x.told(3) + x.told(4) + x.told(5), 0);
    due("11 one byte", x.feed(0xFFFFFFFFFFFFFF00L | '7', 1), 1);
    due("11 the lowest alone", x.text(0), 1);
    due("11 the lowest alone", x.law(0, 1, 1, 1), 7);
    due("11 eight bytes", x.feed(0x372B302B302B302BL, 8), 8);
    due("12 begins with +", x.text(0), -10);
    due("11 seven of eight", x.feed(0xFF37_2B30_2B30_2B31L, 7), 7);
    due("11 the lowest first, the highest not", x.text(0), 1);
    due("11 1+0+0+7", x.law(0, 0, 0, 0), 8);
    due("11 all eight", x.feed(0x39_37_2B30_2B30_2B31L, 8), 8);
    due("11 the highest last", x.text(0), 1);
    due("11 1+0+0+79", x.law(0, 0, 0, 0), 80);
    for (int i = 1; i <= 50; i++) {
      due("11 byte by byte", x.feed(i % 2 == 1 ? '1' : '+', 1), i);
    }
    due("12 fifty bytes that end too early", x.text(0), -60);
    due("40 THE TAPE is empty", x.count(6), 0);
    due("12 the one ahead stays", x.law(0, 0, 0, 0), 80);
    due("12 fifty bytes", read(x, 0, "1+".repeat(23) + "(12)"), 1);
    due("12 fifty bytes", x.law(0, 0, 0, 0), 35);
    due("12 a FAULT at the last of fifty", read(x, 0, "1+".repeat(24) + "1)"), -59);
    due("12 the most operators", read(x, 0, "1-".repeat(24) + "99"), 1);
    due("12 from left to right", read(x, 1, "99" + "-1".repeat(24)), 1);
    due("13 from left to right", x.law(1, 0, 0, 0), 75);
    due("12 forty-nine bytes", read(x, 1, "u" + "/u".repeat(24)), 1);
    due("13 all is worked out", x.law(1, 1, 0, 0), 1);
    due("13 all is worked out", x.law(1, 0, 0, 0), 0);
    due("12 fifty bytes, and each of them works", read(x, 0, "!u|".repeat(16) + "!c"), 1);
    due("13 the last | counts", x.law(0, 0, 1, 0), 1);
    due("13 what is behind it counts", x.law(0, 1, 0, 0), 1);
    due("13 neither", x.law(0, 1, 1, 0), 0);
  }

  /** A NUMBER has 1 to 4 digits. */
  private static void digits() {
    String[] good = {"0", "9", "10", "99", "100", "999", "1000", "9999", "0000", "0001", "(9999)", "!9999", "9999+9999"};
    for (String text : good) {
      due("12 " + text, read(new PotHandles(), 0, text), 1);
      due("12 " + text, read(new PotHandles(), 1, text), 1);
    }
    String[][] bad = {
      {"00000", "4"}, {"10000", "4"}, {"99999", "4"}, {"u+12345", "6"}, {"(12345)", "5"}, {"!12345", "5"},
      {"1234u", "4"}, {"123456789", "4"}, {"12345+", "4"}
    };
    for (String[] one : bad) {
      due("12 " + one[0], read(new PotHandles(), 0, one[0]), -10 - Integer.parseInt(one[1]));
    }
    due("13 9999", withText(0, "9999=u*101").law(0, 99, 0, 0), 1);
    due("13 0099", withText(0, "0099").law(0, 0, 0, 0), 99);
    due("13 0009", withText(0, "0009").law(0, 0, 0, 0), 9);
    due("13 digits in their order", withText(0, "1234-1200").law(0, 0, 0, 0), 34);
  }

  /** At most 5 of ! and ( are open at once; a ! is open while its Q is read. */
  private static void open() {
    String[] good = {
      "(((((u)))))", "!!!!!u", "!(!(!u))", "(!(!(u)))", "((((!u))))", "!((((u))))", "!!!!(u)", "(!!!!u)",
      "!u+!u+!u+!u+!u+!u+!u", "(u)+(u)+(u)+(u)+(u)+(u)", "(((((u)))))*(((((u)))))", "!!!!!u&!!!!!u",
      "((((!u+!u+(u)))))", "((((!u)+(u))))", "((((!u+(u)))))"
    };
    for (String text : good) {
      due("12 " + text, read(new PotHandles(), 0, text), 1);
    }
    String[][] bad = {
      {"((((((u))))))", "5"}, {"!!!!!!u", "5"}, {"!!!!!(u)", "5"}, {"(((((!u)))))", "5"}, {"!(!(!(u)))", "5"},
      {"(!(!(!u)))", "5"}, {"(((((u+!u)))))", "7"}, {"(((((u+(u))))))", "7"}, {"!!!!!u+!!!!!!u", "12"},
      {"(((((u)))))+((((((u))))))", "17"}, {"((((((", "5"}, {"!!!!!!", "5"}
    };
    for (String[] one : bad) {
      due("12 " + one[0], read(new PotHandles(), 0, one[0]), -10 - Integer.parseInt(one[1]));
    }
    due("13 five of !", withText(0, "!!!!!u").law(0, 5, 0, 0), 0);
    due("13 five of !", withText(0, "!!!!!u").law(0, 0, 0, 0), 1);
    due("13 five of (", withText(0, "(((((u)))))").law(0, 5, 0, 0), 5);
  }

  /** A FAULT is how many bytes there are, where it ends too early. */
  private static void endsTooEarly() {
    String[] early = {
      "", "(", "!", "u+", "u-", "u*", "u/", "u%", "u<", "u=", "u>", "u&", "u|", "(u", "(u+", "((u)", "!(", "!!!!!",
      "(((((", "(((((u", "(((((u))))", "1234+", "u<u&", "(u<u", "9|(", "u=!"
    };
    for (String text : early) {
      PotHandles x = new PotHandles();
      due("12 ends too early: " + text, read(x, 0, text), -10 - text.length());
      due("40 empty then", x.count(6), 0);
      due("13 there is no TEXT", x.law(0, 5, 5, 5), 5);
    }
  }

  private static void goesOnWithNone() {
    String[][] bad = {
      {"+u", "0"}, {")", "0"}, {"|u", "0"}, {"<u", "0"}, {"u)", "1"}, {" u", "0"}, {"u ", "1"}, {"u +c", "1"}, {"u+ c", "2"},
      {"U", "0"}, {"uu", "1"}, {"uc", "1"}, {"1u", "1"}, {"u1", "1"}, {"u(", "1"}, {"u!", "1"}, {"()", "1"}, {"(u)u", "3"},
      {"(u)(", "3"}, {"/", "0"}, {":", "0"}, {"u:", "1"}, {"1:", "1"}, {"1/:", "2"}, {"u<u<u", "3"}, {"u=u>u", "3"},
      {"u<u=u", "3"}, {"(u<u<u)", "4"}, {"u<u&u>u>u", "7"}, {"u++u", "2"}, {"u+-1", "2"}, {"u<=c", "2"}, {"u!=c", "1"},
      {"u&&c", "2"}, {"u||c", "2"}, {"-1", "0"}, {"(-1)", "1"}, {"\0", "0"}, {"u\0", "1"}, {"\u00F5", "0"}, {"u\u00AB", "1"},
      {"\u00B1", "0"}, {"\u00FF", "0"}, {"u\u007F", "1"}, {"u\u0080", "1"}, {"u;c", "1"}, {"u^c", "1"}, {"u,c", "1"}, {"u.5", "1"}
    };
    for (String[] one : bad) {
      due("12 " + one[0], read(new PotHandles(), 0, one[0]), -10 - Integer.parseInt(one[1]));
      due("12 " + one[0] + ", the other USE", read(new PotHandles(), 1, one[0].replace('c', 'n')), -10 - Integer.parseInt(one[1]));
    }
    for (char sign = 0; sign < 256; sign++) {
      boolean isFirst = "uch!(0123456789".indexOf(sign) >= 0;
      int early = sign == '!' || sign == '(' ? -11 : 1;
      due("12 the one sign " + (int) sign, read(new PotHandles(), 0, "" + sign), isFirst ? early : -10);
      boolean isFirstOfOther = "uyn!(0123456789".indexOf(sign) >= 0;
      due("12 the one sign " + (int) sign, read(new PotHandles(), 1, "" + sign), isFirstOfOther ? early : -10);
      boolean isNext = "|&<=>+-*/%".indexOf(sign) >= 0;
      due("12 the next sign " + (int) sign, read(new PotHandles(), 0, "u" + sign), isNext ? -12 : -11);
    }
    PotHandles x = new PotHandles();
    for (int use = 0; use < 2; use++) {
      for (char name : new char[] {'u', 'c', 'h', 'y', 'n'}) {
        boolean isName = (use == 0 ? "uch" : "uyn").indexOf(name) >= 0;
        due("12 NAMES of USE " + use + ": " + name, read(x, use, "" + name), isName ? 1 : -10);
      }
    }
  }

  /** Ints that wrap. */
  private static void wraps() {
    due("13 above", withText(0, "u+c<0").law(0, MAX, 1, 0), 1);
    due("13 just not above", withText(0, "u+c>0").law(0, MAX, 0, 0), 1);
    due("13 around", withText(0, "u+c=h").law(0, MAX, 1, MIN), 1);
    due("13 below", withText(0, "u-c=h").law(0, MIN, 1, MAX), 1);
    due("13 around twice", withText(0, "u+c+2").law(0, MAX, MAX, 0), 0);
    due("13 times", withText(0, "u*c=0-2").law(0, MAX, 2, 0), 1);
    due("13 times, the least by -1", withText(0, "u*c=h").law(0, MIN, -1, MIN), 1);
    due("13 times, to 0", withText(0, "u*c").law(0, 65536, 65536, 0), 0);
    int cube = (int) (9999L * 9999L * 9999L);
    due("13 NUMBERS", withText(0, "9999*9999*9999=u").law(0, cube, 0, 0), 1);
    due("13 comparing doesn't wrap", withText(0, "u<c").law(0, MIN, MAX, 0), 1);
    due("13 comparing doesn't wrap", withText(0, "u>c").law(0, MAX, MIN, 0), 1);
    due("13 comparing doesn't wrap", withText(0, "u>c").law(0, MIN, MAX, 0), 0);
    due("13 the other USE, too", withText(1, "u+y=n").law(1, MAX, 1, MIN), 1);
  }

  /** / cut, % the rest that it leaves, both by 0 are 0. */
  private static void cutAndByZero() {
    int[] some = {MIN, MIN + 1, -8, -7, -2, -1, 0, 1, 2, 7, 8, MAX - 1, MAX};
    PotHandles by = withText(0, "u/c=h");
    PotHandles rest = withText(0, "u%c=h");
    PotHandles other = withText(1, "u/y=n");
    for (int a : some) {
      for (int b : some) {
        long quotient = b == 0 ? 0 : (a < 0 != b < 0 ? -1 : 1) * (Math.abs((long) a) / Math.abs((long) b));
        long left = b == 0 ? 0 : a - quotient * b;
        due("13 " + a + " / " + b, by.law(0, a, b, (int) quotient), 1);
        due("13 " + a + " / " + b, other.law(1, a, b, (int) quotient), 1);
        due("13 " + a + " % " + b, rest.law(0, a, b, (int) left), 1);
      }
    }
    due("13 cut toward 0", withText(0, "(0-7)/2+9").law(0, 0, 0, 0), 6);
    due("13 the rest has the sign of what is divided", withText(0, "(0-7)%2+9").law(0, 0, 0, 0), 8);
    due("13 by 0", withText(0, "7/0+5").law(0, 0, 0, 0), 5);
    due("13 by 0", withText(0, "7%0+5").law(0, 0, 0, 0), 5);
    due("13 by 0 in what isn't needed", withText(0, "1|7/0").law(0, 0, 0, 0), 1);
  }

  /** 1 or 0, what is not 0 being true. */
  private static void truth() {
    int[] some = {MIN, -1, 0, 1, 2, MAX};
    PotHandles or = withText(0, "(u|c)+5");
    PotHandles and = withText(0, "(u&c)+5");
    PotHandles not = withText(0, "!u+5");
    PotHandles less = withText(0, "(u<c)+5");
    PotHandles same = withText(0, "(u=c)+5");
    PotHandles more = withText(0, "(u>c)+5");
    for (int a : some) {
      due("13 !" + a, not.law(0, a, 0, 0), a == 0 ? 6 : 5);
      for (int b : some) {
        due("13 " + a + "|" + b, or.law(0, a, b, 0), a == 0 && b == 0 ? 5 : 6);
        due("13 " + a + "&" + b, and.law(0, a, b, 0), a == 0 || b == 0 ? 5 : 6);
        due("13 " + a + "<" + b, less.law(0, a, b, 0), a < b ? 6 : 5);
        due("13 " + a + "=" + b, same.law(0, a, b, 0), a == b ? 6 : 5);
        due("13 " + a + ">" + b, more.law(0, a, b, 0), a > b ? 6 : 5);
      }
    }
    due("13 next to one another", less.law(0, MAX - 1, MAX, 0), 6);
    due("13 next to one another", more.law(0, MIN, MIN + 1, 0), 5);
  }

  /** Held within 0 to 99. */
  private static void givenIsHeld() {
    int[][] held = {{MIN, 0}, {-100, 0}, {-1, 0}, {0, 0}, {1, 1}, {98, 98}, {99, 99}, {100, 99}, {101, 99}, {MAX, 99}};
    PotHandles x = withText(0, "u");
    due("text", read(x, 1, "n"), 1);
    for (int[] one : held) {
      due("13 held " + one[0], x.law(0, one[0], 5, 5), one[1]);
      due("13 held " + one[0], x.law(1, 5, 5, one[0]), one[1]);
    }
    due("13 held at the end alone", withText(0, "u-200+150").law(0, 100, 0, 0), 50);
    due("13 held at the end alone", withText(0, "u*9-c").law(0, 99, 800, 0), 91);
    PotHandles y = withText(0, "9999");
    y.pot(POT, 0, 5);
    due("14 warms by 99", y.then(1, 0, 0), 99);
    due("text", read(y, 0, "0-9999"), 1);
    due("14 warms by 0", y.then(1, 0, 0), 0);
  }

  private static void withoutText() {
    PotHandles x = new PotHandles();
    int[][] laws = {{0, 9, 0}, {9, 0, 0}, {1, 4, 0}, {1, 5, 1}, {9, 1, 1}, {2, 5, 2}, {9, 5, 9}, {9, 9, 16}, {99, 5, 99}};
    for (int[] one : laws) {
      due("13 without a TEXT", x.law(0, one[0], one[1], MAX), one[2]);
      due("13 without a TEXT", x.law(1, one[0], one[1], MAX), 0);
    }
    for (int used = 0; used <= 9; used++) {
      for (int care = 0; care <= 9; care++) {
        PotHandles y = new PotHandles();
        y.house(4, 1, care);
        y.pot(POT, 4, used);
        due("14 u*c/5, cut", y.then(1, 0, 0), used * care / 5);
      }
    }
    PotHandles z = new PotHandles();
    z.house(0, 1, 0);
    z.pot(POT, 0, 9);
    due("14 without a TEXT none breaks, CARE 0", z.breaks(60), 0);
  }

  /** y is the rest of YEAR by 13, as YEAR is ahead of being 1 more. */
  private static void yearByThirteen() {
    for (int year : new int[] {0, 1, 11, 12, 13, 14, 25, 26}) {
      PotHandles x = new PotHandles();
      aged(x, year);
      x.house(0, 1, 0);
      x.pot(POT, 0, 5);
      due("text", read(x, 1, "y=" + year % 13), 1);
      due("14 y in YEAR " + year, x.breaks(1), 1);
      due("text", read(x, 1, "!(y=" + year % 13 + ")"), 1);
      due("14 y in YEAR " + year, x.breaks(1), 0);
    }
    PotHandles x = withText(1, "y>12");
    x.house(0, 1, 0);
    x.pot(POT, 0, 5);
    due("14 never above 12", x.breaks(60), 0);
  }

  /** n counts those that are in the HOUSE as it comes to each, itself too. */
  private static void manyInHouse() {
    PotHandles x = withText(1, "(n>1)*9");
    for (int p = 0; p < 10; p++) {
      x.pot(POT, 2, 5);
    }
    due("14 all but the last", x.breaks(1), 9);
    x.years(1);
    due("14 the last stays", x.ofHouse(2, 2), 512);
    PotHandles ten = withText(1, "(n=10)*9");
    for (int p = 0; p < 10; p++) {
      ten.pot(POT, 2, 5);
    }
    due("14 the first alone", ten.breaks(60), 1);
    PotHandles nine = withText(1, "(n=10)*9");
    for (int p = 0; p < 9; p++) {
      nine.pot(POT, 2, 5);
    }
    nine.pot(POT, 1, 5);
    due("14 only nine", nine.breaks(60), 0);
    PotHandles one = withText(1, "(n=1)*9");
    one.pot(POT, 0, 5);
    one.pot(POT, 4, 5);
    due("14 each by itself", one.breaks(1), 2);
  }

  // ---- YEAR, and term 3: what is only thought

  private static void yearsAtTheEnd() {
    PotHandles x = new PotHandles();
    aged(x, 9939);
    due("14 just to 9999", x.years(60), 0);
    due("40 YEAR", x.count(1), 9999);
    due("14 not one more", x.years(1), STATE);
    due("15 not one more", x.loose(1), STATE);
    due("40 not drawn", x.count(9), 1);
    PotHandles y = new PotHandles();
    aged(y, 9960);
    due("15 one too many", y.loose(40), STATE);
    due("40 not drawn", y.count(9), 1);
    due("15 just to 9999", y.loose(39), 0);
    due("40 YEAR", y.count(1), 9999);
  }

  /** 9999 is 2 by 13, so y is 3 in the first YEAR beyond, and 9 in the last that is thought. */
  private static void thoughtBeyondTheEnd() {
    PotHandles x = new PotHandles();
    aged(x, 9999);
    int p = x.pot(JUG, 0, 5);
    x.sheet(0, 16, 40);
    for (int i = 0; i < 40; i++) {
      x.put(0, i, i < 11 ? 10 * i : i < 12 ? 60 : 10 * i - 100);
    }
    due("16 beyond", x.then(60, p, 1), 2);
    due("17 beyond", x.when(p), 11);
    due("18 beyond", x.shelf(0, 60), 1);
    due("19 beyond", x.place(p, 60, 1), 2);
    due("20 beyond", x.use(p, 60), 1);
    due("21 beyond", x.needed(1, 20), 0);
    due("22 beyond", x.whose(0, p, 0), 31);
    due("24 beyond", x.richest(60, 1), 2);
    due("25 beyond", x.breaks(60), 0);
    due("26 beyond", x.dealer(10), 0);
    due("27 beyond", x.odds(p, 60, 0), 1);
    x.tell(0);
    due("39 beyond", x.check(), 0);
    due("text", read(x, 1, "(y=2)*9"), 1);
    due("14 y in 9999", x.breaks(1), 1);
    due("text", read(x, 1, "(y=3)*9"), 1);
    due("14 y in 10000", x.breaks(1), 0);
    due("14 y in 10000", x.breaks(2), 1);
    due("16 behind one", x.then(1, p, 2), 0);
    due("16 behind two", x.then(2, p, 2), -1);
    due("40 only thought", x.count(1), 9999);
    due("41 no ERROR", x.told(3), 0);
  }

  /** Behind 0 YEARS all is as it is. */
  private static void behindNone() {
    PotHandles x = withText(1, "9");
    int p = withPot(x, POT, 999, 999);
    int q = x.pot(JUG, 4, 9);
    x.stick(q);
    due("16 LIKED", x.then(0, p, 0), 999);
    due("16 HANDLES", x.then(0, p, 1), 0);
    due("16 HOUSE", x.then(0, q, 2), 4);
    due("18 none", x.shelf(0, 0), 0);
    due("18 one", x.shelf(4, 0), 2);
    due("19 none", x.place(p, 0, 1), 0);
    due("20 none", x.use(p, 0), NONE);
    due("21 has one", x.needed(2, 0), 0);
    due("21 has none", x.needed(1, 0), NONE);
    due("24 one", x.richest(0, 0), 4);
    due("25 none", x.breaks(0), 0);
    due("26 the one without", x.dealer(0), 0);
    due("27 none", x.odds(p, 0, 0), 0);
    due("27 by 1", x.odds(p, 0, 1), 1);
    due("27 all", x.odds(q, 0, 0), 1);
    due("27 by 1", x.odds(q, 0, 1), 1);
  }

  private static void whenAndShelf() {
    PotHandles x = warmedBy(1);
    int now = withPot(x, POT, 49, 10);
    due("17 in the first", x.when(now), 1);
    int late = withPot(x, CROCK, 40, 0);
    due("17 in the last", x.when(late), 60);
    due("16 not by 59", x.then(59, late, 1), 0);
    due("18 not by 59", x.shelf(0, 59), 1);
    due("18 by 60", x.shelf(0, 60), 3);
    int never = withPot(x, CROCK, 39, 0);
    due("17 in the 61st", x.when(never), NONE);
    due("18 in the 61st", x.shelf(0, 60), 3);
    int eleven = withPot(x, POT, 999, 0);
    due("17 in the eleventh", x.when(eleven), 11);
    x.stick(late);
    due("17 not more than now", x.when(late), NONE);
    PotHandles y = warmedBy(1);
    withPot(y, JUG, 999, 999);
    y.stick(0);
    due("17 more than now", y.when(0), 1);
    PotHandles all = new PotHandles();
    for (int p = 0; p < 10; p++) {
      all.pot(POT, 3, 0);
      all.stick(p);
    }
    due("18 the whole set", all.shelf(3, 60), 1023);
    due("18 empty", all.shelf(2, 60), 0);
  }

  /** Most HANDLES, of several LIKED most, of several the least HOUSE. */
  private static void place() {
    PotHandles x = new PotHandles();
    int p = x.pot(POT, 4, 0);
    due("19 all alike: the least", x.place(p, 0, 0), 0);
    due("19 all alike: the least", x.place(p, 60, 0), 0);
    x.change(p, LIKED, 1);
    due("19 half of 1 is less: not MOVED", x.place(p, 0, 0), 4);
    x.stick(p);
    x.change(p, LIKED, 0);
    due("19 a FALSE one comes off elsewhere", x.place(p, 0, 0), 4);
    due("19 a FALSE one comes off elsewhere", x.place(p, 60, 1), 1);

    PotHandles y = new PotHandles();
    int q = y.pot(POT, 0, 5);
    y.change(q, LIKED, 50);
    y.change(q, YEARS, 999);
    y.house(4, 1, 9);
    due("19 by 10 only its own", y.place(q, 10, 0), 0);
    due("19 by 10 only its own", y.place(q, 10, 1), 1);
    due("19 by 11 both, LIKED decides", y.place(q, 11, 0), 4);
    y.house(3, 1, 9);
    due("19 of several the least", y.place(q, 11, 0), 3);
    y.house(0, 1, 0);
    due("19 HANDLES ahead of LIKED", y.place(q, 10, 0), 0);
    y.change(q, LIKED, 49);
    due("19 none by 10, LIKED decides", y.place(q, 10, 0), 3);
    due("19 none by 10", y.place(q, 10, 1), 0);
  }

  /** The least USED with which it has more HANDLES than now. */
  private static void use() {
    PotHandles x = warmedBy(0);
    int p = withPot(x, POT, 50, 10);
    due("20 with 0", x.use(p, 1), 0);
    x.change(p, LIKED, 49);
    due("20 with none", x.use(p, 60), NONE);
    for (int least = 0; least <= 9; least++) {
      PotHandles y = withText(0, least == 0 ? "50" : "(u>" + (least - 1) + ")*50");
      int q = withPot(y, POT, 0, 10);
      due("20 the least is " + least, y.use(q, 1), least);
      due("6 only thought", y.ofPot(q, 3), 5);
    }
    PotHandles ten = withText(0, "(u>9)*50");
    due("20 not with 10", ten.use(withPot(ten, POT, 0, 10), 60), NONE);
    PotHandles y = new PotHandles();
    int q = y.pot(POT, 0, 9);
    due("20 not by 10", y.use(q, 10), NONE);
    due("20 by 11", y.use(q, 11), 5);
    due("20 by 49", y.use(q, 49), 2);
    due("20 by 50", y.use(q, 50), 1);
  }

  private static void needed() {
    PotHandles x = new PotHandles();
    due("21 no POTS, the empty set", x.needed(0, 20), 0);
    due("21 no POTS, the empty set", x.needed(0, 0), 0);
    for (int h = 0; h < 5; h++) {
      x.house(h, 1, 0);
      x.pot(POT, h, 5);
      x.pot(POT, h, 5);
    }
    due("21 all of ten", x.needed(1023, 20), 31);
    due("21 by 11", x.needed(1023, 11), 31);
    due("21 not by 10", x.needed(1023, 10), NONE);
    due("21 not by 0", x.needed(1, 0), NONE);
    for (int p = 0; p < 10; p++) {
      due("21 its own alone", x.needed(1 << p, 20), 1 << p / 2);
    }
    due("21 the first and the last", x.needed(513, 20), 17);
    due("21 the empty set", x.needed(0, 0), 0);
    PotHandles late = warmedBy(5);
    withPot(late, CROCK, 0, 0);
    due("21 in the twentieth", late.needed(1, 20), 0);
    due("21 not by 19", late.needed(1, 19), NONE);
    PotHandles nine = withText(0, "(c=9)*9");
    nine.pot(POT, 0, 5);
    due("21 CARE is 9 from now on", nine.needed(1, 11), 1);
    PotHandles ten = withText(0, "(c>9)*9");
    ten.pot(POT, 0, 5);
    due("21 not above 9", ten.needed(1, 20), NONE);
    PotHandles worse = withText(0, "(c<9)*9");
    worse.pot(POT, 0, 5);
    worse.pot(POT, 1, 5);
    worse.house(1, 1, 9);
    due("21 CARE makes it worse: none", worse.needed(1, 20), 0);
    due("21 CARE is 9 already", worse.needed(2, 20), NONE);
  }

  private static void whose() {
    PotHandles x = warmedBy(9);
    int p = withPot(x, POT, 999, 0);
    x.sheet(0, 16, 0);
    due("22 no numbers tell nothing", x.whose(0, p, 0), 31);
    due("22 no numbers tell nothing", x.whose(0, p, 1), 5);
    x.sheet(0, 16, 1);
    x.put(0, 0, 999);
    due("22 behind 0 alone", x.whose(0, p, 1), 5);
    x.put(0, 0, 998);
    due("22 none", x.whose(0, p, 0), 0);
    due("22 none", x.whose(0, p, 1), 0);

    PotHandles y = new PotHandles();
    int q = y.pot(POT, 2, 5);
    int[] care = {0, 9, 5, 1, 9};
    for (int h = 0; h < 5; h++) {
      y.house(h, 1, care[h]);
    }
    y.sheet(0, 32, 40);
    int liked = 0;
    for (int i = 0; i < 40; i++) {
      y.put(0, i, liked);
      liked += 9;
      liked -= i + 1 == 11 ? 50 : 0;
    }
    due("22 forty numbers", y.whose(0, q, 0), 18);
    due("22 forty numbers", y.whose(0, q, 1), 2);
    y.put(0, 39, 9 * 39 - 50 - 1);
    due("22 the last is not so", y.whose(0, q, 0), 0);
    y.put(0, 39, 9 * 39 - 50);
    due("22 the last is so", y.whose(0, q, 0), 18);
    y.put(0, 0, 1);
    due("22 the first is not so", y.whose(0, q, 0), 0);
    y.sheet(1, 8, 1);
    y.change(q, LIKED, 127);
    y.put(1, 0, 127);
    due("22 the most of 8 bits below the half", y.whose(1, q, 1), 5);
    PotHandles z = withText(1, "9");
    int r = z.pot(POT, 0, 5);
    z.sheet(0, 8, 3);
    z.put(0, 1, 5);
    z.put(0, 2, 5);
    due("22 broken on the way, LIKED stays", z.whose(0, r, 1), 5);
  }

  /** One with a HANDLE takes one of the HANDS, one without two: each way to take some is tried. */
  private static void carry() {
    due("23 none there", new PotHandles().carry(1), 0);
    for (int pots = 0; pots <= 10; pots++) {
      PotHandles x = new PotHandles();
      for (int p = 0; p < pots; p++) {
        x.pot(POT, 1, 0);
      }
      for (int with = 0; with <= pots; with++) {
        for (int hands = 0; hands <= 9; hands++) {
          x.house(1, 0, hands);
          int most = 0;
          for (int a = 0; a <= with; a++) {
            for (int b = 0; b <= pots - with; b++) {
              most = a + 2 * b <= hands ? Math.max(most, a + b) : most;
            }
          }
          due("23 " + with + " of " + pots + ", HANDS " + hands, x.carry(1), most);
        }
        if (with < pots) {
          x.stick(with);
        }
      }
    }
  }

  private static void richest() {
    PotHandles x = new PotHandles();
    due("24 no POTS", x.richest(0, 0), 0);
    due("24 no POTS", x.richest(0, 1), 0);
    x.pot(POT, 4, 0);
    due("24 no HANDLES: the least", x.richest(60, 0), 0);
    x.stick(0);
    due("24 the last HOUSE", x.richest(60, 0), 4);
    due("24 one", x.richest(60, 1), 1);
    x.pot(POT, 3, 0);
    x.stick(1);
    due("24 of two the least", x.richest(0, 0), 3);
    x.pot(POT, 4, 0);
    x.stick(2);
    due("24 more", x.richest(0, 0), 4);
    due("24 how many", x.richest(0, 1), 2);
    PotHandles y = warmedBy(99);
    for (int p = 0; p < 10; p++) {
      y.pot(ROOKS, 2, 0);
    }
    due("24 ten of three", y.richest(60, 1), 30);
    due("24 ten of three", y.richest(60, 0), 2);
    due("14 ten of three", y.years(60), 30);
  }

  private static void breaks() {
    PotHandles x = new PotHandles();
    due("25 no POTS", x.breaks(60), 0);
    due("text", read(x, 1, "(y=7)*9"), 1);
    aged(x, 13);
    x.pot(POT, 0, 5);
    due("25 not by 7", x.breaks(7), 0);
    due("25 by 8", x.breaks(8), 1);
    due("25 only thought", x.count(2), 0);
    // whenever y is 7, the one with the most USED is as many as are there: 7, 20, 33, 46, 59 YEARS on
    PotHandles late = withText(1, "(y=7)*(n=u)*9");
    for (int used = 1; used <= 5; used++) {
      late.pot(POT, 0, used);
    }
    due("25 not by 59", late.breaks(59), 4);
    due("25 by 60", late.breaks(60), 5);
    due("16 not by 59", late.then(59, 0, 2), 0);
    due("16 by 60", late.then(60, 0, 2), -1);
    late.years(20);
    due("25 how many more", late.breaks(60), 4);
  }

  /** Of several the least; -1: none makes more than it is. */
  private static void dealer() {
    PotHandles x = new PotHandles();
    due("26 no POTS", x.dealer(0), -1);
    due("26 no POTS", x.dealer(30), -1);
    for (int p = 0; p < 10; p++) {
      x.pot(POT, p % 5, 0);
    }
    for (int p = 0; p < 10; p++) {
      due("26 of several the least", x.dealer(30), p);
      x.stick(p);
    }
    due("26 all have one", x.dealer(30), -1);
    PotHandles y = warmedBy(2);
    withPot(y, POT, 0, 0);
    due("26 it has one by 25 all the same", y.dealer(25), -1);
    due("26 it has none by 24", y.dealer(24), 0);
    PotHandles z = warmedBy(1);
    withPot(z, POT, 19, 0);
    due("26 in the 31st it would", z.dealer(30), 0);
    z.change(0, LIKED, 20);
    due("26 in the thirtieth it does", z.dealer(30), -1);
    due("26 not yet by 29", z.dealer(29), 0);
    PotHandles soon = warmedBy(0);
    withPot(soon, POT, 50, 10);
    withPot(soon, POT, 0, 0);
    due("26 behind 0 both alike", soon.dealer(0), 0);
    due("26 behind 1 the other", soon.dealer(1), 1);
    PotHandles last = warmedBy(99);
    for (int p = 0; p < 9; p++) {
      last.pot(POT, 0, 0);
    }
    last.pot(ROOKS, 0, 0);
    due("26 the last of ten", last.dealer(11), 9);
  }

  private static void odds() {
    String[] worse = {"(h<1)*99", "(h<2)*99", "(h<3)*99", "(h<4)*99", "(h<5)*99", "(h<6)*99"};
    int[][] want = {{0, 1}, {1, 5}, {2, 5}, {3, 5}, {4, 5}, {1, 1}};
    for (int i = 0; i < 6; i++) {
      PotHandles x = withText(0, worse[i]);
      for (int h = 0; h < 5; h++) {
        x.house(h, 0, h + 1);
      }
      int p = withPot(x, POT, 0, 10);
      due("27 above the line, " + i, x.odds(p, 1, 0), want[i][0]);
      due("27 below the line, " + i, x.odds(p, 1, 1), want[i][1]);
      due("27 in the last", x.odds(p, 60, 0), want[i][0]);
    }
    PotHandles x = warmedBy(99);
    int p = withPot(x, POT, 0, 0);
    due("27 not by 10", x.odds(p, 10, 0), 0);
    due("27 by 11", x.odds(p, 11, 0), 1);
    x.stick(p);
    due("text", read(x, 1, "9"), 1);
    due("27 not broken yet", x.odds(p, 0, 0), 1);
    due("27 broken then", x.odds(p, 1, 0), 0);
    due("27 broken then", x.odds(p, 1, 1), 1);
    x.years(1);
    due("27 broken now", x.odds(p, 0, 0), 0);
    due("27 broken now", x.odds(p, 0, 1), 1);
  }

  // ---- term 3: draws and VOICES

  /** z as an int that wraps: what the document says, worked out in longs. */
  private static int next(int z) {
    return (int) Math.floorMod(z * 1103515245L + 12345L, 1L << 32);
  }

  private static int drawnBy(int z) {
    return (int) (Math.floorMod((long) z, 1L << 32) / 256);
  }

  private static void draws() {
    PotHandles first = new PotHandles();
    due("28 z at first", first.seed(0), 1);
    for (int seed : new int[] {MIN, -1, 0, 1, 2, 3, 5, 77, MAX, LOW - 1}) {
      PotHandles x = new PotHandles();
      x.seed(seed);
      due("28 z", x.count(9), seed);
      int z = seed;
      for (int i = 0; i < 40; i++) {
        z = next(z);
      }
      due("15 no POTS, drawn all the same", x.loose(40), 0);
      due("15 forty draws", x.count(9), z);
      due("15 forty YEARS", x.count(1), 40);
      x.loose(1);
      due("15 one more", x.count(9), next(z));
    }
  }

  private static void drawsForUsed() {
    boolean isBelow = false;
    for (int pots : new int[] {1, 2, 7, 10}) {
      PotHandles x = new PotHandles();
      int[] used = new int[pots];
      for (int p = 0; p < pots; p++) {
        x.pot(POT, p % 5, 5);
        used[p] = 5;
      }
      int z = 1;
      for (int i = 0; i < 30; i++) {
        z = next(z);
        isBelow |= z < 0;
        int drawn = drawnBy(z);
        used[drawn % pots] = drawn / 8 % 10;
        x.loose(1);
        due("15 of " + pots + ", z " + z, x.ofPot(drawn % pots, 3), used[drawn % pots]);
      }
      for (int p = 0; p < pots; p++) {
        due("15 the others stay", x.ofPot(p, 3), used[p]);
      }
    }
    due("15 some z was below 0", isBelow ? 1 : 0, 1);
    PotHandles x = withText(1, "9");
    x.pot(POT, 0, 5);
    x.years(1);
    x.loose(1);
    due("15 a broken one is drawn, too", x.ofPot(0, 3), 1);
  }

  /** Ints that go round; n is the number of the POT, up to 9. */
  private static void voicesGoRound() {
    PotHandles x = new PotHandles();
    for (int p = 0; p < 10; p++) {
      x.pot(POT + 9, 0, 0);
    }
    due("29 number 0", x.voice(0, 0, MAX), MAX);
    due("29 holds", x.voice(1, 0, MAX), MIN);
    due("29 holds", x.voice(9, 0, MAX), MIN + 8);
    due("29 warms", x.voice(0, 1, MIN), 0);
    due("29 warms", x.voice(0, 1, MAX), -2);
    due("29 grows", x.voice(0, 2, MIN), MAX - 8);
    due("29 grows", x.voice(0, 2, MIN + 9), MIN);
    due("29 tells", x.voice(0, 3, MIN), MAX - 8);
    x.become(0, CROCK);
    due("29 CROCK holds", x.voice(0, 0, MAX), MAX - 2);
    x.become(0, CUP);
    due("29 CUP grows", x.voice(0, 2, MIN), MIN);
    x.become(0, ROOKS);
    due("29 ROOKS warms", x.voice(0, 1, MAX), -1);
    x.become(9, CHIPPED + 9);
    due("29 CHIPPED grows", x.voice(9, 2, 9), 9);
    due("29 the first act", x.voice(0, 0, 0), 0);
    due("29 the last act", x.voice(0, 3, 0), 1);
    due("29 a number that looks like an ERROR", x.voice(0, 0, LOW - 1), LOW - 1);
    due("41 is none", x.told(1), 0);
  }

  /** The longest VOICE begins nine BODIES; before the first there are none. */
  private static void trace() {
    PotHandles x = new PotHandles();
    due("40 none at first", x.count(8), 0);
    x.pot(CHIPPED, 0, 0);
    x.voice(0, 3, 0);
    int[] bodies = {71, 11, 10, 13, 11, 10, 70, 40, 12};
    due("40 nine", x.count(8), 9);
    for (int i = 0; i < 9; i++) {
      due("30 body " + i, x.trace(i), bodies[i]);
    }
    due("30 not the tenth", x.trace(9), NONE);
    due("30 not the forty-first", x.trace(40), NONE);
    x.voice(0, 0, 0);
    due("30 the latest alone", x.count(8), 1);
    due("30 the latest alone", x.trace(0), 10);
    due("30 the latest alone", x.trace(1), NONE);
  }

  // ---- term 4: SHEETS

  /** The lowest bits of what is put. */
  private static void sheetBits() {
    int[] bits = {8, 16, 32};
    int[][] puts = {{0, 0, 0, 0}, {9, 9, 9, 9}, {256, 0, -1, -1}, {265, 9, -1, -1}, {-247, 9, -1, -1}, {65536, 0, 0, -1},
        {65545, 9, 9, -1}, {MIN, 0, 0, -1}, {MIN + 9, 9, 9, -1}, {MAX, -1, -1, -1}, {255, -1, -1, -1}, {10, -1, -1, -1}};
    for (int b = 0; b < bits.length; b++) {
      PotHandles x = new PotHandles();
      x.pot(POT, 0, 5);
      x.sheet(3, bits[b], 1);
      for (int[] put : puts) {
        x.change(0, USED, 5);
        due("32 put", x.put(3, 0, put[0]), 1);
        int want = put[1 + b];
        due("32 " + put[0] + " in " + bits[b], x.uses(3), want < 0 ? 0 : 1);
        due("32 " + put[0] + " in " + bits[b], x.ofPot(0, 3), want < 0 ? 5 : want);
      }
      x.sheet(3, bits[b], 1);
      x.uses(3);
      due("31 all 0 again", x.ofPot(0, 3), 0);
      x.change(0, LIKED, 999);
      x.put(3, 0, 999);
      due("22 999 in " + bits[b], x.whose(3, 0, 1), bits[b] == 8 ? 0 : 5);
    }
  }

  private static void moveFull() {
    PotHandles x = new PotHandles();
    for (int p = 0; p < 10; p++) {
      x.pot(POT, 0, 0);
    }
    for (int s = 0; s < 2; s++) {
      x.sheet(s, 32, 40);
    }
    for (int i = 0; i < 40; i++) {
      x.put(0, i, i % 7);
    }
    due("33 all forty", x.move(0, 0, 1, 0, 40), 40);
    due("33 onto itself", x.move(1, 0, 1, 0, 40), 40);
    due("33 up by one", x.move(1, 0, 1, 1, 39), 39);
    for (int i = 0; i < 40; i += 10) {
      x.move(1, i, 1, 0, 10);
      x.uses(1);
      for (int p = 0; p < 10; p++) {
        due("33 number " + (i + p), x.ofPot(p, 3), i + p == 0 ? 0 : (i + p - 1) % 7);
      }
    }
    due("33 down by one", x.move(0, 1, 0, 0, 39), 39);
    x.uses(0);
    for (int p = 0; p < 10; p++) {
      due("33 number " + p, x.ofPot(p, 3), (p + 1) % 7);
    }
    x.sheet(2, 8, 0);
    due("33 none of none", x.move(2, 0, 2, 0, 0), 0);
  }

  private static void usesFull() {
    PotHandles x = new PotHandles();
    x.sheet(0, 16, 40);
    x.sheet(1, 16, 0);
    due("34 no POT", x.uses(0), 0);
    due("34 no number", x.uses(1), 0);
    for (int p = 0; p < 10; p++) {
      x.pot(POT, 0, 5);
    }
    for (int i = 0; i < 40; i++) {
      x.put(0, i, i % 10);
    }
    due("34 no number", x.uses(1), 0);
    due("34 ten POTS", x.uses(0), 10);
    for (int p = 0; p < 10; p++) {
      due("34 USED", x.ofPot(p, 3), p);
      x.put(0, p, 9 - p);
    }
    x.put(0, 9, 10);
    due("34 not the last", x.uses(0), 9);
    due("34 the last stays", x.ofPot(9, 3), 9);
    due("34 the one ahead", x.ofPot(8, 3), 1);
    x.put(0, 0, -1);
    due("34 not the first", x.uses(0), 0);
    due("34 the first stays", x.ofPot(0, 3), 9);
    due("41 no ERROR then", x.told(1), 0);
    x.sheet(1, 16, 9);
    due("34 nine numbers", x.uses(1), 9);
    due("34 the last stays", x.ofPot(9, 3), 9);
  }

  private static void judgeFull() {
    PotHandles x = new PotHandles();
    x.sheet(0, 8, 0);
    x.sheet(1, 8, 1);
    due("35 none of none", x.judge(0), -1);
    due("35 one too many", x.judge(1), 0);
    x.pot(POT, 0, 0);
    due("35 one lacks", x.judge(0), 0);
    due("35 all are", x.judge(1), -1);
    for (int p = 1; p < 10; p++) {
      x.pot(POT, 0, 0);
    }
    for (int n : new int[] {0, 1, 9, 10, 11, 40}) {
      x.sheet(0, 8, n);
      due("35 n " + n, x.judge(0), n == 10 ? -1 : Math.min(n, 10));
    }
    x.sheet(0, 32, 10);
    x.stick(9);
    due("35 not the last", x.judge(0), 9);
    x.put(0, 9, 1);
    due("35 all are", x.judge(0), -1);
    x.put(0, 9, 2);
    due("35 more", x.judge(0), 9);
    x.put(0, 0, MIN);
    due("35 the first that isn't so", x.judge(0), 0);
  }

  // ---- images, what waits, sets

  private static void imageAndRestore() {
    PotHandles x = new PotHandles();
    due("37 none", x.restore(), NONE);
    due("36 of an object as at first", x.image(), 1);
    fill(x, '1');
    x.stick(0);
    aged(x, 60);
    due("37 YEAR", x.restore(), 0);
    due("40 no POTS", x.count(0), 0);
    due("40 THE TAPE is empty", x.count(6), 0);
    due("40 none wait", x.count(7), 0);
    due("3 none there", x.ofHouse(0, 2), 0);
    due("4 the first", x.pot(POT, 0, 3), 0);
    for (int what = 4; what < 8; what++) {
      due("5 a new one", x.ofPot(0, what), 0);
    }
    due("11 the first byte", x.feed('u', 1), 1);
    due("38 the first", x.tell(0), 1);
    due("37 it stays", x.restore(), 0);
    due("37 it stays", x.count(0), 0);
    fullImage();
    brokenImage();
  }

  /** Ten POTS, twenty numbers that wait (each what sign tells), fifty bytes on THE TAPE. */
  private static void fill(PotHandles x, char sign) {
    for (int p = 0; p < 10; p++) {
      x.pot(JUG, p % 5, 9);
    }
    for (int i = 0; i < 20; i++) {
      x.tell(sign - '0');
    }
    for (int i = 0; i < 50; i++) {
      x.feed(i % 2 == 0 ? sign : i == 49 ? 'h' : '+', 1);
    }
  }

  private static void fullImage() {
    PotHandles x = new PotHandles();
    x.seed(MIN);
    aged(x, 9960);
    fill(x, '0');
    x.years(39);
    due("36 full, in the last YEAR", x.image(), 1);
    x.check();
    x.text(0);
    x.seed(1);
    fill(x, '1');
    due("37 the last YEAR", x.restore(), 9999);
    due("40 z", x.count(9), MIN);
    due("4 FULL as it was", x.pot(POT, 0, 0), FULL);
    due("38 FULL as it was", x.tell(0), FULL);
    due("11 FULL as it was", x.feed(0, 1), FULL);
    due("14 no YEAR beyond", x.years(1), STATE);
    due("12 THE TAPE as it was", x.text(0), -59);
    for (int p = 0; p < 10; p++) {
      x.become(p, POT);
    }
    due("39 twenty HANDLES, none told", x.check(), 1);
    due("36 how often isn't kept", x.image(), 2);
    due("37 the numbers are not there any more", x.restore(), 9999);
    due("40 none wait", x.count(7), 0);

    PotHandles y = new PotHandles();
    y.tell(0);
    y.tell(7);
    for (char sign : "9+h".toCharArray()) {
      y.feed(sign, 1);
    }
    y.image();
    y.check();
    y.tell(8);
    y.tell(8);
    due("text", read(y, 0, "5"), -13);
    due("text", read(y, 0, "1234"), 1);
    y.restore();
    due("39 the first as it was, the second not so", y.check(), 2);
    due("13 the TEXT as it was", y.law(0, 5, 5, 5), 5);
    due("12 THE TAPE as it was", y.text(0), 1);
    due("13 THE TAPE as it was", y.law(0, 5, 5, 5), 14);
  }

  private static void brokenImage() {
    PotHandles x = withText(1, "9");
    x.pot(POT, 0, 5);
    x.pot(JUG, 1, 5);
    x.house(1, 1, 9);
    x.stick(1);
    x.image();
    x.years(1);
    due("40 BROKEN", x.count(2), 1);
    x.shift(1, 0);
    x.years(1);
    due("40 BROKEN", x.count(2), 2);
    x.restore();
    due("40 BROKEN as it was", x.count(2), 0);
    due("40 none is broken", x.count(5), 0);
    due("40 FALSE as it was", x.count(4), 2);
    x.years(1);
    x.image();
    x.restore();
    due("40 BROKEN as it was", x.count(2), 1);
    due("40 one is broken", x.count(5), 1);
    due("7 broken as it was", x.shift(0, 1), STATE);
  }

  private static void waiting() {
    PotHandles x = warmedBy(5);
    due("39 none wait", x.check(), 0);
    withPot(x, CROCK, 0, 0);
    for (int i = 1; i <= 20; i++) {
      due("38 waits", x.tell(i == 20 ? 1 : 0), i);
    }
    due("39 the twentieth is so", x.check(), 0);
    due("40 none waits then", x.count(7), 0);
    for (int i = 1; i <= 20; i++) {
      x.tell(0);
    }
    due("39 the twentieth isn't so", x.check(), 20);
    due("40 none waits then", x.count(7), 0);
    due("39 none wait", x.check(), 0);
    x.tell(1);
    x.tell(1);
    due("39 the first isn't so", x.check(), 1);
    due("38 the first again", x.tell(MIN), 1);
    due("38 any number", x.tell(MAX), 2);
    due("39 behind 1 for the first", x.check(), 1);
    PotHandles empty = new PotHandles();
    for (int i = 1; i <= 20; i++) {
      empty.tell(0);
    }
    due("39 no POTS: none of all", empty.check(), 0);
  }

  /** Ten POTS, all in a set. */
  private static void sets() {
    PotHandles x = new PotHandles();
    for (int p = 0; p < 10; p++) {
      due("4 its number", x.pot(POT, 4, 5), p);
      due("3 so many", x.ofHouse(4, 2), (2 << p) - 1);
      due("40 POTS", x.count(0), p + 1);
    }
    due("40 none is FALSE", x.count(4), 0);
    for (int p = 9; p >= 0; p--) {
      x.stick(p);
    }
    due("40 all are FALSE", x.count(4), 1023);
    due("40 HANDLES", x.count(3), 10);
    due("40 none is broken", x.count(5), 0);
    x.shift(9, 0);
    due("3 the last alone", x.ofHouse(0, 2), 512);
    due("3 the others", x.ofHouse(4, 2), 511);
    due("40 all but the last", x.count(4), 511);
  }
}
