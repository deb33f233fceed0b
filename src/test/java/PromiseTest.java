/** Each promise of the document by itself: ordinary calls, the edges it names, wrong calls. */
public final class PromiseTest {
  private static final int LOW = -1000000000;
  private static final int BEYOND = LOW - 1;
  private static final int NONE = LOW - 2;
  private static final int STATE = LOW - 3;
  private static final int FULL = LOW - 4;
  private static final int KIND = LOW - 5;
  private static final int MIN = Integer.MIN_VALUE;
  private static final int MAX = Integer.MAX_VALUE;

  private static int asked = 0;
  private static int wrong = 0;

  private static void due(String what, long got, long want) {
    asked++;
    if (got != want) {
      wrong++;
      System.out.println(what + ": answered " + got + ", due is " + want);
    }
  }

  public static void main(String[] args) {
    newObject();
    housesAndPots();
    changing();
    kinds();
    tapeAndTexts();
    faults();
    laws();
    yearsOfKinds();
    yearsThatBreak();
    yearsByDraws();
    behindYears();
    placeAndUse();
    neededAndWhose();
    carryAndRichest();
    breaksAndDealer();
    odds();
    voices();
    sheets();
    usesAndJudge();
    images();
    telling();
    counting();
    System.out.println(wrong + " of " + asked + " answers are not as due");
    if (wrong != 0) {
      System.exit(1);
    }
  }

  private static void feedAll(PotHandles x, String text) {
    for (int at = 0; at < text.length(); at += 8) {
      int n = Math.min(8, text.length() - at);
      long word = 0;
      for (int i = 0; i < n; i++) {
        word |= (text.charAt(at + i) & 255L) << (8 * i);
      }
      x.feed(word, n);
    }
  }

  private static int read(PotHandles x, int use, String text) {
    feedAll(x, text);
    return x.text(use);
  }

  private static PotHandles withText(int use, String text) {
    PotHandles x = new PotHandles();
    due("text " + text, read(x, use, text), 1);
    return x;
  }

  // ---- promise 1

  private static void newObject() {
    PotHandles x = new PotHandles();
    for (int what = 0; what <= 8; what++) {
      due("1 count " + what, x.count(what), 0);
    }
    due("1 z", x.count(9), 1);
    for (int h = 0; h < 5; h++) {
      due("1 hands", x.ofHouse(h, 0), 2);
      due("1 care", x.ofHouse(h, 1), 5);
      due("1 pots", x.ofHouse(h, 2), 0);
    }
    due("1 no image", x.restore(), NONE);
    due("1 no pot", x.ofPot(0, 0), BEYOND);
    for (int s = 0; s < 4; s++) {
      due("1 no sheet", x.put(s, 0, 0), NONE);
    }
    due("1 no text 0", x.law(0, 5, 7, 9), 7);
    due("1 no text 1", x.law(1, 9, 9, 9), 0);
  }

  // ---- promises 2, 3, 4, 5

  private static void housesAndPots() {
    PotHandles x = new PotHandles();
    due("2 hands", x.house(4, 0, 9), 2);
    due("2 hands again", x.house(4, 0, 0), 9);
    due("2 care", x.house(4, 1, 3), 5);
    due("2 other house", x.ofHouse(3, 1), 5);
    due("3 hands", x.ofHouse(4, 0), 0);
    due("3 care", x.ofHouse(4, 1), 3);
    int[][] bad = {{-1, 0, 0}, {5, 0, 0}, {0, -1, 0}, {0, 2, 0}, {0, 0, -1}, {0, 0, 10}, {MIN, MAX, MIN}, {MAX, 0, 0}};
    for (int[] b : bad) {
      due("2 wrong", x.house(b[0], b[1], b[2]), BEYOND);
    }
    due("3 wrong", x.ofHouse(5, 0), BEYOND);
    due("3 wrong", x.ofHouse(-1, 0), BEYOND);
    due("3 wrong", x.ofHouse(0, 3), BEYOND);
    due("3 wrong", x.ofHouse(0, -1), BEYOND);

    due("4 first", x.pot(69, 4, 9), 0);
    due("4 second", x.pot(0, 0, 0), 1);
    due("4 third", x.pot(17, 4, 1), 2);
    due("3 set", x.ofHouse(4, 2), 5);
    int[][] wrongPots = {{-1, 0, 0}, {70, 0, 0}, {MIN, 0, 0}, {MAX, 0, 0}, {0, -1, 0}, {0, 5, 0}, {0, 0, -1}, {0, 0, 10}};
    for (int[] b : wrongPots) {
      due("4 wrong", x.pot(b[0], b[1], b[2]), BEYOND);
    }
    int[] chipped = {6, 9, 4, 9, 0, 0, 0, 0, 30, 1};
    int[] crock = {1, 7, 4, 1, 0, 0, 0, 0, 100, 1};
    for (int what = 0; what < 10; what++) {
      due("5 chipped " + what, x.ofPot(0, what), chipped[what]);
      due("5 crock " + what, x.ofPot(2, what), crock[what]);
    }
    due("5 wrong", x.ofPot(3, 0), BEYOND);
    due("5 wrong", x.ofPot(-1, 0), BEYOND);
    due("5 wrong", x.ofPot(0, 10), BEYOND);
    due("5 wrong", x.ofPot(0, -1), BEYOND);
    for (int p = 3; p < 10; p++) {
      due("4 more", x.pot(1, 2, 3), p);
    }
    due("4 full", x.pot(0, 0, 0), FULL);
    due("4 beyond ahead of full", x.pot(70, 0, 0), BEYOND);
    due("3 set of many", x.ofHouse(2, 2), 1016);
  }

  // ---- promises 6, 7, 8

  private static void changing() {
    PotHandles x = new PotHandles();
    x.pot(20, 1, 7);
    due("6 used", x.change(0, 0, 9), 7);
    due("6 liked", x.change(0, 1, 999), 0);
    due("6 years", x.change(0, 2, 999), 0);
    due("6 used now", x.ofPot(0, 3), 9);
    due("6 liked now", x.change(0, 1, 31), 999);
    due("6 years now", x.change(0, 2, 12), 999);
    int[][] bad = {{1, 0, 0}, {-1, 0, 0}, {0, 3, 0}, {0, -1, 0}, {0, 0, 10}, {0, 0, -1}, {0, 1, 1000}, {0, 2, 1000}, {0, 1, -1}, {0, 2, -1}};
    for (int[] b : bad) {
      due("6 wrong", x.change(b[0], b[1], b[2]), BEYOND);
    }
    due("7 beyond", x.shift(1, 0), BEYOND);
    due("7 beyond", x.shift(0, 5), BEYOND);
    due("7 beyond", x.shift(0, -1), BEYOND);
    due("7 there", x.shift(0, 1), STATE);
    due("8 stick", x.stick(0), 31);
    due("8 handles", x.ofPot(0, 6), 1);
    due("8 false", x.ofPot(0, 7), 1);
    due("8 has one", x.stick(0), STATE);
    due("8 beyond", x.stick(1), BEYOND);
    due("8 beyond", x.stick(-1), BEYOND);
    due("7 shift", x.shift(0, 3), 1);
    int[] moved = {2, 0, 3, 9, 15, 0, 0, 0};
    for (int what = 0; what < 8; what++) {
      due("7 moved " + what, x.ofPot(0, what), moved[what]);
    }
    due("7 back", x.shift(0, 0), 3);
    due("7 half again", x.ofPot(0, 4), 7);

    // a false one that another has come to: both come off
    x.stick(0);
    x.change(0, 1, 500);
    x.change(0, 2, 40);
    due("7 two", x.years(1), 2);
    x.shift(0, 1);
    due("7 both off", x.ofPot(0, 6), 0);
    // a true one stays
    x.change(0, 2, 40);
    due("7 true", x.years(1), 1);
    x.shift(0, 2);
    due("7 true stays", x.ofPot(0, 6), 1);
    due("8 has a true one", x.stick(0), STATE);

    PotHandles y = withText(1, "9");
    y.pot(0, 0, 1);
    y.years(1);
    due("7 broken", y.shift(0, 1), STATE);
    due("7 broken, beyond first", y.shift(0, 5), BEYOND);
    due("8 broken", y.stick(0), STATE);
    due("6 broken may change", y.change(0, 1, 5), 1);
  }

  // ---- promises 9, 10, and WANTS and BEARS of 5

  private static void kinds() {
    PotHandles x = new PotHandles();
    x.pot(3, 0, 1);
    int[] above = {-1, 0, 0, 0, 1, 2, 3};
    int[] wants = {50, 100, 42, 20, 100, 42, 30};
    int[] bears = {1, 1, 2, 1, 1, 3, 1};
    int was = 0;
    for (int kind = 0; kind < 7; kind++) {
      due("9 become", x.become(0, 10 * kind + 8), was);
      was = kind;
      due("9 kind", x.ofPot(0, 0), kind);
      due("9 m", x.ofPot(0, 1), 8);
      due("5 wants", x.ofPot(0, 8), wants[kind]);
      due("5 bears", x.ofPot(0, 9), bears[kind]);
      for (int asKind = 0; asKind < 7; asKind++) {
        boolean is = asKind == kind || asKind == 0 || asKind == above[kind];
        due("10 as " + kind + " " + asKind, x.as(0, asKind), is ? 8 : KIND);
      }
    }
    x.become(0, 58);
    x.stick(0);
    due("5 rooks with a handle", x.ofPot(0, 8), 84);
    due("9 keeps handles", x.become(0, 20), 5);
    due("9 keeps handles", x.ofPot(0, 6), 1);
    due("5 jug with a handle", x.ofPot(0, 8), 50);
    due("9 beyond", x.become(0, 70), BEYOND);
    due("9 beyond", x.become(0, -1), BEYOND);
    due("9 beyond", x.become(1, 0), BEYOND);
    due("10 beyond", x.as(0, 7), BEYOND);
    due("10 beyond", x.as(0, -1), BEYOND);
    due("10 beyond", x.as(1, 0), BEYOND);
  }

  // ---- promises 11, 12

  private static void tapeAndTexts() {
    PotHandles x = new PotHandles();
    due("11 one byte", x.feed(0x4142434445464775L, 1), 1);
    due("11 beyond", x.feed(0, 0), BEYOND);
    due("11 beyond", x.feed(0, 9), BEYOND);
    due("11 beyond", x.feed(0, MIN), BEYOND);
    due("12 lowest byte alone", x.text(0), 1);
    due("12 it is empty then", x.count(6), 0);
    due("12 u", x.law(0, 8, 1, 1), 8);
    due("11 lowest first", x.feed('9' | '-' << 8 | '4' << 16, 3), 3);
    due("12 9-4", x.text(0), 1);
    due("12 in place of one ahead", x.law(0, 8, 1, 1), 5);
    for (int i = 1; i <= 6; i++) {
      due("11 fed", x.feed(0x3131313131313131L, 8), 8 * i);
    }
    due("11 full", x.feed(0, 3), FULL);
    due("11 not more", x.count(6), 48);
    due("11 just full", x.feed('+' | '1' << 8, 2), 50);
    due("11 full", x.feed(0, 1), FULL);
    due("11 beyond ahead of full", x.feed(0, 9), BEYOND);
    due("12 beyond", x.text(2), BEYOND);
    due("12 beyond", x.text(-1), BEYOND);
    due("12 the tape stays", x.count(6), 50);
    due("12 five digits", x.text(0), -14);
    due("12 empty then too", x.count(6), 0);
    due("12 the one ahead stays", x.law(0, 8, 1, 1), 5);
    due("12 fault is no error", x.told(2) + x.told(3) + x.told(5), 0);
  }

  private static void faults() {
    String[][] cases = {
      {"", "0"}, {"u+", "2"}, {"x", "0"}, {"y", "0"}, {"u c", "1"}, {"u<c<h", "3"}, {"u<c&c>h", ""},
      {"12345", "4"}, {"0000", ""}, {"1u", "1"}, {"u1", "1"}, {"(u", "2"}, {"u)", "1"}, {"()", "1"},
      {"((((((u))))))", "5"}, {"(((((u)))))", ""}, {"!!!!!u", ""}, {"!!!!!!u", "5"}, {"!(!(!u))", ""},
      {"!(!(!(u)))", "5"}, {"(((((u)))))+!!!!!c", ""}, {"-1", "0"}, {"1--1", "2"}, {"u=(c=h)", ""},
      {"u=c=h", "3"}, {"(u<c)<h", ""}, {"u|&c", "2"}, {"u**c", "2"}, {"!", "1"}, {"u!c", "1"},
      {"(u<c", "4"}, {"(u<c<h)", "4"}, {"u\u00e9", "1"}, {"u\0", "1"}, {"n", "0"}, {"!u<!c", ""}
    };
    for (String[] c : cases) {
      PotHandles x = new PotHandles();
      due("12 " + c[0], read(x, 0, c[0]), c[1].isEmpty() ? 1 : -10 - Integer.parseInt(c[1]));
    }
    due("12 names of the other", read(new PotHandles(), 1, "u+y+n"), 1);
    due("12 names of the other", read(new PotHandles(), 1, "u+c"), -12);
    due("12 names of the other", read(new PotHandles(), 1, "u+y+h"), -14);
    due("12 fifty bytes", read(new PotHandles(), 0, "1+".repeat(24) + "11"), 1);
    due("12 fifty bytes", read(new PotHandles(), 0, "1+".repeat(25)), -60);
  }

  // ---- promise 13

  private static void laws() {
    String[][] cases = {
      {"u-c-h", "4"}, {"u-(c-h)", "6"}, {"u/c*c", "8"}, {"u%c", "1"}, {"h+c*u", "37"}, {"(h+c)*u", "45"},
      {"u/0", "0"}, {"u%0", "0"}, {"u/(c-c)+7", "7"}, {"c-u", "0"}, {"(c-u)/2+9", "7"}, {"(c-u)%3+9", "7"},
      {"u<c", "0"}, {"c<u", "1"}, {"u>c", "1"}, {"u=9", "1"}, {"!u", "0"}, {"!(u-u)", "1"}, {"!u+5", "5"},
      {"u|0", "1"}, {"0|0", "0"}, {"u&c", "1"}, {"u&0", "0"}, {"0&0|7", "1"}, {"1|0&0", "1"}, {"u+1>c*2&h", "1"},
      {"(u=9)*50+(c=4)*40", "90"}, {"9999", "99"}, {"0099", "99"}, {"0-1", "0"}, {"2<1+2", "1"},
      {"9999*9999*9999*9999%97+50", "51"}, {"!!u*7", "7"}, {"u<u", "0"}, {"u>u", "0"}, {"u=u", "1"}, {"(0|1)*7", "7"}
    };
    for (String[] c : cases) {
      due("13 " + c[0], withText(0, c[0]).law(0, 9, 4, 1), lawDue(c));
    }
    PotHandles x = withText(1, "u*1+y*2+n*3");
    due("13 use 1", x.law(1, 1, 2, 3), 14);
    due("13 use 0 has none", x.law(0, 9, 9, 9), 16);
    due("13 cut", x.law(0, 7, 2, 0), 2);
    due("13 held", x.law(1, 50, 50, 0), 99);
    due("13 held", x.law(1, -50, 0, 0), 0);
    due("13 beyond", x.law(2, 0, 0, 0), BEYOND);
    due("13 beyond", x.law(-1, 0, 0, 0), BEYOND);
    due("13 least by -1", withText(0, "u/c/h+5").law(0, MIN, -1, MAX), 4);
    due("13 least by -1", withText(0, "u%c+5").law(0, MIN, -1, 0), 5);
  }

  /** The long product wraps as Java's ints do. */
  private static int lawDue(String[] c) {
    if (!c[0].startsWith("9999*")) {
      return Integer.parseInt(c[1]);
    }
    int wrapped = 9999 * 9999 * 9999 * 9999 % 97 + 50;
    return Math.max(0, Math.min(99, wrapped));
  }

  // ---- promise 14

  private static void yearsOfKinds() {
    PotHandles x = withText(0, "10");
    int[] kms = {3, 14, 25, 31, 48, 50, 62};
    for (int km : kms) {
      x.pot(km, 0, 0);
    }
    due("14 ten years", x.years(10), 0);
    row("14 behind 10", x, 4, 100, 140, 200, 50, 180, 200, 40);
    row("14 behind 10", x, 5, 10, 10, 10, 10, 10, 10, 10);
    due("14 the eleventh", x.years(1), 7);
    row("14 liked, 11", x, 4, 60, 54, 175, 35, 98, 170, 14);
    due("14 the twelfth", x.years(1), 9);
    row("14 liked, 12", x, 4, 70, 68, 150, 40, 98, 91, 18);
    row("14 handles, 12", x, 6, 1, 1, 2, 1, 1, 2, 1);
    due("14 two more", x.years(2), 10);
    row("14 liked, 14", x, 4, 90, 96, 190, 50, 98, 36, 26);
    row("14 handles, 14", x, 6, 1, 1, 2, 1, 1, 3, 1);
    due("14 year", x.count(1), 14);
    due("14 none is false", x.count(4), 0);
    x.change(0, 1, 995);
    x.change(0, 2, 999);
    x.years(1);
    due("14 liked is held", x.ofPot(0, 4), 999);
    due("14 years are held", x.ofPot(0, 5), 999);
    due("14 beyond", x.years(0), BEYOND);
    due("14 beyond", x.years(61), BEYOND);
    due("14 beyond", x.years(MIN), BEYOND);
    due("14 beyond", x.years(MAX), BEYOND);

    PotHandles y = new PotHandles();
    y.pot(63, 0, 1);
    y.years(5);
    due("14 chipped: 0 at least", y.ofPot(0, 4), 0);
    y.pot(0, 1, 7);
    y.house(1, 1, 8);
    y.house(1, 0, 9);
    y.years(1);
    due("14 without a text u*c/5", y.ofPot(1, 4), 11);
    due("14 with c and h", read(y, 0, "c+h"), 1);
    y.years(1);
    due("14 with c and h", y.ofPot(1, 4), 28);

    PotHandles z = new PotHandles();
    for (int i = 0; i < 166; i++) {
      z.years(60);
    }
    due("14 state", z.years(40), STATE);
    due("15 state", z.loose(40), STATE);
    due("14 up to 9999", z.years(39), 0);
    due("14 year 9999", z.count(1), 9999);
    due("14 state", z.years(1), STATE);
    due("15 state", z.loose(1), STATE);
    due("14 beyond first", z.years(61), BEYOND);
    due("15 beyond first", z.loose(41), BEYOND);
    z.pot(20, 0, 9);
    due("16 thought goes on", z.then(60, 0, 1), 2);
    due("16 and changes nothing", z.count(1), 9999);
  }

  private static void row(String what, PotHandles x, int of, int... want) {
    for (int p = 0; p < want.length; p++) {
      due(what + " pot " + p, x.ofPot(p, of), want[p]);
    }
  }

  private static void yearsThatBreak() {
    PotHandles x = withText(1, "n*3");
    for (int i = 0; i < 3; i++) {
      x.pot(0, 0, 5);
    }
    x.pot(0, 1, 5);
    due("25 two will", x.breaks(1), 2);
    x.years(1);
    row("14 n is counted each time", x, 2, -1, -1, 0, 1);
    row("14 it warms ahead", x, 4, 5, 5, 5, 5);
    due("14 broken", x.count(2), 2);
    x.years(3);
    row("14 the broken rest", x, 4, 5, 5, 20, 20);
    row("14 the broken rest", x, 5, 1, 1, 4, 4);

    PotHandles y = withText(1, "(y=4)*(u+1)");
    y.pot(0, 0, 4);
    y.pot(0, 0, 5);
    y.years(4);
    due("14 not yet", y.count(5), 0);
    y.years(1);
    due("14 more than care alone", y.count(5), 2);
    y.pot(0, 0, 9);
    y.years(12);
    due("14 the rest by 13", y.count(5), 2);
    y.years(1);
    due("14 the rest by 13", y.count(5), 6);

    PotHandles z = withText(1, "9");
    z.pot(0, 0, 5);
    z.change(0, 1, 60);
    z.change(0, 2, 10);
    due("14 grows, then breaks", z.years(1), 1);
    due("14 keeps the handle", z.ofPot(0, 6), 1);
    due("14 liked", z.ofPot(0, 4), 15);
    due("14 in none", z.ofPot(0, 2), -1);
    due("18 not there any more", z.shelf(0, 0), 0);
    due("40 but of all together", z.count(3), 1);
    z.house(0, 1, 9);
    z.pot(0, 0, 5);
    z.years(1);
    due("14 as much as care does not", z.ofPot(1, 2), 0);
  }

  // ---- promise 15

  private static void yearsByDraws() {
    PotHandles x = new PotHandles();
    x.pot(0, 0, 5);
    x.pot(0, 0, 5);
    x.pot(0, 0, 5);
    due("15 one", x.loose(1), 0);
    due("15 z", x.count(9), 1103527590);
    row("15 used of the third", x, 3, 5, 5, 1);
    row("15 the draw is ahead of the year", x, 4, 5, 5, 1);
    due("15 year", x.count(1), 1);
    x.seed(5);
    x.loose(1);
    row("15 an eighth, cut", x, 3, 5, 5, 3);
    PotHandles one = new PotHandles();
    one.pot(0, 0, 5);
    one.loose(1);
    due("15 one pot", one.ofPot(0, 3), 1);
    PotHandles old = new PotHandles();
    for (int i = 0; i < 166; i++) {
      old.years(60);
    }
    due("15 up to 9999", old.loose(39), 0);
    due("15 year 9999", old.count(1), 9999);
    PotHandles y = new PotHandles();
    due("15 no pots", y.loose(1), 0);
    due("15 drawn all the same", y.count(9), 1103527590);
    y.seed(-7);
    due("28 what it was", y.seed(1), -7);
    due("28 any number", y.seed(BEYOND), 1);
    due("28 no error", y.told(1), 0);
    due("28 any number", y.count(9), BEYOND);
    due("15 beyond", y.loose(0), BEYOND);
    due("15 beyond", y.loose(41), BEYOND);
    due("15 beyond", y.loose(-1), BEYOND);
    due("15 forty", y.loose(40), 0);
    due("15 year", y.count(1), 41);
  }

  // ---- promises 16, 17, 18

  private static void behindYears() {
    PotHandles x = new PotHandles();
    x.pot(0, 0, 5);
    x.pot(20, 1, 5);
    x.pot(0, 1, 0);
    due("16 liked", x.then(10, 0, 0), 50);
    due("16 handles", x.then(11, 0, 1), 1);
    due("16 liked less", x.then(11, 0, 0), 5);
    due("16 behind 0", x.then(0, 0, 0), 0);
    due("16 behind 60", x.then(60, 0, 0), 250);
    due("16 house", x.then(60, 1, 2), 1);
    due("16 it is only thought", x.ofPot(0, 4) + x.count(1), 0);
    int[][] bad = {{-1, 0, 0}, {61, 0, 0}, {0, 3, 0}, {0, -1, 0}, {0, 0, 3}, {0, 0, -1}, {MIN, MIN, MIN}};
    for (int[] b : bad) {
      due("16 beyond", x.then(b[0], b[1], b[2]), BEYOND);
    }
    due("17 pot", x.when(0), 11);
    due("17 jug", x.when(1), 11);
    due("17 never", x.when(2), NONE);
    due("17 beyond", x.when(3), BEYOND);
    due("17 beyond", x.when(-1), BEYOND);
    x.change(0, 1, 49);
    x.change(0, 2, 10);
    due("17 the next", x.when(0), 1);
    x.stick(1);
    due("17 one more than now", x.when(1), 11);
    x.stick(0);
    due("17 it bears no more", x.when(0), NONE);
    x.change(2, 0, 1);
    x.change(2, 1, 0);
    due("17 by 50", x.when(2), 50);
    x.become(2, 10);
    x.change(2, 1, 40);
    due("17 by 60", x.when(2), 60);
    x.change(2, 1, 39);
    due("17 not by 60", x.when(2), NONE);
    due("18 shelf", x.shelf(1, 0), 2);
    x.change(2, 1, 90);
    due("18 shelf, 10", x.shelf(1, 10), 2);
    due("18 shelf, 11", x.shelf(1, 11), 6);
    due("18 other house", x.shelf(2, 60), 0);
    due("18 beyond", x.shelf(5, 0), BEYOND);
    due("18 beyond", x.shelf(-1, 0), BEYOND);
    due("18 beyond", x.shelf(0, 61), BEYOND);
    due("18 beyond", x.shelf(0, -1), BEYOND);
    due("16 a broken one then", read(x, 1, "(y=2)*9"), 1);
    due("16 house, 2", x.then(2, 0, 2), 0);
    due("16 house, 3", x.then(3, 0, 2), -1);
    due("18 none broken", x.shelf(1, 11), 0);
  }

  // ---- promises 19, 20

  private static void placeAndUse() {
    PotHandles x = new PotHandles();
    x.pot(0, 0, 5);
    x.change(0, 1, 40);
    x.change(0, 2, 10);
    x.house(1, 1, 9);
    x.house(3, 1, 9);
    due("19 most liked stays", x.place(0, 1, 0), 0);
    due("19 no handle", x.place(0, 1, 1), 0);
    due("19 handles first", x.place(0, 2, 0), 0);
    due("19 one", x.place(0, 2, 1), 1);
    due("19 more liked, least house", x.place(0, 11, 0), 1);
    due("19 one", x.place(0, 11, 1), 1);
    due("19 only thought", x.ofPot(0, 2), 0);
    x.shift(0, 3);
    x.stick(0);
    due("19 a false one comes off", x.place(0, 0, 0), 3);
    due("19 a false one comes off", x.place(0, 0, 1), 1);
    due("19 beyond", x.place(1, 0, 0), BEYOND);
    due("19 beyond", x.place(-1, 0, 0), BEYOND);
    due("19 beyond", x.place(0, 61, 0), BEYOND);
    due("19 beyond", x.place(0, -1, 0), BEYOND);
    due("19 beyond", x.place(0, 0, 2), BEYOND);
    due("19 beyond", x.place(0, 0, -1), BEYOND);

    PotHandles y = new PotHandles();
    y.pot(0, 0, 9);
    due("20 n 11", y.use(0, 11), 5);
    due("20 n 25", y.use(0, 25), 2);
    due("20 n 60", y.use(0, 60), 1);
    due("20 n 10", y.use(0, 10), NONE);
    due("20 n 0", y.use(0, 0), NONE);
    due("20 only thought", y.ofPot(0, 3), 9);
    due("20 beyond", y.use(1, 0), BEYOND);
    due("20 beyond", y.use(-1, 0), BEYOND);
    due("20 beyond", y.use(0, 61), BEYOND);
    due("20 beyond", y.use(0, -1), BEYOND);
    y.stick(0);
    due("20 more than now", y.use(0, 60), NONE);
    read(y, 0, "(u=0)*9");
    y.pot(0, 0, 5);
    due("20 with 0", y.use(1, 20), 0);
    read(y, 0, "(u=9)*9");
    due("20 with 9", y.use(1, 20), 9);
    read(y, 1, "9");
    y.years(1);
    due("19 broken", y.place(0, 0, 0), STATE);
    due("19 beyond first", y.place(0, 61, 0), BEYOND);
    due("20 broken", y.use(1, 60), NONE);
    due("17 broken", y.when(1), NONE);
  }

  // ---- promises 21, 22

  private static void neededAndWhose() {
    PotHandles x = new PotHandles();
    for (int h = 0; h < 5; h++) {
      x.house(h, 1, 1);
    }
    x.pot(0, 1, 5);
    x.pot(0, 3, 5);
    x.pot(0, 0, 5);
    x.stick(2);
    due("21 both", x.needed(3, 20), 10);
    due("21 one", x.needed(1, 20), 2);
    due("21 other", x.needed(2, 20), 8);
    due("21 has one", x.needed(4, 0), 0);
    due("21 all", x.needed(7, 11), 10);
    due("21 too early", x.needed(7, 10), NONE);
    due("21 empty set", x.needed(0, 20), 0);
    due("21 only thought", x.ofHouse(1, 1), 1);
    PotHandles w = withText(0, "(c=9)*9");
    for (int h = 0; h < 5; h++) {
      w.pot(0, h, 5);
    }
    due("21 house 0", w.needed(1, 20), 1);
    due("21 every house", w.needed(31, 20), 31);
    due("21 beyond", x.needed(8, 0), BEYOND);
    due("21 beyond", x.needed(-1, 0), BEYOND);
    due("21 beyond", x.needed(MIN, 0), BEYOND);
    due("21 beyond", x.needed(1, 21), BEYOND);
    due("21 beyond", x.needed(1, -1), BEYOND);

    PotHandles y = new PotHandles();
    y.pot(0, 0, 5);
    y.house(1, 1, 9);
    y.house(2, 1, 9);
    y.change(0, 1, 7);
    due("22 missing", y.whose(0, 0, 0), NONE);
    y.sheet(0, 16, 3);
    y.put(0, 0, 7);
    y.put(0, 1, 16);
    y.put(0, 2, 25);
    due("22 two houses", y.whose(0, 0, 0), 6);
    due("22 two houses", y.whose(0, 0, 1), 2);
    y.put(0, 2, 24);
    due("22 none", y.whose(0, 0, 0), 0);
    due("22 none", y.whose(0, 0, 1), 0);
    y.put(0, 2, 25);
    y.put(0, 0, 8);
    due("22 not the first", y.whose(0, 0, 0), 0);
    y.sheet(0, 8, 0);
    due("22 no numbers", y.whose(0, 0, 0), 31);
    due("22 only thought", y.ofPot(0, 2), 0);
    due("22 beyond", y.whose(4, 0, 0), BEYOND);
    due("22 beyond", y.whose(-1, 0, 0), BEYOND);
    due("22 beyond", y.whose(0, 1, 0), BEYOND);
    due("22 beyond", y.whose(0, 0, 2), BEYOND);
    due("22 beyond", y.whose(1, 0, -1), BEYOND);
    // not MOVED: LIKED, YEARS and what is FALSE stay
    y.stick(0);
    y.become(0, 40);
    y.sheet(1, 32, 3);
    for (int i = 0; i < 3; i++) {
      y.put(1, i, 7);
    }
    due("22 not moved", y.whose(1, 0, 0), 31);
    read(y, 1, "9");
    y.years(1);
    due("22 broken ahead of missing", y.whose(3, 0, 0), STATE);
    due("22 beyond ahead of broken", y.whose(3, 0, 2), BEYOND);
    due("21 a broken one that has one", y.needed(1, 3), 0);
  }

  // ---- promises 23, 24

  private static void carryAndRichest() {
    PotHandles x = new PotHandles();
    for (int i = 0; i < 5; i++) {
      x.pot(20, 2, 9);
    }
    int[] without = {0, 0, 1, 1, 2, 2, 3, 3, 4, 4};
    for (int hands = 0; hands < 10; hands++) {
      x.house(2, 0, hands);
      due("23 without", x.carry(2), without[hands]);
    }
    x.stick(1);
    x.stick(4);
    int[] two = {0, 1, 2, 2, 3, 3, 4, 4, 5, 5};
    for (int hands = 0; hands < 10; hands++) {
      x.house(2, 0, hands);
      due("23 two have one", x.carry(2), two[hands]);
    }
    due("23 empty", x.carry(0), 0);
    PotHandles few = new PotHandles();
    few.house(0, 0, 9);
    few.pot(0, 0, 1);
    few.pot(0, 0, 1);
    few.stick(1);
    due("23 hands to spare", few.carry(0), 2);
    due("23 beyond", x.carry(5), BEYOND);
    due("23 beyond", x.carry(-1), BEYOND);

    due("24 house", x.richest(0, 0), 2);
    due("24 how many", x.richest(0, 1), 2);
    due("24 behind 11", x.richest(11, 1), 7);
    due("24 behind 12", x.richest(12, 1), 10);
    x.pot(0, 1, 0);
    x.pot(0, 1, 0);
    x.stick(5);
    x.stick(6);
    due("24 the least", x.richest(0, 0), 1);
    due("24 later", x.richest(60, 0), 2);
    due("24 none", new PotHandles().richest(60, 0), 0);
    due("24 none", new PotHandles().richest(60, 1), 0);
    due("24 beyond", x.richest(61, 0), BEYOND);
    due("24 beyond", x.richest(-1, 0), BEYOND);
    due("24 beyond", x.richest(0, 2), BEYOND);
    due("24 beyond", x.richest(0, -1), BEYOND);
    x.house(2, 1, 9);
    read(x, 1, "9");
    x.years(1);
    due("24 the broken are in none", x.richest(0, 0), 2);
    due("24 the broken are in none", x.richest(0, 1), 2);
  }

  // ---- promises 25, 26

  private static void breaksAndDealer() {
    PotHandles x = withText(1, "(y=u)*9");
    x.pot(0, 0, 1);
    x.pot(0, 0, 2);
    x.pot(0, 1, 3);
    x.house(1, 1, 9);
    due("25 none yet", x.breaks(0), 0);
    due("25 none yet", x.breaks(1), 0);
    due("25 one", x.breaks(2), 1);
    due("25 two", x.breaks(60), 2);
    x.years(2);
    due("25 how many more", x.breaks(60), 1);
    due("25 beyond", x.breaks(61), BEYOND);
    due("25 beyond", x.breaks(-1), BEYOND);

    PotHandles y = new PotHandles();
    due("26 no pots", y.dealer(30), -1);
    due("26 -1 is no error", y.told(1), 0);
    y.pot(0, 0, 9);
    y.pot(20, 0, 9);
    y.pot(30, 1, 9);
    due("26 the least", y.dealer(0), 0);
    due("26 the one that bears two", y.dealer(11), 1);
    due("26 two come to it all the same", y.dealer(12), -1);
    due("26 only thought", y.count(3), 0);
    y.pot(0, 2, 0);
    due("26 the one that gets none", y.dealer(30), 3);
    y.stick(3);
    due("26 it has one", y.dealer(30), -1);
    due("26 beyond", y.dealer(31), BEYOND);
    due("26 beyond", y.dealer(-1), BEYOND);
    dealerWithBroken();
  }

  private static void dealerWithBroken() {
    PotHandles x = withText(1, "(y=0)*(u=1)*9");
    x.pot(0, 0, 1);
    due("26 one that breaks later can have one yet", x.dealer(30), 0);
    x.years(1);
    due("26 broken", x.count(5), 1);
    due("26 none on one that is broken", x.dealer(0), -1);
    due("26 none on one that is broken", x.dealer(30), -1);
    x.pot(0, 1, 0);
    due("26 the next one that isn't broken", x.dealer(0), 1);
    due("26 the next one that isn't broken", x.dealer(30), 1);
    x.stick(1);
    due("26 broken, and has one", x.dealer(30), -1);
  }

  // ---- promise 27

  private static void odds() {
    PotHandles x = new PotHandles();
    x.pot(0, 4, 5);
    x.house(2, 1, 9);
    x.house(3, 1, 0);
    x.house(4, 1, 0);
    due("27 three", x.odds(0, 11, 0), 3);
    due("27 of five", x.odds(0, 11, 1), 5);
    due("27 none", x.odds(0, 10, 0), 0);
    due("27 by 1", x.odds(0, 10, 1), 1);
    due("27 only thought", x.ofPot(0, 2), 4);
    x.stick(0);
    due("27 all: not moved", x.odds(0, 0, 0), 1);
    due("27 by 1", x.odds(0, 60, 1), 1);
    read(x, 1, "9");
    due("27 broken then", x.odds(0, 1, 0), 1);
    due("27 broken then", x.odds(0, 1, 1), 5);
    due("27 beyond", x.odds(1, 0, 0), BEYOND);
    due("27 beyond", x.odds(-1, 0, 0), BEYOND);
    due("27 beyond", x.odds(0, 61, 0), BEYOND);
    due("27 beyond", x.odds(0, -1, 0), BEYOND);
    due("27 beyond", x.odds(0, 0, 2), BEYOND);
    due("27 beyond", x.odds(0, 0, -1), BEYOND);
    x.years(1);
    due("27 broken now", x.odds(0, 0, 0), 0);
    due("27 broken now", x.odds(0, 0, 1), 1);
  }

  // ---- promises 29, 30

  private static void voices() {
    PotHandles x = new PotHandles();
    x.pot(0, 0, 0);
    x.pot(0, 0, 0);
    x.pot(4, 0, 0);
    due("30 none yet", x.trace(0), NONE);
    says(x, 4, 0, 5, 7, 10);
    says(x, 4, 1, 5, 14, 11, 10);
    says(x, 4, 2, 5, 1, 12);
    says(x, 4, 3, 5, 15, 13, 11, 10, 12);
    says(x, 14, 0, 5, 21, 20, 10);
    says(x, 14, 1, 5, 42, 11, 20, 10);
    says(x, 24, 1, 5, 17, 30, 11, 10, 12);
    says(x, 34, 2, 5, -1, 40, 12);
    says(x, 34, 3, 5, -15, 13, 11, 10, 40, 12);
    says(x, 44, 3, 5, 31, 50, 13, 11, 20, 10, 12, 20, 10);
    says(x, 44, 0, 5, 21, 20, 10);
    says(x, 54, 1, 5, 19, 60, 30, 11, 10, 12);
    says(x, 54, 3, 5, 18, 13, 60, 30, 11, 10, 12, 12);
    says(x, 64, 2, 5, -3, 70, 40, 12);
    says(x, 64, 3, 5, 27, 71, 11, 10, 13, 11, 10, 70, 40, 12);
    says(x, 4, 0, MAX, MIN + 1, 10);
    says(x, 4, 0, LOW - 3, BEYOND, 10);
    due("29 a number is no error", x.told(1), 0);
    due("29 beyond", x.voice(3, 0, 0), BEYOND);
    due("29 beyond", x.voice(-1, 0, 0), BEYOND);
    due("29 beyond", x.voice(0, 4, 0), BEYOND);
    due("29 beyond", x.voice(0, -1, 0), BEYOND);
    due("30 an error leaves the trace", x.count(8), 1);
    due("30 none such", x.trace(1), NONE);
    due("30 none such", x.trace(-1), NONE);
    due("30 none such", x.trace(MAX), NONE);
  }

  private static void says(PotHandles x, int km, int act, int in, int want, int... bodies) {
    String what = "29 km " + km + " act " + act + " x " + in;
    x.become(2, km);
    due(what, x.voice(2, act, in), want);
    due("40 " + what, x.count(8), bodies.length);
    for (int i = 0; i < bodies.length; i++) {
      due("30 " + what + " body " + i, x.trace(i), bodies[i]);
    }
  }

  // ---- promises 31, 32, 33

  private static void sheets() {
    PotHandles x = new PotHandles();
    for (int p = 0; p < 5; p++) {
      x.pot(0, 0, 9);
    }
    due("31 made", x.sheet(0, 8, 40), 1);
    due("31 made", x.sheet(3, 32, 0), 1);
    due("31 beyond", x.sheet(4, 8, 1), BEYOND);
    due("31 beyond", x.sheet(-1, 8, 1), BEYOND);
    due("31 beyond", x.sheet(0, 24, 1), BEYOND);
    due("31 beyond", x.sheet(0, -8, 1), BEYOND);
    due("31 beyond ahead of state", x.sheet(0, 7, -1), BEYOND);
    due("31 state", x.sheet(0, 8, -1), STATE);
    due("31 state", x.sheet(0, 8, MIN), STATE);
    due("31 beyond", x.sheet(0, 8, 41), BEYOND);
    due("31 beyond", x.sheet(0, 8, MAX), BEYOND);
    due("31 it stays", x.put(0, 39, 1), 1);
    due("32 no such number", x.put(0, 40, 1), BEYOND);
    due("32 no such number", x.put(0, -1, 1), BEYOND);
    due("32 no such number", x.put(3, 0, 1), BEYOND);
    due("32 no such sheet", x.put(4, 0, 1), BEYOND);
    due("32 no such sheet", x.put(-1, 0, 1), BEYOND);
    due("32 missing ahead of no such number", x.put(1, -1, 1), NONE);
    due("31 missing, n does not matter", x.sheet(0, 0, -5), 1);
    due("31 missing", x.put(0, 0, 1), NONE);
    due("31 missing again", x.sheet(0, 0, 99), 1);

    x.sheet(0, 8, 3);
    x.put(0, 0, 256 + 5);
    x.put(0, 1, -256 + 4);
    x.put(0, 2, 511);
    due("32 lowest 8", x.uses(0), 2);
    row("32 lowest 8", x, 3, 5, 4, 9);
    x.sheet(0, 16, 3);
    x.put(0, 0, 65536 + 3);
    x.put(0, 1, MIN + 2);
    x.put(0, 2, 256 + 1);
    due("32 lowest 16", x.uses(0), 2);
    row("32 lowest 16", x, 3, 3, 2, 9);
    x.sheet(0, 32, 5);
    due("31 all 0", x.uses(0), 5);
    row("31 all 0", x, 3, 0, 0, 0, 0, 0);

    for (int i = 0; i < 5; i++) {
      x.put(0, i, i + 1);
    }
    due("33 as they all were", x.move(0, 0, 0, 1, 3), 3);
    x.uses(0);
    row("33 up", x, 3, 1, 1, 2, 3, 5);
    due("33 down", x.move(0, 1, 0, 0, 4), 4);
    x.uses(0);
    row("33 down", x, 3, 1, 2, 3, 5, 5);
    x.sheet(1, 32, 5);
    due("33 another", x.move(0, 2, 1, 0, 2), 2);
    x.uses(1);
    row("33 another", x, 3, 3, 5, 0, 0, 0);
    due("33 all", x.move(0, 0, 1, 0, 5), 5);
    x.uses(1);
    row("33 all", x, 3, 1, 2, 3, 5, 5);
    due("33 none at the end", x.move(0, 5, 1, 5, 0), 0);
    x.sheet(2, 16, 5);
    due("33 no such sheet", x.move(4, 0, 0, 0, 0), BEYOND);
    due("33 no such sheet", x.move(0, 0, -1, 0, 0), BEYOND);
    due("33 kind ahead of beyond", x.move(0, -1, 2, 0, 9), KIND);
    x.sheet(3, 0, 0);
    due("33 missing", x.move(0, -1, 3, 0, 0), NONE);
    due("33 missing", x.move(3, 0, 0, 0, 0), NONE);
    due("33 both missing", x.move(3, 0, 3, 0, 0), NONE);
    int[][] bad = {{-1, 0, 1}, {0, -1, 1}, {0, 0, -1}, {0, 0, 6}, {3, 0, 3}, {0, 3, 3}, {6, 0, 0}, {0, 6, 0}, {MAX, 0, MAX}, {1, 0, MAX}, {0, MAX, 1}, {MIN, MIN, MIN}};
    for (int[] b : bad) {
      due("33 not there", x.move(0, b[0], 1, b[1], b[2]), BEYOND);
    }
  }

  // ---- promises 34, 35

  private static void usesAndJudge() {
    PotHandles x = new PotHandles();
    due("34 beyond", x.uses(4), BEYOND);
    due("34 beyond", x.uses(-1), BEYOND);
    due("34 missing", x.uses(0), NONE);
    due("35 beyond", x.judge(4), BEYOND);
    due("35 beyond", x.judge(-1), BEYOND);
    due("35 missing", x.judge(0), NONE);
    x.sheet(0, 8, 0);
    due("35 none of none", x.judge(0), -1);
    due("34 none", x.uses(0), 0);
    x.sheet(0, 8, 3);
    due("34 no pot", x.uses(0), 0);
    due("35 too many", x.judge(0), 0);
    x.pot(0, 0, 9);
    x.pot(0, 0, 9);
    due("34 two pots", x.uses(0), 2);
    due("35 too many", x.judge(0), 2);
    x.pot(0, 0, 9);
    due("35 all are", x.judge(0), -1);
    x.pot(0, 0, 9);
    due("35 one lacks", x.judge(0), 3);
    x.stick(1);
    due("35 not so", x.judge(0), 1);
    x.put(0, 1, 1);
    x.put(0, 0, -1);
    due("35 not so", x.judge(0), 0);
    due("34 below 0", x.uses(0), 0);
    x.put(0, 0, 9);
    x.put(0, 1, 10);
    x.put(0, 2, 4);
    due("34 up to it", x.uses(0), 1);
    row("34 up to it", x, 3, 9, 0, 9, 9);
    due("34 no error then", x.told(1), 4);
  }

  // ---- promises 36, 37

  private static void images() {
    PotHandles x = new PotHandles();
    x.pot(25, 2, 7);
    x.house(2, 0, 7);
    x.change(0, 1, 33);
    x.stick(0);
    read(x, 0, "7");
    x.feed('u', 1);
    x.tell(5);
    x.years(1);
    x.seed(77);
    x.sheet(0, 8, 1);
    due("36 first", x.image(), 1);
    x.pot(0, 0, 0);
    x.become(0, 3);
    x.shift(0, 4);
    x.house(2, 0, 1);
    x.house(2, 1, 1);
    x.text(0);
    read(x, 1, "9");
    x.check();
    x.years(5);
    x.seed(3);
    x.sheet(1, 8, 1);
    x.voice(0, 0, 0);
    due("36 told", x.told(6), BEYOND);
    due("37 year", x.restore(), 1);
    int[] jug = {2, 5, 2, 7, 47, 1, 1, 1};
    for (int what = 0; what < 8; what++) {
      due("37 pot " + what, x.ofPot(0, what), jug[what]);
    }
    int[] counts = {1, 1, 0, 1, 1, 0, 1, 1, 1, 77};
    for (int what = 0; what < 10; what++) {
      due("37 count " + what, x.count(what), counts[what]);
    }
    due("37 hands", x.ofHouse(2, 0), 7);
    due("37 care", x.ofHouse(2, 1), 5);
    due("37 text 0", x.law(0, 9, 9, 9), 7);
    due("37 text 1", x.law(1, 9, 9, 9), 0);
    due("37 sheets stay", x.put(1, 0, 1), 1);
    due("37 told stays", x.told(1), 1);
    due("37 waiting", x.check(), 1);
    x.years(3);
    due("37 the image stays", x.restore(), 1);
    due("37 the image stays", x.count(7), 1);
    due("36 how often is not kept", x.image(), 2);
    x.years(2);
    due("36 in place of one ahead", x.image(), 3);
    due("37 the new one", x.restore(), 3);
    due("37 none", new PotHandles().restore(), NONE);
  }

  // ---- promises 38, 39

  private static void telling() {
    PotHandles x = new PotHandles();
    due("39 none wait", x.check(), 0);
    for (int i = 1; i <= 20; i++) {
      due("38 tell", x.tell(0), i);
    }
    due("38 full", x.tell(0), FULL);
    due("40 waiting", x.count(7), 20);
    due("39 all so", x.check(), 0);
    due("39 none then", x.count(7), 0);
    x.pot(20, 0, 9);
    for (int i = 1; i <= 13; i++) {
      x.tell(i < 11 ? 0 : i < 12 ? 1 : 2);
    }
    due("39 all so", x.check(), 0);
    x.tell(0);
    x.tell(0);
    x.tell(1);
    due("39 the third", x.check(), 3);
    due("39 none then", x.count(7), 0);
    x.tell(MIN);
    due("39 the first", x.check(), 1);
    due("39 only thought", x.count(1), 0);
  }

  // ---- promises 40, 41

  private static void counting() {
    PotHandles x = new PotHandles();
    x.pot(0, 0, 9);
    x.pot(0, 1, 9);
    x.pot(0, 1, 9);
    x.house(1, 1, 9);
    x.stick(0);
    x.stick(2);
    read(x, 1, "9");
    x.years(2);
    x.feed(0, 5);
    x.tell(1);
    x.voice(0, 3, 0);
    int[] want = {3, 2, 1, 2, 5, 1, 5, 1, 4, 1};
    for (int what = 0; what < 10; what++) {
      due("40 count " + what, x.count(what), want[what]);
    }
    due("40 beyond", x.count(10), BEYOND);
    due("40 beyond", x.count(-1), BEYOND);
    due("41 beyond so far", x.told(1), 2);
    due("41 beyond", x.told(0), BEYOND);
    due("41 beyond", x.told(6), BEYOND);
    due("41 counted, too", x.told(1), 4);
    due("41 beyond", x.told(MIN), BEYOND);
    x.trace(9);
    x.stick(0);
    x.stick(0);
    x.as(0, 6);
    for (int i = 0; i < 23; i++) {
      x.tell(0);
    }
    due("41 beyond", x.told(1), 5);
    due("41 none", x.told(2), 1);
    due("41 state", x.told(3), 2);
    due("41 full", x.told(4), 4);
    due("41 kind", x.told(5), 1);
  }
}
