import java.util.ArrayList;
import java.util.List;
import java.util.function.Supplier;
import java.util.function.ToIntFunction;

/**
 * What is refused: each argument at the last value that is allowed and at the first that isn't, on
 * each side; the ERRORS in the order in which they are asked; and that a call that was refused
 * leaves all as it was, but for what told() tells.
 */
public final class RefusalTest {
  private static final int LOW = -1000000000;
  private static final int BEYOND = LOW - 1;
  private static final int NONE = LOW - 2;
  private static final int STATE = LOW - 3;
  private static final int FULL = LOW - 4;
  private static final int KIND = LOW - 5;
  private static final int MIN = Integer.MIN_VALUE;
  private static final int MAX = Integer.MAX_VALUE;

  private static int asked = 0;
  private static int wrong = 0;

  private static void due(String what, Object got, Object want) {
    asked++;
    if (!got.equals(want)) {
      wrong++;
      System.out.println(what + ": answered " + got + ", due is " + want);
    }
  }

  public static void main(String[] args) {
    ranges();
    rangesOfChange();
    rangesOfSheets();
    noSuchPot();
    orderOfHousesAndPots();
    orderOfTextsAndYears();
    orderOfThoughts();
    orderOfSheets();
    refusedWithoutRange();
    farOut();
    System.out.println(wrong + " of " + asked + " refusals are not as due");
    if (wrong != 0) {
      System.exit(1);
    }
  }

  // ---- objects as the refused calls find them

  private static void feedAll(PotHandles x, String text) {
    for (int i = 0; i < text.length(); i++) {
      x.feed(text.charAt(i), 1);
    }
  }

  private static void read(PotHandles x, int use, String text) {
    feedAll(x, text);
    due("text " + text, x.text(use), 1);
  }

  /**
   * Some of everything. Of 7 POTS number 3 is broken, and 4 has a FALSE HANDLE. SHEETS 0, 1 and 3 have
   * 12 numbers of 8 bits, 2 has 40 of 16.
   */
  private static PotHandles lived() {
    PotHandles x = new PotHandles();
    read(x, 1, "(u=1)*9");
    x.house(0, 0, 4);
    x.house(1, 1, 7);
    x.house(4, 1, 0);
    int[] kms = {3, 14, 25, 31, 48, 50, 62};
    for (int p = 0; p < kms.length; p++) {
      x.pot(kms[p], p % 5, p == 3 ? 1 : p + 2);
    }
    x.image();
    x.years(2);
    x.change(0, 1, 45);
    x.change(0, 2, 300);
    x.stick(4);
    x.years(1);
    read(x, 0, "u+c+h");
    x.feed('u' | '+' << 8, 2);
    x.tell(x.count(3));
    x.tell(-1);
    x.seed(77);
    x.voice(6, 3, 5);
    for (int s = 0; s < 4; s++) {
      x.sheet(s, s == 2 ? 16 : 8, s == 2 ? 40 : 12);
      for (int i = 0; i < 7; i++) {
        x.put(s, i, (s + i) % 10);
      }
    }
    x.trace(99);
    x.stick(4);
    x.as(0, 6);
    return x;
  }

  private static PotHandles withoutSheetOne() {
    PotHandles x = lived();
    x.sheet(1, 0, 0);
    return x;
  }

  private static PotHandles withTenPots() {
    PotHandles x = lived();
    for (int p = 7; p < 10; p++) {
      due("4 the last of ten", x.pot(p, 2, 5), p);
    }
    return x;
  }

  private static PotHandles withTape(int bytes) {
    PotHandles x = lived();
    x.text(0);
    for (int i = 0; i < bytes; i++) {
      x.feed('1', 1);
    }
    due("40 bytes of THE TAPE", x.count(6), bytes);
    return x;
  }

  private static PotHandles withTwentyWaiting() {
    PotHandles x = lived();
    for (int i = 3; i <= 20; i++) {
      due("38 the last of twenty", x.tell(i), i);
    }
    return x;
  }

  /** With few POTS: so many years take 167 of the 512 calls that an object is used for. */
  private static PotHandles inYear(int year) {
    PotHandles x = new PotHandles();
    x.pot(50, 1, 1);
    x.pot(0, 4, 9);
    x.feed('u', 1);
    x.tell(1);
    x.image();
    int left = year;
    for (; left > 60; left -= 60) {
      x.years(60);
    }
    x.years(left);
    due("40 year", x.count(1), year);
    x.stick(1);
    x.shift(1, 2);
    return x;
  }

  // ---- what can be seen of an object

  /** Goes through an object and uses it up: what waits, THE TAPE and SHEETS are spent on it. */
  private static List<String> seen(PotHandles x) {
    List<String> seen = new ArrayList<>();
    seeHousesAndPots(x, seen);
    for (int i = 0; i < 10; i++) {
      seen.add("trace " + i + " " + x.trace(i));
    }
    seen.add("waits " + x.check());
    seeTape(x, seen);
    for (int s = 0; s < 4; s++) {
      seeSheet(x, s, seen);
    }
    seen.add("restore " + x.restore());
    seeHousesAndPots(x, seen);
    seen.add("waited " + x.check());
    seeTape(x, seen);
    seen.add("images " + x.image());
    return seen;
  }

  private static void seeHousesAndPots(PotHandles x, List<String> seen) {
    for (int what = 0; what < 10; what++) {
      seen.add("count " + what + " " + x.count(what));
    }
    for (int h = 0; h < 5; h++) {
      for (int what = 0; what < 2; what++) {
        seen.add("house " + h + " " + what + " " + x.ofHouse(h, what));
      }
    }
    int pots = x.count(0);
    for (int p = 0; p < pots; p++) {
      for (int what = 0; what < 8; what++) {
        seen.add("pot " + p + " " + what + " " + x.ofPot(p, what));
      }
    }
    for (int use = 0; use < 2; use++) {
      seen.add("law " + use + " " + x.law(use, 1, 20, 3));
    }
  }

  private static void seeTape(PotHandles x, List<String> seen) {
    x.feed('h', 1);
    seen.add("tape " + x.text(0) + " " + x.law(0, 1, 20, 3));
  }

  private static void seeSheet(PotHandles x, int s, List<String> seen) {
    seen.add("judge " + s + " " + x.judge(s));
    seen.add("uses " + s + " " + x.uses(s));
    int pots = x.count(0);
    for (int p = 0; p < pots; p++) {
      seen.add("sheet " + s + " " + p + " " + x.ofPot(p, 3));
    }
    for (int i : new int[] {0, 4, 5, 11, 12, 39}) {
      seen.add("number " + s + " " + i + " " + x.put(s, i, 0));
    }
    if (s != 3) {
      x.sheet(3, 8, 0);
      seen.add("bits " + s + " " + x.move(s, 0, 3, 0, 0));
    }
  }

  // ---- asking

  /** The ERROR is answered and counted, and all else is as in an object that wasn't asked. */
  private static void refused(String what, Supplier<PotHandles> made, int error, ToIntFunction<PotHandles> act) {
    PotHandles x = made.get();
    PotHandles left = made.get();
    due(what, act.applyAsInt(x), error);
    for (int k = 1; k <= 5; k++) {
      due(what + ", told " + k, x.told(k), left.told(k) + (error == LOW - k ? 1 : 0));
    }
    List<String> isSeen = seen(x);
    List<String> wasSeen = seen(left);
    for (int i = 0; i < Math.max(isSeen.size(), wasSeen.size()); i++) {
      String is = i < isSeen.size() ? isSeen.get(i) : "nothing";
      String was = i < wasSeen.size() ? wasSeen.get(i) : "nothing";
      due(what + ", leaves as it was", is, was);
    }
    due(what + ", again", act.applyAsInt(made.get()), error);
  }

  private static void allowed(String what, Supplier<PotHandles> made, ToIntFunction<PotHandles> act) {
    due(what + " is allowed", act.applyAsInt(made.get()) == BEYOND, false);
  }

  // ---- ranges

  private interface Act {
    int on(PotHandles x, int[] a);
  }

  private static int[] from(int least, int most) {
    return new int[] {least, most};
  }

  private static final int[] ANY = {MIN, MAX};
  private static final int[] HOUSE = {0, 4};
  private static final int[] POT = {0, 6};
  private static final int[] BEHIND = {0, 60};

  private static void ranges() {
    range("2 house", (x, a) -> x.house(a[0], a[1], a[2]), HOUSE, from(0, 1), from(0, 9));
    range("3 ofHouse", (x, a) -> x.ofHouse(a[0], a[1]), HOUSE, from(0, 2));
    range("4 pot", (x, a) -> x.pot(a[0], a[1], a[2]), from(0, 69), HOUSE, from(0, 9));
    range("5 ofPot", (x, a) -> x.ofPot(a[0], a[1]), POT, from(0, 9));
    range("7 shift", (x, a) -> x.shift(a[0], a[1]), POT, HOUSE);
    range("8 stick", (x, a) -> x.stick(a[0]), POT);
    range("9 become", (x, a) -> x.become(a[0], a[1]), POT, from(0, 69));
    range("10 as", (x, a) -> x.as(a[0], a[1]), POT, from(0, 6));
    range("11 feed", (x, a) -> x.feed(-1L, a[0]), from(1, 8));
    range("12 text", (x, a) -> x.text(a[0]), from(0, 1));
    range("13 law", (x, a) -> x.law(a[0], a[1], a[2], a[3]), from(0, 1), ANY, ANY, ANY);
    range("14 years", (x, a) -> x.years(a[0]), from(1, 60));
    range("15 loose", (x, a) -> x.loose(a[0]), from(1, 40));
    range("16 then", (x, a) -> x.then(a[0], a[1], a[2]), BEHIND, POT, from(0, 2));
    range("17 when", (x, a) -> x.when(a[0]), POT);
    range("18 shelf", (x, a) -> x.shelf(a[0], a[1]), HOUSE, BEHIND);
    range("19 place", (x, a) -> x.place(a[0], a[1], a[2]), POT, BEHIND, from(0, 1));
    range("20 use", (x, a) -> x.use(a[0], a[1]), POT, BEHIND);
    range("21 needed", (x, a) -> x.needed(a[0], a[1]), from(0, 127), from(0, 20));
    range("22 whose", (x, a) -> x.whose(a[0], a[1], a[2]), from(0, 3), POT, from(0, 1));
    range("23 carry", (x, a) -> x.carry(a[0]), HOUSE);
    range("24 richest", (x, a) -> x.richest(a[0], a[1]), BEHIND, from(0, 1));
    range("25 breaks", (x, a) -> x.breaks(a[0]), BEHIND);
    range("26 dealer", (x, a) -> x.dealer(a[0]), from(0, 30));
    range("27 odds", (x, a) -> x.odds(a[0], a[1], a[2]), POT, BEHIND, from(0, 1));
    range("28 seed", (x, a) -> x.seed(a[0]), ANY);
    range("29 voice", (x, a) -> x.voice(a[0], a[1], a[2]), POT, from(0, 3), ANY);
    range("32 put", (x, a) -> x.put(a[0], a[1], a[2]), from(0, 3), from(0, 11), ANY);
    range("34 uses", (x, a) -> x.uses(a[0]), from(0, 3));
    range("35 judge", (x, a) -> x.judge(a[0]), from(0, 3));
    range("38 tell", (x, a) -> x.tell(a[0]), ANY);
    range("40 count", (x, a) -> x.count(a[0]), from(0, 9));
    range("41 told", (x, a) -> x.told(a[0]), from(1, 5));
  }

  /** One argument after another goes to its edges, with the others all at their least and all at their most. */
  private static void range(String name, Act act, int[]... allowed) {
    for (int k = 0; k < allowed.length; k++) {
      for (int edge = 0; edge < 2; edge++) {
        for (int v : allowed[k]) {
          ask(name, act, allowed, edge, k, v, false);
        }
        for (int v : outside(allowed[k])) {
          ask(name, act, allowed, edge, k, v, true);
        }
      }
    }
  }

  private static int[] outside(int[] allowed) {
    if (allowed == ANY) {
      return new int[0];
    }
    return new int[] {allowed[0] - 1, allowed[1] + 1, MIN, MAX, LOW};
  }

  private static void ask(String name, Act act, int[][] allowed, int edge, int k, int v, boolean isRefused) {
    int[] a = new int[allowed.length];
    for (int i = 0; i < a.length; i++) {
      a[i] = i == k ? v : allowed[i][edge];
    }
    StringBuilder what = new StringBuilder(name);
    for (int one : a) {
      what.append(' ').append(one);
    }
    if (isRefused) {
      refused(what.toString(), RefusalTest::lived, BEYOND, x -> act.on(x, a));
    } else {
      allowed(what.toString(), RefusalTest::lived, x -> act.on(x, a));
    }
  }

  private static void rangesOfChange() {
    int[] most = {9, 999, 999};
    for (int what = 0; what < 3; what++) {
      int w = what;
      range("6 change " + what, (x, a) -> x.change(a[0], w, a[1]), POT, from(0, most[what]));
    }
    range("6 change, what", (x, a) -> x.change(6, a[0], 9), from(0, 2));
    refused("6 what ahead is no matter", RefusalTest::lived, BEYOND, x -> x.change(0, 0, 999));
    allowed("6 broken", RefusalTest::lived, x -> x.change(3, 2, 999));
  }

  private static void rangesOfSheets() {
    for (int bits : new int[] {8, 16, 32}) {
      range("31 sheet of " + bits, (x, a) -> x.sheet(a[0], bits, 40), from(0, 3));
      for (int n : new int[] {0, 40}) {
        due("31 n " + n, lived().sheet(0, bits, n), 1);
      }
      for (int n : new int[] {41, MAX}) {
        refused("31 n " + n, RefusalTest::lived, BEYOND, x -> x.sheet(0, bits, n));
      }
      for (int n : new int[] {-1, MIN, LOW}) {
        refused("31 n " + n, RefusalTest::lived, STATE, x -> x.sheet(0, bits, n));
      }
    }
    for (int bits : new int[] {-32, -16, -8, -1, 1, 7, 9, 15, 17, 24, 31, 33, 64, 264, MIN, MAX}) {
      refused("31 bits " + bits, RefusalTest::lived, BEYOND, x -> x.sheet(0, bits, 5));
    }
    for (int n : new int[] {MIN, -1, 0, 40, 41, MAX}) {
      due("31 n doesn't matter " + n, lived().sheet(0, 0, n), 1);
      refused("31 but the sheet does", RefusalTest::lived, BEYOND, x -> x.sheet(4, 0, n));
    }
    range("33 move", (x, a) -> x.move(a[0], 0, a[1], 0, 12), new int[] {0, 3}, new int[] {0, 3});
    for (int[] a : new int[][] {{0, 0, 12}, {11, 11, 1}, {12, 12, 0}, {0, 12, 0}, {12, 0, 0}, {5, 0, 7}, {0, 5, 7}}) {
      due("33 they stand there", lived().move(0, a[0], 1, a[1], a[2]), a[2]);
      due("33 they stand in the same", lived().move(0, a[0], 0, a[1], a[2]), a[2]);
    }
    int[][] nowhere = {
      {0, 0, 13}, {11, 0, 2}, {0, 11, 2}, {12, 0, 1}, {0, 12, 1}, {13, 0, 0}, {0, 13, 0}, {-1, 0, 1}, {0, -1, 1},
      {0, 0, -1}, {-1, 0, 0}, {0, -1, 0}, {12, 12, -1}, {-1, -1, 2}, {MAX, 0, 1}, {0, MAX, 1}, {1, 1, MAX},
      {MAX, MAX, MAX}, {MIN, 0, 1}, {0, MIN, 1}, {0, 0, MIN}, {MIN, MIN, MIN}, {MAX, 0, MIN}
    };
    for (int[] a : nowhere) {
      refused("33 they don't stand there", RefusalTest::lived, BEYOND, x -> x.move(0, a[0], 1, a[1], a[2]));
      refused("33 nor in the same", RefusalTest::lived, BEYOND, x -> x.move(0, a[0], 0, a[1], a[2]));
    }
    due("32 the last of forty", lived().put(2, 39, 1), 1);
    refused("32 behind the last of forty", RefusalTest::lived, BEYOND, x -> x.put(2, 40, 1));
  }

  /** Where there are no POTS, not even POT 0 is one. */
  private static void noSuchPot() {
    List<ToIntFunction<PotHandles>> acts = List.of(
        x -> x.ofPot(0, 0), x -> x.change(0, 0, 0), x -> x.shift(0, 1), x -> x.stick(0), x -> x.become(0, 0),
        x -> x.as(0, 0), x -> x.then(0, 0, 0), x -> x.when(0), x -> x.place(0, 0, 0), x -> x.use(0, 0),
        x -> x.needed(1, 0), x -> x.whose(0, 0, 0), x -> x.odds(0, 0, 0), x -> x.voice(0, 0, 0));
    for (ToIntFunction<PotHandles> act : acts) {
      refused("no POTS", PotHandles::new, BEYOND, act);
    }
    List<ToIntFunction<PotHandles>> ninth = List.of(
        x -> x.ofPot(9, 0), x -> x.change(9, 0, 0), x -> x.shift(9, 1), x -> x.stick(9), x -> x.become(9, 0),
        x -> x.as(9, 0), x -> x.then(0, 9, 0), x -> x.when(9), x -> x.place(9, 0, 0), x -> x.use(9, 0),
        x -> x.needed(1023, 0), x -> x.whose(0, 9, 0), x -> x.odds(9, 0, 0), x -> x.voice(9, 0, 0));
    for (ToIntFunction<PotHandles> act : ninth) {
      allowed("the last of ten POTS", RefusalTest::withTenPots, act);
    }
    List<ToIntFunction<PotHandles>> tenth = List.of(
        x -> x.ofPot(10, 0), x -> x.change(10, 0, 0), x -> x.shift(10, 1), x -> x.stick(10), x -> x.become(10, 0),
        x -> x.as(10, 0), x -> x.then(0, 10, 0), x -> x.when(10), x -> x.place(10, 0, 0), x -> x.use(10, 0),
        x -> x.needed(1024, 0), x -> x.whose(0, 10, 0), x -> x.odds(10, 0, 0), x -> x.voice(10, 0, 0));
    for (ToIntFunction<PotHandles> act : tenth) {
      refused("no eleventh POT", RefusalTest::withTenPots, BEYOND, act);
    }
  }

  // ---- which ERROR comes first, and those that aren't BEYOND

  private static void orderOfHousesAndPots() {
    refused("4 full", RefusalTest::withTenPots, FULL, x -> x.pot(0, 0, 0));
    refused("4 full, the most of each", RefusalTest::withTenPots, FULL, x -> x.pot(69, 4, 9));
    refused("4 BEYOND ahead of FULL", RefusalTest::withTenPots, BEYOND, x -> x.pot(70, 0, 0));
    refused("4 BEYOND ahead of FULL", RefusalTest::withTenPots, BEYOND, x -> x.pot(0, 5, 0));
    refused("4 BEYOND ahead of FULL", RefusalTest::withTenPots, BEYOND, x -> x.pot(0, 0, 10));
    refused("7 broken", RefusalTest::lived, STATE, x -> x.shift(3, 3));
    refused("7 broken", RefusalTest::lived, STATE, x -> x.shift(3, 0));
    refused("7 BEYOND ahead of STATE", RefusalTest::lived, BEYOND, x -> x.shift(3, 5));
    refused("7 none is no house to go to", RefusalTest::lived, BEYOND, x -> x.shift(3, -1));
    refused("7 there", RefusalTest::lived, STATE, x -> x.shift(0, 0));
    refused("7 there, with a FALSE one", RefusalTest::lived, STATE, x -> x.shift(4, 4));
    refused("8 broken", RefusalTest::lived, STATE, x -> x.stick(3));
    refused("8 has a FALSE one", RefusalTest::lived, STATE, x -> x.stick(4));
    due("8 pot 2 has none", lived().ofPot(2, 6), 0);
    refused("8 has a true one", () -> grown(lived()), STATE, x -> x.stick(2));
    refused("10 not of that KIND", RefusalTest::lived, KIND, x -> x.as(0, 1));
    refused("10 not of the KIND under it", RefusalTest::lived, KIND, x -> x.as(1, 4));
    refused("10 nor of one beside", RefusalTest::lived, KIND, x -> x.as(4, 2));
    refused("10 BEYOND ahead of KIND", RefusalTest::lived, BEYOND, x -> x.as(0, 7));
  }

  private static PotHandles grown(PotHandles x) {
    x.change(2, 1, 999);
    x.change(2, 2, 999);
    x.years(1);
    due("8 pot 2 has one", x.ofPot(2, 6), 1);
    due("8 it is true", x.ofPot(2, 7), 0);
    return x;
  }

  private static void orderOfTextsAndYears() {
    for (int n = 1; n <= 8; n++) {
      int many = n;
      due("11 just full", withTape(50 - n).feed(-1L, n), 50);
      refused("11 one too many", () -> withTape(51 - many), FULL, x -> x.feed(0x3131313131313131L, many));
    }
    refused("11 BEYOND ahead of FULL", () -> withTape(50), BEYOND, x -> x.feed(0, 0));
    refused("11 BEYOND ahead of FULL", () -> withTape(50), BEYOND, x -> x.feed(0, 9));
    refused("12 THE TAPE stays", () -> withTape(4), BEYOND, x -> x.text(2));
    refused("12 a full TAPE stays", () -> withTape(50), BEYOND, x -> x.text(-1));

    due("14 up to 9999", ofYear(inYear(9939), 60), 9999);
    due("14 up to 9999", ofYear(inYear(9998), 1), 9999);
    refused("14 above 9999", () -> inYear(9940), STATE, x -> x.years(60));
    refused("14 above 9999", () -> inYear(9999), STATE, x -> x.years(1));
    refused("14 BEYOND ahead of STATE", () -> inYear(9999), BEYOND, x -> x.years(0));
    refused("14 BEYOND ahead of STATE", () -> inYear(9999), BEYOND, x -> x.years(61));
    refused("15 above 9999", () -> inYear(9960), STATE, x -> x.loose(40));
    refused("15 above 9999", () -> inYear(9999), STATE, x -> x.loose(1));
    refused("15 BEYOND ahead of STATE", () -> inYear(9999), BEYOND, x -> x.loose(0));
    refused("15 BEYOND ahead of STATE", () -> inYear(9999), BEYOND, x -> x.loose(41));
    PotHandles x = inYear(9959);
    x.loose(40);
    due("15 up to 9999", x.count(1), 9999);
  }

  private static int ofYear(PotHandles x, int n) {
    x.years(n);
    return x.count(1);
  }

  private static void orderOfThoughts() {
    refused("17 not by 60", RefusalTest::lived, NONE, x -> x.when(3));
    refused("19 broken", RefusalTest::lived, STATE, x -> x.place(3, 0, 0));
    refused("19 broken", RefusalTest::lived, STATE, x -> x.place(3, 60, 1));
    refused("19 BEYOND of n ahead of STATE", RefusalTest::lived, BEYOND, x -> x.place(3, 61, 0));
    refused("19 BEYOND of n ahead of STATE", RefusalTest::lived, BEYOND, x -> x.place(3, -1, 0));
    refused("19 BEYOND of what ahead of STATE", RefusalTest::lived, BEYOND, x -> x.place(3, 0, 2));
    refused("20 with none", RefusalTest::lived, NONE, x -> x.use(3, 60));
    refused("20 with none", RefusalTest::lived, NONE, x -> x.use(0, 0));
    refused("21 by none", RefusalTest::lived, NONE, x -> x.needed(8, 20));
    refused("21 by none", RefusalTest::lived, NONE, x -> x.needed(127, 0));
    Supplier<PotHandles> made = RefusalTest::withoutSheetOne;
    refused("22 missing", made, NONE, x -> x.whose(1, 0, 0));
    refused("22 missing", made, NONE, x -> x.whose(1, 6, 1));
    refused("22 broken", made, STATE, x -> x.whose(0, 3, 0));
    refused("22 STATE ahead of NONE", made, STATE, x -> x.whose(1, 3, 1));
    refused("22 BEYOND of the SHEET ahead of STATE", made, BEYOND, x -> x.whose(4, 3, 0));
    refused("22 BEYOND of what ahead of STATE", made, BEYOND, x -> x.whose(1, 3, 2));
    refused("22 BEYOND of the POT ahead of NONE", made, BEYOND, x -> x.whose(1, 7, 0));
    refused("22 BEYOND of what ahead of NONE", made, BEYOND, x -> x.whose(1, 0, -1));
  }

  private static void orderOfSheets() {
    Supplier<PotHandles> made = RefusalTest::withoutSheetOne;
    refused("31 BEYOND of the SHEET ahead of STATE", made, BEYOND, x -> x.sheet(4, 8, -1));
    refused("31 BEYOND of bits ahead of STATE", made, BEYOND, x -> x.sheet(0, 7, -1));
    refused("31 STATE on one that is missing", made, STATE, x -> x.sheet(1, 8, -1));
    refused("31 BEYOND on one that is missing", made, BEYOND, x -> x.sheet(1, 8, 41));
    refused("32 missing", made, NONE, x -> x.put(1, 0, 1));
    refused("32 NONE ahead of no such number", made, NONE, x -> x.put(1, -1, 1));
    refused("32 NONE ahead of no such number", made, NONE, x -> x.put(1, 40, 1));
    refused("32 no such SHEET", made, BEYOND, x -> x.put(4, 0, 1));
    refused("33 the one is missing", made, NONE, x -> x.move(1, 0, 0, 0, 1));
    refused("33 the other is missing", made, NONE, x -> x.move(0, 0, 1, 0, 1));
    refused("33 both are missing", made, NONE, x -> x.move(1, 0, 1, 0, 0));
    refused("33 no such SHEET ahead of NONE", made, BEYOND, x -> x.move(1, 0, 4, 0, 1));
    refused("33 no such SHEET ahead of NONE", made, BEYOND, x -> x.move(-1, 0, 1, 0, 1));
    refused("33 NONE ahead of KIND", made, NONE, x -> x.move(2, 0, 1, 0, 1));
    refused("33 NONE ahead of KIND", made, NONE, x -> x.move(1, 0, 2, 0, 1));
    refused("33 NONE ahead of BEYOND of n", made, NONE, x -> x.move(0, 0, 1, 0, -1));
    refused("33 unlike bits", made, KIND, x -> x.move(0, 0, 2, 0, 1));
    refused("33 unlike bits", made, KIND, x -> x.move(2, 0, 0, 0, 0));
    refused("33 KIND ahead of BEYOND of n", made, KIND, x -> x.move(0, 0, 2, 0, -1));
    refused("33 KIND ahead of BEYOND of i", made, KIND, x -> x.move(0, -1, 2, 0, 1));
    refused("33 KIND ahead of BEYOND of j", made, KIND, x -> x.move(0, 0, 2, 99, 1));
    refused("34 missing", made, NONE, x -> x.uses(1));
    refused("35 missing", made, NONE, x -> x.judge(1));
  }

  private static void refusedWithoutRange() {
    Supplier<PotHandles> made = RefusalTest::lived;
    int traced = lived().count(8);
    due("30 the last", lived().trace(traced - 1) == NONE, false);
    due("30 the first", lived().trace(0) == NONE, false);
    for (int i : new int[] {-1, traced, 39, 40, MIN, MAX}) {
      refused("30 none such " + i, made, NONE, x -> x.trace(i));
    }
    refused("30 no voice yet", PotHandles::new, NONE, x -> x.trace(0));
    refused("37 no IMAGE", PotHandles::new, NONE, x -> x.restore());
    refused("38 twenty wait", RefusalTest::withTwentyWaiting, FULL, x -> x.tell(0));
    refused("29 THE TRACE stays", made, BEYOND, x -> x.voice(7, 3, 0));
  }

  // ---- nothing throws

  /** Each act with odd numbers in all places at once; a throw ends this test with an exit code. */
  private static void farOut() {
    List<Act> acts = List.of(
        (x, a) -> x.house(a[0], a[1], a[2]), (x, a) -> x.ofHouse(a[0], a[1]), (x, a) -> x.pot(a[0], a[1], a[2]),
        (x, a) -> x.ofPot(a[0], a[1]), (x, a) -> x.change(a[0], a[1], a[2]), (x, a) -> x.shift(a[0], a[1]),
        (x, a) -> x.stick(a[0]), (x, a) -> x.become(a[0], a[1]), (x, a) -> x.as(a[0], a[1]),
        (x, a) -> x.feed((long) a[1] << 32 | a[2], a[0]), (x, a) -> x.text(a[0]), (x, a) -> x.law(a[0], a[1], a[2], a[3]),
        (x, a) -> x.years(a[0]), (x, a) -> x.loose(a[0]), (x, a) -> x.then(a[0], a[1], a[2]), (x, a) -> x.when(a[0]),
        (x, a) -> x.shelf(a[0], a[1]), (x, a) -> x.place(a[0], a[1], a[2]), (x, a) -> x.use(a[0], a[1]),
        (x, a) -> x.needed(a[0], a[1]), (x, a) -> x.whose(a[0], a[1], a[2]), (x, a) -> x.carry(a[0]),
        (x, a) -> x.richest(a[0], a[1]), (x, a) -> x.breaks(a[0]), (x, a) -> x.dealer(a[0]),
        (x, a) -> x.odds(a[0], a[1], a[2]), (x, a) -> x.seed(a[0]), (x, a) -> x.voice(a[0], a[1], a[2]),
        (x, a) -> x.trace(a[0]), (x, a) -> x.sheet(a[0], a[1], a[2]), (x, a) -> x.put(a[0], a[1], a[2]),
        (x, a) -> x.move(a[0], a[1], a[2], a[3], a[4]), (x, a) -> x.uses(a[0]), (x, a) -> x.judge(a[0]),
        (x, a) -> x.image(), (x, a) -> x.restore(), (x, a) -> x.tell(a[0]), (x, a) -> x.check(),
        (x, a) -> x.count(a[0]), (x, a) -> x.told(a[0]));
    int[] odd = {MIN, -1, 0, 1, 41, MAX};
    // every fifth of all the ways to put five of them: with six to choose from, each pair is met
    int ways = odd.length * odd.length * odd.length * odd.length * odd.length;
    int asks = 0;
    PotHandles x = lived();
    PotHandles empty = new PotHandles();
    for (Act act : acts) {
      for (int way = 0; way < ways; way += 5) {
        int[] a = new int[5];
        for (int i = 0, left = way; i < a.length; i++, left /= odd.length) {
          a[i] = odd[left % odd.length];
        }
        if (asks++ % 400 == 0) {
          x = lived();
          empty = new PotHandles();
        }
        act.on(x, a);
        act.on(empty, a);
      }
    }
    due("all answered", asks > 0, true);
  }
}
