import java.io.IOException;
import java.lang.reflect.Method;
import java.lang.reflect.Modifier;
import java.nio.file.Files;
import java.nio.file.Path;
import java.util.regex.Matcher;
import java.util.regex.Pattern;

/**
 * The document from its first line to its last: its words stand here in their order, and behind each
 * sentence what calls answer if it holds. It fails, too, where the document goes on in other words,
 * so that no sentence is without its test. Edges are BoundaryTest's and RefusalTest's.
 */
public final class DocumentTest {
  private static final int LOW = -1000000000;
  private static final int BEYOND = LOW - 1;
  private static final int NONE = LOW - 2;
  private static final int STATE = LOW - 3;
  private static final int FULL = LOW - 4;
  private static final int KIND = LOW - 5;
  private static final int MIN = Integer.MIN_VALUE;
  private static final int MAX = Integer.MAX_VALUE;

  private static final int POT = 0;
  private static final int CROCK = 10;
  private static final int JUG = 20;
  private static final int CUP = 30;
  private static final int STUCK = 40;
  private static final int ROOKS = 50;
  private static final int CHIPPED = 60;

  private static final int HANDS = 0;
  private static final int CARE = 1;
  private static final int HOUSE = 2;
  private static final int USED = 3;
  private static final int LIKED = 4;
  private static final int YEARS = 5;
  private static final int HANDLES = 6;
  private static final int FALSE = 7;
  private static final int WANTS = 8;
  private static final int BEARS = 9;

  private static String document = "";
  private static int at = 0;
  private static String sentence = "";
  private static int sentences = 0;
  private static int askedHere = 1;
  private static int wrong = 0;

  public static void main(String[] args) throws IOException {
    document = Files.readString(Path.of("../shared/DOC.md")).replaceAll("\\s+", " ").strip();
    whatItIs();
    face();
    errors();
    housesAndPots();
    warms();
    wantsAndBears();
    years();
    moveAndStick();
    texts();
    whatTextsGive();
    faults();
    uses();
    thoughtOfOne();
    thoughtOfHouses();
    thoughtOfAll();
    draws();
    voices();
    voicesOfKindsBelow();
    sheets();
    interfaces();
    promisesOfHouses();
    promisesOfPots();
    promisesOfKinds();
    promisesOfTexts();
    promisesOfYears();
    promisesOfThoughts();
    promisesOfMoreThoughts();
    promisesOfVoices();
    promisesOfSheets();
    promisesOfRows();
    promisesOfImages();
    promisesOfCounts();
    notPromised();
    System.out.println(wrong + " answers are not as due in " + sentences + " sentences");
    if (wrong != 0) {
      System.exit(1);
    }
  }

  // ---- going through the document

  private static void goOn(String words) {
    boolean isNext = document.startsWith(words, at);
    if (!isNext) {
      wrong++;
      int end = Math.min(document.length(), at + 60);
      System.out.println("the document goes on otherwise: " + document.substring(Math.min(at, end), end));
      System.out.println("                          than: " + words);
    }
    at += isNext ? words.length() + 1 : 0;
  }

  private static void says(String words) {
    if (askedHere == 0) {
      wrong++;
      System.out.println("nothing is asked of: " + sentence);
    }
    goOn(words);
    sentence = words;
    sentences++;
    askedHere = 0;
  }

  /** Words that promise nothing that a call could answer. */
  private static void heading(String words) {
    goOn(words);
  }

  private static void due(long got, long want) {
    askedHere++;
    if (got != want) {
      wrong++;
      System.out.println(sentence + " -- asked " + askedHere + ": answered " + got + ", due is " + want);
    }
  }

  private static void all(int want, int... got) {
    for (int one : got) {
      due(one, want);
    }
  }

  // ---- helpers

  private static int read(PotHandles x, int use, String text) {
    for (int i = 0; i < text.length(); i++) {
      x.feed(text.charAt(i), 1);
    }
    return x.text(use);
  }

  private static PotHandles withText(int use, String text) {
    PotHandles x = new PotHandles();
    due(read(x, use, text), 1);
    return x;
  }

  /** What a TEXT of USE 0 gives. */
  private static int given(String text, int u, int c, int h) {
    return withText(0, text).law(0, u, c, h);
  }

  /** What text() answers of it, as USE 0. */
  private static int reading(String text) {
    return read(new PotHandles(), 0, text);
  }

  /** An object where WARMTH is v always. */
  private static PotHandles warmed(int v) {
    return withText(0, Integer.toString(v));
  }

  private static int put(PotHandles x, int km, int house, int liked, int years) {
    int p = x.pot(km, house, 5);
    x.change(p, 1, liked);
    x.change(p, 2, years);
    return p;
  }

  private static void row(PotHandles x, int what, int... want) {
    for (int p = 0; p < want.length; p++) {
      due(x.ofPot(p, what), want[p]);
    }
  }

  private static PotHandles inYear(int year) {
    PotHandles x = new PotHandles();
    int left = year;
    for (; left > 60; left -= 60) {
      x.years(60);
    }
    due(left > 0 ? x.years(left) : 0, 0);
    return x;
  }

  private static PotHandles withPots(int... houses) {
    PotHandles x = new PotHandles();
    for (int house : houses) {
      x.pot(POT, house, 5);
    }
    return x;
  }

  /** One that is broken, LIKED 5, with a FALSE HANDLE or none. */
  private static PotHandles withBroken(boolean isFalse) {
    PotHandles x = withText(1, "9");
    x.pot(POT, 0, 5);
    if (isFalse) {
      x.stick(0);
    }
    x.years(1);
    return x;
  }

  // ---- what it is

  private static void whatItIs() {
    heading("# PotHandles ## What it is");
    says("Handles are the human part: pots in that district are made without, and get one when they've been in a house"
        + " long enough to be missed, it comes, about the eleventh year, out at the side, like a crook'd arm; houses with"
        + " hands and use, pots of kinds, crocks, jugs, cups, with liking that grows by years, handles that come, false"
        + " ones that were stuck on, pots that break, that move; years gone ahead, which has a handle when, how each"
        + " house stands, where a pot should go so that it gets one, the fewest to be used so that told ones do, whose it"
        + " was by how it grew, what can be carried by whom, the richest house, how many break, where a false one helps,"
        + " odds by houses; years by draws; laws in texts, rows, images.");
    PotHandles x = withPots(3);
    due(x.ofPot(0, HANDLES), 0);
    due(x.years(10), 0);
    due(x.years(1), 1);
    says("An object is used for at most 512 calls after it has been made; what later calls answer is free.");
    PotHandles used = withPots(0);
    for (int call = 2; call <= 510; call++) {
      due(used.seed(call), call - 1);
    }
    due(used.when(0), 11);
    due(used.count(9), 510);
  }

  private static void face() {
    heading("## The public face ```java");
    says("public final class PotHandles {");
    due(PotHandles.class.getModifiers(), Modifier.PUBLIC | Modifier.FINAL);
    says("public PotHandles();");
    due(PotHandles.class.getDeclaredConstructors().length, 1);
    due(PotHandles.class.getConstructors()[0].getParameterCount(), 0);
    Matcher call = Pattern.compile("public int (\\w+)\\(([^)]*)\\);").matcher(document);
    int calls = 0;
    while (document.startsWith("public int ", at) && call.find(at)) {
      says(call.group());
      due(callsOf(call.group(1), call.group(2).isEmpty() ? new String[0] : call.group(2).split(", ")), 1);
      calls++;
    }
    due(calls, 40);
    says("} ```");
    int open = 0;
    for (Method m : PotHandles.class.getDeclaredMethods()) {
      open += Modifier.isPrivate(m.getModifiers()) ? 0 : 1;
    }
    due(open, 40);
    due(PotHandles.class.getFields().length, 0);
    due(PotHandles.class.getClasses().length, 0);
  }

  /** How many calls have that name and take these. */
  private static int callsOf(String name, String[] takes) {
    int many = 0;
    for (Method m : PotHandles.class.getMethods()) {
      boolean isSo = m.getName().equals(name) && m.getReturnType() == int.class && m.getParameterCount() == takes.length;
      for (int i = 0; isSo && i < takes.length; i++) {
        isSo = m.getParameterTypes()[i].getName().equals(takes[i].split(" ")[0]);
      }
      many += isSo && !Modifier.isStatic(m.getModifiers()) ? 1 : 0;
    }
    return many;
  }

  private static void errors() {
    heading("## Terms");
    says("ERRORS are answers below -1000000000: LOW is -1000000000; LOW - 1 BEYOND, LOW - 2 NONE, LOW - 3 STATE,"
        + " LOW - 4 FULL, LOW - 5 KIND.");
    PotHandles x = withPots(0, 0, 0, 0, 0, 0, 0, 0, 0, 0);
    due(x.house(5, 0, 0), -1000000001);
    due(x.restore(), -1000000002);
    due(x.shift(0, 0), -1000000003);
    due(x.pot(0, 0, 0), -1000000004);
    due(x.as(0, 1), -1000000005);
    says("Each act tells its ERRORS in the order in which they are asked; one that answers an ERROR changes nothing but"
        + " what told() tells.");
    due(x.pot(70, 0, 0), BEYOND);
    due(x.shift(0, 5), BEYOND);
    due(x.sheet(4, 8, -1), BEYOND);
    due(x.move(4, 0, 3, 0, 0), BEYOND);
    due(x.move(3, -1, 2, 0, 0), NONE);
    due(x.count(0), 10);
    due(x.ofPot(0, HOUSE), 0);
    due(x.told(1), 5);
    due(x.told(2), 2);
    due(x.told(3), 1);
    PotHandles old = inYear(9960);
    old.pot(POT, 0, 9);
    due(old.loose(40), STATE);
    due(old.years(40), STATE);
    due(old.count(1), 9960);
    due(old.count(9), 1);
    row(old, USED, 9);
    row(old, LIKED, 0);
    row(old, YEARS, 0);
    says("Quotients are cut (toward 0).");
    due(given("(0-7)/2+9", 0, 0, 0), 6);
    due(given("(u-c)/h+9", 0, 7, 2), 6);
    PotHandles half = warmed(3);
    put(half, CUP, 0, 99, 0);
    due(half.shift(0, 1), 0);
    row(half, LIKED, 49);
    due(half.years(1), 0);
    row(half, LIKED, 50);
  }

  // ---- term 1

  private static void housesAndPots() {
    says("1. HOUSES 0 .. 4, each with HANDS (0 to 9; 2 at first) and CARE (0 to 9; 5 at first).");
    PotHandles x = new PotHandles();
    for (int h = 0; h < 5; h++) {
      due(x.house(h, HANDS, 9), 2);
      due(x.house(h, CARE, 9), 5);
      due(x.house(h, HANDS, 0), 9);
      due(x.house(h, CARE, 0), 9);
      due(x.ofHouse(h, HANDS), 0);
      due(x.ofHouse(h, CARE), 0);
    }
    all(BEYOND, x.ofHouse(-1, HANDS), x.ofHouse(5, HANDS), x.house(0, HANDS, 10), x.house(0, CARE, 10),
        x.house(0, HANDS, -1), x.house(0, CARE, -1));
    says("YEAR (0 to 9999; 0 at first), BROKEN (0 to 999: how many; 0 at first).");
    due(x.count(1), 0);
    due(x.count(2), 0);
    due(inYear(9999).years(1), STATE);
    due(inYear(9999).count(1), 9999);
    due(withBroken(false).count(2), 1);
    says("```text POTS 0, 1, .. (at most 10), of KINDS: 0 POT; 1 CROCK, 2 JUG, 3 CUP under POT; 4 STUCK under CROCK;"
        + " 5 ROOKS under JUG; 6 CHIPPED under CUP;");
    int[] above = {-1, 0, 0, 0, 1, 2, 3};
    for (int kind = 0; kind <= 6; kind++) {
      due(x.pot(10 * kind + 4, 0, 0), kind);
      for (int other = 0; other <= 6; other++) {
        boolean isUnder = other == kind || other == 0 || other == above[kind];
        due(x.as(kind, other), isUnder ? 4 : KIND);
      }
    }
    due(x.pot(POT, 0, 0), 7);
    due(x.pot(POT, 0, 0), 8);
    due(x.pot(POT, 0, 0), 9);
    due(x.pot(POT, 0, 0), FULL);
    says("with a number m (0 to 9), in a HOUSE, or none (-1: broken), USED (0 to 9), LIKED (0 to 999; 0 at first), YEARS in"
        + " that house (0 to 999; 0 at first), HANDLES (0 to 3; 0 at first), FALSE (1) or not (0).");
    PotHandles y = warmed(9);
    due(y.pot(ROOKS + 9, 4, 9), 0);
    int[] want = {5, 9, 4, 9, 0, 0, 0, 0};
    for (int what = 0; what < want.length; what++) {
      due(y.ofPot(0, what), want[what]);
    }
    due(y.change(0, 1, 999), 0);
    due(y.change(0, 2, 999), 0);
    due(y.stick(0), 999);
    row(y, FALSE, 1);
    due(y.years(2), 3);
    due(y.years(60), 3);
    row(y, LIKED, 999);
    row(y, YEARS, 999);
    due(withBroken(false).ofPot(0, HOUSE), -1);
  }

  /** How much more one is LIKED in its first YEAR, without a HANDLE and with one. */
  private static void warmsBy(int km, int v, int without, int with) {
    PotHandles x = warmed(v);
    x.pot(km, 0, 5);
    x.pot(km, 0, 5);
    x.stick(1);
    x.years(1);
    row(x, LIKED, without, with);
  }

  private static void warms() {
    says("WARMS (LIKED in a YEAR; v is what the TEXT gives): POT: v.");
    warmsBy(POT + 9, 7, 7, 7);
    says("CROCK: v, and m.");
    warmsBy(CROCK + 9, 7, 16, 16);
    warmsBy(CROCK, 7, 7, 7);
    says("JUG: twice v.");
    warmsBy(JUG + 9, 7, 14, 14);
    says("CUP: half (cut) of v.");
    warmsBy(CUP + 9, 7, 3, 3);
    warmsBy(CUP, 1, 0, 0);
    says("STUCK: 0, if it has a HANDLE, else as CROCK.");
    warmsBy(STUCK + 9, 7, 16, 0);
    says("ROOKS: as JUG, and HANDLES.");
    warmsBy(ROOKS + 9, 7, 14, 15);
    PotHandles x = warmed(7);
    put(x, ROOKS, 0, 200, 20);
    int[] liked = {200, 164, 79, 95, 11, 28};
    int[] handles = {0, 1, 2, 2, 3, 3};
    for (int n = 0; n < liked.length; n++) {
      due(x.then(n, 0, 0), liked[n]);
      due(x.then(n, 0, 1), handles[n]);
    }
    says("CHIPPED: as CUP, less 1, 0 at least.");
    warmsBy(CHIPPED + 9, 7, 2, 2);
    warmsBy(CHIPPED, 4, 1, 1);
    warmsBy(CHIPPED, 3, 0, 0);
    warmsBy(CHIPPED, 1, 0, 0);
  }

  /** What one WANTS without a HANDLE and with one, as it is told and as it GROWS. */
  private static void wants(int km, int without, int with) {
    PotHandles x = warmed(0);
    put(x, km, 0, without, 20);
    put(x, km, 0, without - 1, 20);
    put(x, km, 0, 0, 20);
    due(x.stick(2), 0);
    row(x, WANTS, without, without, with);
    x.years(1);
    row(x, HANDLES, 1, 0, 1);
    row(x, LIKED, 0, without - 1);
  }

  private static void bears(int km, int most) {
    PotHandles x = warmed(99);
    put(x, km, 0, 999, 999);
    put(x, km, 0, 999, 999);
    x.stick(1);
    row(x, BEARS, most, most);
    due(x.then(60, 0, 1), most);
    due(x.then(60, 1, 1), most);
  }

  private static void wantsAndBears() {
    says("WANTS (how much LIKED it must be for the next HANDLE): POT: 50.");
    wants(POT + 9, 50, 50);
    says("CROCK: twice that.");
    wants(CROCK, 100, 100);
    says("JUG: a POT's, less m.");
    wants(JUG, 50, 50);
    wants(JUG + 9, 41, 41);
    says("CUP: 20.");
    wants(CUP + 9, 20, 20);
    says("ROOKS: as JUG; twice that, if it has a HANDLE.");
    wants(ROOKS, 50, 100);
    wants(ROOKS + 9, 41, 82);
    says("CHIPPED: as CUP, and 10.");
    wants(CHIPPED + 9, 30, 30);
    says("BEARS (HANDLES at most): POT: 1.");
    bears(POT + 9, 1);
    says("JUG: 2.");
    bears(JUG + 9, 2);
    says("ROOKS: 3.");
    bears(ROOKS + 9, 3);
    says("(Others as the KIND above.)");
    wants(STUCK, 100, 100);
    bears(CROCK + 9, 1);
    bears(CUP + 9, 1);
    bears(STUCK + 9, 1);
    bears(CHIPPED + 9, 1);
  }

  private static void years() {
    says("It GROWS one, if it has been in its HOUSE for 11 YEARS or more, is LIKED as much as it WANTS, and has less than it"
        + " BEARS: HANDLES are 1 more, LIKED is less by what it WANTS.");
    PotHandles x = warmed(0);
    put(x, POT, 0, 50, 9);
    put(x, POT, 0, 50, 10);
    put(x, POT, 0, 49, 500);
    put(x, ROOKS, 0, 60, 500);
    put(x, JUG, 0, 999, 500);
    put(x, ROOKS, 0, 999, 500);
    x.years(1);
    row(x, HANDLES, 0, 1, 0, 1, 1, 1);
    row(x, LIKED, 50, 0, 49, 10, 949, 949);
    x.become(5, POT);
    x.years(1);
    row(x, HANDLES, 1, 1, 0, 1, 2, 1);
    row(x, LIKED, 0, 0, 49, 11, 899, 949);
    says("A YEAR: each POT that is in a HOUSE, by numbers: LIKED is more by WARMS (held), YEARS 1 more (held);");
    PotHandles order = withText(1, "(n=2)*9");
    order.pot(POT, 3, 5);
    order.pot(POT, 3, 5);
    due(order.years(1), 0);
    due(order.count(5), 1);
    due(order.years(3), 0);
    row(order, LIKED, 5, 20);
    row(order, YEARS, 1, 4);
    PotHandles held = warmed(7);
    put(held, POT, 0, 995, 998);
    held.stick(0);
    held.years(1);
    row(held, LIKED, 999);
    row(held, YEARS, 999);
    held.years(1);
    row(held, LIKED, 999);
    row(held, YEARS, 999);
    says("then it may GROW one;");
    PotHandles then = warmed(7);
    put(then, POT, 0, 43, 10);
    put(then, ROOKS, 0, 36, 10);
    put(then, POT, 0, 999, 10);
    due(then.years(1), 3);
    row(then, LIKED, 0, 0, 949);
    breaking();
  }

  private static void breaking() {
    says("then, if the other TEXT gives more than CARE of the HOUSE, it is broken: in none, BROKEN 1 more (held).");
    PotHandles x = withText(1, "6");
    put(x, POT, 0, 60, 10);
    put(x, POT, 1, 60, 10);
    x.house(1, CARE, 6);
    due(x.years(1), 2);
    row(x, HOUSE, -1, 1);
    row(x, HANDLES, 1, 1);
    row(x, LIKED, 15, 16);
    due(x.count(2), 1);
    due(x.count(5), 1);
    due(x.ofHouse(0, 2), 0);
    x.house(1, CARE, 5);
    x.years(1);
    due(x.count(2), 2);
    x.years(9);
    due(x.count(2), 2);
    says("YEAR is 1 more.");
    due(x.count(1), 11);
    PotHandles first = withText(1, "(y=0)*9");
    first.pot(POT, 0, 5);
    due(first.breaks(1), 1);
    PotHandles second = withText(1, "(y=1)*9");
    second.pot(POT, 0, 5);
    due(second.breaks(1), 0);
    due(second.breaks(2), 1);
  }

  private static void moveAndStick() {
    says("To MOVE one to a HOUSE: it is there, YEARS are 0, LIKED is half (cut), FALSE HANDLES come off (HANDLES 0, if"
        + " FALSE, and it is not FALSE any more).");
    PotHandles x = warmed(0);
    put(x, POT, 0, 51, 30);
    put(x, JUG, 0, 150, 30);
    put(x, JUG, 0, 150, 30);
    x.stick(1);
    due(x.years(1), 4);
    row(x, HANDLES, 1, 2, 1);
    for (int p = 0; p < 3; p++) {
      due(x.shift(p, 4), 0);
    }
    row(x, HOUSE, 4, 4, 4);
    row(x, YEARS, 0, 0, 0);
    row(x, LIKED, 0, 50, 50);
    row(x, HANDLES, 1, 0, 1);
    row(x, FALSE, 0, 0, 0);
    row(x, USED, 5, 5, 5);
    due(x.when(1), 11);
    says("To STICK a HANDLE on one that has none: HANDLES 1, FALSE. ```");
    PotHandles y = warmed(0);
    put(y, JUG, 2, 77, 30);
    due(y.stick(0), 77);
    row(y, HANDLES, 1);
    row(y, FALSE, 1);
    row(y, LIKED, 77);
    row(y, YEARS, 30);
    row(y, HOUSE, 2);
  }

  // ---- term 2

  private static void texts() {
    says("2. TEXTS are read from THE TAPE (bytes, at most 50): T: A { | A }.");
    PotHandles x = new PotHandles();
    for (int i = 1; i <= 50; i++) {
      due(x.feed("u|".charAt((i + 1) % 2), 1), i);
    }
    due(x.feed('u', 1), FULL);
    due(x.text(0), -60);
    due(read(x, 0, "u|".repeat(24) + "99"), 1);
    due(given("0|0|3", 0, 0, 0), 1);
    all(-12, reading("u|"), reading("u||c"));
    due(reading("|u"), -10);
    says("A: B { & B }.");
    due(given("2&3&4", 0, 0, 0), 1);
    due(given("2&0&4", 0, 0, 0), 0);
    due(given("1|0&0", 0, 0, 0), 1);
    due(given("0&0|7", 0, 0, 0), 1);
    all(-12, reading("u&"), reading("u&&c"));
    says("B: S, or S < S, S = S, S > S.");
    due(given("1<2&3>2&4=2+2", 0, 0, 0), 1);
    due(given("(1<2)<3", 0, 0, 0), 1);
    all(-13, reading("u<c<h"), reading("u=c=h"), reading("u>c>h"), reading("u<c=h"));
    all(-12, reading("u<=c"), reading("u=="));
    says("S: P { + P, - P }.");
    due(given("9-4-3", 0, 0, 0), 2);
    due(given("1+2*3", 0, 0, 0), 7);
    all(-12, reading("u+"), reading("u-+c"));
    all(-10, reading("-1"), reading("+1"));
    says("P: Q { * Q, / Q, % Q }.");
    due(given("9/2*2", 0, 0, 0), 8);
    due(given("17%10/2", 0, 0, 0), 3);
    due(given("7*9%5", 0, 0, 0), 3);
    all(-12, reading("u*"), reading("u//c"), reading("u%-1"));
    says("Q: a NUMBER of 1 to 4 digits, a NAME, ! Q, ( T ).");
    due(given("9999-9901", 0, 0, 0), 98);
    due(given("0007", 0, 0, 0), 7);
    due(given("u*1+c*2+h*3", 1, 2, 3), 14);
    due(given("!u*7", 0, 0, 0), 7);
    due(given("!!5", 0, 0, 0), 1);
    due(given("!(u|c)*7", 0, 0, 0), 7);
    due(given("2*(3+(4))", 0, 0, 0), 14);
    due(reading("12345"), -14);
    all(-11, reading("()"), reading("uu"), reading("u1"), reading("1u"), reading("u!"), reading("u("), reading("u)"));
    says("No blanks.");
    due(reading(" u"), -10);
    all(-11, reading("u "), reading("u +c"), reading("1 2"), reading("u\n"), reading("u\t"));
    due(reading("u+ c"), -12);
    says("At most 5 of ! and ( are open at once.");
    all(1, reading("(((((u)))))"), reading("!!!!!u"), reading("!(!(!u))"), reading("!u+!u+!u+!u+!u+!u"),
        reading("(u)+(u)+(u)+(u)+(u)+(u)"), reading("((((!u+(u)))))"), reading("!!!!!u*!!!!!u"));
    all(-15, reading("((((((u))))))"), reading("!!!!!!u"), reading("!(!(!(u)))"), reading("(((((!u)))))"));
    due(reading("(((((u+!u)))))"), -17);
  }

  private static void whatTextsGive() {
    says("Ints that wrap;");
    due(given("u+c<0", MAX, 1, 0), 1);
    due(given("u-c=h", MIN, 1, MAX), 1);
    due(given("u*c", 65536, 65536, 0), 0);
    due(given("u*c=h", MAX, 2, -2), 1);
    says("/ cut, % the rest that it leaves, both by 0 are 0;");
    due(given("(0-7)/2+9", 0, 0, 0), 6);
    due(given("(0-7)%2+9", 0, 0, 0), 8);
    due(given("7%(0-2)+9", 0, 0, 0), 10);
    due(given("7/u+5", 0, 0, 0), 5);
    due(given("7%u+5", 0, 0, 0), 5);
    due(given("u/c=h", MIN, -1, MIN), 1);
    due(given("u%c+7", MIN, -1, 0), 7);
    says("| & < = > ! are 1 or 0, what is not 0 being true;");
    due(given("(5|0)+(0|5)+(5|7)+(0|0)", 0, 0, 0), 3);
    due(given("(5&2)+(u&5)+(5&0)+(0&5)", -3, 0, 0), 2);
    due(given("(2<3)+(3<3)+(4<3)", 0, 0, 0), 1);
    due(given("(2=3)+(3=3)+(4=3)", 0, 0, 0), 1);
    due(given("(2>3)+(3>3)+(4>3)", 0, 0, 0), 1);
    due(given("!0+!5+!u", -3, 0, 0), 1);
    says("all is worked out.");
    due(given("1|7/0", 0, 0, 0), 1);
    due(given("0&7/0", 0, 0, 0), 0);
    due(reading("1|("), -13);
  }

  private static void faults() {
    says("FAULT: the place of the first byte with which no TEXT goes on;");
    due(reading("x"), -10);
    due(reading("u+x"), -12);
    due(reading("(u+c)*x+x"), -16);
    due(reading("u\0"), -11);
    due(reading("u\u00fc"), -11);
    due(reading("1+".repeat(24) + "1)"), -59);
    says("how many there are, if it ends too early.");
    due(reading(""), -10);
    all(-11, reading("("), reading("!"));
    all(-12, reading("u+"), reading("(u"), reading("!("));
    due(reading("(((((u))))"), -20);
    due(reading("1+".repeat(25)), -60);
  }

  private static void uses() {
    says("```text USES: 0 WARMTH, NAMES u USED, c CARE of the HOUSE, h its HANDS;");
    PotHandles x = withText(0, "u*16+c*4+h");
    x.house(1, CARE, 4);
    x.house(1, HANDS, 3);
    x.house(4, CARE, 0);
    x.house(4, HANDS, 1);
    x.pot(POT, 1, 2);
    x.pot(POT, 4, 3);
    x.pot(POT, 0, 1);
    x.years(1);
    row(x, LIKED, 51, 49, 38);
    all(-10, reading("y"), reading("n"));
    says("held within 0 to 99;");
    due(read(x, 0, "u*99"), 1);
    x.years(1);
    row(x, LIKED, 150, 148, 137);
    due(read(x, 0, "0-u"), 1);
    x.years(1);
    row(x, LIKED, 150, 148, 137);
    due(x.law(0, -7, 0, 0), 7);
    due(x.law(0, -700, 0, 0), 99);
    says("without a TEXT u*c/5.");
    PotHandles y = new PotHandles();
    y.house(1, CARE, 8);
    y.pot(POT, 1, 7);
    y.pot(POT, 2, 7);
    y.pot(JUG, 1, 7);
    y.years(1);
    row(y, LIKED, 11, 7, 22);
    says("1 BREAKS, NAMES u USED, y the rest of YEAR by 13, n how many POTS are in that HOUSE;");
    PotHandles z = withText(1, "(u=3)*(y=12)*(n=2)*9");
    z.pot(POT, 1, 3);
    z.pot(POT, 1, 3);
    z.pot(POT, 2, 3);
    z.pot(POT, 3, 4);
    z.pot(POT, 3, 4);
    due(z.breaks(12), 0);
    due(z.breaks(13), 1);
    due(z.breaks(26), 1);
    due(z.years(13), 2);
    due(z.count(5), 1);
    due(z.shift(2, 1), 2);
    due(z.breaks(12), 0);
    due(z.breaks(13), 1);
    all(-10, read(z, 1, "c"), read(z, 1, "h"));
    says("held within 0 to 99;");
    due(read(z, 1, "u+y+n"), 1);
    due(z.law(1, 40, 50, 60), 99);
    due(z.law(1, -40, 50, -60), 0);
    due(z.law(1, 1, 2, 3), 6);
    says("without a TEXT 0. ```");
    PotHandles none = withPots(0);
    none.house(0, CARE, 0);
    due(none.breaks(60), 0);
    all(0, none.law(1, 9, 9, 9), none.law(1, -9, MAX, MIN));
  }

  // ---- term 3

  private static void thoughtOfOne() {
    says("3. (All this is only thought, YEAR beyond 9999, too.)");
    PotHandles x = inYear(9999);
    put(x, JUG, 0, 30, 0);
    due(read(x, 1, "(y=3)*9"), 1);
    due(x.then(1, 0, 2), 0);
    due(x.then(2, 0, 2), -1);
    x.when(0);
    x.place(0, 60, 0);
    x.use(0, 60);
    x.needed(1, 20);
    x.dealer(30);
    x.odds(0, 60, 0);
    due(x.count(1), 9999);
    due(x.count(2), 0);
    due(x.ofHouse(0, CARE), 5);
    int[] as = {2, 0, 0, 5, 30, 0, 0, 0};
    for (int what = 0; what < as.length; what++) {
      due(x.ofPot(0, what), as[what]);
    }
    says("BEHIND n YEARS (0 to 60).");
    PotHandles y = withPots(2);
    due(y.then(0, 0, 0), 0);
    due(y.then(60, 0, 0), 250);
    all(BEYOND, y.then(61, 0, 0), y.then(-1, 0, 0));
    says("WHEN of one: behind how many YEARS (0 to 60) it has more HANDLES than now first.");
    due(y.when(0), 11);
    due(y.stick(0), 0);
    due(y.when(0), NONE);
    PotHandles late = warmed(1);
    put(late, JUG, 0, 40, 0);
    put(late, CROCK, 0, 40, 0);
    put(late, CROCK, 0, 39, 0);
    late.stick(0);
    due(late.when(0), 11);
    due(late.when(1), 60);
    due(late.when(2), NONE);
    says("SHELF of a HOUSE by n (0 to 60): POTS in it that have a HANDLE behind n YEARS, as a set.");
    PotHandles z = withPots(1, 2, 1, 1);
    due(z.stick(2), 0);
    due(z.change(3, 0, 0), 5);
    due(z.shelf(1, 0), 4);
    due(z.shelf(1, 10), 4);
    due(z.shelf(1, 11), 5);
    due(z.shelf(1, 60), 5);
    due(z.shelf(2, 60), 2);
    due(z.shelf(3, 60), 0);
  }

  private static void thoughtOfHouses() {
    says("```text PLACE of one by n (0 to 60): the HOUSE to which it should be MOVED now (that in which it is: not MOVED) so"
        + " that it has most HANDLES behind n YEARS, of several is LIKED most, of several the least HOUSE; HANDLES then.");
    PotHandles x = new PotHandles();
    put(x, POT, 2, 40, 10);
    due(x.place(0, 2, 0), 2);
    due(x.place(0, 2, 1), 1);
    due(x.place(0, 0, 0), 2);
    due(x.place(0, 0, 1), 0);
    x.house(4, CARE, 9);
    due(x.place(0, 11, 0), 4);
    due(x.place(0, 10, 0), 2);
    x.house(3, CARE, 9);
    due(x.place(0, 11, 0), 3);
    due(x.place(0, 11, 1), 1);
    x.change(0, 1, 0);
    x.house(2, CARE, 0);
    due(x.place(0, 5, 0), 3);
    due(x.place(0, 5, 1), 0);
    x.stick(0);
    due(x.place(0, 10, 0), 2);
    due(x.place(0, 11, 0), 3);
    says("USE of one by n (0 to 60): the least USED (0 to 9) with which it has more HANDLES behind n YEARS than now.");
    PotHandles y = withPots(0);
    due(y.use(0, 11), 5);
    due(y.use(0, 50), 1);
    due(y.use(0, 10), NONE);
    due(read(y, 0, "(u=9)*9"), 1);
    due(y.use(0, 60), 9);
    due(read(y, 0, "(u=0)*9"), 1);
    due(y.use(0, 60), 0);
    y.stick(0);
    due(y.use(0, 60), NONE);
    says("NEEDED for a set of POTS by n (0 to 20): the fewest HOUSES of which CARE, being 9 from now on, makes that each of"
        + " these has a HANDLE behind n YEARS; of several sets the least.");
    PotHandles z = withPots(1, 3, 0, 4);
    for (int h = 0; h < 4; h++) {
      z.house(h, CARE, 1);
    }
    z.stick(2);
    due(z.needed(3, 20), 10);
    due(z.needed(15, 20), 10);
    due(z.needed(15, 11), 10);
    due(z.needed(15, 10), NONE);
    all(0, z.needed(0, 0), z.needed(4, 0), z.needed(12, 11));
    due(z.needed(1, 20), 2);
    due(z.needed(2, 20), 8);
    whoseAndCarry();
  }

  private static void whoseAndCarry() {
    says("WHOSE: a SHEET tells LIKED of one behind 0, 1, .. YEARS from now on: HOUSES in which it may be, had it been there as"
        + " long (not MOVED), as a set; how many.");
    PotHandles x = withPots(0);
    x.house(1, CARE, 9);
    x.house(3, CARE, 9);
    x.change(0, 1, 45);
    x.change(0, 2, 10);
    x.sheet(2, 16, 3);
    int[] near = {45, 0, 5};
    int[] far = {45, 4, 13};
    for (int i = 0; i < 3; i++) {
      x.put(2, i, near[i]);
    }
    due(x.whose(2, 0, 0), 21);
    due(x.whose(2, 0, 1), 3);
    for (int i = 0; i < 3; i++) {
      x.put(2, i, far[i]);
    }
    due(x.whose(2, 0, 0), 10);
    due(x.whose(2, 0, 1), 2);
    x.put(2, 0, 44);
    due(x.whose(2, 0, 0), 0);
    due(x.whose(2, 0, 1), 0);
    due(x.ofPot(0, HOUSE), 0);
    says("CARRY of a HOUSE: how many of its POTS can be carried at once: one with a HANDLE takes one of its HANDS, one without"
        + " two; most of them.");
    PotHandles y = withPots(3, 3, 3, 3, 3, 1);
    y.stick(1);
    y.stick(4);
    int[] most = {0, 1, 2, 2, 3, 3, 4, 4, 5, 5};
    for (int hands = 0; hands <= 9; hands++) {
      y.house(3, HANDS, hands);
      due(y.carry(3), most[hands]);
    }
    due(y.carry(1), 1);
    due(y.carry(0), 0);
    y.house(1, HANDS, 1);
    due(y.carry(1), 0);
  }

  private static void thoughtOfAll() {
    says("RICHEST behind n YEARS: the HOUSE with most HANDLES together; of several the least; how many.");
    PotHandles x = withPots(2, 4, 4, 1);
    x.stick(0);
    x.change(3, 0, 0);
    x.become(0, ROOKS);
    due(x.richest(0, 0), 2);
    due(x.richest(0, 1), 1);
    due(x.richest(11, 0), 2);
    due(x.richest(11, 1), 2);
    due(x.richest(10, 0), 2);
    x.become(0, POT);
    due(x.richest(11, 0), 4);
    due(x.richest(11, 1), 2);
    due(withPots(3, 3).richest(5, 0), 0);
    due(withPots(3, 3).richest(5, 1), 0);
    says("BREAKS by n (0 to 60): how many more are broken behind n YEARS.");
    PotHandles y = withText(1, "(y=u)*9");
    y.pot(POT, 0, 1);
    y.pot(POT, 1, 3);
    y.pot(POT, 2, 9);
    all(0, y.breaks(0), y.breaks(1));
    due(y.breaks(2), 1);
    due(y.breaks(4), 2);
    due(y.breaks(60), 3);
    y.years(2);
    due(y.breaks(0), 0);
    due(y.breaks(60), 2);
    says("DEALER by n (0 to 30): the POT that, had it a HANDLE stuck on now (if it has none; else as it is), makes most HANDLES"
        + " of all together behind n YEARS; of several the least (-1: none makes more than it is).");
    PotHandles z = withPots(0, 0, 0, 0);
    z.become(1, JUG);
    z.become(3, ROOKS);
    z.change(0, 0, 0);
    due(z.dealer(0), 0);
    due(z.dealer(11), 0);
    z.stick(0);
    due(z.dealer(10), 1);
    due(z.dealer(11), 1);
    due(z.dealer(12), 3);
    z.stick(3);
    due(z.dealer(12), -1);
    due(z.count(4), 9);
    due(withBroken(false).dealer(30), -1);
    says("ODDS: that one has a HANDLE behind n YEARS, being in any HOUSE as long as it was in its own (not MOVED), each just as"
        + " likely: a fraction in lowest terms (0 is 0 by 1; one that is broken, now or then, has none).");
    odds();
  }

  private static void odds() {
    PotHandles x = withPots(1);
    x.change(0, 2, 10);
    x.change(0, 1, 44);
    x.house(3, CARE, 6);
    x.house(4, CARE, 7);
    due(x.odds(0, 1, 0), 2);
    due(x.odds(0, 1, 1), 5);
    due(x.odds(0, 2, 0), 1);
    due(x.odds(0, 2, 1), 1);
    due(x.odds(0, 0, 0), 0);
    due(x.odds(0, 0, 1), 1);
    x.stick(0);
    due(x.odds(0, 60, 0), 1);
    due(read(x, 1, "(y=0)*6"), 1);
    due(x.odds(0, 1, 0), 2);
    due(x.odds(0, 0, 0), 1);
    PotHandles broken = withBroken(true);
    row(broken, HANDLES, 1);
    due(broken.odds(0, 0, 0), 0);
    due(broken.odds(0, 0, 1), 1);
    due(broken.odds(0, 60, 0), 0);
  }

  private static void draws() {
    says("YEARS by draws: z is told (1 at first);");
    PotHandles x = new PotHandles();
    due(x.count(9), 1);
    due(x.seed(0), 1);
    due(x.count(9), 0);
    says("each makes it z * 1103515245 + 12345 (an int), and gives z >>> 8.");
    due(x.loose(1), 0);
    due(x.count(9), 12345);
    x.seed(2);
    x.loose(1);
    due(x.count(9), -2087924461);
    PotHandles ten = withPots(0, 0, 0, 0, 0, 0, 0, 0, 0, 0);
    ten.seed(2);
    ten.loose(1);
    row(ten, USED, 5, 7, 5, 5, 5, 5, 5, 5, 5, 5);
    says("Each: a draw: if there are POTS, USED of the one that is its rest by how many there are is the rest by 10 of an"
        + " eighth of it (cut); then a YEAR.");
    PotHandles three = withPots(0, 0, 0);
    due(three.loose(1), 0);
    due(three.count(9), 1103527590);
    row(three, USED, 5, 5, 1);
    row(three, LIKED, 5, 5, 1);
    due(three.count(1), 1);
    three.seed(0);
    three.loose(1);
    row(three, USED, 6, 5, 1);
    row(three, LIKED, 11, 10, 2);
    PotHandles none = new PotHandles();
    due(none.loose(2), 0);
    due(none.count(1), 2);
    due(none.count(9), 1103527590 * 1103515245 + 12345);
    PotHandles broken = withBroken(false);
    broken.loose(1);
    row(broken, USED, 1);
  }

  // ---- VOICES

  /** Number 3 of four, with m 4, so that neither goes unseen. */
  private static void speaks(int kind, int act, int x, int want, int... bodies) {
    PotHandles all = withPots(0, 0, 0, 0);
    all.become(3, kind + 4);
    due(all.voice(3, act, x), want);
    due(all.count(8), bodies.length);
    for (int i = 0; i < bodies.length; i++) {
      due(all.trace(i), bodies[i]);
    }
    due(all.trace(bodies.length), NONE);
  }

  private static void voices() {
    says("VOICES of a POT, with a number x (ints that go round); n is the number, m as told: 0 holds, 1 warms, 2 grows, 3"
        + " tells.");
    speaks(POT, 0, MAX, MIN + 2, 10);
    speaks(POT, 2, MIN, MAX - 3, 12);
    says("BODIES: POT: 10 holds: x + n.");
    speaks(POT, 0, 100, 103, 10);
    speaks(JUG, 0, 100, 103, 10);
    speaks(CUP, 0, 100, 103, 10);
    speaks(ROOKS, 0, 100, 103, 10);
    speaks(CHIPPED, 0, 100, 103, 10);
    says("11 warms: holds(x) * 2.");
    speaks(POT, 1, 100, 206, 11, 10);
    speaks(CROCK, 1, 100, 618, 11, 20, 10);
    speaks(CUP, 1, 100, 206, 11, 10);
    speaks(STUCK, 1, 100, 618, 11, 20, 10);
    speaks(CHIPPED, 1, 100, 206, 11, 10);
    says("12 grows: x - m.");
    speaks(POT, 2, 100, 96, 12);
    speaks(CROCK, 2, 100, 96, 12);
    speaks(JUG, 2, 100, 96, 12);
    speaks(STUCK, 2, 100, 96, 12);
    speaks(ROOKS, 2, 100, 96, 12);
    says("13 tells: warms(x) ^ grows(x).");
    speaks(POT, 3, 100, 206 ^ 96, 13, 11, 10, 12);
    speaks(CROCK, 3, 100, 618 ^ 96, 13, 11, 20, 10, 12);
    speaks(JUG, 3, 100, 209 ^ 96, 13, 30, 11, 10, 12, 12);
    speaks(CUP, 3, 100, 206 ^ -96, 13, 11, 10, 40, 12);
    speaks(ROOKS, 3, 100, 211 ^ 96, 13, 60, 30, 11, 10, 12, 12);
  }

  private static void voicesOfKindsBelow() {
    says("CROCK: 20 holds: super.holds(x) * 3.");
    speaks(CROCK, 0, 100, 309, 20, 10);
    speaks(STUCK, 0, 100, 309, 20, 10);
    says("JUG: 30 warms: super.warms(x) - grows(1).");
    speaks(JUG, 1, 100, 209, 30, 11, 10, 12);
    says("CUP: 40 grows: -super.grows(x).");
    speaks(CUP, 2, 100, -96, 40, 12);
    says("STUCK: 50 tells: super.tells(x) - holds(2).");
    speaks(STUCK, 3, 100, (618 ^ 96) - 15, 50, 13, 11, 20, 10, 12, 20, 10);
    says("ROOKS: 60 warms: super.warms(x + 1).");
    speaks(ROOKS, 1, 100, 211, 60, 30, 11, 10, 12);
    says("CHIPPED: 70 grows: super.grows(x) ^ n.");
    speaks(CHIPPED, 2, 100, -96 ^ 3, 70, 40, 12);
    says("71 tells: warms(x) - super.tells(x).");
    speaks(CHIPPED, 3, 100, 206 - (206 ^ -96 ^ 3), 71, 11, 10, 13, 11, 10, 70, 40, 12);
    says("holds(..) is the BODY of its KIND, or of the next KIND above that has one; super.holds(..) that from the KIND above"
        + " the BODY's on.");
    speaks(STUCK, 1, 0, 18, 11, 20, 10);
    speaks(ROOKS, 1, 0, 11, 60, 30, 11, 10, 12);
    speaks(CHIPPED, 2, 4, 3, 70, 40, 12);
    PotHandles x = withPots(0, 0);
    x.become(1, CROCK);
    due(x.voice(1, 0, 1), 6);
    x.become(1, JUG);
    due(x.voice(1, 0, 1), 2);
    says("THE TRACE: the numbers of BODIES of the latest voice(), as they began (what stands left is worked out first), the"
        + " first 40. ```");
    due(x.count(8), 1);
    due(x.voice(0, 3, 0), 0);
    int[] began = {13, 11, 10, 12};
    for (int i = 0; i < began.length; i++) {
      due(x.trace(i), began[i]);
    }
    due(x.voice(0, 2, 0), 0);
    due(x.count(8), 1);
    due(x.trace(0), 12);
    due(x.trace(1), NONE);
  }

  // ---- term 4, and what the interface says

  private static void sheets() {
    says("4. SHEETS 0 .. 3 are rows of 8, 16, 32 bits, at most 40 numbers, or missing (as at first).");
    PotHandles x = new PotHandles();
    for (int s = 0; s < 4; s++) {
      due(x.judge(s), NONE);
      for (int bits = 8; bits <= 32; bits *= 2) {
        due(x.sheet(s, bits, 40), 1);
        due(x.put(s, 39, 1), 1);
        due(x.sheet(s, bits, 41), BEYOND);
      }
    }
    all(BEYOND, x.judge(4), x.judge(-1), x.sheet(0, 64, 1), x.sheet(0, 4, 1));
  }

  private static void interfaces() {
    ahead("`house`, `ofHouse`, `pot`, `ofPot`, `change`, `shift`, `stick`, `become`, `as`", "houses, pots");
    ahead("`feed`, `text`, `law`", "texts");
    ahead("`years`, `loose`", "years");
    ahead("`then`, `when`, `shelf`, `place`, `use`, `needed`, `whose`, `carry`, `richest`, `breaks`, `dealer`, `odds`",
        "what would be");
    ahead("`seed`, `voice`, `trace`, `sheet`, `put`, `move`, `uses`, `judge`, `image`, `restore`, `tell`, `check`, `count`,"
        + " `told`", "draws, voices, sheets, images, what is told");
  }

  /** In the source, the calls stand behind that line in their order, ahead of the next such line. */
  private static void ahead(String calls, String title) {
    says("Ahead of the calls " + calls + " the interface says: ---- " + title + ".");
    String source = "";
    try {
      source = Files.readString(Path.of("src/main/java/PotHandles.java"));
    } catch (IOException e) {
      System.out.println(e);
    }
    int begin = source.indexOf("  // ---- " + title + "\n");
    int end = begin < 0 ? -1 : source.indexOf("  // ---- ", begin + 8);
    StringBuilder found = new StringBuilder();
    Matcher m = Pattern.compile("\n  public int (\\w+)\\(").matcher(source.substring(Math.max(0, begin), Math.max(0, end)));
    while (m.find()) {
      found.append(found.length() == 0 ? "" : ", ").append('`').append(m.group(1)).append('`');
    }
    due(found.toString().equals(calls) ? 1 : 0, 1);
  }

  // ---- the promises

  private static void promisesOfHouses() {
    heading("## Promise 1: A new object `PotHandles()`:");
    says("All as at first; no POTS.");
    PotHandles x = new PotHandles();
    int[] counts = {0, 0, 0, 0, 0, 0, 0, 0, 0, 1};
    for (int what = 0; what < counts.length; what++) {
      due(x.count(what), counts[what]);
    }
    all(0, x.told(1), x.told(2), x.told(3), x.told(4), x.told(5));
    due(x.restore(), NONE);
    due(x.trace(0), NONE);
    due(x.when(0), BEYOND);
    due(x.text(0), -10);
    due(x.image(), 1);
    heading("## Promise 2: house `int house(int house, int what, int v)`:");
    says("HANDS (what 0), CARE (1) of a HOUSE becomes v: what it was.");
    due(x.house(3, 0, 7), 2);
    due(x.house(3, 1, 8), 5);
    due(x.house(3, 0, 0), 7);
    due(x.house(3, 1, 9), 8);
    due(x.house(2, 0, 1), 2);
    says("BEYOND.");
    all(BEYOND, x.house(-1, 0, 0), x.house(5, 0, 0), x.house(0, -1, 0), x.house(0, 2, 0), x.house(0, 0, -1), x.house(0, 1, 10));
    heading("## Promise 3: ofHouse `int ofHouse(int house, int what)`:");
    says("Of a HOUSE: 0 HANDS, 1 CARE, 2 its POTS, as a set.");
    due(x.ofHouse(3, 0), 0);
    due(x.ofHouse(3, 1), 9);
    due(x.ofHouse(3, 2), 0);
    PotHandles y = withPots(3, 1, 3, 0, 3);
    due(y.ofHouse(3, 2), 21);
    due(y.ofHouse(1, 2), 2);
    says("BEYOND.");
    all(BEYOND, y.ofHouse(-1, 2), y.ofHouse(5, 2), y.ofHouse(0, 3), y.ofHouse(0, -1));
    heading("## Promise 4: pot `int pot(int km, int house, int used)`:");
    says("A POT (km: 10 times the KIND, and m) in a HOUSE, USED so: its number.");
    due(y.pot(57, 4, 8), 5);
    due(y.ofPot(5, 0), 5);
    due(y.ofPot(5, 1), 7);
    due(y.ofPot(5, HOUSE), 4);
    due(y.ofPot(5, USED), 8);
    due(y.pot(0, 0, 0), 6);
    says("BEYOND.");
    all(BEYOND, y.pot(-1, 0, 0), y.pot(70, 0, 0), y.pot(0, -1, 0), y.pot(0, 5, 0), y.pot(0, 0, -1), y.pot(0, 0, 10));
    due(y.count(0), 7);
    says("FULL.");
    all(FULL, withPots(0, 0, 0, 0, 0, 0, 0, 0, 0, 0).pot(69, 4, 9));
    due(y.pot(69, 4, 9), 7);
  }

  private static void promisesOfPots() {
    heading("## Promise 5: ofPot `int ofPot(int pot, int what)`:");
    says("Of a POT: 0 KIND, 1 m, 2 HOUSE (-1), 3 USED, 4 LIKED, 5 YEARS, 6 HANDLES, 7 FALSE, 8 WANTS now, 9 BEARS.");
    PotHandles x = new PotHandles();
    x.pot(58, 4, 6);
    x.change(0, 1, 70);
    x.change(0, 2, 17);
    x.stick(0);
    int[] want = {5, 8, 4, 6, 70, 17, 1, 1, 84, 3};
    for (int what = 0; what < want.length; what++) {
      due(x.ofPot(0, what), want[what]);
    }
    says("BEYOND.");
    all(BEYOND, x.ofPot(-1, 0), x.ofPot(1, 0), x.ofPot(0, 10), x.ofPot(0, -1));
    heading("## Promise 6: change `int change(int pot, int what, int v)`:");
    says("USED (what 0), LIKED (1), YEARS (2) of a POT becomes v: what it was.");
    due(x.change(0, 0, 3), 6);
    due(x.change(0, 1, 900), 70);
    due(x.change(0, 2, 901), 17);
    due(x.ofPot(0, USED), 3);
    due(x.ofPot(0, LIKED), 900);
    due(x.ofPot(0, YEARS), 901);
    says("BEYOND.");
    all(BEYOND, x.change(1, 0, 0), x.change(-1, 0, 0), x.change(0, 3, 0), x.change(0, -1, 0), x.change(0, 0, 10),
        x.change(0, 1, 1000), x.change(0, 2, 1000), x.change(0, 0, -1), x.change(0, 1, -1), x.change(0, 2, -1));
    heading("## Promise 7: shift `int shift(int pot, int house)`:");
    says("It is MOVED to a HOUSE: where it was.");
    due(x.shift(0, 1), 4);
    int[] moved = {5, 8, 1, 3, 450, 0, 0, 0, 42, 3};
    for (int what = 0; what < moved.length; what++) {
      due(x.ofPot(0, what), moved[what]);
    }
    says("BEYOND.");
    all(BEYOND, x.shift(1, 0), x.shift(-1, 0), x.shift(0, 5), x.shift(0, -1), withBroken(false).shift(0, 5));
    says("STATE: it is broken, or there.");
    all(STATE, x.shift(0, 1), withBroken(false).shift(0, 0), withBroken(true).shift(0, 1));
    heading("## Promise 8: stick `int stick(int pot)`:");
    says("A HANDLE is STUCK on: LIKED.");
    due(x.stick(0), 450);
    due(x.ofPot(0, HANDLES), 1);
    due(x.count(4), 1);
    says("BEYOND.");
    all(BEYOND, x.stick(1), x.stick(-1));
    says("STATE: it is broken, or has one.");
    all(STATE, x.stick(0), withBroken(false).stick(0), withBroken(true).stick(0));
    PotHandles grown = withPots(0);
    grown.years(11);
    due(grown.stick(0), STATE);
    due(grown.ofPot(0, FALSE), 0);
  }

  private static void promisesOfKinds() {
    heading("## Promise 9: become `int become(int pot, int km)`:");
    says("A POT becomes one of a KIND, with m (km): the KIND that it was.");
    PotHandles x = new PotHandles();
    x.pot(23, 1, 4);
    x.change(0, 1, 55);
    x.change(0, 2, 66);
    x.stick(0);
    due(x.become(0, 47), 2);
    int[] want = {4, 7, 1, 4, 55, 66, 1, 1, 100, 1};
    for (int what = 0; what < want.length; what++) {
      due(x.ofPot(0, what), want[what]);
    }
    due(x.become(0, 69), 4);
    due(x.become(0, 0), 6);
    says("BEYOND.");
    all(BEYOND, x.become(0, 70), x.become(0, -1), x.become(1, 0), x.become(-1, 0));
    heading("## Promise 10: as `int as(int pot, int kind)`:");
    says("A POT as one of a KIND: m.");
    due(x.become(0, 43), 0);
    all(3, x.as(0, 0), x.as(0, 1), x.as(0, 4));
    says("BEYOND.");
    all(BEYOND, x.as(0, 7), x.as(0, -1), x.as(1, 0), x.as(-1, 0));
    says("KIND: it isn't of that KIND, nor of one under it.");
    all(KIND, x.as(0, 2), x.as(0, 3), x.as(0, 5), x.as(0, 6));
    due(x.become(0, 13), 4);
    all(KIND, x.as(0, 4));
  }

  private static void promisesOfTexts() {
    heading("## Promise 11: feed `int feed(long word, int n)`:");
    says("The n lowest bytes (1 .. 8) of a word, the lowest first, come to THE TAPE: how many there are.");
    PotHandles x = new PotHandles();
    due(x.feed(0x3131313131312D39L, 3), 3);
    due(x.feed(0x7575757575757537L, 1), 4);
    due(x.text(0), 1);
    due(x.law(0, 50, 0, 0), 0);
    due(x.feed(0x39_30_2B_75_2B_31_2B_31L, 8), 8);
    due(x.text(0), 1);
    due(x.law(0, 3, 0, 0), 14);
    says("BEYOND.");
    all(BEYOND, x.feed(0, 0), x.feed(0, 9), x.feed(0, -1), x.feed(0, MIN));
    says("FULL.");
    for (int i = 1; i <= 6; i++) {
      due(x.feed(0x2B312B312B312B31L, 8), 8 * i);
    }
    due(x.feed('1', 3), FULL);
    due(x.count(6), 48);
    due(x.feed('1' | '2' << 8, 2), 50);
    due(x.feed('1', 1), FULL);
    heading("## Promise 12: text `int text(int use)`:");
    says("THE TAPE, which is empty then, is the TEXT of a USE (0, 1), in place of one ahead: 1.");
    due(x.text(1), 1);
    due(x.count(6), 0);
    due(x.law(1, 0, 0, 0), 36);
    due(x.law(0, 3, 0, 0), 14);
    due(read(x, 1, "u+y"), 1);
    due(x.law(1, 3, 4, 9), 7);
    says("BEYOND (THE TAPE stays).");
    x.feed('n', 1);
    all(BEYOND, x.text(2), x.text(-1));
    due(x.count(6), 1);
    due(x.text(1), 1);
    due(x.law(1, 3, 4, 9), 9);
    says("-10 less the FAULT (no ERROR; the one ahead stays; THE TAPE is empty, too).");
    due(read(x, 1, "n*h"), -12);
    due(x.count(6), 0);
    due(x.law(1, 3, 4, 9), 9);
    due(x.told(1), 6);
    all(0, x.told(2), x.told(3), x.told(5));
    heading("## Promise 13: law `int law(int use, int a, int b, int c)`:");
    says("What a USE gives with its NAMES in order as a, b, c.");
    due(given("u*16+c*4+h", 1, 2, 3), 27);
    PotHandles y = withText(1, "u*16+y*4+n");
    due(y.law(1, 1, 2, 3), 27);
    due(y.law(0, 7, 4, 9), 5);
    says("BEYOND.");
    all(BEYOND, y.law(2, 0, 0, 0), y.law(-1, 0, 0, 0));
  }

  private static void promisesOfYears() {
    heading("## Promise 14: years `int years(int n)`:");
    says("n (1 to 60) YEARS: HANDLES of all together.");
    PotHandles x = withPots(0, 1, 2);
    x.become(1, JUG);
    due(x.years(10), 0);
    due(x.years(1), 3);
    due(x.years(1), 4);
    due(x.years(60), 4);
    due(x.count(1), 72);
    PotHandles broken = withBroken(true);
    due(broken.years(1), 1);
    says("BEYOND.");
    all(BEYOND, x.years(0), x.years(61), x.years(-1), inYear(9999).years(61));
    says("STATE: YEAR would be above 9999.");
    PotHandles old = inYear(9940);
    due(old.years(60), STATE);
    due(old.years(59), 0);
    due(old.years(1), STATE);
    heading("## Promise 15: loose `int loose(int n)`:");
    says("n (1 to 40) YEARS by draws: likewise.");
    PotHandles y = withPots(0);
    y.seed(0);
    due(y.loose(1), 0);
    row(y, USED, 6);
    row(y, LIKED, 6);
    due(y.count(1), 1);
    y.change(0, 1, 500);
    y.change(0, 2, 500);
    due(y.loose(40), 1);
    due(y.count(1), 41);
    int z = 0;
    for (int i = 0; i < 41; i++) {
      z = z * 1103515245 + 12345;
    }
    due(y.count(9), z);
    row(y, USED, (z >>> 8) / 8 % 10);
    says("BEYOND.");
    all(BEYOND, y.loose(0), y.loose(41), y.loose(-1), inYear(9999).loose(41));
    says("STATE: YEAR would be above 9999.");
    PotHandles late = inYear(9960);
    due(late.loose(40), STATE);
    due(late.count(9), 1);
    due(late.loose(39), 0);
    due(late.loose(1), STATE);
  }

  private static void promisesOfThoughts() {
    heading("## Promise 16: then `int then(int n, int pot, int what)`:");
    says("BEHIND n YEARS, of a POT: what 0 LIKED, 1 HANDLES, 2 HOUSE (-1).");
    PotHandles x = withPots(0, 3);
    due(read(x, 1, "(y=12)*(u=4)*9"), 1);
    x.change(0, 0, 4);
    due(x.then(12, 0, 0), 48);
    due(x.then(12, 0, 1), 0);
    due(x.then(12, 0, 2), 0);
    due(x.then(13, 0, 0), 2);
    due(x.then(13, 0, 1), 1);
    due(x.then(13, 0, 2), -1);
    due(x.then(60, 0, 0), 2);
    due(x.then(13, 1, 2), 3);
    says("BEYOND.");
    all(BEYOND, x.then(-1, 0, 0), x.then(61, 0, 0), x.then(0, 2, 0), x.then(0, -1, 0), x.then(0, 0, 3), x.then(0, 0, -1));
    heading("## Promise 17: when `int when(int pot)`:");
    says("WHEN.");
    due(x.when(0), 13);
    due(x.when(1), 11);
    says("BEYOND.");
    all(BEYOND, x.when(2), x.when(-1));
    says("NONE: not by 60.");
    x.change(1, 0, 0);
    all(NONE, x.when(1), withBroken(false).when(0));
    heading("## Promise 18: shelf `int shelf(int house, int n)`:");
    says("SHELF.");
    PotHandles y = withPots(2, 2, 1);
    y.stick(1);
    due(y.shelf(2, 0), 2);
    due(y.shelf(2, 11), 3);
    due(y.shelf(1, 11), 4);
    says("BEYOND.");
    all(BEYOND, y.shelf(5, 0), y.shelf(-1, 0), y.shelf(0, 61), y.shelf(0, -1));
    heading("## Promise 19: place `int place(int pot, int n, int what)`:");
    says("PLACE: what 0 the HOUSE, 1 HANDLES.");
    y.house(3, CARE, 9);
    due(y.place(0, 11, 0), 3);
    due(y.place(0, 11, 1), 1);
    due(y.place(0, 10, 1), 0);
    says("BEYOND.");
    all(BEYOND, y.place(3, 0, 0), y.place(-1, 0, 0), y.place(0, 61, 0), y.place(0, -1, 0), y.place(0, 0, 2),
        y.place(0, 0, -1), withBroken(false).place(0, 61, 0), withBroken(false).place(0, 0, 2));
    says("STATE: it is broken.");
    all(STATE, withBroken(false).place(0, 0, 0), withBroken(true).place(0, 60, 1));
    heading("## Promise 20: use `int use(int pot, int n)`:");
    says("USE.");
    due(y.use(0, 11), 5);
    due(y.use(0, 20), 3);
    says("BEYOND.");
    all(BEYOND, y.use(3, 0), y.use(-1, 0), y.use(0, 61), y.use(0, -1));
    says("NONE: with none.");
    all(NONE, y.use(0, 10), y.use(1, 60), withBroken(false).use(0, 60));
  }

  private static void promisesOfMoreThoughts() {
    heading("## Promise 21: needed `int needed(int pots, int n)`:");
    says("NEEDED: the set.");
    PotHandles x = withPots(4, 0, 2);
    for (int h = 0; h < 5; h++) {
      x.house(h, CARE, h == 0 ? 9 : 2);
    }
    due(x.needed(7, 20), 20);
    due(x.needed(3, 20), 16);
    due(x.needed(2, 20), 0);
    says("BEYOND.");
    all(BEYOND, x.needed(8, 0), x.needed(-1, 0), x.needed(0, 21), x.needed(0, -1), new PotHandles().needed(1, 0));
    says("NONE: by none.");
    all(NONE, x.needed(1, 5), x.needed(7, 10), withBroken(false).needed(1, 20));
    heading("## Promise 22: whose `int whose(int sheet, int pot, int what)`:");
    says("WHOSE, by a SHEET: what 0 the set, 1 how many.");
    x.sheet(3, 8, 2);
    x.put(3, 1, 9);
    due(x.whose(3, 2, 0), 1);
    due(x.whose(3, 2, 1), 1);
    x.put(3, 1, 2);
    due(x.whose(3, 1, 0), 30);
    due(x.whose(3, 1, 1), 4);
    says("BEYOND.");
    all(BEYOND, x.whose(4, 0, 0), x.whose(-1, 0, 0), x.whose(3, 3, 0), x.whose(3, -1, 0), x.whose(3, 0, 2), x.whose(3, 0, -1));
    says("STATE: it is broken.");
    all(STATE, withBroken(false).whose(0, 0, 0), withBroken(true).whose(3, 0, 1));
    says("NONE: the SHEET is missing.");
    all(NONE, x.whose(0, 0, 0), x.whose(2, 2, 1));
    heading("## Promise 23: carry `int carry(int house)`:");
    says("CARRY.");
    x.house(4, HANDS, 1);
    due(x.carry(4), 0);
    x.stick(0);
    due(x.carry(4), 1);
    says("BEYOND.");
    all(BEYOND, x.carry(5), x.carry(-1));
    heading("## Promise 24: richest `int richest(int n, int what)`:");
    says("RICHEST: what 0 the HOUSE, 1 how many.");
    due(x.richest(0, 0), 4);
    due(x.richest(0, 1), 1);
    due(x.richest(60, 0), 0);
    says("BEYOND.");
    all(BEYOND, x.richest(61, 0), x.richest(-1, 0), x.richest(0, 2), x.richest(0, -1));
    heading("## Promise 25: breaks `int breaks(int n)`:");
    says("BREAKS.");
    due(read(x, 1, "n*8"), 1);
    due(x.breaks(60), 2);
    due(x.breaks(0), 0);
    says("BEYOND.");
    all(BEYOND, x.breaks(61), x.breaks(-1));
    heading("## Promise 26: dealer `int dealer(int n)`:");
    says("DEALER (-1).");
    due(x.dealer(0), 1);
    x.stick(1);
    x.stick(2);
    due(x.dealer(30), -1);
    says("BEYOND.");
    all(BEYOND, x.dealer(31), x.dealer(-1));
    heading("## Promise 27: odds `int odds(int pot, int n, int part)`:");
    says("ODDS, n 0 to 60: part 0 above, 1 below the line.");
    due(x.odds(2, 1, 0), 1);
    due(x.odds(2, 1, 1), 5);
    due(x.odds(2, 0, 0), 1);
    due(x.odds(2, 0, 1), 1);
    says("BEYOND.");
    all(BEYOND, x.odds(3, 0, 0), x.odds(-1, 0, 0), x.odds(0, 61, 0), x.odds(0, -1, 0), x.odds(0, 0, 2), x.odds(0, 0, -1));
  }

  private static void promisesOfVoices() {
    heading("## Promise 28: seed `int seed(int v)`:");
    says("z becomes v: what it was (any number).");
    PotHandles x = withPots(0);
    due(x.seed(BEYOND), 1);
    due(x.seed(MIN), BEYOND);
    due(x.seed(0), MIN);
    due(x.told(1), 0);
    heading("## Promise 29: voice `int voice(int pot, int act, int x)`:");
    says("A VOICE of a POT: any number.");
    due(x.voice(0, 0, STATE), STATE);
    due(x.told(3), 0);
    due(x.voice(0, 1, 4), 8);
    says("BEYOND.");
    all(BEYOND, x.voice(1, 0, 0), x.voice(-1, 0, 0), x.voice(0, 4, 0), x.voice(0, -1, 0));
    due(x.count(8), 2);
    heading("## Promise 30: trace `int trace(int i)`:");
    says("THE TRACE's i-th.");
    due(x.trace(0), 11);
    due(x.trace(1), 10);
    says("NONE: there is none such.");
    all(NONE, x.trace(2), x.trace(-1), x.trace(40), x.trace(MAX), x.trace(MIN), new PotHandles().trace(0));
  }

  private static void promisesOfSheets() {
    heading("## Promise 31: sheet `int sheet(int sheet, int bits, int n)`:");
    says("A SHEET has n numbers, all 0, of so many bits (8, 16, 32; 0: it is missing, n doesn't matter): 1.");
    PotHandles x = withPots(0, 0, 0);
    for (int bits = 8; bits <= 32; bits *= 2) {
      due(x.sheet(1, bits, 3), 1);
      due(x.judge(1), -1);
      due(x.put(1, 2, 9), 1);
      due(x.put(1, 3, 9), BEYOND);
      due(x.sheet(1, bits, 0), 1);
      due(x.put(1, 0, 9), BEYOND);
      due(x.sheet(1, bits, 40), 1);
      due(x.put(1, 39, 9), 1);
    }
    due(x.uses(1), 3);
    row(x, USED, 0, 0, 0);
    all(1, x.sheet(1, 0, -1), x.sheet(1, 0, 41), x.sheet(2, 0, MIN));
    due(x.put(1, 0, 0), NONE);
    says("BEYOND.");
    all(BEYOND, x.sheet(4, 8, 1), x.sheet(-1, 8, 1), x.sheet(0, 7, 1), x.sheet(0, -8, 1), x.sheet(0, 24, 1), x.sheet(0, 8, 41),
        x.sheet(4, 0, 0), x.sheet(4, 8, -1), x.sheet(0, 9, -1));
    says("STATE: n is below 0 (ahead of BEYOND of n).");
    all(STATE, x.sheet(0, 8, -1), x.sheet(0, 16, MIN), x.sheet(0, 32, -41));
    due(x.put(0, 0, 0), NONE);
    heading("## Promise 32: put `int put(int sheet, int i, int v)`:");
    says("Number i of a SHEET becomes v (its lowest bits): 1.");
    int[] bits = {8, 16, 32};
    int[] first = {5, 0x105, 0x10105};
    for (int b = 0; b < 3; b++) {
      x.sheet(0, bits[b], 2);
      due(x.put(0, 1, 0x10105), 1);
      x.change(1, 1, first[b] > 999 ? 0 : first[b]);
      due(x.uses(0), b == 0 ? 2 : 1);
      x.move(0, 1, 0, 0, 1);
      x.sheet(3, bits[b], 1);
      x.move(0, 1, 3, 0, 1);
      due(x.whose(3, 1, 1), b == 2 ? 0 : 5);
    }
    says("BEYOND: no such SHEET.");
    all(BEYOND, x.put(4, 0, 0), x.put(-1, 0, 0));
    says("NONE: it is missing.");
    all(NONE, x.put(1, 0, 0), x.put(1, -1, 0), x.put(1, 40, 0));
    says("BEYOND: no such number.");
    all(BEYOND, x.put(0, 2, 0), x.put(0, -1, 0), x.put(0, MIN, 0), x.put(0, MAX, 0));
    moves();
  }

  private static void moves() {
    heading("## Promise 33: move `int move(int sheet, int i, int other, int j, int n)`:");
    says("n numbers of a SHEET, from number i on, come to another one (or the same), from its number j on, as they all were:"
        + " n.");
    PotHandles x = withPots(0, 0, 0, 0, 0);
    x.sheet(0, 8, 5);
    x.sheet(2, 8, 6);
    for (int i = 0; i < 5; i++) {
      x.put(0, i, i + 1);
    }
    due(x.move(0, 1, 2, 3, 2), 2);
    due(x.uses(2), 5);
    row(x, USED, 0, 0, 0, 2, 3);
    due(x.move(0, 0, 0, 1, 4), 4);
    due(x.uses(0), 5);
    row(x, USED, 1, 1, 2, 3, 4);
    due(x.move(0, 2, 0, 0, 3), 3);
    due(x.uses(0), 5);
    row(x, USED, 2, 3, 4, 3, 4);
    all(0, x.move(0, 5, 2, 6, 0), x.move(0, 0, 0, 0, 0));
    says("BEYOND: no such SHEET.");
    all(BEYOND, x.move(4, 0, 0, 0, 1), x.move(0, 0, 4, 0, 1), x.move(-1, 0, 1, 0, 1), x.move(1, 0, -1, 0, 1));
    says("NONE: one is missing.");
    x.sheet(3, 16, 5);
    all(NONE, x.move(1, 0, 0, 0, 1), x.move(0, 0, 1, 0, 1), x.move(1, 0, 1, 0, 0), x.move(3, -1, 1, 0, 1));
    says("KIND: they are of unlike bits.");
    all(KIND, x.move(0, 0, 3, 0, 1), x.move(3, 0, 0, 0, 0), x.move(0, -1, 3, 0, 1), x.move(3, 0, 0, 0, 41));
    says("BEYOND: n, i, or j is below 0, or they don't stand there.");
    all(BEYOND, x.move(0, 0, 2, 0, -1), x.move(0, -1, 2, 0, 1), x.move(0, 0, 2, -1, 1), x.move(0, 0, 2, 0, 6),
        x.move(0, 4, 2, 0, 2), x.move(2, 0, 0, 1, 5), x.move(0, 1, 2, 0, MAX), x.move(0, MAX, 2, 0, 1), x.move(0, 0, 2, MAX, 1));
    due(x.uses(0), 5);
    row(x, USED, 2, 3, 4, 3, 4);
  }

  private static void promisesOfRows() {
    heading("## Promise 34: uses `int uses(int sheet)`:");
    says("Numbers of a SHEET become USED of POTS 0, 1, ..: how many, up to the first that is not 0 to 9 (no ERROR then), or for"
        + " which there is no POT.");
    PotHandles x = withPots(0, 0, 0);
    x.sheet(1, 16, 5);
    int[] numbers = {9, 0, 7, 8, 10};
    for (int i = 0; i < numbers.length; i++) {
      x.put(1, i, numbers[i]);
    }
    due(x.uses(1), 3);
    row(x, USED, 9, 0, 7);
    x.put(1, 0, 4);
    x.put(1, 1, 10);
    x.put(1, 2, 3);
    due(x.uses(1), 1);
    row(x, USED, 4, 0, 7);
    x.put(1, 0, -1);
    due(x.uses(1), 0);
    row(x, USED, 4, 0, 7);
    x.sheet(1, 16, 2);
    due(x.uses(1), 2);
    row(x, USED, 0, 0, 7);
    all(0, x.told(1), x.told(2));
    PotHandles broken = withBroken(false);
    broken.sheet(0, 8, 1);
    due(broken.uses(0), 1);
    row(broken, USED, 0);
    says("BEYOND: no such SHEET.");
    all(BEYOND, x.uses(4), x.uses(-1));
    says("NONE: it is missing.");
    all(NONE, x.uses(0), x.uses(3));
    heading("## Promise 35: judge `int judge(int sheet)`:");
    says("Numbers of a SHEET are HANDLES of POTS 0, 1, ..: the first that isn't so (one that lacks, or is too many, too); -1:"
        + " all are.");
    x.stick(1);
    for (int n = 0; n <= 4; n++) {
      x.sheet(0, 32, n);
      x.put(0, 1, 1);
      due(x.judge(0), n == 3 ? -1 : Math.min(n, 3));
    }
    x.put(0, 0, 1);
    due(x.judge(0), 0);
    x.put(0, 0, 0);
    x.put(0, 1, 0);
    due(x.judge(0), 1);
    PotHandles kept = withBroken(true);
    kept.sheet(0, 8, 1);
    due(kept.judge(0), 0);
    kept.put(0, 0, 1);
    due(kept.judge(0), -1);
    says("BEYOND: no such SHEET.");
    all(BEYOND, x.judge(4), x.judge(-1));
    says("NONE: it is missing.");
    all(NONE, x.judge(2), x.judge(3));
  }

  private static void promisesOfImages() {
    heading("## Promise 36: image `int image()`:");
    says("All (but SHEETS, THE TRACE, what told() tells, and how often this was done) is kept as an IMAGE, in place of one"
        + " ahead: how often that was done.");
    PotHandles x = withText(0, "7");
    due(read(x, 1, "(u=9)*(y=1)*9"), 1);
    x.house(1, HANDS, 8);
    x.house(1, CARE, 7);
    x.pot(25, 1, 6);
    x.pot(0, 2, 9);
    x.stick(0);
    due(x.years(2), 1);
    x.seed(99);
    x.feed('u', 1);
    x.tell(1);
    x.tell(2);
    due(x.image(), 1);
    due(x.image(), 2);
    after(x);
    heading("## Promise 37: restore `int restore()`:");
    says("All is as the IMAGE has it, which stays: YEAR.");
    due(x.restore(), 2);
    asBefore(x);
    after(x);
    due(x.restore(), 2);
    asBefore(x);
    due(x.put(3, 0, 0), 1);
    due(x.count(8), 2);
    due(x.told(2), 2);
    due(x.image(), 3);
    says("NONE: there is none.");
    due(new PotHandles().restore(), NONE);
  }

  /** Changes all that can be changed. */
  private static void after(PotHandles x) {
    x.text(0);
    read(x, 1, "9");
    x.house(1, HANDS, 1);
    x.house(1, CARE, 1);
    x.become(0, 3);
    x.shift(0, 4);
    x.pot(0, 0, 0);
    x.check();
    x.loose(3);
    x.sheet(3, 8, 1);
    x.voice(0, 1, 0);
    x.trace(-1);
  }

  private static void asBefore(PotHandles x) {
    int[] jug = {2, 5, 1, 6, 28, 2, 1, 1, 45, 2};
    int[] pot = {0, 0, -1, 9, 14, 2, 0, 0, 50, 1};
    for (int what = 0; what < jug.length; what++) {
      due(x.ofPot(0, what), jug[what]);
      due(x.ofPot(1, what), pot[what]);
    }
    int[] counts = {2, 2, 1, 1, 1, 2, 1, 2};
    for (int what = 0; what < counts.length; what++) {
      due(x.count(what), counts[what]);
    }
    due(x.count(9), 99);
    due(x.ofHouse(1, HANDS), 8);
    due(x.ofHouse(1, CARE), 7);
    due(x.law(0, 1, 1, 1), 7);
    due(x.law(1, 9, 1, 1), 9);
    due(x.law(1, 8, 1, 1), 0);
    due(x.check(), 2);
    due(x.text(0), 1);
    due(x.law(0, 4, 0, 0), 4);
  }

  private static void promisesOfCounts() {
    heading("## Promise 38: tell `int tell(int v)`:");
    says("One more number waits: how many.");
    PotHandles x = withPots(0);
    for (int i = 1; i <= 20; i++) {
      due(x.tell(i < 11 ? 0 : 1), i);
    }
    says("FULL: 20 wait.");
    all(FULL, x.tell(1), x.tell(MIN));
    due(x.count(7), 20);
    heading("## Promise 39: check `int check()`:");
    says("The numbers that wait (none do then) are HANDLES of all together behind 1, 2, .. YEARS: 0; else 1 and the place (from"
        + " 0) of the first that isn't so.");
    due(x.check(), 0);
    due(x.count(7), 0);
    due(x.check(), 0);
    x.tell(0);
    x.tell(1);
    x.tell(1);
    due(x.check(), 2);
    due(x.count(7), 0);
    x.tell(1);
    due(x.check(), 1);
    due(x.count(1), 0);
    PotHandles broken = withBroken(true);
    broken.tell(1);
    due(broken.check(), 0);
    heading("## Promise 40: count `int count(int what)`:");
    says("0 POTS, 1 YEAR, 2 BROKEN, 3 HANDLES of all together, 4 POTS that are FALSE, as a set, 5 POTS that are broken, as a"
        + " set, 6 bytes of THE TAPE, 7 numbers that wait, 8 BODIES in THE TRACE, 9 z (any number).");
    PotHandles y = withText(1, "u");
    for (int used : new int[] {9, 3, 8, 2}) {
      y.pot(JUG, 0, used);
    }
    y.stick(2);
    y.stick(3);
    y.years(3);
    y.feed(0, 6);
    y.tell(0);
    y.voice(1, 3, 0);
    y.seed(BEYOND);
    int[] want = {4, 3, 2, 2, 12, 5, 6, 1, 6, BEYOND};
    for (int what = 0; what < want.length; what++) {
      due(y.count(what), want[what]);
    }
    due(y.told(1), 0);
    says("BEYOND.");
    all(BEYOND, y.count(10), y.count(-1), y.count(MIN), y.count(MAX));
    heading("## Promise 41: told `int told(int k)`:");
    says("How many acts have answered an ERROR LOW - k (k 1 .. 5);");
    due(y.told(1), 4);
    y.restore();
    y.stick(0);
    y.stick(1);
    y.stick(1);
    y.as(1, 6);
    y.feed(0, 8);
    all(0, y.told(4));
    for (int i = 0; i < 20; i++) {
      y.tell(0);
    }
    int[] told = {4, 1, 2, 1, 1};
    for (int k = 1; k <= 5; k++) {
      due(y.told(k), told[k - 1]);
    }
    says("BEYOND: another k (counted, too).");
    all(BEYOND, y.told(0), y.told(6), y.told(-1));
    due(y.told(1), 7);
  }

  private static void notPromised() {
    heading("## Not promised How the state is held inside the object is free, as are the speed of each call, the text of"
        + " toString and the behaviour of equals and hashCode. Use of one object from several threads at once is not promised"
        + " to be safe. Nothing is promised beyond the answers and state changes described above, and nothing about an object"
        + " after its 512th call.");
    sentence = "its end";
    due(document.length() + 1, at);
  }
}
