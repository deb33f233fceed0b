import java.util.Arrays;

/** Houses and pots, and the handles that come to pots: see README.md and the document. */
public final class PotHandles {

  private static final int LOW = -1000000000;
  private static final int BEYOND = 1;
  private static final int NONE = 2;
  private static final int STATE = 3;
  private static final int FULL = 4;
  private static final int KIND = 5;
  private static final int ERRORS = 5;

  private static final int HOUSES = 5;
  private static final int MOST_POTS = 10;
  private static final int MOST_CARE = 9;
  private static final int MOST_USED = 9;
  private static final int MOST_HELD = 999;
  private static final int LAST_YEAR = 9999;
  private static final int YEARS_TO_GROW = 11;
  private static final int NO_HOUSE = -1;
  private static final int MOST_YEARS = 60;
  private static final int MOST_LOOSE = 40;
  private static final int MOST_NEEDED = 20;
  private static final int MOST_DEALER = 30;

  private static final int POT = 0;
  private static final int CROCK = 1;
  private static final int JUG = 2;
  private static final int CUP = 3;
  private static final int STUCK = 4;
  private static final int ROOKS = 5;
  private static final int CHIPPED = 6;
  private static final int KINDS = 7;

  private static final int WARMTH = 0;
  private static final int BREAKS = 1;
  private static final int MOST_GIVEN = 99;
  private static final int MOST_TAPE = 50;
  private static final int MOST_OPEN = 5;

  private static final int HOLDS = 0;
  private static final int WARMS = 1;
  private static final int GROWS = 2;
  private static final int TELLS = 3;
  private static final int MOST_TRACED = 40;
  private static final int MOST_CALLED = 40;

  private static final int SHEETS = 4;
  private static final int MOST_NUMBERS = 40;
  private static final int MOST_WAITING = 20;

  private final District now = new District();
  private final District thought = new District();
  private final District kept = new District();
  private final Desk desk = new Desk();
  private final Desk keptDesk = new Desk();
  private final Reader reader = new Reader();
  private final Voices voices = new Voices();
  private final Sheet[] sheets = new Sheet[SHEETS];
  private final int[] errors = new int[ERRORS + 1];
  private int images;

  public PotHandles() {
    for (int i = 0; i < SHEETS; i++) {
      sheets[i] = new Sheet();
    }
  }

  // ---- houses, pots

  public int house(int house, int what, int v) {
    if (!isHouse(house) || !isWithin(what, 1) || !isWithin(v, 9)) {
      return fail(BEYOND);
    }
    int[] row = what == 0 ? now.hands : now.care;
    int was = row[house];
    row[house] = v;
    return was;
  }

  public int ofHouse(int house, int what) {
    if (!isHouse(house) || !isWithin(what, 2)) {
      return fail(BEYOND);
    }
    if (what == 2) {
      return now.potsIn(house);
    }
    return what == 0 ? now.hands[house] : now.care[house];
  }

  public int pot(int km, int house, int used) {
    if (!isKindWithNumber(km) || !isHouse(house) || !isWithin(used, MOST_USED)) {
      return fail(BEYOND);
    }
    if (now.pots >= MOST_POTS) {
      return fail(FULL);
    }
    now.row[now.pots].begin(km, house, used);
    now.pots++;
    return now.pots - 1;
  }

  public int ofPot(int pot, int what) {
    if (!now.has(pot)) {
      return fail(BEYOND);
    }
    Pot it = now.row[pot];
    switch (what) {
      case 0: return it.kind;
      case 1: return it.m;
      case 2: return it.home;
      case 3: return it.used;
      case 4: return it.liked;
      case 5: return it.years;
      case 6: return it.handles;
      case 7: return it.isFalse ? 1 : 0;
      case 8: return it.wants();
      case 9: return it.bears();
      default: return fail(BEYOND);
    }
  }

  public int change(int pot, int what, int v) {
    if (!now.has(pot) || !isWithin(what, 2) || !isWithin(v, what == 0 ? MOST_USED : MOST_HELD)) {
      return fail(BEYOND);
    }
    Pot it = now.row[pot];
    int was;
    if (what == 0) {
      was = it.used;
      it.used = v;
    } else if (what == 1) {
      was = it.liked;
      it.liked = v;
    } else {
      was = it.years;
      it.years = v;
    }
    return was;
  }

  public int shift(int pot, int house) {
    if (!now.has(pot) || !isHouse(house)) {
      return fail(BEYOND);
    }
    Pot it = now.row[pot];
    int was = it.home;
    if (was == NO_HOUSE || was == house) {
      return fail(STATE);
    }
    it.goTo(house);
    return was;
  }

  public int stick(int pot) {
    if (!now.has(pot)) {
      return fail(BEYOND);
    }
    Pot it = now.row[pot];
    if (!it.canTakeFalseHandle()) {
      return fail(STATE);
    }
    it.takeFalseHandle();
    return it.liked;
  }

  public int become(int pot, int km) {
    if (!now.has(pot) || !isKindWithNumber(km)) {
      return fail(BEYOND);
    }
    Pot it = now.row[pot];
    int was = it.kind;
    it.kind = km / 10;
    it.m = km % 10;
    return was;
  }

  public int as(int pot, int kind) {
    if (!now.has(pot) || !isWithin(kind, CHIPPED)) {
      return fail(BEYOND);
    }
    Pot it = now.row[pot];
    return isUnder(it.kind, kind) ? it.m : fail(KIND);
  }

  // ---- texts

  public int feed(long word, int n) {
    if (n < 1 || n > 8) {
      return fail(BEYOND);
    }
    if (desk.taped + n > MOST_TAPE) {
      return fail(FULL);
    }
    for (int i = 0; i < n; i++) {
      desk.tape[desk.taped + i] = (byte) (word >>> (8 * i));
    }
    desk.taped += n;
    return desk.taped;
  }

  public int text(int use) {
    if (!isWithin(use, 1)) {
      return fail(BEYOND);
    }
    boolean isText = reader.readTape(desk.tape, desk.taped, use);
    desk.taped = 0;
    if (!isText) {
      return -10 - reader.at;
    }
    now.lawOf(use).copy(reader.law);
    return 1;
  }

  public int law(int use, int a, int b, int c) {
    return isWithin(use, 1) ? now.given(use, a, b, c) : fail(BEYOND);
  }

  // ---- years

  public int years(int n) {
    if (n < 1 || n > MOST_YEARS) {
      return fail(BEYOND);
    }
    if (now.year + n > LAST_YEAR) {
      return fail(STATE);
    }
    now.passYears(n);
    return now.allHandles();
  }

  public int loose(int n) {
    if (n < 1 || n > MOST_LOOSE) {
      return fail(BEYOND);
    }
    if (now.year + n > LAST_YEAR) {
      return fail(STATE);
    }
    for (int i = 0; i < n; i++) {
      int drawn = desk.draw();
      if (now.pots > 0) {
        now.row[drawn % now.pots].used = drawn / 8 % 10;
      }
      now.passYears(1);
    }
    return now.allHandles();
  }

  // ---- what would be

  public int then(int n, int pot, int what) {
    if (!isWithin(n, MOST_YEARS) || !now.has(pot) || !isWithin(what, 2)) {
      return fail(BEYOND);
    }
    Pot it = behind(n).row[pot];
    if (what == 0) {
      return it.liked;
    }
    return what == 1 ? it.handles : it.home;
  }

  public int when(int pot) {
    if (!now.has(pot)) {
      return fail(BEYOND);
    }
    District ahead = asNow();
    int had = now.row[pot].handles;
    for (int n = 1; n <= MOST_YEARS; n++) {
      ahead.passYears(1);
      if (ahead.row[pot].handles > had) {
        return n;
      }
    }
    return fail(NONE);
  }

  public int shelf(int house, int n) {
    if (!isHouse(house) || !isWithin(n, MOST_YEARS)) {
      return fail(BEYOND);
    }
    District ahead = behind(n);
    return ahead.potsIn(house) & ahead.potsWithHandle();
  }

  public int place(int pot, int n, int what) {
    if (!now.has(pot) || !isWithin(n, MOST_YEARS) || !isWithin(what, 1)) {
      return fail(BEYOND);
    }
    if (now.row[pot].home == NO_HOUSE) {
      return fail(STATE);
    }
    int best = 0;
    int handles = -1;
    int liked = -1;
    for (int house = 0; house < HOUSES; house++) {
      Pot it = whenMoved(pot, house, n);
      if (it.handles > handles || (it.handles == handles && it.liked > liked)) {
        best = house;
        handles = it.handles;
        liked = it.liked;
      }
    }
    return what == 0 ? best : handles;
  }

  public int use(int pot, int n) {
    if (!now.has(pot) || !isWithin(n, MOST_YEARS)) {
      return fail(BEYOND);
    }
    int had = now.row[pot].handles;
    for (int used = 0; used <= MOST_USED; used++) {
      District ahead = asNow();
      ahead.row[pot].used = used;
      ahead.passYears(n);
      if (ahead.row[pot].handles > had) {
        return used;
      }
    }
    return fail(NONE);
  }

  public int needed(int pots, int n) {
    if (!isWithin(pots, now.allPots()) || !isWithin(n, MOST_NEEDED)) {
      return fail(BEYOND);
    }
    int best = -1;
    int fewest = HOUSES + 1;
    for (int houses = 0; houses < 1 << HOUSES; houses++) {
      int many = Integer.bitCount(houses);
      if (many < fewest && haveHandlesIfCaredFor(pots, houses, n)) {
        best = houses;
        fewest = many;
      }
    }
    return best < 0 ? fail(NONE) : best;
  }

  public int whose(int sheet, int pot, int what) {
    if (!isSheet(sheet) || !now.has(pot) || !isWithin(what, 1)) {
      return fail(BEYOND);
    }
    if (now.row[pot].home == NO_HOUSE) {
      return fail(STATE);
    }
    if (sheets[sheet].isMissing()) {
      return fail(NONE);
    }
    int houses = 0;
    for (int house = 0; house < HOUSES; house++) {
      if (isLikedAsTold(sheets[sheet], pot, house)) {
        houses |= 1 << house;
      }
    }
    return what == 0 ? houses : Integer.bitCount(houses);
  }

  public int carry(int house) {
    if (!isHouse(house)) {
      return fail(BEYOND);
    }
    int there = now.potsIn(house);
    int withHandle = Integer.bitCount(there & now.potsWithHandle());
    int without = Integer.bitCount(there) - withHandle;
    int byHandle = Math.min(withHandle, now.hands[house]);
    return byHandle + Math.min(without, (now.hands[house] - byHandle) / 2);
  }

  public int richest(int n, int what) {
    if (!isWithin(n, MOST_YEARS) || !isWithin(what, 1)) {
      return fail(BEYOND);
    }
    District ahead = behind(n);
    int best = 0;
    int most = -1;
    for (int house = 0; house < HOUSES; house++) {
      int many = ahead.handlesIn(house);
      if (many > most) {
        best = house;
        most = many;
      }
    }
    return what == 0 ? best : most;
  }

  public int breaks(int n) {
    if (!isWithin(n, MOST_YEARS)) {
      return fail(BEYOND);
    }
    int broken = Integer.bitCount(behind(n).potsIn(NO_HOUSE));
    return broken - Integer.bitCount(now.potsIn(NO_HOUSE));
  }

  public int dealer(int n) {
    if (!isWithin(n, MOST_DEALER)) {
      return fail(BEYOND);
    }
    int best = -1;
    int most = behind(n).allHandles();
    for (int p = 0; p < now.pots; p++) {
      int many = handlesIfStuck(p, n);
      if (many > most) {
        best = p;
        most = many;
      }
    }
    return best;
  }

  public int odds(int pot, int n, int part) {
    if (!now.has(pot) || !isWithin(n, MOST_YEARS) || !isWithin(part, 1)) {
      return fail(BEYOND);
    }
    int likely = 0;
    if (now.row[pot].home != NO_HOUSE) {
      for (int house = 0; house < HOUSES; house++) {
        Pot it = whenBeing(pot, house, n);
        if (it.home != NO_HOUSE && it.handles > 0) {
          likely++;
        }
      }
    }
    // HOUSES is a prime: only none and all of them can be cut down
    boolean isWhole = likely == 0 || likely == HOUSES;
    if (part == 0) {
      return isWhole ? likely / HOUSES : likely;
    }
    return isWhole ? 1 : HOUSES;
  }

  // ---- draws, voices, sheets, images, what is told

  public int seed(int v) {
    int was = desk.z;
    desk.z = v;
    return was;
  }

  public int voice(int pot, int act, int x) {
    if (!now.has(pot) || !isWithin(act, TELLS)) {
      return fail(BEYOND);
    }
    return voices.speak(now.row[pot], pot, act, x);
  }

  public int trace(int i) {
    return i >= 0 && i < voices.traced ? voices.trace[i] : fail(NONE);
  }

  public int sheet(int sheet, int bits, int n) {
    if (!isSheet(sheet) || (bits != 0 && bits != 8 && bits != 16 && bits != 32)) {
      return fail(BEYOND);
    }
    if (bits == 0) {
      sheets[sheet].lay(0, 0);
      return 1;
    }
    if (n < 0) {
      return fail(STATE);
    }
    if (n > MOST_NUMBERS) {
      return fail(BEYOND);
    }
    sheets[sheet].lay(bits, n);
    return 1;
  }

  public int put(int sheet, int i, int v) {
    if (!isSheet(sheet)) {
      return fail(BEYOND);
    }
    Sheet it = sheets[sheet];
    if (it.isMissing()) {
      return fail(NONE);
    }
    if (i < 0 || i >= it.count) {
      return fail(BEYOND);
    }
    it.row[i] = it.lowestBits(v);
    return 1;
  }

  public int move(int sheet, int i, int other, int j, int n) {
    if (!isSheet(sheet) || !isSheet(other)) {
      return fail(BEYOND);
    }
    Sheet from = sheets[sheet];
    Sheet to = sheets[other];
    if (from.isMissing() || to.isMissing()) {
      return fail(NONE);
    }
    if (from.bits != to.bits) {
      return fail(KIND);
    }
    if (!from.holds(i, n) || !to.holds(j, n)) {
      return fail(BEYOND);
    }
    System.arraycopy(from.row, i, to.row, j, n);
    return n;
  }

  public int uses(int sheet) {
    if (!isSheet(sheet)) {
      return fail(BEYOND);
    }
    Sheet it = sheets[sheet];
    if (it.isMissing()) {
      return fail(NONE);
    }
    int most = Math.min(it.count, now.pots);
    for (int i = 0; i < most; i++) {
      if (!isWithin(it.row[i], MOST_USED)) {
        return i;
      }
      now.row[i].used = it.row[i];
    }
    return most;
  }

  public int judge(int sheet) {
    if (!isSheet(sheet)) {
      return fail(BEYOND);
    }
    Sheet it = sheets[sheet];
    if (it.isMissing()) {
      return fail(NONE);
    }
    int both = Math.min(it.count, now.pots);
    for (int i = 0; i < both; i++) {
      if (it.row[i] != now.row[i].handles) {
        return i;
      }
    }
    return it.count == now.pots ? -1 : both;
  }

  public int image() {
    kept.copy(now);
    keptDesk.copy(desk);
    images++;
    return images;
  }

  public int restore() {
    if (images == 0) {
      return fail(NONE);
    }
    now.copy(kept);
    desk.copy(keptDesk);
    return now.year;
  }

  public int tell(int v) {
    if (desk.waits >= MOST_WAITING) {
      return fail(FULL);
    }
    desk.waiting[desk.waits] = v;
    desk.waits++;
    return desk.waits;
  }

  public int check() {
    int waits = desk.waits;
    desk.waits = 0;
    District ahead = asNow();
    for (int i = 0; i < waits; i++) {
      ahead.passYears(1);
      if (ahead.allHandles() != desk.waiting[i]) {
        return 1 + i;
      }
    }
    return 0;
  }

  public int count(int what) {
    switch (what) {
      case 0: return now.pots;
      case 1: return now.year;
      case 2: return now.broken;
      case 3: return now.allHandles();
      case 4: return now.falsePots();
      case 5: return now.potsIn(NO_HOUSE);
      case 6: return desk.taped;
      case 7: return desk.waits;
      case 8: return voices.traced;
      case 9: return desk.z;
      default: return fail(BEYOND);
    }
  }

  public int told(int k) {
    return k >= 1 && k <= ERRORS ? errors[k] : fail(BEYOND);
  }

  // ---- what the calls above share

  /** Counts an ERROR; told() tells of it. */
  private int fail(int k) {
    if (k >= 1 && k <= ERRORS) {
      errors[k]++;
    }
    return LOW - k;
  }

  private static boolean isWithin(int v, int most) {
    return v >= 0 && v <= most;
  }

  private static boolean isHouse(int house) {
    return house >= 0 && house < HOUSES;
  }

  private static boolean isSheet(int sheet) {
    return sheet >= 0 && sheet < SHEETS;
  }

  private static boolean isKindWithNumber(int km) {
    return km >= 0 && km / 10 <= CHIPPED;
  }

  /** The KIND above a KIND; -1 above POT. */
  private static int kindAbove(int kind) {
    switch (kind) {
      case CROCK:
      case JUG:
      case CUP: return POT;
      case STUCK: return CROCK;
      case ROOKS: return JUG;
      case CHIPPED: return CUP;
      default: return -1;
    }
  }

  /** Whether a KIND is the wanted one, or stands under it. */
  private static boolean isUnder(int kind, int wanted) {
    int k = kind;
    for (int i = 0; i < KINDS && k >= 0; i++) {
      if (k == wanted) {
        return true;
      }
      k = kindAbove(k);
    }
    return false;
  }

  /** What is only thought, as all stands now, to be changed. It is good until the next thought. */
  private District asNow() {
    thought.copy(now);
    return thought;
  }

  /** What is only thought, as all stands behind n YEARS. */
  private District behind(int n) {
    District ahead = asNow();
    ahead.passYears(n);
    return ahead;
  }

  /** A POT behind n YEARS, if it were MOVED to a HOUSE now. */
  private Pot whenMoved(int pot, int house, int n) {
    District ahead = asNow();
    Pot it = ahead.row[pot];
    if (it.home != house) {
      it.goTo(house);
    }
    ahead.passYears(n);
    return it;
  }

  /** A POT behind n YEARS, if it had been in a HOUSE as long as it was in its own. */
  private Pot whenBeing(int pot, int house, int n) {
    District ahead = asNow();
    ahead.row[pot].home = house;
    ahead.passYears(n);
    return ahead.row[pot];
  }

  private boolean haveHandlesIfCaredFor(int pots, int houses, int n) {
    District ahead = asNow();
    for (int house = 0; house < HOUSES; house++) {
      if ((houses >> house & 1) != 0) {
        ahead.care[house] = MOST_CARE;
      }
    }
    ahead.passYears(n);
    return (pots & ~ahead.potsWithHandle()) == 0;
  }

  private boolean isLikedAsTold(Sheet sheet, int pot, int house) {
    District ahead = asNow();
    Pot it = ahead.row[pot];
    it.home = house;
    for (int i = 0; i < sheet.count; i++) {
      if (i > 0) {
        ahead.passYears(1);
      }
      if (it.liked != sheet.row[i]) {
        return false;
      }
    }
    return true;
  }

  private int handlesIfStuck(int pot, int n) {
    District ahead = asNow();
    if (ahead.row[pot].canTakeFalseHandle()) {
      ahead.row[pot].takeFalseHandle();
    }
    ahead.passYears(n);
    return ahead.allHandles();
  }

  /** The HOUSES with their POTS, the YEAR, and the TEXTS by which years go. */
  private static final class District {
    final int[] hands = new int[HOUSES];
    final int[] care = new int[HOUSES];
    final Pot[] row = new Pot[MOST_POTS];
    final Law warmth = new Law();
    final Law breaking = new Law();
    int pots;
    int year;
    int broken;

    District() {
      Arrays.fill(hands, 2);
      Arrays.fill(care, 5);
      for (int p = 0; p < MOST_POTS; p++) {
        row[p] = new Pot();
      }
    }

    void copy(District other) {
      System.arraycopy(other.hands, 0, hands, 0, HOUSES);
      System.arraycopy(other.care, 0, care, 0, HOUSES);
      for (int p = 0; p < other.pots; p++) {
        row[p].copy(other.row[p]);
      }
      warmth.copy(other.warmth);
      breaking.copy(other.breaking);
      pots = other.pots;
      year = other.year;
      broken = other.broken;
    }

    boolean has(int pot) {
      return pot >= 0 && pot < pots;
    }

    Law lawOf(int use) {
      return use == WARMTH ? warmth : breaking;
    }

    /** What a USE gives with its NAMES in order as a, b, c. */
    int given(int use, int a, int b, int c) {
      Law law = lawOf(use);
      int v = 0;
      if (law.stands()) {
        v = law.workedOut(a, b, c);
      } else if (use == WARMTH) {
        v = a * b / 5;
      }
      return Math.max(0, Math.min(MOST_GIVEN, v));
    }

    void passYears(int n) {
      for (int i = 0; i < n; i++) {
        for (int p = 0; p < pots; p++) {
          if (isHouse(row[p].home)) {
            passYearOf(row[p], row[p].home);
          }
        }
        year++;
      }
    }

    private void passYearOf(Pot it, int house) {
      it.liveYear(given(WARMTH, it.used, care[house], hands[house]));
      // without a TEXT it gives 0, and no CARE is less: the POTS need not be counted
      if (!breaking.stands()) {
        return;
      }
      int many = Integer.bitCount(potsIn(house));
      if (given(BREAKS, it.used, year % 13, many) > care[house]) {
        it.home = NO_HOUSE;
        broken = Math.min(MOST_HELD, broken + 1);
      }
    }

    /** The POTS in a HOUSE, or those that are broken (NO_HOUSE), as a set. */
    int potsIn(int house) {
      int set = 0;
      for (int p = 0; p < pots; p++) {
        if (row[p].home == house) {
          set |= 1 << p;
        }
      }
      return set;
    }

    int potsWithHandle() {
      int set = 0;
      for (int p = 0; p < pots; p++) {
        if (row[p].handles > 0) {
          set |= 1 << p;
        }
      }
      return set;
    }

    int falsePots() {
      int set = 0;
      for (int p = 0; p < pots; p++) {
        if (row[p].isFalse) {
          set |= 1 << p;
        }
      }
      return set;
    }

    int allPots() {
      return (1 << pots) - 1;
    }

    int allHandles() {
      int many = 0;
      for (int p = 0; p < pots; p++) {
        many += row[p].handles;
      }
      return many;
    }

    int handlesIn(int house) {
      int many = 0;
      for (int p = 0; p < pots; p++) {
        if (row[p].home == house) {
          many += row[p].handles;
        }
      }
      return many;
    }
  }

  /** One POT, of any KIND. */
  private static final class Pot {
    int kind;
    int m;
    int home;
    int used;
    int liked;
    int years;
    int handles;
    boolean isFalse;

    void begin(int km, int house, int use) {
      kind = km / 10;
      m = km % 10;
      home = house;
      used = use;
      liked = 0;
      years = 0;
      handles = 0;
      isFalse = false;
    }

    void copy(Pot other) {
      kind = other.kind;
      m = other.m;
      home = other.home;
      used = other.used;
      liked = other.liked;
      years = other.years;
      handles = other.handles;
      isFalse = other.isFalse;
    }

    int warmedBy(int v) {
      switch (kind) {
        case CROCK: return v + m;
        case JUG: return 2 * v;
        case CUP: return v / 2;
        case STUCK: return handles > 0 ? 0 : v + m;
        case ROOKS: return 2 * v + handles;
        case CHIPPED: return Math.max(0, v / 2 - 1);
        default: return v;
      }
    }

    int wants() {
      switch (kind) {
        case CROCK:
        case STUCK: return 100;
        case JUG: return 50 - m;
        case CUP: return 20;
        case ROOKS: return handles > 0 ? 2 * (50 - m) : 50 - m;
        case CHIPPED: return 30;
        default: return 50;
      }
    }

    int bears() {
      switch (kind) {
        case JUG: return 2;
        case ROOKS: return 3;
        default: return 1;
      }
    }

    /** A YEAR in its HOUSE, where the TEXT gives v; it may GROW a HANDLE. */
    void liveYear(int v) {
      liked = Math.min(MOST_HELD, liked + warmedBy(v));
      years = Math.min(MOST_HELD, years + 1);
      int wanted = wants();
      if (years >= YEARS_TO_GROW && liked >= wanted && handles < bears()) {
        handles++;
        liked -= wanted;
      }
    }

    void goTo(int house) {
      home = house;
      years = 0;
      liked /= 2;
      if (isFalse) {
        handles = 0;
        isFalse = false;
      }
    }

    /** Not on one that is broken, nor on one that has a HANDLE. */
    boolean canTakeFalseHandle() {
      return home != NO_HOUSE && handles == 0;
    }

    void takeFalseHandle() {
      handles = 1;
      isFalse = true;
    }
  }

  /**
   * A TEXT as it is worked out: signs one after another, each behind what it works on. A
   * sign of 0 or more is a NUMBER, -1 .. -3 are the NAMES in order, an operator is its character
   * less than 0. No signs: there is no TEXT.
   */
  private static final class Law {
    private final int[] signs = new int[MOST_TAPE];
    private final int[] stack = new int[MOST_TAPE];
    private int length;

    boolean stands() {
      return length > 0;
    }

    void clear() {
      length = 0;
    }

    void add(int sign) {
      if (length < MOST_TAPE) {
        signs[length] = sign;
        length++;
      }
    }

    void copy(Law other) {
      System.arraycopy(other.signs, 0, signs, 0, other.length);
      length = other.length;
    }

    int workedOut(int a, int b, int c) {
      int top = 0;
      for (int i = 0; i < length; i++) {
        int sign = signs[i];
        if (sign == -'!') {
          if (top >= 1) {
            stack[top - 1] = stack[top - 1] == 0 ? 1 : 0;
          }
        } else if (sign < -3) {
          if (top >= 2) {
            top--;
            stack[top - 1] = joined(-sign, stack[top - 1], stack[top]);
          }
        } else if (top < MOST_TAPE) {
          stack[top] = namedOrNumber(sign, a, b, c);
          top++;
        }
      }
      return top > 0 ? stack[top - 1] : 0;
    }

    private static int namedOrNumber(int sign, int a, int b, int c) {
      switch (sign) {
        case -1: return a;
        case -2: return b;
        case -3: return c;
        default: return sign;
      }
    }

    private static int joined(int operator, int left, int right) {
      switch (operator) {
        case '|': return left != 0 || right != 0 ? 1 : 0;
        case '&': return left != 0 && right != 0 ? 1 : 0;
        case '<': return left < right ? 1 : 0;
        case '=': return left == right ? 1 : 0;
        case '>': return left > right ? 1 : 0;
        case '+': return left + right;
        case '-': return left - right;
        case '*': return left * right;
        case '/': return right == 0 ? 0 : left / right;
        case '%': return right == 0 ? 0 : left % right;
        default: return 0;
      }
    }
  }

  /** Reads THE TAPE: the levels 0 .. 4 are T, A, B, S, P of the document, and the last is Q. */
  private static final class Reader {
    private static final int COMPARES = 2;
    private static final int LAST_LEVEL = 5;
    private static final int MOST_DIGITS = 4;

    final Law law = new Law();
    private final byte[] bytes = new byte[MOST_TAPE];
    private int many;
    private int use;
    /** The place of the byte that comes next; behind a FAULT, the FAULT. */
    int at;

    /** Whether THE TAPE, of so many bytes, is a TEXT of a USE, which law then is. */
    boolean readTape(byte[] tape, int taped, int forUse) {
      many = Math.max(0, Math.min(taped, Math.min(tape.length, MOST_TAPE)));
      System.arraycopy(tape, 0, bytes, 0, many);
      use = forUse;
      at = 0;
      law.clear();
      return readLevel(0, 0) && at == many;
    }

    /** What comes next on THE TAPE; 0, with which no TEXT goes on, at its end. */
    private int next() {
      return at < many && at < MOST_TAPE ? bytes[at] : 0;
    }

    /** Both depths are kept low here: the levels, and how many of ! and ( are open. */
    private boolean readLevel(int level, int open) {
      if (level >= LAST_LEVEL) {
        return readLast(open);
      }
      if (!readLevel(level + 1, open)) {
        return false;
      }
      for (int i = 0; i < MOST_TAPE; i++) {
        int operator = next();
        if (levelOf(operator) != level) {
          return true;
        }
        at++;
        if (!readLevel(level + 1, open)) {
          return false;
        }
        law.add(-operator);
        if (level == COMPARES) {
          return true;
        }
      }
      return true;
    }

    private static int levelOf(int operator) {
      switch (operator) {
        case '|': return 0;
        case '&': return 1;
        case '<':
        case '=':
        case '>': return COMPARES;
        case '+':
        case '-': return 3;
        case '*':
        case '/':
        case '%': return 4;
        default: return -1;
      }
    }

    private boolean readLast(int open) {
      int first = next();
      if (isDigit(first)) {
        readNumber();
        return true;
      }
      int name = nameOf(first);
      if (name != 0) {
        law.add(-name);
        at++;
        return true;
      }
      if (open >= MOST_OPEN || (first != '!' && first != '(')) {
        return false;
      }
      at++;
      if (first == '!') {
        boolean isRead = readLevel(LAST_LEVEL, open + 1);
        law.add(-'!');
        return isRead;
      }
      if (!readLevel(0, open + 1) || next() != ')') {
        return false;
      }
      at++;
      return true;
    }

    private void readNumber() {
      int number = 0;
      for (int i = 0; i < MOST_DIGITS && isDigit(next()); i++) {
        number = number * 10 + next() - '0';
        at++;
      }
      law.add(number);
    }

    private static boolean isDigit(int sign) {
      return sign >= '0' && sign <= '9';
    }

    /** Which of the NAMES of the USE it is, from 1 on; 0: none. */
    private int nameOf(int sign) {
      switch (sign) {
        case 'u': return 1;
        case 'c': return use == WARMTH ? 2 : 0;
        case 'h': return use == WARMTH ? 3 : 0;
        case 'y': return use == BREAKS ? 2 : 0;
        case 'n': return use == BREAKS ? 3 : 0;
        default: return 0;
      }
    }
  }

  /** What a POT says, by the BODIES of its KIND and of those above, and THE TRACE of it. */
  private static final class Voices {
    final int[] trace = new int[MOST_TRACED];
    int traced;
    private int kind;
    private int n;
    private int m;

    int speak(Pot pot, int number, int act, int x) {
      traced = 0;
      kind = pot.kind;
      n = number;
      m = pot.m;
      return say(kind, act, x, 0);
    }

    /** The VOICE by the BODY of a KIND, or of the next KIND above it that has one. */
    private int say(int from, int act, int x, int depth) {
      if (depth > MOST_CALLED) {
        return 0;
      }
      int k = from;
      for (int i = 0; i < KINDS && k >= 0; i++) {
        int body = bodyOf(k, act);
        if (body != 0) {
          begin(body);
          return sayBody(body, x, depth + 1);
        }
        k = kindAbove(k);
      }
      return 0;
    }

    private void begin(int body) {
      if (traced < MOST_TRACED) {
        trace[traced] = body;
        traced++;
      }
    }

    /** The number of the BODY that a KIND has of its own for an act; 0: none. */
    private static int bodyOf(int kind, int act) {
      switch (10 * kind + act) {
        case 10 * POT + HOLDS: return 10;
        case 10 * POT + WARMS: return 11;
        case 10 * POT + GROWS: return 12;
        case 10 * POT + TELLS: return 13;
        case 10 * CROCK + HOLDS: return 20;
        case 10 * JUG + WARMS: return 30;
        case 10 * CUP + GROWS: return 40;
        case 10 * STUCK + TELLS: return 50;
        case 10 * ROOKS + WARMS: return 60;
        case 10 * CHIPPED + GROWS: return 70;
        case 10 * CHIPPED + TELLS: return 71;
        default: return 0;
      }
    }

    private int sayBody(int body, int x, int depth) {
      switch (body) {
        case 10: return x + n;
        case 11: return say(kind, HOLDS, x, depth) * 2;
        case 12: return x - m;
        case 13: return say(kind, WARMS, x, depth) ^ say(kind, GROWS, x, depth);
        case 20: return sayAbove(CROCK, HOLDS, x, depth) * 3;
        case 30: return sayAbove(JUG, WARMS, x, depth) - say(kind, GROWS, 1, depth);
        case 40: return -sayAbove(CUP, GROWS, x, depth);
        case 50: return sayAbove(STUCK, TELLS, x, depth) - say(kind, HOLDS, 2, depth);
        case 60: return sayAbove(ROOKS, WARMS, x + 1, depth);
        case 70: return sayAbove(CHIPPED, GROWS, x, depth) ^ n;
        case 71: return say(kind, WARMS, x, depth) - sayAbove(CHIPPED, TELLS, x, depth);
        default: return 0;
      }
    }

    /** The super of a BODY that a KIND has. */
    private int sayAbove(int owner, int act, int x, int depth) {
      return say(kindAbove(owner), act, x, depth);
    }
  }

  /** A row of numbers of 8, 16 or 32 bits, which may be missing (0 bits). */
  private static final class Sheet {
    final int[] row = new int[MOST_NUMBERS];
    int bits;
    int count;

    boolean isMissing() {
      return bits == 0;
    }

    void lay(int ofBits, int n) {
      bits = ofBits;
      count = n;
      Arrays.fill(row, 0);
    }

    int lowestBits(int v) {
      if (bits == 8) {
        return (byte) v;
      }
      return bits == 16 ? (short) v : v;
    }

    /** Whether n numbers stand from a place on. */
    boolean holds(int place, int n) {
      return n >= 0 && place >= 0 && n <= count && place <= count - n;
    }
  }

  /** What lies ready beside the houses: THE TAPE, the numbers that wait, and z. */
  private static final class Desk {
    final byte[] tape = new byte[MOST_TAPE];
    final int[] waiting = new int[MOST_WAITING];
    int taped;
    int waits;
    int z = 1;

    void copy(Desk other) {
      System.arraycopy(other.tape, 0, tape, 0, MOST_TAPE);
      System.arraycopy(other.waiting, 0, waiting, 0, MOST_WAITING);
      taped = other.taped;
      waits = other.waits;
      z = other.z;
    }

    int draw() {
      z = z * 1103515245 + 12345;
      return z >>> 8;
    }
  }
}
