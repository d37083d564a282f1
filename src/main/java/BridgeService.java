// The dinner service for the estranged. ../shared/DOC.md tells its words and its promises.
public final class BridgeService {
  public static final int BAD = -1, FULL = -2, NONE = -3, STATE = -4;

  // what the host refuses
  private static final int NOTHING = -11, OUTSIDE = -12, OTHER_SORT = -13, BELOW_0 = -14, PARTED_BY_0 = -15;
  private static final int NO_ROW = -9;
  private static final int FAULTY = -100;

  private static final int PLATE = 0, DISH = 1, TUREEN = 2, BOAT = 3, SAUCER = 4, CRACKED = 5;
  // the KIND above each KIND; plate has none
  private static final int[] ABOVE = {-1, PLATE, PLATE, TUREEN, PLATE, SAUCER};

  private static final int MOST_PIECES = 6, HOMES = 6, LAST_HOME = 5, YEARS = 16, LAST_NEWS = 15;
  private static final int LAST_PLACE = 39, ACROSS = 40, MOST_WIDTH = 9, MOST_MOOD = 9, EVEN_MOOD = 5;
  private static final int MOST_RULES = 8, TAPE_BYTES = 200, MOST_OPEN = 3;
  private static final int MOST_REPORTS = 6, MOST_PLAN = 4, MOST_TIMES = 40, MOST_ASKED_WORTH = 999;
  private static final int SHEETS = 4, SHELVES = 4, MOST_ITEMS = 40, MOST_GOING = 20, MOST_TRACE = 30;

  // what a PIECE does
  private static final int SIT = 0, STAND = 1, LEAVE = 2;
  // in the place of an ACT: the least PIECE is told that WOULD sit
  private static final int LEAST_WILLING = -1;

  // sorts of SHEETS
  private static final int MISSING = -1, BYTES = 0, SHORTS = 1, INTS = 2, LONGS = 3, BOOLEANS = 4;
  // what a SHELF may hold
  private static final int HOLDS_PIECE = 0, HOLDS_ROW = 1, HOLDS_NOTHING = 2;

  private final Table table = new Table();
  private final Table kept = new Table();
  private boolean isKept = false;
  private final Reader reader = new Reader();
  private final Plans plans = new Plans(table);
  private final Rows rows = new Rows(table);
  private final Sheet[] sheets = new Sheet[SHEETS];
  private final Shelf[] shelves = new Shelf[SHELVES];
  private final Acting acting = new Acting();

  public BridgeService() {
    for (int i = 0; i < SHEETS; i++) sheets[i] = new Sheet();
    for (int i = 0; i < SHELVES; i++) shelves[i] = new Shelf();
  }

  // ---- the table, pieces

  public int plate(int kind, int piece, int width, int home) {
    if (isOutside(kind, DISH, CRACKED) || isOutside(piece, 0, LAST_PLACE)) return BAD;
    if (isOutside(width, 0, MOST_WIDTH) || isOutside(home, 0, LAST_HOME)) return BAD;
    if (table.pieces >= MOST_PIECES) return FULL;
    return table.addPiece(kind, piece, width, home);
  }

  public int plateOf(int k, int what) {
    if (!table.hasPiece(k)) return BAD;
    switch (what) {
      case 0: return table.kinds[k];
      case 1: return table.firsts[k];
      case 2: return table.widths[k];
      case 3: return table.homes[k];
      case 4: return table.isSeated(k) ? 1 : 0;
      case 5: return spanOf(table.kinds[k], table.widths[k], table.year);
      case 6: return table.grudgeOf(k);
      case 7: return table.wouldSit(k) ? 1 : 0;
      case 8: return table.willOf(k);
      default: return BAD;
    }
  }

  public int change(int k, int what, int v) {
    if (!table.hasPiece(k)) return BAD;
    switch (what) {
      case 1: return isOutside(v, 0, LAST_PLACE) ? BAD : put(table.firsts, k, v);
      case 2: return isOutside(v, 0, MOST_WIDTH) ? BAD : put(table.widths, k, v);
      case 3: return isOutside(v, 0, LAST_HOME) ? BAD : put(table.homes, k, v);
      case 4: return isOutside(v, 0, 1) ? BAD : table.putSeated(k, v == 1);
      default: return BAD;
    }
  }

  public int remake(int k, int kind) {
    if (!table.hasPiece(k) || isOutside(kind, DISH, CRACKED)) return BAD;
    return put(table.kinds, k, kind);
  }

  public int news(int year, int v) {
    if (isOutside(year, 0, YEARS - 1) || isOutside(v, 0, LAST_NEWS)) return BAD;
    return put(table.allNews, year, v);
  }

  public int home(int f, int what, int v) {
    if (isOutside(f, 0, LAST_HOME) || isOutside(what, 0, 1) || isOutside(v, 0, 9)) return BAD;
    return put(what == 0 ? table.angers : table.welcomes, f, v);
  }

  public int homeOf(int f, int what) {
    if (isOutside(f, 0, LAST_HOME) || isOutside(what, 0, 1)) return BAD;
    return what == 0 ? table.angers[f] : table.welcomes[f];
  }

  public int family(int what, int v) {
    if (isOutside(what, 0, 1) || isOutside(v, 0, what == 0 ? MOST_MOOD : ACROSS)) return BAD;
    int was = what == 0 ? table.mood : table.she;
    if (what == 0) table.mood = v;
    else table.she = v;
    return was;
  }

  public int ends(int v) {
    if (isOutside(v, 1, YEARS)) return BAD;
    if (v < table.year) return STATE;
    int was = table.end;
    table.end = v;
    return was;
  }

  public int anew() {
    int was = table.year;
    table.beginAnew();
    return was;
  }

  public int state(int what) {
    switch (what) {
      case 0: return table.year;
      case 1: return table.end;
      case 2: return table.score;
      case 3: return table.isOver() ? 1 : 0;
      case 4: return table.seated;
      case 5: return table.newsIn(table.year);
      case 6: return table.mood;
      case 7: return table.she;
      default: return BAD;
    }
  }

  // ---- the rules

  public int feed(long eight, int n) {
    if (isOutside(n, 1, 8)) return BAD;
    if (reader.bytes + n > TAPE_BYTES) return FULL;
    return reader.takeBytes(eight, n);
  }

  public int rules() {
    int fault = reader.readAll();
    if (fault != Reader.NO_FAULT) return FAULTY - fault;
    table.laws.copyFrom(reader.draft);
    return table.laws.count;
  }

  // ---- years

  public int year() {
    if (table.isOver()) return STATE;
    return table.passAndScore(LEAST_WILLING);
  }

  public int on(int n) {
    if (isOutside(n, 0, YEARS)) return BAD;
    return table.restWorth(n);
  }

  public int when(int k) {
    if (!table.hasPiece(k)) return BAD;
    return table.isSeated(k) ? NONE : table.restUntil(1 << k, 0);
  }

  public int widthFor(int k) {
    if (!table.hasPiece(k)) return BAD;
    return table.bestValue(table.widths, k, MOST_WIDTH);
  }

  public int pieceFor(int k) {
    if (!table.hasPiece(k)) return BAD;
    return table.bestValue(table.firsts, k, LAST_PLACE);
  }

  // ---- over the bridge, gaps, branches, fetching

  public int over(int place) {
    if (isOutside(place, 0, ACROSS)) return BAD;
    return table.restUntil(0, place);
  }

  public int gap(int what) {
    if (what == 0) return table.firstUnspanned();
    return what == 1 ? table.countNotThere() : BAD;
  }

  public int branches(int what) {
    if (what == -1) return table.countBranches();
    return table.hasPiece(what) ? table.branchOf(what) : BAD;
  }

  public int fetch(int place, int what) {
    if (isOutside(place, 0, ACROSS) || isOutside(what, 0, 1)) return BAD;
    int away = table.allPieces() & ~table.seated;
    if (what == 0) return table.wayOver(place, away);
    return table.firstFetched(place, away);
  }

  // ---- plans

  public int best(int n) {
    if (isOutside(n, 0, MOST_PLAN)) return BAD;
    plans.tryAll(n, 0);
    return plans.most;
  }

  public int ith(int n, int i) {
    if (isOutside(n, 0, MOST_PLAN) || isOutside(i, 0, MOST_PLAN - 1)) return BAD;
    plans.tryAll(n, 0);
    return i < plans.length ? plans.first[i] : NONE;
  }

  public int ways(int n) {
    if (isOutside(n, 0, MOST_PLAN)) return BAD;
    plans.tryAll(n, 0);
    return plans.count;
  }

  public int supper(int n, int plates) {
    if (isOutside(n, 0, MOST_PLAN) || isOutside(plates, 0, table.allPieces())) return BAD;
    plans.tryAll(n, plates);
    return plans.fewest;
  }

  public int bars(int n, int plates) {
    if (isOutside(n, 0, MOST_PLAN) || isOutside(plates, 0, table.allPieces())) return BAD;
    plans.tryAll(n, plates);
    return leastOf(plates & ~plans.everSeated);
  }

  // ---- a game, strangers, lots

  public int game(int n) {
    if (isOutside(n, 1, MOST_PLAN)) return BAD;
    return plans.valueOfGame(table.yearsYet(n), true);
  }

  public int play(int n) {
    if (isOutside(n, 1, MOST_PLAN)) return BAD;
    return table.isOver() ? NONE : plans.leastGoodAct(table.yearsYet(n));
  }

  public int report(int k, int asked, int least, int most) {
    if (isOutside(k, 0, YEARS - 1) || isOutside(asked, 0, 1)) return BAD;
    int highest = asked == 0 ? ACROSS : MOST_MOOD;
    if (isOutside(least, 0, highest) || isOutside(most, least, highest)) return BAD;
    if (table.reports.count >= MOST_REPORTS) return FULL;
    return table.reports.add(k, asked, least, most);
  }

  public int forget() {
    int were = table.reports.count;
    table.reports.count = 0;
    return were;
  }

  public int lost(int what) {
    if (isOutside(what, 0, 3)) return BAD;
    return what == 0 ? table.countFitting() : table.firstFitting(what);
  }

  public int liar() {
    return table.leastLiar();
  }

  public int seed(int v) {
    int was = table.z;
    table.z = v;
    return was;
  }

  public int lot() {
    if (table.isOver()) return STATE;
    return table.passAndScore(table.drawLot());
  }

  public int times(int n, int v) {
    if (isOutside(n, 1, MOST_TIMES) || isOutside(v, 0, MOST_ASKED_WORTH)) return BAD;
    int z = table.z;
    int count = 0;
    for (int i = 0; i < n; i++) {
      if (table.worthByLot() >= v) count++;
    }
    table.z = z;
    return count;
  }

  // ---- rows

  public int prove(int n) {
    if (isOutside(n, 0, MOST_PLAN)) return BAD;
    plans.tryAll(n, 0);
    return rows.fill(plans.first, plans.length);
  }

  public int row(int k, int what) {
    return rows.has(k, what) ? rows.cells[3 * k + what] : NO_ROW;
  }

  public int alterRow(int k, int what, int v) {
    return rows.has(k, what) ? put(rows.cells, 3 * k + what, v) : NO_ROW;
  }

  public int judge() {
    return rows.firstWrong();
  }

  // ---- the host

  public int sheet(int sheet, int sort, int n) {
    if (isOutside(sheet, 0, SHEETS - 1) || isOutside(sort, MISSING, BOOLEANS)) return BAD;
    if (sort != MISSING && n > MOST_ITEMS) return BAD;
    if (sort != MISSING && n < 0) return BELOW_0;
    sheets[sheet].become(sort, sort == MISSING ? 0 : n);
    return 1;
  }

  public int write(int sheet, int i, int v) {
    if (isOutside(sheet, 0, SHEETS - 1)) return BAD;
    if (sheets[sheet].sort == MISSING) return NOTHING;
    if (!sheets[sheet].hasItem(i)) return OUTSIDE;
    sheets[sheet].putItem(i, v);
    return 1;
  }

  public int item(int sheet, int sort, int i) {
    if (isOutside(sheet, 0, SHEETS - 1) || isOutside(sort, BYTES, BOOLEANS)) return BAD;
    int refusal = sheets[sheet].refusalAs(sort);
    if (refusal != 0) return refusal;
    return sheets[sheet].hasItem(i) ? (int) sheets[sheet].items[i] : OUTSIDE;
  }

  public int goAll(int sheet, int i, int n) {
    if (isOutside(sheet, 0, SHEETS - 1) || isOutside(n, 0, MOST_GOING)) return BAD;
    Sheet acts = sheets[sheet];
    int refusal = acts.refusalAs(BYTES);
    if (refusal != 0) return refusal;
    int worth = 0;
    for (int j = 0; j < n; j++) {
      if (!acts.hasItem(i + j)) return OUTSIDE;
      int told = (int) acts.items[i + j];
      if (table.isAct(told) && !table.isOver()) worth += table.passAndScore(told);
    }
    return worth;
  }

  public int wouldBe(int sheet, int i, int n) {
    if (isOutside(sheet, 0, SHEETS - 1) || isOutside(n, 0, MOST_GOING)) return BAD;
    int refusal = sheets[sheet].refusalAs(BYTES);
    if (refusal != 0) return refusal;
    int now = table.moment();
    int worth = worthOfItems(sheets[sheet], i, n);
    table.backTo(now);
    return worth;
  }

  public int shelf(int shelf, int what, int n) {
    if (isOutside(shelf, 0, SHELVES - 1) || isOutside(what, HOLDS_PIECE, HOLDS_NOTHING)) return BAD;
    if (what == HOLDS_PIECE && !table.hasPiece(n)) return BAD;
    if (what == HOLDS_ROW && isOutside(n, 0, SHEETS - 1)) return BAD;
    if (what == HOLDS_ROW) shelves[shelf].holdRow(sheets[n].sort, sheets[n].size);
    else shelves[shelf].hold(what, n);
    return 1;
  }

  public int taken(int shelf, int as) {
    boolean isKind = !isOutside(as, PLATE, CRACKED);
    boolean isSort = !isOutside(as, 10 + BYTES, 10 + BOOLEANS);
    if (isOutside(shelf, 0, SHELVES - 1) || !isKind && !isSort) return BAD;
    Shelf thing = shelves[shelf];
    int holds = heldOn(thing);
    if (holds == HOLDS_NOTHING) return NOTHING;
    if (holds == HOLDS_ROW) return isSort && thing.sort == as - 10 ? thing.size : OTHER_SORT;
    return isKind && isUnder(table.kinds[thing.piece], as) ? thing.piece : OTHER_SORT;
  }

  public int act(int shelf, int act, int x) {
    acting.traced = 0;
    if (isOutside(shelf, 0, SHELVES - 1) || isOutside(act, 0, 3)) return 0;
    if (heldOn(shelves[shelf]) != HOLDS_PIECE) return 0;
    int k = shelves[shelf].piece;
    acting.begin(table.kinds[k], k, table.homes[k]);
    return acting.perform(act, x);
  }

  public int trace(int i) {
    return isOutside(i, 0, acting.traced - 1) ? NONE : acting.bodies[i];
  }

  public int many(int what) {
    switch (what) {
      case 0: return table.pieces;
      case 1: return table.laws.count;
      case 2: return Integer.bitCount(table.seated);
      case 3: return table.reports.count;
      case 4: return rows.count;
      case 5: return reader.bytes;
      case 6: return acting.traced;
      default: return BAD;
    }
  }

  // ---- kept

  public int keep() {
    kept.copyFrom(table);
    isKept = true;
    return 1;
  }

  public int again() {
    if (!isKept) return NONE;
    table.copyFrom(kept);
    return table.pieces;
  }

  // ---- helpers

  private static boolean isOutside(int v, int least, int most) {
    return v < least || v > most;
  }

  private static int put(int[] cells, int i, int v) {
    if (isOutside(i, 0, cells.length - 1)) return BAD;
    int was = cells[i];
    cells[i] = v;
    return was;
  }

  private static int leastOf(int set) {
    for (int k = 0; k < MOST_PIECES; k++) {
      if ((set >> k & 1) == 1) return k;
    }
    return NONE;
  }

  // a KIND counts as under itself; no way up is longer than there are KINDS
  private static boolean isUnder(int kind, int above) {
    int k = kind;
    for (int up = 0; up < ABOVE.length && k >= 0 && k < ABOVE.length; up++) {
      if (k == above) return true;
      k = ABOVE[k];
    }
    return false;
  }

  private static int spanOf(int kind, int width, int year) {
    int asPlate = 1 + width / 2;
    switch (kind) {
      case DISH: return 2 * asPlate;
      case TUREEN: return asPlate + 2;
      case BOAT: return year % 2 == 1 ? 1 : asPlate + 2;
      case SAUCER: return Math.min(asPlate, 2);
      case CRACKED: return year % 3 == 0 ? 0 : Math.min(asPlate, 2);
      default: return asPlate;
    }
  }

  // PLACES as bits; what is beyond THE BRIDGE does no harm, since nobody looks there
  private static long placesOf(int first, int span) {
    return ((1L << span) - 1) << first;
  }

  private static int moodBehind(int news, int mood) {
    int force = news / 4;
    switch (news % 4) {
      case 0: return Math.min(MOST_MOOD, mood + force);
      case 1: return Math.max(0, mood - force);
      case 2: return mood < EVEN_MOOD ? Math.min(EVEN_MOOD, mood + force) : Math.max(EVEN_MOOD, mood - force);
      default: return mood;
    }
  }

  private static int stepsOn(long there, int from, int mood) {
    int steps = 0;
    while (steps <= mood && from + steps < ACROSS && (there >>> (from + steps) & 1L) == 1L) steps++;
    return steps;
  }

  private int worthOfItems(Sheet acts, int i, int n) {
    int worth = 0;
    for (int j = 0; j < n; j++) {
      if (!acts.hasItem(i + j)) return OUTSIDE;
      int told = (int) acts.items[i + j];
      if (!table.isAct(told) || table.isOver()) return STATE;
      worth += table.passYear(told);
    }
    return worth;
  }

  // a PIECE is held by its number: what again() took away is nothing, as long as it is away
  private int heldOn(Shelf shelf) {
    if (shelf.holds == HOLDS_PIECE && !table.hasPiece(shelf.piece)) return HOLDS_NOTHING;
    return shelf.holds;
  }

  // All that keep() keeps, and how YEARS go by.
  private static final class Table {
    private final int[] kinds = new int[MOST_PIECES];
    private final int[] firsts = new int[MOST_PIECES];
    private final int[] widths = new int[MOST_PIECES];
    private final int[] homes = new int[MOST_PIECES];
    private final int[] angers = new int[HOMES];
    private final int[] welcomes = new int[HOMES];
    private final int[] allNews = new int[YEARS];
    private final Laws laws = new Laws();
    private final Reports reports = new Reports();
    private int pieces = 0;
    private int seated = 0;
    private int year = 0;
    private int end = 12;
    private int score = 0;
    private int mood = EVEN_MOOD;
    private int she = 0;
    private int z = 1;

    Table() {
      for (int f = 0; f < HOMES; f++) welcomes[f] = 3;
      for (int y = 0; y < YEARS; y++) allNews[y] = 4;
    }

    void copyFrom(Table other) {
      System.arraycopy(other.kinds, 0, kinds, 0, MOST_PIECES);
      System.arraycopy(other.firsts, 0, firsts, 0, MOST_PIECES);
      System.arraycopy(other.widths, 0, widths, 0, MOST_PIECES);
      System.arraycopy(other.homes, 0, homes, 0, MOST_PIECES);
      System.arraycopy(other.angers, 0, angers, 0, HOMES);
      System.arraycopy(other.welcomes, 0, welcomes, 0, HOMES);
      System.arraycopy(other.allNews, 0, allNews, 0, YEARS);
      laws.copyFrom(other.laws);
      reports.copyFrom(other.reports);
      pieces = other.pieces;
      seated = other.seated;
      year = other.year;
      end = other.end;
      score = other.score;
      mood = other.mood;
      she = other.she;
      z = other.z;
    }

    int addPiece(int kind, int first, int width, int home) {
      if (pieces >= MOST_PIECES) return FULL;
      kinds[pieces] = kind;
      firsts[pieces] = first;
      widths[pieces] = width;
      homes[pieces] = home;
      return pieces++;
    }

    void beginAnew() {
      year = 0;
      score = 0;
      mood = EVEN_MOOD;
      she = 0;
      seated = 0;
    }

    boolean hasPiece(int k) {
      return k >= 0 && k < pieces;
    }

    boolean isAct(int told) {
      return told >= 0 && told <= pieces;
    }

    boolean isOver() {
      return year >= end;
    }

    boolean isSeated(int k) {
      return (seated >> k & 1) == 1;
    }

    int putSeated(int k, boolean isTo) {
      int was = seated >> k & 1;
      seated = isTo ? seated | 1 << k : seated & ~(1 << k);
      return was;
    }

    int allPieces() {
      return (1 << pieces) - 1;
    }

    int newsIn(int inYear) {
      return isOutside(inYear, 0, YEARS - 1) ? 0 : allNews[inYear];
    }

    int grudgeOf(int k) {
      int anger = angers[homes[k]];
      switch (kinds[k]) {
        case DISH: return anger + 2;
        case TUREEN: return anger + k;
        case BOAT: return Math.max(0, anger + k - 3);
        case SAUCER: return anger / 2;
        case CRACKED: return anger / 2 * 2;
        default: return anger;
      }
    }

    boolean wouldSit(int k) {
      return !isSeated(k) && grudgeOf(k) <= mood + welcomes[homes[k]];
    }

    int willOf(int k) {
      laws.facts[0] = year;
      laws.facts[1] = widths[k];
      laws.facts[2] = grudgeOf(k);
      laws.facts[3] = mood;
      laws.facts[4] = k;
      return laws.tellTo(kinds[k]);
    }

    // ---- what a YEAR changes, in one number: YEAR, MOOD, SHE, SEATED

    int moment() {
      return year | mood << 5 | she << 9 | seated << 15;
    }

    void backTo(int moment) {
      year = moment & 31;
      mood = moment >> 5 & 15;
      she = moment >> 9 & 63;
      seated = moment >> 15 & 63;
    }

    // ---- a YEAR goes by

    int passYear(int act) {
      mood = moodBehind(newsIn(year), mood);
      int told = act == LEAST_WILLING ? leastWilling() : act - 1;
      int will = hasPiece(told) ? willOf(told) : STAND;
      int worth = 0;
      if (will == SIT) worth = sitDown(told);
      else if (will == LEAVE) getUp(told);
      int steps = stepsOn(placesSpanned(seated), she, mood);
      she += steps;
      year++;
      return worth + 2 * steps;
    }

    int passAndScore(int act) {
      int worth = passYear(act);
      score += worth;
      return worth;
    }

    private int leastWilling() {
      for (int k = 0; k < pieces; k++) {
        if (wouldSit(k)) return k;
      }
      return NONE;
    }

    private int sitDown(int k) {
      if (isSeated(k)) return 0;
      if (!wouldSit(k)) {
        mood = Math.max(0, mood - 1);
        return 0;
      }
      mood = Math.max(0, mood - grudgeOf(k) / 3);
      putSeated(k, true);
      return 1;
    }

    private void getUp(int k) {
      if (!isSeated(k)) return;
      putSeated(k, false);
      mood = Math.min(MOST_MOOD, mood + 1);
    }

    private long placesSpanned(int set) {
      long places = 0L;
      for (int k = 0; k < pieces; k++) {
        if ((set >> k & 1) == 1) places |= placesOf(firsts[k], spanOf(kinds[k], widths[k], year));
      }
      return places;
    }

    // ---- THE REST

    int yearsYet(int most) {
      return Math.max(0, Math.min(most, end - year));
    }

    int restWorth(int most) {
      int now = moment();
      int years = yearsYet(most);
      int worth = 0;
      for (int i = 0; i < years; i++) worth += passYear(LEAST_WILLING);
      backTo(now);
      return worth;
    }

    // the first YEAR behind which a set is SEATED and SHE is AT a PLACE or beyond
    int restUntil(int set, int place) {
      int now = moment();
      int years = yearsYet(YEARS);
      int found = NONE;
      for (int i = 0; i < years && found == NONE; i++) {
        passYear(LEAST_WILLING);
        if ((seated & set) == set && she >= place) found = year - 1;
      }
      backTo(now);
      return found;
    }

    int bestValue(int[] cells, int k, int highest) {
      int was = cells[k];
      int best = 0;
      int most = -1;
      for (int v = 0; v <= highest; v++) {
        cells[k] = v;
        int worth = restWorth(YEARS);
        if (worth > most) {
          most = worth;
          best = v;
        }
      }
      cells[k] = was;
      return best;
    }

    // ---- gaps, branches, fetching

    int firstUnspanned() {
      long spanned = placesSpanned(allPieces());
      for (int place = she; place <= LAST_PLACE; place++) {
        if ((spanned >>> place & 1L) == 0L) return place;
      }
      return NONE;
    }

    int countNotThere() {
      long there = placesSpanned(seated);
      int count = 0;
      for (int place = 0; place <= LAST_PLACE; place++) {
        if ((there >>> place & 1L) == 0L) count++;
      }
      return count;
    }

    int countBranches() {
      int count = 0;
      for (int k = 0; k < pieces; k++) {
        if (leastOf(branchOf(k)) == k) count++;
      }
      return count;
    }

    int branchOf(int k) {
      if (isSeated(k)) return 0;
      int set = 1 << k;
      for (int round = 0; round < MOST_PIECES; round++) set |= closeTo(set);
      return set;
    }

    private int closeTo(int set) {
      int close = 0;
      for (int k = 0; k < pieces; k++) {
        for (int j = 0; j < pieces; j++) {
          if ((set >> j & 1) == 1 && areClose(j, k)) close |= 1 << k;
        }
      }
      return close;
    }

    private boolean areClose(int j, int k) {
      if (isSeated(j) || isSeated(k)) return false;
      return homes[j] == homes[k] || Math.abs(firsts[j] - firsts[k]) <= 2;
    }

    // the FIRST places lie on one line: who has been at the least and at the greatest has met all
    int wayOver(int place, int set) {
      int least = ACROSS;
      int greatest = -1;
      for (int k = 0; k < pieces; k++) {
        if ((set >> k & 1) == 1) {
          least = Math.min(least, firsts[k]);
          greatest = Math.max(greatest, firsts[k]);
        }
      }
      if (greatest < 0) return 0;
      return greatest - least + Math.min(Math.abs(place - least), Math.abs(place - greatest));
    }

    int firstFetched(int place, int set) {
      int fewest = wayOver(place, set);
      for (int k = 0; k < pieces; k++) {
        if ((set >> k & 1) == 1) {
          int way = Math.abs(place - firsts[k]) + wayOver(firsts[k], set & ~(1 << k));
          if (way == fewest) return k;
        }
      }
      return NONE;
    }

    // ---- LOST PIECES

    // the REPORTS, as a set, that aren't so by a PIECE that is SEATED alone
    private int wrongBy(int kind, int width, int moodAtFirst) {
      int latest = reports.latest();
      int thenMood = moodAtFirst;
      int thenShe = 0;
      int wrong = reports.wrongBehind(0, thenShe, thenMood);
      for (int y = 0; y < latest; y++) {
        thenMood = moodBehind(newsIn(y), thenMood);
        thenShe += stepsOn(placesOf(0, spanOf(kind, width, y)), thenShe, thenMood);
        wrong |= reports.wrongBehind(y + 1, thenShe, thenMood);
      }
      return wrong;
    }

    int countFitting() {
      int count = 0;
      for (int kind = DISH; kind <= CRACKED; kind++) {
        for (int width = 0; width <= MOST_WIDTH; width++) {
          for (int m = 0; m <= MOST_MOOD; m++) {
            if (wrongBy(kind, width, m) == 0) count++;
          }
        }
      }
      return count;
    }

    int firstFitting(int what) {
      for (int kind = DISH; kind <= CRACKED; kind++) {
        for (int width = 0; width <= MOST_WIDTH; width++) {
          for (int m = 0; m <= MOST_MOOD; m++) {
            if (wrongBy(kind, width, m) == 0) return what == 1 ? kind : what == 2 ? width : m;
          }
        }
      }
      return NONE;
    }

    int leastLiar() {
      int liars = 0;
      for (int kind = DISH; kind <= CRACKED; kind++) {
        for (int width = 0; width <= MOST_WIDTH; width++) {
          for (int m = 0; m <= MOST_MOOD; m++) {
            int wrong = wrongBy(kind, width, m);
            if (wrong == 0) return NONE;
            if (Integer.bitCount(wrong) == 1) liars |= wrong;
          }
        }
      }
      return leastOf(liars);
    }

    // ---- LOTS

    int drawLot() {
      z = z * 1103515245 + 12345;
      return (z >>> 16) % (pieces + 1);
    }

    int worthByLot() {
      int now = moment();
      int years = yearsYet(YEARS);
      int worth = 0;
      for (int i = 0; i < years; i++) worth += passYear(drawLot());
      backTo(now);
      return worth;
    }
  }

  // THE RULES. The condition of each stands in one code, its signs behind what they join:
  // NOT, AND, OR, or a comparison (at least 0) of two values, a fact being FACT and its index.
  private static final class Laws {
    private static final int NOT = -1, AND = -2, OR = -3;
    private static final int FACT = 10000, FACTS = 5;
    private static final int VALUE_BITS = 14, VALUE_MASK = (1 << VALUE_BITS) - 1;

    private final int[] kinds = new int[MOST_RULES];
    private final int[] wills = new int[MOST_RULES];
    private final int[] ends = new int[MOST_RULES];
    private final int[] code = new int[TAPE_BYTES];
    private final int[] facts = new int[FACTS];
    private int count = 0;
    private int size = 0;

    void copyFrom(Laws other) {
      System.arraycopy(other.kinds, 0, kinds, 0, MOST_RULES);
      System.arraycopy(other.wills, 0, wills, 0, MOST_RULES);
      System.arraycopy(other.ends, 0, ends, 0, MOST_RULES);
      System.arraycopy(other.code, 0, code, 0, TAPE_BYTES);
      count = other.count;
      size = other.size;
    }

    void empty() {
      count = 0;
      size = 0;
    }

    void append(int part) {
      if (size < TAPE_BYTES) code[size++] = part;
    }

    void close(int kind, int will) {
      if (count >= MOST_RULES) return;
      kinds[count] = kind;
      wills[count] = will;
      ends[count] = size;
      count++;
    }

    static int comparison(int left, int sign, int right) {
      return sign << 2 * VALUE_BITS | left << VALUE_BITS | right;
    }

    int tellTo(int kind) {
      int from = 0;
      for (int i = 0; i < count; i++) {
        if (isUnder(kind, kinds[i]) && holds(from, ends[i])) return wills[i];
        from = ends[i];
      }
      return SIT;
    }

    // a row of bits is enough for what waits: two at each "(" that is open, and the latest;
    // the 1 at first is what no condition answers
    private boolean holds(int from, int to) {
      long bits = 1L;
      for (int i = from; i < to; i++) {
        int part = code[i];
        if (part == NOT) bits ^= 1L;
        else if (part == AND) bits = bits >>> 1 & (bits | ~1L);
        else if (part == OR) bits = bits >>> 1 | bits & 1L;
        else bits = bits << 1 | (compares(part) ? 1L : 0L);
      }
      return (bits & 1L) == 1L;
    }

    private boolean compares(int part) {
      int left = part >> VALUE_BITS & VALUE_MASK;
      int right = part & VALUE_MASK;
      if (left >= FACT && left < FACT + FACTS) left = facts[left - FACT];
      if (right >= FACT && right < FACT + FACTS) right = facts[right - FACT];
      switch (part >> 2 * VALUE_BITS) {
        case 0: return left < right;
        case 1: return left == right;
        default: return left > right;
      }
    }
  }

  // THE TAPE, and who reads THE RULES from it: one word (a NAME, a NUMBER, another byte)
  // behind the other, each looked at by what may stand there.
  private static final class Reader {
    private static final int NO_FAULT = -1;
    private static final String NAMES =
        "plate,dish,tureen,boat,saucer,cracked,sit,stand,leave,if,and,or,not,year,width,grudge,mood,number,";
    // words: the NAMES as they stand above (six KINDS, three WILLS ..), and these
    private static final int FIRST_WILL = 6, LAST_WILL = 8, IF = 9, AND = 10, OR = 11, NOT = 12;
    private static final int FIRST_FACT = 13, LAST_FACT = 17, A_NUMBER = 18, STRANGE = 19, THE_END = 20;
    private static final int LESS = 21, MORE = 23, OPEN = 24, CLOSE = 25, SEMICOLON = 26;
    // what may stand next
    private static final int KIND_DUE = 0, TAIL_DUE = 1, ONE_DUE = 2, SIGN_DUE = 3, RIGHT_DUE = 4;
    private static final int JOINT_DUE = 5, SEMICOLON_DUE = 6;

    private final Laws draft = new Laws();
    private final int[] tape = new int[TAPE_BYTES];
    private int bytes = 0;
    private int at = 0;
    private int start = 0;
    private int number = 0;
    private int due = KIND_DUE;
    private int kind = 0;
    private int will = 0;
    private int left = 0;
    private int sign = 0;
    private int open = 0;
    // signs that wait for what comes behind them
    private final int[] waiting = new int[TAPE_BYTES];
    private int waits = 0;

    int takeBytes(long eight, int n) {
      for (int i = 0; i < n && bytes < TAPE_BYTES; i++) tape[bytes++] = (int) (eight >>> 8 * i & 255L);
      return bytes;
    }

    // uses THE TAPE up: FAULT, or NO_FAULT and THE RULES in the draft
    int readAll() {
      draft.empty();
      at = 0;
      due = KIND_DUE;
      open = 0;
      waits = 0;
      int word = nextWord();
      for (int words = 0; words < TAPE_BYTES && word != THE_END && mayStand(word); words++) word = nextWord();
      bytes = 0;
      return word == THE_END && due == KIND_DUE ? NO_FAULT : start;
    }

    private int nextWord() {
      while (at < bytes && tape[at] == ' ') at++;
      start = at;
      if (at >= bytes) return THE_END;
      int c = tape[at];
      if (isLetter(c)) return readName();
      if (isDigit(c)) return readNumber();
      at++;
      return signWord(c);
    }

    private static boolean isLetter(int c) {
      return c >= 'a' && c <= 'z';
    }

    private static boolean isDigit(int c) {
      return c >= '0' && c <= '9';
    }

    private int readName() {
      while (at < bytes && isLetter(tape[at])) at++;
      int name = 0;
      int same = start;
      for (int i = 0; i < NAMES.length(); i++) {
        char c = NAMES.charAt(i);
        if (c == ',') {
          if (same == at) return name;
          name++;
          same = start;
        } else if (same >= start && same < at && tape[same] == c) same++;
        else same = -1;
      }
      return STRANGE;
    }

    private int readNumber() {
      number = 0;
      while (at < bytes && isDigit(tape[at])) {
        if (at - start < 4) number = 10 * number + tape[at] - '0';
        at++;
      }
      return at - start > 4 ? STRANGE : A_NUMBER;
    }

    private static int signWord(int c) {
      switch (c) {
        case '<': return LESS;
        case '=': return LESS + 1;
        case '>': return MORE;
        case '(': return OPEN;
        case ')': return CLOSE;
        case ';': return SEMICOLON;
        default: return STRANGE;
      }
    }

    private boolean mayStand(int word) {
      switch (due) {
        case KIND_DUE: return takeKind(word);
        case TAIL_DUE: return takeTail(word);
        case ONE_DUE: return takeOne(word);
        case SIGN_DUE: return takeSign(word);
        case RIGHT_DUE: return takeRight(word);
        case JOINT_DUE: return takeJoint(word);
        default: return takeSemicolon(word);
      }
    }

    private boolean takeKind(int word) {
      if (word > CRACKED || draft.count >= MOST_RULES) return false;
      kind = word;
      due = TAIL_DUE;
      return true;
    }

    private boolean takeTail(int word) {
      if (word != IF) return takeWill(word);
      due = ONE_DUE;
      return true;
    }

    private boolean takeWill(int word) {
      if (isOutside(word, FIRST_WILL, LAST_WILL)) return false;
      will = word - FIRST_WILL;
      due = SEMICOLON_DUE;
      return true;
    }

    private boolean takeOne(int word) {
      if (word == NOT) return waitWith(NOT);
      if (word == OPEN) {
        open++;
        return open <= MOST_OPEN && waitWith(OPEN);
      }
      if (!isValue(word)) return false;
      left = valueOf(word);
      due = SIGN_DUE;
      return true;
    }

    private boolean takeSign(int word) {
      if (isOutside(word, LESS, MORE)) return false;
      sign = word - LESS;
      due = RIGHT_DUE;
      return true;
    }

    private boolean takeRight(int word) {
      if (!isValue(word)) return false;
      draft.append(Laws.comparison(left, sign, valueOf(word)));
      endOne();
      return true;
    }

    private void endOne() {
      while (waits > 0 && waiting[waits - 1] == NOT) {
        draft.append(Laws.NOT);
        waits--;
      }
      due = JOINT_DUE;
    }

    private boolean takeJoint(int word) {
      if (word == CLOSE) return takeClose();
      if (word == AND || word == OR) {
        appendJoints(word);
        due = ONE_DUE;
        return waitWith(word);
      }
      if (open > 0) return false;
      appendJoints(OR);
      return takeWill(word);
    }

    private boolean takeClose() {
      if (open == 0) return false;
      open--;
      appendJoints(OR);
      if (waits > 0) waits--;
      endOne();
      return true;
    }

    private boolean takeSemicolon(int word) {
      if (word != SEMICOLON) return false;
      draft.close(kind, will);
      due = KIND_DUE;
      return true;
    }

    private static boolean isValue(int word) {
      return word == A_NUMBER || !isOutside(word, FIRST_FACT, LAST_FACT);
    }

    private int valueOf(int word) {
      return word == A_NUMBER ? number : Laws.FACT + word - FIRST_FACT;
    }

    private boolean waitWith(int word) {
      if (waits >= TAPE_BYTES) return false;
      waiting[waits++] = word;
      return true;
    }

    // "and" joins more closely than "or"
    private void appendJoints(int joint) {
      while (waits > 0 && (waiting[waits - 1] == AND || waiting[waits - 1] == joint)) {
        draft.append(waiting[waits - 1] == AND ? Laws.AND : Laws.OR);
        waits--;
      }
    }
  }

  private static final class Reports {
    private final int[] behind = new int[MOST_REPORTS];
    private final int[] asked = new int[MOST_REPORTS];
    private final int[] least = new int[MOST_REPORTS];
    private final int[] most = new int[MOST_REPORTS];
    private int count = 0;

    void copyFrom(Reports other) {
      System.arraycopy(other.behind, 0, behind, 0, MOST_REPORTS);
      System.arraycopy(other.asked, 0, asked, 0, MOST_REPORTS);
      System.arraycopy(other.least, 0, least, 0, MOST_REPORTS);
      System.arraycopy(other.most, 0, most, 0, MOST_REPORTS);
      count = other.count;
    }

    int add(int years, int what, int from, int to) {
      if (count >= MOST_REPORTS) return FULL;
      behind[count] = years;
      asked[count] = what;
      least[count] = from;
      most[count] = to;
      return count++;
    }

    int latest() {
      int years = 0;
      for (int i = 0; i < count; i++) years = Math.max(years, behind[i]);
      return years;
    }

    // those about what was behind so many YEARS that aren't so, as a set
    int wrongBehind(int years, int she, int mood) {
      int wrong = 0;
      for (int i = 0; i < count; i++) {
        if (behind[i] == years && isOutside(asked[i] == 0 ? she : mood, least[i], most[i])) wrong |= 1 << i;
      }
      return wrong;
    }
  }

  // What all PLANS of a length come to, and the GAME.
  private static final class Plans {
    private final Table table;
    private final int[] plan = new int[MOST_PLAN];
    private final int[] first = new int[MOST_PLAN];
    private int length = 0;
    private int wanted = 0;
    private int most = 0;
    private int count = 0;
    private int fewest = NONE;
    private int everSeated = 0;

    Plans(Table table) {
      this.table = table;
    }

    void tryAll(int n, int plates) {
      length = Math.min(MOST_PLAN, table.yearsYet(n));
      wanted = plates;
      most = 0;
      count = 0;
      fewest = NONE;
      everSeated = 0;
      tryFrom(0, 0, 0);
    }

    private void tryFrom(int depth, int worth, int told) {
      if (depth >= length) {
        weigh(worth, told);
        return;
      }
      int now = table.moment();
      for (int act = 0; act <= table.pieces; act++) {
        plan[depth] = act;
        int more = table.passYear(act);
        tryFrom(depth + 1, worth + more, act == 0 ? told : told + 1);
        table.backTo(now);
      }
    }

    private void weigh(int worth, int told) {
      if (count == 0 || worth > most) {
        most = worth;
        count = 0;
        System.arraycopy(plan, 0, first, 0, MOST_PLAN);
      }
      if (worth == most) count++;
      everSeated |= table.seated;
      boolean allSit = (table.seated & wanted) == wanted;
      if (allSit && (fewest == NONE || told < fewest)) fewest = told;
    }

    private int valueOfGame(int years, boolean isFirst) {
      if (years <= 0) return 0;
      int value = 0;
      for (int act = 0; act <= table.pieces; act++) {
        int outcome = valueOfAct(act, years, isFirst);
        if (act == 0 || (isFirst ? outcome > value : outcome < value)) value = outcome;
      }
      return value;
    }

    private int valueOfAct(int act, int years, boolean isFirst) {
      int now = table.moment();
      int worth = table.passYear(act);
      int value = worth + valueOfGame(years - 1, !isFirst);
      table.backTo(now);
      return value;
    }

    int leastGoodAct(int years) {
      int good = 0;
      int value = valueOfAct(0, years, true);
      for (int act = 1; act <= table.pieces; act++) {
        int outcome = valueOfAct(act, years, true);
        if (outcome > value) {
          value = outcome;
          good = act;
        }
      }
      return good;
    }
  }

  // ROWS, three cells each: ACT, WORTH, those SEATED.
  private static final class Rows {
    private final Table table;
    private final int[] cells = new int[3 * MOST_PLAN];
    private int count = 0;

    Rows(Table table) {
      this.table = table;
    }

    boolean has(int k, int what) {
      return k >= 0 && k < count && what >= 0 && what < 3;
    }

    int fill(int[] acts, int length) {
      int now = table.moment();
      count = Math.min(length, MOST_PLAN);
      for (int k = 0; k < count; k++) {
        cells[3 * k] = acts[k];
        cells[3 * k + 1] = table.passYear(acts[k]);
        cells[3 * k + 2] = table.seated;
      }
      table.backTo(now);
      return count;
    }

    int firstWrong() {
      int now = table.moment();
      int wrong = 0;
      for (int k = 0; k < count && wrong == 0; k++) {
        if (!isRight(k)) wrong = k + 1;
      }
      table.backTo(now);
      return wrong;
    }

    private boolean isRight(int k) {
      int act = cells[3 * k];
      if (!table.isAct(act) || table.isOver()) return false;
      int worth = table.passYear(act);
      return cells[3 * k + 1] == worth && cells[3 * k + 2] == table.seated;
    }
  }

  private static final class Sheet {
    private final long[] items = new long[MOST_ITEMS];
    private int sort = MISSING;
    private int size = 0;

    void become(int newSort, int newSize) {
      for (int i = 0; i < MOST_ITEMS; i++) items[i] = 0L;
      sort = newSort;
      size = newSize;
    }

    boolean hasItem(int i) {
      return i >= 0 && i < size && i < MOST_ITEMS;
    }

    void putItem(int i, int v) {
      if (hasItem(i)) items[i] = narrowed(v);
    }

    private long narrowed(int v) {
      switch (sort) {
        case BYTES: return (byte) v;
        case SHORTS: return (short) v;
        case BOOLEANS: return v != 0 ? 1L : 0L;
        default: return v;
      }
    }

    // why it can't be taken for a row of a sort, or 0
    int refusalAs(int asked) {
      if (sort == MISSING) return NOTHING;
      return sort == asked ? 0 : OTHER_SORT;
    }
  }

  // A row stays as it was when it came: the SHEET may become another one meanwhile.
  private static final class Shelf {
    private int holds = HOLDS_NOTHING;
    private int piece = 0;
    private int sort = MISSING;
    private int size = 0;

    void hold(int what, int n) {
      holds = what;
      piece = n;
    }

    void holdRow(int rowSort, int rowSize) {
      holds = rowSort == MISSING ? HOLDS_NOTHING : HOLDS_ROW;
      sort = rowSort;
      size = rowSize;
    }
  }

  // The ACTS of a thing, by its KIND, and THE TRACE. A body with its number is noted as it begins;
  // what a KIND adds stands around the body of plate, which "super" leads to in the end.
  private static final class Acting {
    private final int[] bodies = new int[MOST_TRACE];
    private int traced = 0;
    private boolean isParted = false;
    private int kind = PLATE;
    private int n = 0;
    private int a = 0;

    void begin(int ofKind, int number, int home) {
      kind = ofKind;
      n = number;
      a = home;
      traced = 0;
      isParted = false;
    }

    int perform(int act, int x) {
      int answer = 0;
      switch (act) {
        case 0: answer = lays(x); break;
        case 1: answer = tilts(x); break;
        case 2: answer = breaks(x); break;
        default: answer = shines(x); break;
      }
      return isParted ? PARTED_BY_0 : answer;
    }

    // nothing runs behind a parting by 0
    private void note(int body) {
      if (!isParted && traced < MOST_TRACE) bodies[traced++] = body;
    }

    private int lays(int x) {
      if (kind == DISH) note(20);
      if (kind == BOAT) note(50);
      note(10);
      int asPlate = x * 2 + n;
      if (kind == DISH) return asPlate * 3;
      return kind == BOAT ? asPlate ^ 4 : asPlate;
    }

    private int tilts(int x) {
      boolean isTureen = isUnder(kind, TUREEN);
      if (isTureen) note(30);
      if (kind == CRACKED) note(60);
      note(11);
      int asPlate = lays(isTureen ? x + 1 : x) - a;
      return kind == CRACKED ? asPlate - 60 : asPlate;
    }

    private int breaks(int x) {
      boolean isSaucer = isUnder(kind, SAUCER);
      if (kind == CRACKED) note(61);
      if (isSaucer) note(40);
      note(12);
      int by = n + a - 3;
      if (by == 0) {
        isParted = true;
        return 0;
      }
      int asSaucer = isSaucer ? 0 - x % by : x % by;
      return kind == CRACKED ? asSaucer ^ lays(a) : asSaucer;
    }

    private int shines(int x) {
      if (kind == BOAT) note(51);
      note(13);
      int tilted = tilts(x);
      int asPlate = tilted ^ breaks(x);
      return kind == BOAT ? asPlate + tilts(n) : asPlate;
    }
  }
}
