// The sentences of the document that name a boundary of the table: Terms 1, and the promises 1 to 12 and 15.
public final class TableEdgesTest {
  private static final Due due = new Due();
  private static final int FULL = -2, NONE = -3, STATE = -4;
  private static final int STAND = 1, LEAVE = 2;
  private static final String ALL_STAND = "plate stand;", ALL_LEAVE = "plate leave;";

  public static void main(String[] args) {
    lastCall();
    quotients();
    setsByBits();
    endAtFirst();
    eachEnd();
    yearAndEnd();
    newsAtFirst();
    moodByNews();
    newsOfEachYear();
    homesAtFirst();
    sixPieces();
    notSeatedAtFirst();
    spans();
    spansBeyond();
    there();
    grudges();
    wouldSit();
    sitDown();
    sitInVain();
    standing();
    leaving();
    steps();
    stepsToTheEnd();
    stepsByTheMoodThen();
    score();
    noNewsBehind15();
    anewOnly();
    due.end();
  }

  // no news, so that MOOD changes by PIECES alone
  private static BridgeService quiet() {
    BridgeService x = new BridgeService();
    for (int y = 0; y < 16; y++) x.news(y, 3);
    return x;
  }

  private static void lastCall() {
    due.sentence("An object is used for at most 512 calls after it has been made");
    BridgeService x = new BridgeService();
    int calls = 0;
    for (int round = 0; calls < 480; round++, calls += 8) {
      x.plate(1 + round % 5, round % 40, round % 10, round % 6);
      x.feed(0x3B746973L, 4);
      x.rules();
      x.year();
      x.prove(2);
      x.sheet(round % 4, round % 5, round % 41);
      x.act(0, 3, round);
      x.keep();
    }
    for (; calls < 510; calls++) x.again();
    due.is("the 511th call", x.many(0), 6);
    due.is("the 512th call", x.state(0), 12);
  }

  private static void quotients() {
    due.sentence("Quotients are cut towards 0.");
    BridgeService x = quiet();
    // a dish twice 1 and half of WIDTH; a saucer's GRUDGE half of ANGER; MOOD a third of GRUDGE less
    int[][] dishes = {{0, 2}, {1, 2}, {2, 4}, {3, 4}, {8, 10}, {9, 10}};
    x.plate(1, 20, 0, 0);
    for (int[] d : dishes) {
      x.change(0, 2, d[0]);
      due.is("width " + d[0], x.plateOf(0, 5), d[1]);
    }
    x.plate(4, 20, 0, 1);
    int[][] saucers = {{0, 0}, {1, 0}, {2, 1}, {3, 1}, {8, 4}, {9, 4}};
    for (int[] s : saucers) {
      x.home(1, 0, s[0]);
      due.is("anger " + s[0], x.plateOf(1, 6), s[1]);
    }
    x.change(1, 4, 1);
    x.home(0, 1, 9);
    int[][] moods = {{0, 9}, {1, 8}, {3, 8}, {4, 7}, {6, 7}, {7, 6}, {9, 6}};
    for (int[] m : moods) {
      x.anew();
      x.home(0, 0, m[0]);
      x.family(0, 9);
      x.year();
      due.is("grudge " + (m[0] + 2), x.state(6), m[1]);
    }
  }

  private static void setsByBits() {
    due.sentence("Sets are told by bits.");
    for (int set = 0; set < 64; set++) {
      BridgeService x = quiet();
      for (int k = 0; k < 6; k++) {
        x.plate(1, 30, 0, 0);
        x.change(k, 4, set >> k & 1);
      }
      due.is("seated", x.state(4), set);
      due.is("how many", x.many(2), Integer.bitCount(set));
      for (int k = 0; k < 6; k++) due.is("branch of " + k, x.branches(k), (set >> k & 1) == 1 ? 0 : 63 - set);
      due.is("supper", x.supper(0, set), 0);
      due.is("bars", x.bars(0, 63), set == 63 ? NONE : Integer.numberOfTrailingZeros(63 - set));
      x.prove(1);
      due.is("row", x.row(0, 2), set | Integer.lowestOneBit(63 - set));
    }
  }

  private static void endAtFirst() {
    due.sentence("END is 1 to 16 (12 at first); YEAR: the one that comes (0 at first); from END on it is OVER");
    BridgeService x = quiet();
    for (int y = 0; y < 12; y++) {
      due.is("year", x.state(0), y);
      due.is("over in " + y, x.state(3), 0);
      due.is("year " + y, x.year(), 0);
    }
    due.is("over in 12", x.state(3), 1);
    due.is("year 12", x.year(), STATE);
    due.is("lot in 12", x.lot(), STATE);
    due.is("year", x.state(0), 12);
  }

  private static void eachEnd() {
    due.sentence("END is 1 to 16 (12 at first)");
    for (int end = 1; end <= 16; end++) {
      BridgeService x = quiet();
      due.is("end " + end, x.ends(end), 12);
      for (int y = 0; y < end; y++) {
        due.is("over in " + y + " of " + end, x.state(3), 0);
        due.is("year " + y + " of " + end, y % 2 == 0 ? x.year() : x.lot(), 0);
      }
      due.is("over behind " + end, x.state(3), 1);
      due.is("one more year", x.year(), STATE);
      due.is("one more lot", x.lot(), STATE);
      due.is("year", x.state(0), end);
      due.is("the end itself", x.ends(end), end);
      due.is("end", x.state(1), end);
    }
  }

  private static void yearAndEnd() {
    due.sentence("BAD; STATE: v is below YEAR.");
    BridgeService x = quiet();
    x.ends(16);
    for (int year = 0; year <= 16; year++) {
      for (int v = 1; v <= 16; v++) {
        due.is("end " + v + " in the year " + year, x.ends(v), v < year ? STATE : 16);
        if (v >= year) due.is("back from " + v, x.ends(16), v);
        if (year > 8 && v < year - 2) v = year - 2;
      }
      x.year();
    }
  }

  private static void newsAtFirst() {
    due.sentence("Each of YEARS 0 to 15 has NEWS: 4 times its FORCE (0 to 3), and its WAY (0 better, 1 worse, 2 evener, 3 none); 4 at first.");
    BridgeService x = new BridgeService();
    x.ends(16);
    x.family(0, 0);
    for (int y = 0; y < 16; y++) {
      due.is("news of " + y, x.state(5), 4);
      x.year();
      due.is("mood behind " + y, x.state(6), Math.min(9, y + 1));
    }
    for (int y = 0; y < 16; y++) {
      due.is("news of " + y, x.news(y, y), 4);
      due.is("news of " + y, x.news(y, 15 - y), y);
    }
  }

  private static void moodByNews() {
    due.sentence("by its NEWS MOOD is better, worse by FORCE (0 to 9 held), or nearer to 5 by FORCE, not beyond");
    // by NEWS 0 to 15: what each MOOD 0 to 9 becomes
    String[] becomes = {"0123456789", "0123456789", "0123456789", "0123456789", "1234567899", "0012345678", "1234555678", "0123456789",
        "2345678999", "0001234567", "2345555567", "0123456789", "3456789999", "0000123456", "3455555556", "0123456789"};
    for (int v = 0; v < 16; v++) {
      BridgeService x = new BridgeService();
      due.is("news", x.news(0, v), 4);
      for (int mood = 0; mood <= 9; mood++) {
        x.anew();
        x.family(0, mood);
        x.year();
        due.is("mood " + mood + " by news " + v, x.state(6), becomes[v].charAt(mood) - '0');
      }
    }
  }

  private static void newsOfEachYear() {
    due.sentence("(1) by its NEWS MOOD is better, worse by FORCE");
    for (int year = 0; year < 16; year++) {
      BridgeService x = quiet();
      x.ends(16);
      x.news(year, 13);
      for (int y = 0; y < 16; y++) {
        x.year();
        due.is("worse in " + year + ", behind " + y, x.state(6), y < year ? 5 : 2);
      }
    }
  }

  private static void homesAtFirst() {
    due.sentence("HOMES 0 to 5 each have ANGER (0 to 9; 0 at first), WELCOME (0 to 9; 3 at first).");
    for (int f = 0; f < 6; f++) {
      BridgeService x = new BridgeService();
      due.is("anger", x.home(f, 0, 9), 0);
      due.is("welcome", x.home(f, 1, 9), 3);
      for (int other = 0; other < 6; other++) {
        due.is("anger of " + other, x.homeOf(other, 0), other == f ? 9 : 0);
        due.is("welcome of " + other, x.homeOf(other, 1), other == f ? 9 : 3);
      }
      due.is("anger", x.home(f, 0, 0), 9);
      due.is("welcome", x.home(f, 1, 0), 9);
      due.is("anger", x.homeOf(f, 0), 0);
      due.is("welcome", x.homeOf(f, 1), 0);
    }
  }

  private static void sixPieces() {
    due.sentence("PIECES, 6 at most, numbered as they come: a KIND, a FIRST place (0 to 39), a WIDTH (0 to 9), a HOME; SEATED or not (at first).");
    BridgeService x = new BridgeService();
    for (int k = 0; k < 6; k++) {
      due.is("pieces", x.many(0), k);
      due.is("piece " + k, x.plate(1 + k % 5, k == 5 ? 39 : k, k == 4 ? 9 : 0, 5 - k), k);
    }
    for (int i = 0; i < 3; i++) due.is("one more", x.plate(1, 0, 0, 0), FULL);
    due.is("pieces", x.many(0), 6);
    for (int k = 0; k < 6; k++) {
      int[] is = {1 + k % 5, k == 5 ? 39 : k, k == 4 ? 9 : 0, 5 - k, 0};
      for (int what = 0; what < 5; what++) due.is("piece " + k + ", " + what, x.plateOf(k, what), is[what]);
    }
  }

  private static void notSeatedAtFirst() {
    due.sentence("SEATED or not (at first)");
    BridgeService x = quiet();
    for (int k = 0; k < 6; k++) {
      x.plate(1, 0, 0, 0);
      due.is("none sits", x.state(4), 0);
      due.is("none sits", x.many(2), 0);
    }
    // a piece that comes again behind again() is not seated, although one of its number was
    BridgeService y = quiet();
    y.keep();
    y.plate(1, 0, 0, 0);
    y.change(0, 4, 1);
    y.again();
    due.is("none sits", y.state(4), 0);
    y.plate(1, 0, 0, 0);
    due.is("none sits", y.plateOf(0, 4), 0);
  }

  // by WIDTH 0 to 9
  private static String spansBy(int kind, int year) {
    switch (kind) {
      case 1: return "2 2 4 4 6 6 8 8 10 10";
      case 2: return "3 3 4 4 5 5 6 6 7 7";
      case 3: return year % 2 == 1 ? "1 1 1 1 1 1 1 1 1 1" : "3 3 4 4 5 5 6 6 7 7";
      case 4: return "1 1 2 2 2 2 2 2 2 2";
      default: return year == 0 || year == 3 || year == 6 || year == 9 || year == 12 || year == 15 ? "0 0 0 0 0 0 0 0 0 0" : "1 1 2 2 2 2 2 2 2 2";
    }
  }

  private static void spans() {
    due.sentence("plate: 1, and half (cut) of WIDTH. dish: twice a plate. tureen: 2 more than a plate. boat: as tureen, but 1 in odd YEARS. "
        + "saucer: as a plate, 2 at most. cracked: as saucer, but 0 in YEARS that 3 divides.");
    for (int kind = 1; kind <= 5; kind++) {
      BridgeService x = quiet();
      x.ends(16);
      x.plate(kind, 0, 0, 0);
      Say.rules(x, ALL_STAND);
      for (int year = 0; year <= 16; year++) {
        String[] due9 = spansBy(kind, year).split(" ");
        for (int w = 0; w <= 9; w++) {
          x.change(0, 2, w);
          due.is("kind " + kind + ", width " + w + ", year " + year, x.plateOf(0, 5), Integer.parseInt(due9[w]));
        }
        x.year();
      }
    }
  }

  private static void spansBeyond() {
    due.sentence("as many as told here, were THE BRIDGE so long");
    BridgeService x = quiet();
    x.plate(1, 39, 9, 0);
    x.plate(2, 34, 9, 0);
    due.is("a dish from 39 on", x.plateOf(0, 5), 10);
    due.is("a tureen from 34 on", x.plateOf(1, 5), 7);
    x.change(0, 4, 1);
    due.is("only 39 is there", x.gap(1), 39);
    x.change(1, 4, 1);
    due.is("34 to 39 are there", x.gap(1), 34);
    due.is("the least without a piece", x.gap(0), 0);
    x.family(1, 34);
    due.is("none from 34 on", x.gap(0), NONE);
    due.is("not back to the beginning", quietAt(x, 0), 0);
    due.is("she comes across and not beyond", quietAt(x, 34), 12);
    due.is("she", x.state(7), 40);
  }

  // a year by which SHE starts at a place, by MOOD 9, all PIECES standing
  private static int quietAt(BridgeService x, int place) {
    Say.rules(x, ALL_STAND);
    x.family(0, 9);
    x.family(1, place);
    return x.year();
  }

  private static void there() {
    due.sentence("A PLACE is THERE, if a SEATED PIECE SPANS it.");
    BridgeService x = quiet();
    x.plate(1, 10, 3, 0);
    Say.rules(x, ALL_STAND);
    int[] places = {0, 9, 10, 11, 12, 13, 14, 39, 40};
    for (int i = 0; i < 2; i++) {
      x.anew();
      x.family(0, 0);
      x.change(0, 4, i);
      for (int place : places) {
        boolean is = i == 1 && place >= 10 && place <= 13;
        x.family(1, place);
        due.is("seated " + i + ", from " + place, x.year(), is ? 2 : 0);
        due.is("she", x.state(7), is ? place + 1 : place);
      }
    }
    due.is("36 are not there", x.gap(1), 36);
    x.change(0, 1, 0);
    x.family(1, 0);
    due.is("the first place", x.year(), 2);
    x.change(0, 1, 36);
    x.family(1, 39);
    due.is("the last place", x.year(), 2);
  }

  private static void grudges() {
    due.sentence("plate: ANGER. dish: 2 more. tureen: ANGER, and its number. boat: 3 less than tureen (0 at least). "
        + "saucer: half (cut) of ANGER. cracked: twice as saucer.");
    // by ANGER 0 to 9
    int[] dish = {2, 3, 4, 5, 6, 7, 8, 9, 10, 11};
    int[] saucer = {0, 0, 1, 1, 2, 2, 3, 3, 4, 4};
    int[] cracked = {0, 0, 2, 2, 4, 4, 6, 6, 8, 8};
    int[][] tureen = {{0, 1, 2, 3, 4, 5, 6, 7, 8, 9}, {1, 2, 3, 4, 5, 6, 7, 8, 9, 10}, {2, 3, 4, 5, 6, 7, 8, 9, 10, 11},
        {3, 4, 5, 6, 7, 8, 9, 10, 11, 12}, {4, 5, 6, 7, 8, 9, 10, 11, 12, 13}, {5, 6, 7, 8, 9, 10, 11, 12, 13, 14}};
    int[][] boat = {{0, 0, 0, 0, 1, 2, 3, 4, 5, 6}, {0, 0, 0, 1, 2, 3, 4, 5, 6, 7}, {0, 0, 1, 2, 3, 4, 5, 6, 7, 8},
        {0, 1, 2, 3, 4, 5, 6, 7, 8, 9}, {1, 2, 3, 4, 5, 6, 7, 8, 9, 10}, {2, 3, 4, 5, 6, 7, 8, 9, 10, 11}};
    for (int kind = 1; kind <= 5; kind++) {
      BridgeService x = new BridgeService();
      for (int k = 0; k < 6; k++) x.plate(kind, 0, 9, 3);
      for (int anger = 0; anger <= 9; anger++) {
        x.home(3, 0, anger);
        for (int k = 0; k < 6; k++) {
          int want = kind == 1 ? dish[anger] : kind == 2 ? tureen[k][anger] : kind == 3 ? boat[k][anger] : kind == 4 ? saucer[anger] : cracked[anger];
          due.is("kind " + kind + ", number " + k + ", anger " + anger, x.plateOf(k, 6), want);
        }
      }
    }
  }

  private static void wouldSit() {
    due.sentence("One WOULD sit, if it is not SEATED, and its GRUDGE is no more than MOOD and WELCOME of its HOME together.");
    BridgeService x = quiet();
    x.plate(1, 9, 0, 4);
    // GRUDGE 11 by ANGER 9
    x.home(4, 0, 9);
    int[][] moods = {{9, 2, 1}, {8, 2, 0}, {9, 1, 0}, {2, 9, 1}, {1, 9, 0}, {9, 9, 1}, {0, 9, 0}, {5, 6, 1}, {5, 5, 0}};
    for (int[] m : moods) {
      x.family(0, m[0]);
      x.home(4, 1, m[1]);
      due.is("mood " + m[0] + ", welcome " + m[1], x.plateOf(0, 7), m[2]);
      due.is("it sits in the first year", x.when(0), m[2] == 1 ? 0 : NONE);
    }
    x.family(0, 9);
    x.home(4, 1, 9);
    x.change(0, 4, 1);
    due.is("it is seated", x.plateOf(0, 7), 0);
    // GRUDGE 0 by MOOD 0 and WELCOME 0
    x.change(0, 4, 0);
    x.remake(0, 4);
    x.home(4, 1, 0);
    x.family(0, 0);
    int[] would = {1, 1, 0, 0};
    for (int anger = 0; anger < 4; anger++) {
      x.home(4, 0, anger);
      due.is("a saucer by anger " + anger, x.plateOf(0, 7), would[anger]);
    }
    // WELCOME is that of its own HOME
    x.home(3, 1, 9);
    due.is("another home's welcome", x.plateOf(0, 7), 0);
  }

  // tells PIECE 0 alone, by a SHEET: what the YEAR was WORTH
  private static int tell(BridgeService x) {
    x.sheet(0, 0, 1);
    x.write(0, 0, 1);
    return x.goAll(0, 0, 1);
  }

  private static void sitDown() {
    due.sentence("if it WOULD sit, it is SEATED, MOOD is a third (cut) of its GRUDGE less (0 at least), WORTH 1");
    // by ANGER 0 to 9 a dish's GRUDGE is 2 to 11
    int[] less = {0, 1, 1, 1, 2, 2, 2, 3, 3, 3};
    for (int anger = 0; anger <= 9; anger++) {
      BridgeService x = quiet();
      x.plate(1, 20, 0, 0);
      x.home(0, 0, anger);
      x.home(0, 1, 9);
      for (int mood : new int[] {9, 3, 2}) {
        x.anew();
        x.family(0, mood);
        due.is("worth", tell(x), 1);
        due.is("seated", x.plateOf(0, 4), 1);
        due.is("mood " + mood + " by anger " + anger, x.state(6), Math.max(0, mood - less[anger]));
      }
    }
    // GRUDGE 8 of a tureen by MOOD 0 and WELCOME 9
    BridgeService x = quiet();
    x.plate(2, 20, 0, 0);
    x.home(0, 0, 8);
    x.home(0, 1, 9);
    x.family(0, 0);
    due.is("worth", tell(x), 1);
    due.is("0 at least", x.state(6), 0);
  }

  private static void sitInVain() {
    due.sentence("sit: nothing, if it is SEATED");
    BridgeService x = quiet();
    x.plate(1, 20, 0, 0);
    x.home(0, 0, 9);
    x.home(0, 1, 0);
    x.change(0, 4, 1);
    for (int mood : new int[] {0, 5, 9}) {
      x.family(0, mood);
      due.is("worth", tell(x), 0);
      due.is("mood", x.state(6), mood);
      due.is("seated", x.plateOf(0, 4), 1);
    }
    due.sentence("else MOOD is 1 less (0 at least)");
    x.change(0, 4, 0);
    for (int mood = 9; mood >= 0; mood--) {
      if (x.state(3) == 1) x.anew();
      x.family(0, mood);
      due.is("worth", tell(x), 0);
      due.is("mood", x.state(6), mood == 0 ? 0 : mood - 1);
      due.is("not seated", x.plateOf(0, 4), 0);
    }
  }

  private static void standing() {
    due.sentence("stand: nothing.");
    BridgeService x = quiet();
    x.plate(1, 20, 0, 0);
    Say.rules(x, ALL_STAND);
    due.is("will", x.plateOf(0, 8), STAND);
    for (int seated = 0; seated < 2; seated++) {
      x.change(0, 4, seated);
      for (int mood : new int[] {0, 5, 9}) {
        x.family(0, mood);
        due.is("worth", tell(x), 0);
        due.is("mood", x.state(6), mood);
        due.is("as it was", x.plateOf(0, 4), seated);
      }
    }
  }

  private static void leaving() {
    due.sentence("leave: if it is SEATED, it is so no more, and MOOD is 1 more (9 held).");
    BridgeService x = quiet();
    x.plate(1, 20, 0, 0);
    x.plate(1, 30, 0, 0);
    x.change(1, 4, 1);
    Say.rules(x, ALL_LEAVE);
    due.is("will", x.plateOf(0, 8), LEAVE);
    int[] moods = {0, 8, 9, 5};
    int[] more = {1, 9, 9, 6};
    for (int i = 0; i < 4; i++) {
      x.change(0, 4, 1);
      x.family(0, moods[i]);
      due.is("worth", tell(x), 0);
      due.is("mood " + moods[i], x.state(6), more[i]);
      due.is("it left", x.state(4), 2);
      x.family(0, moods[i]);
      due.is("worth", tell(x), 0);
      due.is("it isn't there", x.state(6), moods[i]);
      due.is("it isn't there", x.state(4), 2);
    }
  }

  private static void steps() {
    due.sentence("by MOOD and 1 PLACES at most: WORTH 2 more for each");
    BridgeService x = quiet();
    for (int k = 0; k < 4; k++) {
      x.plate(1, 10 * k, 9, 0);
      x.change(k, 4, 1);
    }
    Say.rules(x, ALL_STAND);
    for (int mood = 0; mood <= 9; mood++) {
      x.family(0, mood);
      x.family(1, 3);
      due.is("mood " + mood, x.year(), 2 * (mood + 1));
      due.is("she", x.state(7), 4 + mood);
    }
    due.sentence("as long as the one that SHE is AT is THERE");
    x.anew();
    x.change(1, 4, 1);
    for (int from = 8; from <= 21; from++) {
      if (x.state(3) == 1) x.anew();
      x.change(1, 4, 1);
      x.family(0, 9);
      x.family(1, from);
      int steps = from < 10 || from > 19 ? 0 : 20 - from;
      due.is("from " + from, x.year(), 2 * steps);
      due.is("she", x.state(7), from + steps);
    }
  }

  private static void stepsToTheEnd() {
    due.sentence("THE BRIDGE has PLACES 0 to 39; SHE is AT one of them (0 at first), or AT 40, across.");
    BridgeService x = quiet();
    due.is("she", x.state(7), 0);
    x.plate(1, 30, 9, 0);
    x.change(0, 4, 1);
    for (int from = 30; from <= 40; from++) {
      x.family(0, 9);
      x.family(1, from);
      due.is("from " + from, x.year(), 2 * (40 - from));
      due.is("across", x.state(7), 40);
    }
    x.family(0, 3);
    x.family(1, 35);
    x.ends(16);
    due.is("not across yet", x.year(), 8);
    due.is("she", x.state(7), 39);
    due.is("the last place", x.year(), 2);
    due.is("across", x.state(7), 40);
    due.is("no more", x.year(), 0);
    due.is("across", x.state(7), 40);
  }

  // the MOOD that (1) and (2) left is what SHE goes on by, and who sat or left just then counts
  private static void stepsByTheMoodThen() {
    due.sentence("(3) SHE goes on, PLACE by PLACE");
    BridgeService x = quiet();
    x.plate(1, 0, 9, 0);
    x.home(0, 0, 7);
    x.home(0, 1, 9);
    due.is("it sits: MOOD 5 becomes 2", tell(x), 7);
    due.is("she", x.state(7), 3);
    x.family(1, 0);
    Say.rules(x, ALL_LEAVE);
    due.is("it leaves: not a place is there", tell(x), 0);
    due.is("she", x.state(7), 0);
    x.rules();
    x.news(2, 9);
    x.home(0, 0, 0);
    x.family(0, 5);
    due.is("news make MOOD 5 to 3", tell(x), 9);
    due.is("she", x.state(7), 4);
    // who would sit by MOOD behind the news alone
    BridgeService y = quiet();
    y.plate(1, 20, 0, 0);
    y.home(0, 0, 9);
    y.home(0, 1, 5);
    due.is("would not sit yet", y.plateOf(0, 7), 0);
    y.news(0, 4);
    due.is("sits behind the news", tell(y), 1);
    y.anew();
    y.news(0, 3);
    due.is("does not without", tell(y), 0);
    y.anew();
    y.family(0, 6);
    y.news(0, 5);
    due.is("would sit", y.plateOf(0, 7), 1);
    due.is("does not behind the news", tell(y), 0);
  }

  private static void score() {
    due.sentence("SCORE: what YEARS were WORTH (0 at first).");
    BridgeService x = quiet();
    x.plate(1, 0, 2, 0);
    x.plate(1, 4, 2, 0);
    due.is("at first", x.state(2), 0);
    int[] asked = {x.on(16), x.best(4), x.game(4), x.times(3, 0), x.prove(4), x.judge()};
    due.is("what is asked counts nothing", x.state(2), 0);
    due.is("asked", asked[0], 18);
    due.is("a year", x.year(), 9);
    due.is("score", x.state(2), 9);
    x.seed(1);
    due.is("a lot", x.lot(), 9);
    due.is("score", x.state(2), 18);
    due.is("worth nothing", x.year(), 0);
    due.is("score", x.state(2), 18);
    x.family(1, 0);
    due.is("by a sheet", tell(x), 12);
    due.is("score", x.state(2), 30);
    x.ends(4);
    due.is("over", x.year(), STATE);
    due.is("score", x.state(2), 30);
    x.anew();
    due.is("anew", x.state(2), 0);
  }

  private static void noNewsBehind15() {
    due.sentence("5 NEWS of YEAR (0 behind YEAR 15)");
    BridgeService x = new BridgeService();
    x.ends(16);
    for (int y = 0; y < 16; y++) {
      x.news(y, 15 - y);
      due.is("news of " + y, x.state(5), 15 - y);
      x.year();
    }
    due.is("year", x.state(0), 16);
    due.is("news", x.state(5), 0);
    x.news(15, 7);
    due.is("news", x.state(5), 0);
    due.is("over", x.state(3), 1);
    // what is asked of a table that is over in the year 16
    x.plate(3, 0, 8, 0);
    due.is("a boat in the year 16", x.plateOf(0, 5), 7);
    due.is("will", x.plateOf(0, 8), 0);
    due.is("on", x.on(16), 0);
    due.is("best", x.best(4), 0);
    due.is("ways", x.ways(4), 1);
    due.is("gap", x.gap(0), 7);
  }

  private static void anewOnly() {
    due.sentence("YEAR is 0 again, SCORE 0, MOOD 5, SHE is AT 0, no PIECE is SEATED: what YEAR was.");
    BridgeService x = Twins.full();
    x.family(0, 9);
    x.family(1, 40);
    for (int k = 0; k < 6; k++) x.change(k, 4, 1);
    x.ends(16);
    for (int y = 1; y < 16; y++) x.year();
    due.is("what it was", x.anew(), 16);
    int[] states = {0, 16, 0, 0, 0, 4, 5, 0};
    for (int what = 0; what < 8; what++) due.is("state " + what, x.state(what), states[what]);
    due.is("what it was", x.anew(), 0);
    int[] many = {6, 8, 0, 6, 4, 200, 4};
    for (int what = 0; what < 6; what++) due.is("many " + what, x.many(what), many[what]);
    due.is("what was kept stays", x.again(), 6);
    due.is("the year that was kept", x.state(0), 1);
  }
}
