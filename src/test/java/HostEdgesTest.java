// The sentences of the document that name a boundary of things, SHEETS and SHELVES, and of what is kept:
// the end of Terms 3, and the promises 42 to 53.
public final class HostEdgesTest {
  private static final Due due = new Due();
  private static final int BAD = -1, NONE = -3, STATE = -4;
  private static final int NOTHING = -11, OUTSIDE = -12, OTHER = -13, BELOW_0 = -14, PARTED = -15;
  private static final int MOST_INT = Integer.MAX_VALUE, LEAST_INT = Integer.MIN_VALUE;

  public static void main(String[] args) {
    missingAtFirst();
    sizes();
    narrowed();
    takenForASort();
    asLowAsThese();
    order();
    goAll();
    goAllLeavesOut();
    goAllOutside();
    wouldBe();
    wouldBeByItems();
    nothingAtFirst();
    pieceByNumber();
    rowOnShelf();
    takenAs();
    leavings();
    parted();
    intsThatWrap();
    traceOfTheLatest();
    noTraceThen();
    answersBelow0();
    manyAtFirst();
    keptLatest();
    keptBut();
    due.end();
  }

  // no news, so that MOOD changes by PIECES alone
  private static BridgeService quiet() {
    BridgeService x = new BridgeService();
    for (int y = 0; y < 16; y++) x.news(y, 3);
    return x;
  }

  private static void missingAtFirst() {
    due.sentence("SHEETS 0 to 3 are rows of bytes (sort 0), shorts (1), ints (2), longs (3) or booleans (4), 40 at most, or missing (at first).");
    BridgeService x = new BridgeService();
    for (int s = 0; s < 4; s++) {
      due.is("write", x.write(s, 0, 1), NOTHING);
      for (int sort = 0; sort <= 4; sort++) due.is("item", x.item(s, sort, 0), NOTHING);
      due.is("goAll", x.goAll(s, 0, 1), NOTHING);
      due.is("wouldBe", x.wouldBe(s, 0, 1), NOTHING);
      due.is("shelf", x.shelf(s, 1, s), 1);
      due.is("taken", x.taken(s, 10), NOTHING);
    }
    due.is("sheet 4", x.sheet(4, 0, 1), BAD);
    due.is("sheet -1", x.sheet(-1, 0, 1), BAD);
  }

  private static void sizes() {
    due.sentence("A SHEET becomes a row of n of a sort, all 0, or missing (sort -1; n counts nothing then): 1. BAD: no such SHEET, sort, n above 40; -14.");
    for (int sort = 0; sort <= 4; sort++) {
      BridgeService x = new BridgeService();
      int s = sort % 4;
      for (int n : new int[] {0, 1, 39, 40}) {
        due.is("size " + n, x.sheet(s, sort, n), 1);
        due.is("the first beyond", x.item(s, sort, n), OUTSIDE);
        due.is("the first beyond", x.write(s, n, 1), OUTSIDE);
        due.is("ahead of the first", x.item(s, sort, -1), OUTSIDE);
        due.is("ahead of the first", x.write(s, -1, 1), OUTSIDE);
        if (n == 0) continue;
        due.is("the last is 0", x.item(s, sort, n - 1), 0);
        due.is("the last", x.write(s, n - 1, 1), 1);
        due.is("the last", x.item(s, sort, n - 1), 1);
        due.is("the first is 0", x.item(s, sort, 0), n == 1 ? 1 : 0);
      }
      due.is("41", x.sheet(s, sort, 41), BAD);
      due.is("-1", x.sheet(s, sort, -1), BELOW_0);
      due.is("the last of 40 is as it was", x.item(s, sort, 39), 1);
      // what stood there is gone, whichever sort comes
      for (int other = 0; other <= 4; other++) {
        x.sheet(s, other, 40);
        for (int i : new int[] {0, 38, 39}) due.is("all 0", x.item(s, other, i), 0);
        x.write(s, 39, 1);
      }
      due.is("missing", x.sheet(s, -1, 41), 1);
      due.is("nothing", x.item(s, sort, 39), NOTHING);
      due.is("missing again", x.sheet(s, -1, -1), 1);
      x.sheet(s, sort, 40);
      due.is("all 0", x.item(s, sort, 39), 0);
    }
  }

  private static void narrowed() {
    due.sentence("Item i becomes v, narrowed to its sort (booleans: whether it is not 0)");
    int[] v = {0, 1, -1, 127, 128, 129, 255, 256, -128, -129, 32767, 32768, 65535, 65536, -32768, -32769, MOST_INT, LEAST_INT};
    int[] bytes = {0, 1, -1, 127, -128, -127, -1, 0, -128, 127, -1, 0, -1, 0, 0, -1, -1, 0};
    int[] shorts = {0, 1, -1, 127, 128, 129, 255, 256, -128, -129, 32767, -32768, -1, 0, -32768, 32767, -1, 0};
    int[] booleans = {0, 1, 1, 1, 1, 1, 1, 1, 1, 1, 1, 1, 1, 1, 1, 1, 1, 1};
    int[][] items = {bytes, shorts, v, v, booleans};
    for (int sort = 0; sort <= 4; sort++) {
      BridgeService x = new BridgeService();
      x.sheet(2, sort, 40);
      for (int i = 0; i < v.length; i++) due.is("write", x.write(2, i, v[i]), 1);
      for (int i = 0; i < v.length; i++) due.is("sort " + sort + ", " + v[i], x.item(2, sort, i), items[sort][i]);
      for (int i = v.length; i < 40; i++) due.is("the others", x.item(2, sort, i), 0);
    }
  }

  private static void takenForASort() {
    due.sentence("Item i, taken for a sort (0 to 4; of longs the lowest 32 bits; of booleans 1, 0). BAD: no such SHEET, sort; -13; -11; -12.");
    for (int sort = 0; sort <= 4; sort++) {
      BridgeService x = new BridgeService();
      x.sheet(0, sort, 1);
      x.write(0, 0, 3);
      for (int as = -1; as <= 5; as++) {
        boolean isSort = as >= 0 && as <= 4;
        due.is("sort " + sort + " as " + as, x.item(0, as, 0), !isSort ? BAD : as != sort ? OTHER : sort == 4 ? 1 : 3);
        due.is("outside, as " + as, x.item(0, as, 1), !isSort ? BAD : as != sort ? OTHER : OUTSIDE);
      }
    }
  }

  private static void asLowAsThese() {
    due.sentence("(An item may be as low as these, too.)");
    BridgeService x = new BridgeService();
    x.sheet(0, 0, 20);
    for (int i = 0; i < 20; i++) x.write(0, i, -i);
    for (int i = 0; i < 20; i++) due.is("item", x.item(0, 0, i), -i);
  }

  private static void order() {
    due.sentence("of several the first named: BAD (-1) there is no such thing, or a number is not as told; FULL (-2); NONE (-3); STATE (-4); and what the host refuses");
    BridgeService x = new BridgeService();
    x.sheet(0, 0, 3);
    x.sheet(1, 2, 3);
    int[][] items = {{4, 0, 9, BAD}, {0, 5, 9, BAD}, {3, 5, 9, BAD}, {1, 0, 9, OTHER}, {3, 0, 9, NOTHING}, {0, 0, 9, OUTSIDE}};
    for (int[] w : items) due.is("item", x.item(w[0], w[1], w[2]), w[3]);
    int[][] writes = {{4, 9, BAD}, {3, 9, NOTHING}, {0, 9, OUTSIDE}};
    for (int[] w : writes) due.is("write", x.write(w[0], w[1], 1), w[2]);
    int[][] goes = {{4, 9, 1, BAD}, {4, 9, 21, BAD}, {1, 9, 21, BAD}, {3, 9, 21, BAD}, {0, 9, 21, BAD}, {1, 9, 1, OTHER}, {3, 9, 1, NOTHING}, {0, 9, 1, OUTSIDE}};
    for (int[] w : goes) {
      due.is("goAll", x.goAll(w[0], w[1], w[2]), w[3]);
      due.is("wouldBe", x.wouldBe(w[0], w[1], w[2]), w[3]);
    }
    int[][] sheets = {{4, 0, -1, BAD}, {0, 5, -1, BAD}, {0, -2, -1, BAD}, {0, 4, -1, BELOW_0}};
    for (int[] w : sheets) due.is("sheet", x.sheet(w[0], w[1], w[2]), w[3]);
    int[][] taken = {{4, 0, BAD}, {0, 6, BAD}, {4, 15, BAD}, {0, 0, NOTHING}};
    for (int[] w : taken) due.is("taken", x.taken(w[0], w[1]), w[2]);
  }

  // dishes that span 0 to 3 and 4 to 7, both willing; MOOD 5 stays
  private static BridgeService twoDishes() {
    BridgeService x = quiet();
    x.plate(1, 0, 2, 0);
    x.plate(1, 4, 2, 0);
    return x;
  }

  private static void states(BridgeService x, int year, int score, int seated) {
    due.is("year", x.state(0), year);
    due.is("score", x.state(2), score);
    due.is("seated", x.state(4), seated);
  }

  private static void goAll() {
    due.sentence("n (0 to 20) items of a SHEET taken for bytes, from item i on, are ACTS, each followed by a YEAR");
    BridgeService x = twoDishes();
    x.ends(16);
    x.sheet(0, 0, 40);
    x.write(0, 39, 1);
    x.write(0, 19, 2);
    due.is("none", x.goAll(0, 0, 0), 0);
    due.is("none at the end", x.goAll(0, 40, 0), 0);
    states(x, 0, 0, 0);
    due.is("the last item", x.goAll(0, 39, 1), 9);
    states(x, 1, 9, 1);
    due.is("20, the last of them an act, but over ahead of it", x.goAll(0, 0, 20), 0);
    states(x, 16, 9, 1);
    x.anew();
    due.is("the last 20", x.goAll(0, 20, 20), 0);
    states(x, 16, 0, 0);
    x.anew();
    x.write(0, 25, 2);
    due.is("from 20 on: the second dish, never reached", x.goAll(0, 20, 20), 1);
    states(x, 16, 1, 2);
    due.is("21", x.goAll(0, 0, 21), BAD);
    due.is("-1", x.goAll(0, 0, -1), BAD);
    states(x, 16, 1, 2);
  }

  private static void goAllLeavesOut() {
    due.sentence("(what is none, or when it is OVER, is left out)");
    BridgeService x = twoDishes();
    x.sheet(0, 0, 10);
    int[] none = {-128, -1, 3, 4, 127};
    for (int i = 0; i < 5; i++) x.write(0, i, none[i]);
    due.is("none is an act", x.goAll(0, 0, 5), 0);
    states(x, 0, 0, 0);
    // what is narrowed to an act is one: 257 is 1
    x.write(0, 5, 257);
    x.write(0, 7, 2);
    due.is("among others", x.goAll(0, 0, 8), 18);
    states(x, 3, 18, 3);
    x.ends(3);
    due.is("over: all are left out", x.goAll(0, 0, 10), 0);
    states(x, 3, 18, 3);
    BridgeService y = quiet();
    y.sheet(0, 0, 2);
    y.write(0, 1, 1);
    due.is("without pieces 0 alone is an act", y.goAll(0, 0, 2), 0);
    states(y, 1, 0, 0);
  }

  private static void goAllOutside() {
    due.sentence("BAD: no such SHEET, n; -13; -11; -12: what stood ahead was done.");
    BridgeService x = twoDishes();
    x.sheet(0, 0, 2);
    x.write(0, 0, 1);
    x.write(0, 1, 2);
    for (int i : new int[] {2, -1, -20, LEAST_INT, MOST_INT, MOST_INT - 5}) due.is("the first is outside", x.goAll(0, i, 20), OUTSIDE);
    states(x, 0, 0, 0);
    due.is("the second is outside", x.goAll(0, 1, 2), OUTSIDE);
    states(x, 1, 1, 2);
    due.is("the third is outside", x.goAll(0, 0, 3), OUTSIDE);
    states(x, 3, 18, 3);
    x.ends(3);
    due.is("over, and outside", x.goAll(0, 0, 3), OUTSIDE);
    states(x, 3, 18, 3);
    x.sheet(1, 0, 0);
    due.is("an empty sheet, none asked", x.goAll(1, 0, 0), 0);
    due.is("an empty sheet", x.goAll(1, 0, 1), OUTSIDE);
  }

  private static void wouldBe() {
    due.sentence("n (0 to 20) items likewise: what they would be WORTH.");
    BridgeService x = twoDishes();
    x.ends(16);
    x.sheet(0, 0, 40);
    x.write(0, 20, 1);
    x.write(0, 35, 2);
    x.write(0, 39, 1);
    due.is("none", x.wouldBe(0, 0, 0), 0);
    due.is("none at the end", x.wouldBe(0, 40, 0), 0);
    due.is("the last item", x.wouldBe(0, 39, 1), 9);
    due.is("16 of them", x.wouldBe(0, 20, 16), 18);
    due.is("17 of them: over ahead of the last", x.wouldBe(0, 20, 17), STATE);
    due.is("21", x.wouldBe(0, 0, 21), BAD);
    due.is("-1", x.wouldBe(0, 0, -1), BAD);
    states(x, 0, 0, 0);
  }

  private static void wouldBeByItems() {
    due.sentence("then, by items, -12; STATE: one is no ACT, or it would be OVER ahead of it.");
    BridgeService x = twoDishes();
    x.sheet(0, 0, 3);
    for (int act : new int[] {-128, -1, 3, 127}) {
      x.write(0, 1, act);
      due.is("the first alone", x.wouldBe(0, 0, 1), 0);
      due.is("act " + act, x.wouldBe(0, 0, 2), STATE);
      due.is("no act ahead of what is outside", x.wouldBe(0, 1, 3), STATE);
    }
    x.write(0, 1, 2);
    due.is("the last act", x.wouldBe(0, 0, 3), 1);
    due.is("outside", x.wouldBe(0, 0, 4), OUTSIDE);
    due.is("outside", x.wouldBe(0, 3, 1), OUTSIDE);
    due.is("outside", x.wouldBe(0, -1, 1), OUTSIDE);
    due.is("outside", x.wouldBe(0, MOST_INT, 20), OUTSIDE);
    x.ends(2);
    due.is("two years yet", x.wouldBe(0, 0, 2), 1);
    due.is("over ahead of the third", x.wouldBe(0, 0, 3), STATE);
    due.is("over ahead of the third, the fourth outside", x.wouldBe(0, 0, 4), STATE);
    due.is("outside, and over ahead of it", x.wouldBe(0, 1, 3), OUTSIDE);
    x.ends(1);
    due.is("over ahead of the second, the third outside", x.wouldBe(0, 1, 3), STATE);
    x.year();
    due.is("over, none asked", x.wouldBe(0, 0, 0), 0);
    due.is("over", x.wouldBe(0, 0, 1), STATE);
    due.is("over and no act", x.wouldBe(0, 0, 1), STATE);
    due.is("over and outside", x.wouldBe(0, 3, 1), OUTSIDE);
    // an ACT is one by the PIECES that there are
    BridgeService y = quiet();
    y.sheet(0, 0, 1);
    for (int pieces = 0; pieces <= 6; pieces++) {
      y.write(0, 0, pieces);
      due.is("the last piece of " + pieces, y.wouldBe(0, 0, 1), pieces == 0 ? 0 : 1);
      y.write(0, 0, pieces + 1);
      due.is("one more than " + pieces, y.wouldBe(0, 0, 1), STATE);
      y.plate(1, 30, 0, 0);
    }
  }

  private static void nothingAtFirst() {
    due.sentence("SHELVES 0 to 3 hold a PIECE (by its number; nothing, if there is no such one at the time), a SHEET's row, or nothing (at first).");
    BridgeService x = new BridgeService();
    x.plate(1, 0, 0, 0);
    x.sheet(0, 0, 1);
    for (int s = 0; s < 4; s++) {
      for (int as : new int[] {0, 5, 10, 14}) due.is("taken", x.taken(s, as), NOTHING);
      due.is("act", x.act(s, 0, 5), 0);
    }
    due.is("shelf 4", x.shelf(4, 0, 0), BAD);
    due.is("shelf -1", x.shelf(-1, 0, 0), BAD);
    // each shelf holds its own, the latest that came
    for (int s = 0; s < 4; s++) due.is("piece", x.shelf(s, 0, 0), 1);
    due.is("row", x.shelf(1, 1, 0), 1);
    due.is("nothing", x.shelf(2, 2, 0), 1);
    int[] dishes = {0, OTHER, NOTHING, 0};
    int[] bytes = {OTHER, 1, NOTHING, OTHER};
    for (int s = 0; s < 4; s++) {
      due.is("as a dish", x.taken(s, 1), dishes[s]);
      due.is("as bytes", x.taken(s, 10), bytes[s]);
    }
    due.is("a piece in place of the row", x.shelf(1, 0, 0) + x.taken(1, 0), 1);
  }

  private static void pieceByNumber() {
    due.sentence("(by its number; nothing, if there is no such one at the time)");
    BridgeService x = new BridgeService();
    x.plate(1, 0, 0, 0);
    x.keep();
    x.plate(2, 0, 0, 5);
    x.shelf(0, 0, 0);
    x.shelf(1, 0, 1);
    due.is("there", x.taken(1, 2), 1);
    due.is("again", x.again(), 1);
    due.is("still there", x.taken(0, 1), 0);
    due.is("nothing, as a kind", x.taken(1, 2), NOTHING);
    due.is("nothing, as a row", x.taken(1, 12), NOTHING);
    due.is("nothing acts", x.act(1, 0, 5), 0);
    due.is("nothing acts", x.many(6), 0);
    x.plate(4, 0, 0, 3);
    due.is("another of that number", x.taken(1, 4), 1);
    due.is("another of that number", x.taken(1, 2), OTHER);
    due.is("lays", x.act(1, 0, 5), 11);
    x.change(1, 3, 4);
    due.is("tilts by its home now", x.act(1, 1, 5), 7);
    x.remake(1, 5);
    due.is("tilts by its kind now", x.act(1, 1, 5), -53);
  }

  private static void rowOnShelf() {
    due.sentence("A SHELF holds PIECE n (what 0), the row of SHEET n (1; nothing, if missing), nothing (2): 1. BAD: no such SHELF, what, thing.");
    BridgeService x = new BridgeService();
    for (int n : new int[] {0, 1, 39, 40}) {
      x.sheet(3, 4, n);
      due.is("a row of " + n, x.shelf(0, 1, 3), 1);
      due.is("how many", x.taken(0, 14), n);
    }
    x.sheet(3, 2, 7);
    due.is("the row that it was", x.taken(0, 14), 40);
    due.is("not the new one", x.taken(0, 12), OTHER);
    x.sheet(3, -1, 0);
    due.is("the row that it was", x.taken(0, 14), 40);
    due.is("missing", x.shelf(0, 1, 3), 1);
    due.is("nothing", x.taken(0, 14), NOTHING);
    due.is("no piece", x.shelf(0, 0, 0), BAD);
    x.plate(1, 0, 0, 0);
    due.is("piece 0", x.shelf(0, 0, 0), 1);
    due.is("piece 1", x.shelf(0, 0, 1), BAD);
    due.is("piece -1", x.shelf(0, 0, -1), BAD);
    due.is("sheet 4", x.shelf(0, 1, 4), BAD);
    due.is("sheet -1", x.shelf(0, 1, -1), BAD);
    due.is("what 3", x.shelf(0, 3, 0), BAD);
    due.is("what -1", x.shelf(0, -1, 0), BAD);
    due.is("it holds the piece still", x.taken(0, 1), 0);
  }

  private static void takenAs() {
    due.sentence("What a SHELF holds taken for a thing of KIND as (0 to 5, or one under it): its number; for a row of sort as - 10 (as 10 to 14): how many items.");
    BridgeService x = new BridgeService();
    for (int k = 0; k < 6; k++) x.plate(1 + k % 5, 0, 0, 0);
    // by as 0 to 5: which kinds may be taken for it
    String[] under = {"12345", "1", "23", "3", "45", "5"};
    for (int k = 0; k < 6; k++) {
      x.shelf(0, 0, k);
      for (int as = -1; as <= 15; as++) {
        int want = as < 0 || as > 5 && as < 10 || as > 14 ? BAD : as > 5 ? OTHER : under[as].indexOf('1' + k % 5) >= 0 ? k : OTHER;
        due.is("piece " + k + " as " + as, x.taken(0, as), want);
      }
    }
    for (int sort = 0; sort <= 4; sort++) {
      x.sheet(1, sort, 8 + sort);
      x.shelf(0, 1, 1);
      for (int as = -1; as <= 15; as++) {
        int want = as < 0 || as > 5 && as < 10 || as > 14 ? BAD : as == sort + 10 ? 8 + sort : OTHER;
        due.is("sort " + sort + " as " + as, x.taken(0, as), want);
      }
    }
  }

  private static void leavings() {
    due.sentence("12 breaks: what x leaves by (n + a - 3), below 0 if x is");
    int[] numbers = {7, -7, 0, MOST_INT, LEAST_INT};
    // by n + a - 3 from -3 to 7; what 0 parts is looked at below
    int[][] leaves = {{1, 1, 0, PARTED, 0, 1, 1, 3, 2, 1, 0}, {-1, -1, 0, PARTED, 0, -1, -1, -3, -2, -1, 0}, {0, 0, 0, PARTED, 0, 0, 0, 0, 0, 0, 0},
        {1, 1, 0, PARTED, 0, 1, 1, 3, 2, 1, 1}, {-2, 0, 0, PARTED, 0, 0, -2, 0, -3, -2, -2}};
    BridgeService x = new BridgeService();
    for (int k = 0; k < 6; k++) x.plate(1, 0, 0, 0);
    for (int k = 0; k < 6; k++) {
      x.shelf(0, 0, k);
      for (int home = 0; home < 6; home++) {
        x.change(k, 3, home);
        for (int i = 0; i < numbers.length; i++) due.is(numbers[i] + " by " + (k + home - 3), x.act(0, 2, numbers[i]), leaves[i][k + home]);
      }
    }
    due.sentence("saucer: 40 breaks: 0 - super.breaks(x).");
    for (int k = 0; k < 6; k++) {
      x.remake(k, 4);
      x.shelf(0, 0, k);
      for (int i = 0; i < numbers.length; i++) due.is(numbers[i] + " by " + (k + 2), x.act(0, 2, numbers[i]), -leaves[i][k + 5]);
    }
  }

  private static void parted() {
    due.sentence("(-15 if that is 0; that is all that act() answers then)");
    for (int kind = 1; kind <= 5; kind++) {
      BridgeService x = new BridgeService();
      for (int k = 0; k < 6; k++) x.plate(kind, 0, 0, 0);
      for (int k = 0; k < 6; k++) {
        x.shelf(0, 0, k);
        for (int home = 0; home < 6; home++) {
          x.change(k, 3, home);
          boolean isParted = k + home == 3;
          // with 0 no ACT comes to -15 in another way
          boolean[] isSo = {false, false, isParted, isParted};
          for (int act = 0; act < 4; act++) due.is("kind " + kind + ", act " + act + " by " + (k + home - 3), x.act(0, act, 0) == PARTED ? 1 : 0, isSo[act] ? 1 : 0);
        }
      }
      due.is("nothing changed", x.state(4) + x.state(0) + x.state(2), 0);
    }
  }

  private static void intsThatWrap() {
    due.sentence("with a number x (ints that wrap): 0 lays, 1 tilts, 2 breaks, 3 shines.");
    int[] kinds = {1, 2, 3, 4, 5, 1};
    int[] homes = {1, 5, 4, 5, 3, 0};
    int[] numbers = {MOST_INT, LEAST_INT, -1, 0, 1 << 30, -(1 << 30) - 1};
    // by piece, by number: lays, tilts, breaks, shines
    int[][][] answers = {
        {{-6, -7, 1, -8}, {0, -1, 0, -1}, {-6, -7, -1, 6}, {0, -1, 0, -1}, {-2147483648, 2147483647, 0, 2147483647}, {2147483642, 2147483641, -1, -2147483642}},
        {{-1, -4, 1, -3}, {1, -2, -2, 0}, {-1, -4, -1, 3}, {1, -2, 0, -2}, {-2147483647, 2147483646, 1, 2147483647}, {2147483647, 2147483644, -2, -2147483646}},
        {{4, 2, 1, 11}, {6, -4, -2, 10}, {4, 2, -1, 5}, {6, -4, 0, 4}, {-2147483642, 2147483644, 1, -2147483643}, {-2147483644, -2147483646, -2, -2147483644}},
        {{1, -4, -2, 2}, {3, -2, 3, -3}, {1, -4, 1, -3}, {3, -2, 0, -2}, {-2147483645, 2147483646, -4, -2147483646}, {-2147483647, 2147483644, 0, 2147483644}},
        {{2, -61, -9, 52}, {4, -59, 10, -49}, {2, -61, 11, -56}, {4, -59, 10, -49}, {-2147483644, 2147483589, 10, 2147483599}, {-2147483646, 2147483587, 11, 2147483592}},
        {{9, 9, 1, 8}, {15, 15, 0, 15}, {9, 9, -1, -10}, {15, 15, 0, 15}, {-2147483633, -2147483633, 0, -2147483633}, {-2147483639, -2147483639, -1, 2147483638}}};
    BridgeService x = new BridgeService();
    for (int k = 0; k < 6; k++) x.plate(kinds[k], 0, 0, homes[k]);
    for (int k = 0; k < 6; k++) {
      x.shelf(3, 0, k);
      for (int i = 0; i < numbers.length; i++) {
        for (int act = 0; act < 4; act++) due.is("piece " + k + ", act " + act + " with " + numbers[i], x.act(3, act, numbers[i]), answers[k][i][act]);
      }
    }
  }

  private static void trace(BridgeService x, int... bodies) {
    due.is("how many", x.many(6), bodies.length);
    for (int i = 0; i < bodies.length; i++) due.is("body " + i, x.trace(i), bodies[i]);
    due.is("ahead of the first", x.trace(-1), NONE);
    due.is("behind the last", x.trace(bodies.length), NONE);
    due.is("the 31st", x.trace(30), NONE);
  }

  private static void traceOfTheLatest() {
    due.sentence("THE TRACE: numbers of the bodies that ran in the latest act(), as they began (left first); the first 30 are kept.");
    BridgeService x = new BridgeService();
    trace(x);
    x.plate(3, 0, 0, 5);
    x.plate(5, 0, 0, 5);
    x.shelf(0, 0, 0);
    x.shelf(1, 0, 1);
    x.act(0, 3, 1);
    // the longest of all
    trace(x, 51, 13, 30, 11, 50, 10, 12, 30, 11, 50, 10);
    x.act(1, 2, 1);
    trace(x, 61, 40, 12, 10);
    x.act(1, 0, 1);
    trace(x, 10);
    // other calls leave it, also those that come to nothing
    x.year();
    x.again();
    x.keep();
    x.again();
    x.shelf(1, 2, 0);
    x.remake(1, 1);
    trace(x, 10);
    // parted by 0: the bodies that began until then
    x.change(0, 3, 3);
    due.is("parted", x.act(0, 3, 1), PARTED);
    trace(x, 51, 13, 30, 11, 50, 10, 12);
  }

  private static void noTraceThen() {
    due.sentence("An ACT (0 to 3) of the thing on a SHELF, with x. 0, and no TRACE then: no such SHELF, act, nothing, a row.");
    BridgeService x = new BridgeService();
    x.plate(1, 0, 0, 5);
    x.sheet(0, 0, 3);
    x.shelf(0, 0, 0);
    x.shelf(1, 1, 0);
    int[][] none = {{-1, 0}, {4, 0}, {LEAST_INT, 0}, {MOST_INT, 0}, {0, -1}, {0, 4}, {0, LEAST_INT}, {0, MOST_INT}, {1, 0}, {2, 3}};
    for (int[] w : none) {
      x.act(0, 3, 4);
      due.is("a trace ahead of it", x.many(6), 5);
      due.is("none", x.act(w[0], w[1], 4), 0);
      trace(x);
      due.is("none again", x.act(w[0], w[1], 4), 0);
    }
  }

  // an ACT may come to a number that is a refusal elsewhere
  private static void answersBelow0() {
    due.sentence("THE TRACE: numbers of the bodies that ran in the latest act(), as they began (left first)");
    BridgeService x = new BridgeService();
    x.plate(2, 0, 0, 0);
    x.plate(2, 0, 0, 0);
    x.shelf(0, 0, 1);
    for (int v = -1; v >= -15; v -= 2) {
      due.is("lays", x.act(0, 0, (v - 1) / 2), v);
      trace(x, 10);
    }
    x.shelf(0, 0, 0);
    for (int v = -2; v >= -14; v -= 2) {
      due.is("lays", x.act(0, 0, v / 2), v);
      trace(x, 10);
    }
  }

  private static void manyAtFirst() {
    due.sentence("6 bodies of THE TRACE (those kept, 30 at most). BAD: another what.");
    BridgeService x = new BridgeService();
    for (int what = 0; what <= 6; what++) due.is("many " + what, x.many(what), 0);
    for (int what : new int[] {-1, 7, LEAST_INT, MOST_INT}) due.is("many " + what, x.many(what), BAD);
    due.is("as much as may be", Twins.full().many(0), 6);
    int[] full = {6, 8, 1, 6, 4, 200, 3};
    x = Twins.full();
    // the tureen of number 5 at home 5 is a dish there: 11, 20, 10
    for (int what = 0; what <= 6; what++) due.is("many " + what, x.many(what), full[what]);
    for (int k = 0; k < 6; k++) x.change(k, 4, 1);
    due.is("all are seated", x.many(2), 6);
  }

  private static void keptLatest() {
    due.sentence("It becomes what was kept latest (which stays): how many PIECES. NONE: nothing is kept.");
    BridgeService x = quiet();
    due.is("nothing is kept", x.again(), NONE);
    due.is("keep", x.keep(), 1);
    due.is("no pieces", x.again(), 0);
    for (int pieces = 1; pieces <= 6; pieces++) {
      x.plate(1, 30, 0, 0);
      due.is("what was kept", x.again(), pieces - 1);
      x.plate(1, 30, 0, 0);
      x.year();
      due.is("keep", x.keep(), 1);
      x.year();
      for (int i = 0; i < 3; i++) {
        due.is("it stays", x.again(), pieces);
        due.is("the year", x.state(0), pieces);
        x.anew();
        x.change(0, 1, 0);
        x.home(0, 0, 9);
      }
      x.again();
      due.is("first place", x.plateOf(0, 1), 30);
      due.is("anger", x.homeOf(0, 0), 0);
    }
  }

  private static void keptBut() {
    due.sentence("All but THE TAPE, ROWS, SHEETS, SHELVES, THE TRACE is kept: 1.");
    BridgeService x = Twins.full();
    // kept by it: as much as may be
    x.anew();
    x.rules();
    x.forget();
    x.prove(1);
    x.sheet(0, -1, 0);
    x.shelf(0, 2, 0);
    x.act(0, 0, 0);
    for (int k = 0; k < 6; k++) {
      x.remake(k, 4);
      x.change(k, 1, 9);
      x.change(k, 2, 8);
      x.change(k, 3, 3);
      x.change(k, 4, 1);
    }
    for (int f = 0; f < 6; f++) {
      x.home(f, 0, 8);
      x.home(f, 1, 8);
    }
    for (int y = 0; y < 16; y++) x.news(y, 11);
    x.family(0, 1);
    x.family(1, 22);
    x.ends(3);
    x.seed(99);
    due.is("again", x.again(), 6);
    int[][] pieces = {{1, 0, 3, 0}, {2, 4, 4, 1}, {4, 3, 1, 2}, {5, 10, 6, 0}, {3, 8, 9, 1}, {1, 39, 9, 5}};
    for (int k = 0; k < 6; k++) for (int what = 0; what < 4; what++) due.is("piece " + k + ", " + what, x.plateOf(k, what), pieces[k][what]);
    int[][] homes = {{2, 3}, {7, 3}, {0, 6}, {0, 3}, {0, 3}, {0, 3}};
    for (int f = 0; f < 6; f++) for (int what = 0; what < 2; what++) due.is("home " + f + ", " + what, x.homeOf(f, what), homes[f][what]);
    int[] states = {1, 12, 9, 0, 1, 4, 5, 4};
    for (int what = 0; what < 8; what++) due.is("state " + what, x.state(what), states[what]);
    for (int y = 0; y < 16; y++) due.is("news of " + y, x.news(y, 0), y == 3 ? 9 : y == 15 ? 14 : 4);
    due.is("z", x.seed(0), 1);
    // THE TAPE, ROWS, THE TRACE are as they are now; SHEETS and SHELVES, too
    int[] many = {6, 8, 1, 6, 1, 0, 0};
    for (int what = 0; what < 7; what++) due.is("many " + what, x.many(what), many[what]);
    due.is("the sheet", x.item(0, 0, 0), NOTHING);
    due.is("the shelf", x.taken(0, 1), NOTHING);
  }
}
