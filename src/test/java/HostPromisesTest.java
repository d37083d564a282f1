// Promises 42 to 50: sheets, shelves, acts of things, the trace.
public final class HostPromisesTest {
  private static final Due due = new Due();
  private static final int BAD = -1, NONE = -3, STATE = -4;
  private static final int NOTHING = -11, OUTSIDE = -12, OTHER = -13, BELOW_0 = -14, PARTED = -15;

  public static void main(String[] args) {
    sheet();
    writeAndItem();
    goAll();
    wouldBe();
    shelfAndTaken();
    acts();
    partedBy0();
    noAct();
    due.end();
  }

  private static void sheet() {
    due.promise(42, "sheet");
    BridgeService x = new BridgeService();
    int[][] bad = {{-1, 0, 1}, {4, 0, 1}, {0, -2, 1}, {0, 5, 1}, {0, 0, 41}, {4, 0, -1}, {0, 5, -1}, {0, 0, Integer.MAX_VALUE}};
    for (int[] w : bad) due.is("wrong", x.sheet(w[0], w[1], w[2]), BAD);
    due.is("below 0", x.sheet(0, 0, -1), BELOW_0);
    due.is("below 0", x.sheet(0, 4, Integer.MIN_VALUE), BELOW_0);
    for (int sort = 0; sort <= 4; sort++) {
      due.is("none", x.sheet(0, sort, 0), 1);
      due.is("outside", x.item(0, sort, 0), OUTSIDE);
      due.is("40", x.sheet(3, sort, 40), 1);
      for (int i = 0; i < 40; i++) {
        due.is("all 0", x.item(3, sort, i), 0);
        x.write(3, i, 1);
      }
      due.is("outside", x.item(3, sort, 40), OUTSIDE);
      due.is("refused", x.sheet(3, sort, 41), BAD);
      due.is("refused", x.sheet(3, sort, -1), BELOW_0);
      due.is("as it was", x.item(3, sort, 39), 1);
      due.is("anew", x.sheet(3, sort, 2), 1);
      due.is("all 0", x.item(3, sort, 0), 0);
      due.is("outside", x.item(3, sort, 2), OUTSIDE);
      due.is("missing, n counts nothing", x.sheet(3, -1, sort * 50 - 100), 1);
      due.is("missing", x.item(3, sort, 0), NOTHING);
    }
  }

  private static void writeAndItem() {
    BridgeService x = new BridgeService();
    due.promise(43, "write");
    due.is("missing", x.write(0, 0, 1), NOTHING);
    due.is("missing ahead of outside", x.write(0, -1, 1), NOTHING);
    due.is("no such sheet", x.write(4, 0, 1), BAD);
    due.is("no such sheet", x.write(-1, 0, 1), BAD);
    int[] values = {0, 1, -1, 127, 128, 255, 256, -129, 32767, 32768, 65536, 70000, Integer.MAX_VALUE, Integer.MIN_VALUE};
    int[][] items = {
        {0, 1, -1, 127, -128, -1, 0, 127, -1, 0, 0, 112, -1, 0},
        {0, 1, -1, 127, 128, 255, 256, -129, 32767, -32768, 0, 4464, -1, 0},
        values, values,
        {0, 1, 1, 1, 1, 1, 1, 1, 1, 1, 1, 1, 1, 1}};
    for (int sort = 0; sort <= 4; sort++) {
      x.sheet(1, sort, 3);
      for (int i = 0; i < values.length; i++) {
        due.promise(43, "write");
        due.is("item", x.write(1, 2, values[i]), 1);
        due.promise(44, "item");
        due.is("sort " + sort + ", " + values[i], x.item(1, sort, 2), items[sort][i]);
        due.is("another one", x.item(1, sort, 1), 0);
      }
      for (int other = 0; other <= 4; other++) {
        if (other == sort) continue;
        due.is("another sort", x.item(1, other, 2), OTHER);
        due.is("another sort ahead of outside", x.item(1, other, 3), OTHER);
      }
      due.is("outside", x.item(1, sort, 3), OUTSIDE);
      due.is("outside", x.item(1, sort, -1), OUTSIDE);
      due.is("outside", x.item(1, sort, Integer.MIN_VALUE), OUTSIDE);
      due.promise(43, "write");
      due.is("outside", x.write(1, 3, 1), OUTSIDE);
      due.is("outside", x.write(1, -1, 1), OUTSIDE);
      due.is("outside", x.write(1, Integer.MAX_VALUE, 1), OUTSIDE);
    }
    due.promise(44, "item");
    due.is("no such sheet", x.item(4, 0, 0), BAD);
    due.is("no such sheet", x.item(-1, 0, 0), BAD);
    due.is("no such sort", x.item(1, 5, 0), BAD);
    due.is("no such sort", x.item(1, -1, 0), BAD);
    due.is("no such sort of a missing one", x.item(0, 5, 0), BAD);
    due.is("missing", x.item(0, 0, 0), NOTHING);
    x.sheet(2, 0, 3);
    due.is("each sheet is its own", x.item(1, 4, 2), 1);
    x.sheet(1, 1, 1);
    x.write(1, 0, -12);
    due.is("an item like a refusal", x.item(1, 1, 0), -12);
  }

  // two dishes that span 0 to 3 and 4 to 7, both willing; MOOD 5 stays
  private static BridgeService twoDishes() {
    BridgeService x = new BridgeService();
    for (int y = 0; y < 16; y++) x.news(y, 3);
    x.plate(1, 0, 2, 0);
    x.plate(1, 4, 2, 0);
    return x;
  }

  private static void acts(BridgeService x, int... acts) {
    x.sheet(0, 0, acts.length);
    for (int i = 0; i < acts.length; i++) x.write(0, i, acts[i]);
  }

  private static void states(BridgeService x, int year, int score, int seated) {
    due.is("year", x.state(0), year);
    due.is("score", x.state(2), score);
    due.is("seated", x.state(4), seated);
  }

  private static void goAll() {
    due.promise(45, "goAll");
    BridgeService x = twoDishes();
    due.is("missing", x.goAll(0, 0, 1), NOTHING);
    due.is("missing, none asked", x.goAll(3, 0, 0), NOTHING);
    due.is("no such sheet", x.goAll(4, 0, 0), BAD);
    due.is("no such sheet", x.goAll(-1, 0, 0), BAD);
    due.is("21", x.goAll(0, 0, 21), BAD);
    due.is("-1", x.goAll(0, 0, -1), BAD);
    x.sheet(1, 4, 20);
    due.is("another sort", x.goAll(1, 0, 0), OTHER);
    due.is("21 of another sort", x.goAll(1, 0, 21), BAD);
    acts(x, 0, 1, 99, -1, 3, 2, 0);
    due.is("none", x.goAll(0, 0, 0), 0);
    due.is("none, from outside", x.goAll(0, 50, 0), 0);
    due.is("outside", x.goAll(0, -1, 3), OUTSIDE);
    due.is("outside", x.goAll(0, 7, 1), OUTSIDE);
    due.is("outside", x.goAll(0, Integer.MAX_VALUE, 20), OUTSIDE);
    states(x, 0, 0, 0);
    due.is("0 and 1", x.goAll(0, 0, 2), 9);
    states(x, 2, 9, 1);
    due.is("none of them is an act", x.goAll(0, 2, 3), 0);
    states(x, 2, 9, 1);
    due.is("2, 0 and what is outside", x.goAll(0, 5, 3), OUTSIDE);
    states(x, 4, 18, 3);
    x.anew();
    x.ends(2);
    due.is("over behind two of them", x.goAll(0, 1, 6), 18);
    states(x, 2, 18, 3);
    due.is("over", x.goAll(0, 0, 7), 0);
    due.is("over and outside", x.goAll(0, 0, 8), OUTSIDE);
    states(x, 2, 18, 3);
    x.ends(16);
    x.sheet(2, 0, 40);
    due.is("20 of 40", x.goAll(2, 20, 20), 0);
    due.is("over in the end", x.state(0), 16);
  }

  private static void wouldBe() {
    due.promise(46, "wouldBe");
    BridgeService x = twoDishes();
    due.is("missing", x.wouldBe(0, 0, 1), NOTHING);
    due.is("no such sheet", x.wouldBe(4, 0, 0), BAD);
    due.is("no such sheet", x.wouldBe(-1, 0, 0), BAD);
    due.is("21", x.wouldBe(0, 0, 21), BAD);
    due.is("-1", x.wouldBe(0, 0, -1), BAD);
    due.is("missing, none asked", x.wouldBe(3, 0, 0), NOTHING);
    x.sheet(1, 2, 20);
    due.is("another sort", x.wouldBe(1, 0, 0), OTHER);
    acts(x, 0, 1, 2, 3, 0);
    due.is("none", x.wouldBe(0, 50, 0), 0);
    due.is("0 and 1", x.wouldBe(0, 0, 2), 9);
    due.is("0, 1, 2", x.wouldBe(0, 0, 3), 18);
    due.is("2 alone", x.wouldBe(0, 2, 1), 1);
    due.is("3 is no act", x.wouldBe(0, 0, 4), STATE);
    due.is("3 is no act, ahead of what is outside", x.wouldBe(0, 0, 9), STATE);
    due.is("outside", x.wouldBe(0, 4, 2), OUTSIDE);
    due.is("outside", x.wouldBe(0, -1, 2), OUTSIDE);
    due.is("outside", x.wouldBe(0, Integer.MAX_VALUE, 2), OUTSIDE);
    x.write(0, 0, -1);
    due.is("-1 is no act", x.wouldBe(0, 0, 1), STATE);
    x.ends(1);
    due.is("until it is over", x.wouldBe(0, 1, 1), 9);
    due.is("over", x.wouldBe(0, 1, 2), STATE);
    due.is("outside ahead of over", x.wouldBe(0, 4, 2), OUTSIDE);
    states(x, 0, 0, 0);
    due.is("mood", x.state(6), 5);
    due.is("she", x.state(7), 0);
  }

  private static void shelfAndTaken() {
    due.promise(47, "shelf");
    BridgeService x = new BridgeService();
    for (int kind = 1; kind <= 5; kind++) x.plate(kind, 0, 0, 0);
    int[][] bad = {{-1, 0, 0}, {4, 0, 0}, {0, -1, 0}, {0, 3, 0}, {0, 0, 5}, {0, 0, -1}, {0, 1, 4}, {0, 1, -1}};
    for (int[] w : bad) due.is("wrong", x.shelf(w[0], w[1], w[2]), BAD);
    due.promise(48, "taken");
    due.is("nothing", x.taken(0, 0), NOTHING);
    due.is("nothing as a row", x.taken(0, 10), NOTHING);
    int[][] wrong = {{-1, 0}, {4, 0}, {0, -1}, {0, 6}, {0, 9}, {0, 15}};
    for (int[] w : wrong) due.is("wrong", x.taken(w[0], w[1]), BAD);
    String[] taken = {"01", "02", "023", "04", "045"};
    for (int k = 0; k < 5; k++) {
      due.promise(47, "shelf");
      due.is("piece", x.shelf(3, 0, k), 1);
      due.promise(48, "taken");
      for (int as = 0; as <= 5; as++) {
        due.is("kind " + (k + 1) + " as " + as, x.taken(3, as), taken[k].indexOf('0' + as) >= 0 ? k : OTHER);
      }
      for (int as = 10; as <= 14; as++) due.is("a piece as a row", x.taken(3, as), OTHER);
    }
    x.remake(4, 3);
    due.is("by its kind now", x.taken(3, 2), 4);
    due.is("by its kind now", x.taken(3, 5), OTHER);
    for (int sort = 0; sort <= 4; sort++) {
      x.sheet(sort % 4, sort, 7 * sort);
      due.promise(47, "shelf");
      due.is("row", x.shelf(1, 1, sort % 4), 1);
      due.promise(48, "taken");
      for (int as = 10; as <= 14; as++) due.is("sort " + sort + " as " + as, x.taken(1, as), as - 10 == sort ? 7 * sort : OTHER);
      for (int as = 0; as <= 5; as++) due.is("a row as a piece", x.taken(1, as), OTHER);
    }
    due.is("another shelf", x.taken(3, 3), 4);
    // the row stays, whatever the sheet becomes
    x.sheet(0, 2, 5);
    due.is("the row that it was", x.taken(1, 14), 28);
    x.sheet(0, -1, 0);
    due.is("the row that it was", x.taken(1, 14), 28);
    due.promise(47, "shelf");
    due.is("a missing one", x.shelf(1, 1, 0), 1);
    due.promise(48, "taken");
    due.is("is nothing", x.taken(1, 14), NOTHING);
    due.promise(47, "shelf");
    due.is("nothing, n counts nothing", x.shelf(3, 2, 99), 1);
    due.promise(48, "taken");
    due.is("nothing", x.taken(3, 0), NOTHING);
  }

  // kinds 1, 2, 3, 4, 5, 1 at homes 1, 5, 4, 5, 3, 0
  private static BridgeService things() {
    BridgeService x = new BridgeService();
    int[] kinds = {1, 2, 3, 4, 5, 1};
    int[] homes = {1, 5, 4, 5, 3, 0};
    for (int k = 0; k < 6; k++) x.plate(kinds[k], 0, 0, homes[k]);
    return x;
  }

  private static void acts() {
    BridgeService x = things();
    int[][] answers = {{42, 41, 1, 40}, {15, 12, 1, 13}, {20, 18, 1, 27}, {17, 12, -2, -14}, {18, -45, -9, 36}, {57, 57, 1, 56}};
    int[][][] traces = {
        {{20, 10}, {11, 20, 10}, {12}, {13, 11, 20, 10, 12}},
        {{10}, {30, 11, 10}, {12}, {13, 30, 11, 10, 12}},
        {{50, 10}, {30, 11, 50, 10}, {12}, {51, 13, 30, 11, 50, 10, 12, 30, 11, 50, 10}},
        {{10}, {11, 10}, {40, 12}, {13, 11, 10, 40, 12}},
        {{10}, {60, 11, 10}, {61, 40, 12, 10}, {13, 60, 11, 10, 61, 40, 12, 10}},
        {{20, 10}, {11, 20, 10}, {12}, {13, 11, 20, 10, 12}}};
    for (int k = 0; k < 6; k++) {
      x.shelf(k % 4, 0, k);
      for (int act = 0; act < 4; act++) {
        due.promise(49, "act");
        due.is("piece " + k + ", act " + act, x.act(k % 4, act, 7), answers[k][act]);
        due.promise(50, "trace");
        int[] trace = traces[k][act];
        due.is("bodies", x.many(6), trace.length);
        for (int i = 0; i < trace.length; i++) due.is("piece " + k + ", act " + act + ", body " + i, x.trace(i), trace[i]);
        due.is("no more", x.trace(trace.length), NONE);
        due.is("none ahead", x.trace(-1), NONE);
      }
    }
    due.is("none", x.trace(Integer.MAX_VALUE), NONE);
    due.is("none", x.trace(Integer.MIN_VALUE), NONE);
    due.promise(49, "act");
    x = things();
    x.shelf(0, 0, 0);
    x.shelf(1, 0, 3);
    x.shelf(2, 0, 2);
    due.is("what leaves is below 0, if x is", x.act(0, 2, -7), -1);
    due.is("saucer, below 0", x.act(1, 2, -7), 2);
    due.is("ints wrap", x.act(0, 0, Integer.MAX_VALUE), -6);
    due.is("ints wrap", x.act(2, 1, Integer.MAX_VALUE), 2);
    due.is("ints wrap", x.act(1, 1, Integer.MIN_VALUE), -2);
    due.is("least of all by 5", x.act(1, 2, Integer.MIN_VALUE), 3);
    x.change(0, 3, 2);
    due.is("least of all by -1", x.act(0, 2, Integer.MIN_VALUE), 0);
    due.is("by its home now", x.act(0, 1, 7), 40);
    x.remake(0, 3);
    due.is("by its kind now", x.act(0, 0, 7), 10);
  }

  private static void partedBy0() {
    BridgeService x = new BridgeService();
    for (int kind = 1; kind <= 5; kind++) x.plate(kind, 0, 0, 0);
    int[][][] traces = {
        {{12}, {13, 11, 20, 10, 12}},
        {{12}, {13, 30, 11, 10, 12}},
        {{12}, {51, 13, 30, 11, 50, 10, 12}},
        {{40, 12}, {13, 11, 10, 40, 12}},
        {{61, 40, 12}, {13, 60, 11, 10, 61, 40, 12}}};
    x.plate(1, 0, 0, 0);
    for (int k = 0; k < 5; k++) {
      // the number and the home together are 3
      int n = Math.min(k, 3);
      x.remake(n, k + 1);
      x.change(n, 3, 3 - n);
      x.shelf(0, 0, n);
      for (int i = 0; i < 2; i++) {
        due.promise(49, "act");
        due.is("kind " + (k + 1) + ", act " + (2 + i), x.act(0, 2 + i, 9), PARTED);
        due.promise(50, "trace");
        due.is("those that began", x.many(6), traces[k][i].length);
        for (int j = 0; j < traces[k][i].length; j++) due.is("body " + j, x.trace(j), traces[k][i][j]);
      }
      due.promise(49, "act");
      due.is("lays parts nothing", x.act(0, 0, 0) == PARTED ? 1 : 0, 0);
    }
  }

  private static void noAct() {
    BridgeService x = things();
    x.sheet(0, 0, 3);
    x.shelf(0, 0, 0);
    x.shelf(1, 1, 0);
    int[][] none = {{-1, 0}, {4, 0}, {0, -1}, {0, 4}, {1, 0}, {2, 0}};
    for (int[] w : none) {
      due.promise(49, "act");
      due.is("first", x.act(0, 0, 5), 30);
      due.is("none such", x.act(w[0], w[1], 5), 0);
      due.promise(50, "trace");
      due.is("no trace then", x.many(6), 0);
      due.is("no trace then", x.trace(0), NONE);
    }
  }
}
