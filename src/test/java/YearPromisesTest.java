// Promises 15 to 23: years, the rest, the bridge, branches, fetching.
public final class YearPromisesTest {
  private static final Due due = new Due();
  private static final int BAD = -1, NONE = -3, STATE = -4;

  public static void main(String[] args) {
    year();
    goesOn();
    on();
    when();
    widthFor();
    pieceFor();
    theSixteenthYear();
    over();
    gap();
    branches();
    fetch();
    due.end();
  }

  // no news, so that MOOD changes by sitting alone
  private static BridgeService quiet() {
    BridgeService x = new BridgeService();
    for (int y = 0; y < 16; y++) x.news(y, 3);
    return x;
  }

  private static void states(BridgeService x, int year, int score, int seated, int mood, int she) {
    due.is("year", x.state(0), year);
    due.is("score", x.state(2), score);
    due.is("seated", x.state(4), seated);
    due.is("mood", x.state(6), mood);
    due.is("she", x.state(7), she);
  }

  private static void year() {
    due.promise(15, "year");
    BridgeService x = quiet();
    x.home(0, 0, 4);
    x.home(1, 0, 9);
    x.home(1, 1, 0);
    x.plate(2, 2, 0, 1);
    x.plate(1, 0, 2, 0);
    x.plate(4, 4, 9, 0);
    // tureen 0: GRUDGE 9, MOOD and WELCOME 5. dish 1: GRUDGE 6, 4 PLACES, MOOD 3 then.
    due.is("the dish sits", x.year(), 9);
    states(x, 1, 9, 2, 3, 4);
    due.is("the saucer sits", x.year(), 5);
    states(x, 2, 14, 6, 3, 6);
    due.is("none would", x.year(), 0);
    states(x, 3, 14, 6, 3, 6);
    // the tureen would, once news of the year made MOOD 6 and home 1 is welcoming
    x.news(3, 12);
    x.home(1, 1, 3);
    due.is("would behind the news", x.plateOf(0, 7), 0);
    due.is("the tureen sits", x.year(), 1);
    states(x, 4, 15, 7, 3, 6);
    x.ends(4);
    due.is("over", x.year(), STATE);
    states(x, 4, 15, 7, 3, 6);
    due.promise(15, "year, the one that is told need not sit");
    BridgeService y = quiet();
    y.plate(1, 0, 0, 0);
    y.plate(2, 0, 0, 0);
    Say.rules(y, "dish stand;");
    due.is("the least is told, and stands", y.year(), 0);
    states(y, 1, 0, 0, 5, 0);
    Say.rules(y, "dish leave;");
    due.is("the least is told, and does not leave", y.year(), 0);
    states(y, 2, 0, 0, 5, 0);
  }

  private static void goesOn() {
    due.promise(15, "year, she goes on");
    BridgeService x = quiet();
    x.plate(1, 0, 9, 0);
    x.plate(1, 12, 9, 0);
    x.plate(1, 36, 9, 0);
    x.change(0, 4, 1);
    x.change(1, 4, 1);
    x.change(2, 4, 1);
    x.family(0, 3);
    due.is("by MOOD and 1", x.year(), 8);
    due.is("by MOOD and 1", x.year(), 8);
    due.is("to the gap", x.year(), 4);
    states(x, 3, 20, 7, 3, 10);
    due.is("none more", x.year(), 0);
    x.family(1, 11);
    due.is("still in the gap", x.year(), 0);
    x.family(1, 13);
    x.family(0, 0);
    due.is("one place by MOOD 0", x.year(), 2);
    x.family(1, 35);
    due.is("not there", x.year(), 0);
    x.family(1, 36);
    x.family(0, 9);
    due.is("to 40", x.year(), 8);
    states(x, 8, 30, 7, 9, 40);
    due.is("across", x.year(), 0);
    // the YEAR that goes by tells the span: a boat of width 9 spans 7, but 1 in odd years
    BridgeService b = quiet();
    b.plate(3, 0, 9, 0);
    b.change(0, 4, 1);
    b.family(0, 2);
    due.is("year 0", b.year(), 6);
    due.is("year 1", b.year(), 0);
    due.is("year 2", b.year(), 6);
    due.is("she", b.state(7), 6);
    b.family(1, 0);
    due.is("year 3", b.year(), 2);
  }

  private static void on() {
    due.promise(16, "on");
    BridgeService x = quiet();
    x.plate(1, 0, 2, 0);
    x.plate(1, 4, 2, 0);
    x.seed(5);
    due.is("none", x.on(0), 0);
    due.is("one", x.on(1), 9);
    due.is("two", x.on(2), 18);
    due.is("three", x.on(3), 18);
    due.is("16", x.on(16), 18);
    due.is("17", x.on(17), BAD);
    due.is("-1", x.on(-1), BAD);
    states(x, 0, 0, 0, 5, 0);
    x.ends(1);
    due.is("fewer, if it is over", x.on(16), 9);
    x.year();
    due.is("over", x.on(4), 0);
  }

  private static void when() {
    due.promise(17, "when");
    BridgeService x = quiet();
    x.home(1, 0, 9);
    x.home(1, 1, 0);
    x.plate(1, 0, 0, 0);
    x.plate(1, 2, 0, 1);
    x.plate(1, 4, 0, 0);
    due.is("the first", x.when(0), 0);
    due.is("the third behind it", x.when(2), 1);
    due.is("never", x.when(1), NONE);
    due.is("no piece", x.when(3), BAD);
    due.is("no piece", x.when(-1), BAD);
    x.year();
    due.is("it is now", x.when(0), NONE);
    due.is("still in the year 1", x.when(2), 1);
    states(x, 1, 5, 1, 5, 2);
    x.ends(2);
    due.is("in the last year", x.when(2), 1);
    x.ends(1);
    due.is("over", x.when(2), NONE);
    BridgeService y = quiet();
    y.plate(1, 9, 0, 0);
    due.is("she goes nowhere", y.when(0), 0);
  }

  private static void widthFor() {
    due.promise(18, "widthFor");
    BridgeService x = quiet();
    x.ends(3);
    x.plate(2, 0, 1, 0);
    x.plate(1, 5, 0, 0);
    // the tureen spans 5, 6, 7 by width 4, 6, 8: each reaches the dish at 5 and 6, none goes beyond it
    due.is("the least that reaches", x.widthFor(0), 4);
    due.is("the width stays", x.plateOf(0, 2), 1);
    // the dish from 5 on is never reached
    due.is("all the same", x.widthFor(1), 0);
    x.change(0, 2, 4);
    due.is("the widest dish", x.widthFor(1), 8);
    due.is("no piece", x.widthFor(2), BAD);
    due.is("no piece", x.widthFor(-1), BAD);
    states(x, 0, 0, 0, 5, 0);
  }

  private static void pieceFor() {
    due.promise(19, "pieceFor");
    BridgeService x = quiet();
    x.plate(1, 0, 0, 0);
    x.plate(1, 30, 2, 0);
    due.is("behind the first", x.pieceFor(1), 2);
    due.is("the place stays", x.plateOf(1, 1), 30);
    due.is("at 0", x.pieceFor(0), 0);
    due.is("no piece", x.pieceFor(2), BAD);
    due.is("no piece", x.pieceFor(-1), BAD);
    x.family(1, 39);
    due.is("one place from 39", x.pieceFor(1), 36);
    x.remake(1, 4);
    x.change(1, 2, 0);
    due.is("one place at 39", x.pieceFor(1), 39);
    x.family(1, 40);
    due.is("all the same", x.pieceFor(1), 0);
    states(x, 0, 0, 0, 5, 40);
  }

  // the dish sits in YEAR 15 alone; SHE can go 6 PLACES then, and waits at 7
  private static void theSixteenthYear() {
    BridgeService x = quiet();
    x.ends(16);
    x.plate(1, 7, 2, 0);
    x.family(1, 7);
    Say.rules(x, "plate if year < 15 stand;");
    due.promise(18, "widthFor, the sixteenth year");
    due.is("6 places", x.widthFor(0), 4);
    due.promise(19, "pieceFor, the sixteenth year");
    due.is("where she waits", x.pieceFor(0), 7);
    x.change(0, 2, 4);
    due.promise(16, "on, the sixteenth year");
    due.is("15 years", x.on(15), 0);
    due.is("16 years", x.on(16), 13);
    due.promise(17, "when, the sixteenth year");
    due.is("sits", x.when(0), 15);
    due.promise(20, "over, the sixteenth year");
    due.is("goes on", x.over(13), 15);
    x.ends(15);
    due.is("15 years alone", x.over(8), NONE);
    due.promise(18, "widthFor, 15 years alone");
    due.is("all the same", x.widthFor(0), 0);
    due.promise(19, "pieceFor, 15 years alone");
    due.is("all the same", x.pieceFor(0), 0);
  }

  private static void over() {
    due.promise(20, "over");
    BridgeService x = quiet();
    x.plate(1, 0, 2, 0);
    x.plate(1, 4, 2, 0);
    x.plate(1, 8, 2, 0);
    due.is("0", x.over(0), 0);
    due.is("4", x.over(4), 0);
    due.is("5", x.over(5), 1);
    due.is("12", x.over(12), 2);
    due.is("13", x.over(13), NONE);
    due.is("40", x.over(40), NONE);
    BridgeService none = quiet();
    due.is("without pieces", none.over(0), 0);
    due.is("without pieces", none.over(1), NONE);
    due.is("41", x.over(41), BAD);
    due.is("-1", x.over(-1), BAD);
    x.year();
    due.is("the first year yet", x.over(2), 1);
    states(x, 1, 9, 1, 5, 4);
    x.ends(2);
    due.is("in the last year", x.over(8), 1);
    due.is("behind the last year", x.over(9), NONE);
    x.family(1, 40);
    due.is("across", x.over(40), 1);
    x.ends(1);
    due.is("over", x.over(0), NONE);
  }

  private static void gap() {
    due.promise(21, "gap");
    BridgeService x = quiet();
    x.plate(1, 0, 2, 0);
    x.plate(2, 5, 0, 0);
    x.plate(3, 8, 9, 0);
    x.plate(5, 4, 4, 0);
    due.is("4 in the year 0, where the cracked one spans none", x.gap(0), 4);
    due.is("none is there", x.gap(1), 40);
    due.is("what 2", x.gap(2), BAD);
    due.is("what -1", x.gap(-1), BAD);
    x.change(0, 4, 1);
    x.change(1, 4, 1);
    x.change(3, 4, 1);
    due.is("7 are there", x.gap(1), 33);
    x.family(1, 5);
    due.is("from 5 on", x.gap(0), 15);
    x.family(1, 0);
    Say.rules(x, "plate stand;");
    x.year();
    x.family(1, 0);
    // the cracked one spans 4 and 5 in the year 1, the boat 8
    due.is("in the year 1", x.gap(0), 9);
    due.is("in the year 1", x.gap(1), 32);
    x.family(1, 39);
    due.is("at 39", x.gap(0), 39);
    x.family(1, 40);
    due.is("across", x.gap(0), NONE);
    x.plate(1, 36, 9, 0);
    x.family(1, 36);
    due.is("spanned to the end", x.gap(0), NONE);
    x.change(4, 4, 1);
    due.is("what is beyond 39 counts nothing", x.gap(1), 28);
  }

  private static void branches() {
    due.promise(22, "branches");
    BridgeService x = quiet();
    due.is("none", x.branches(-1), 0);
    due.is("no piece", x.branches(0), BAD);
    x.plate(1, 0, 0, 0);
    x.plate(1, 2, 0, 1);
    x.plate(1, 5, 0, 2);
    x.plate(1, 7, 0, 3);
    x.plate(1, 30, 0, 1);
    x.plate(1, 20, 0, 4);
    // 0-1 (2 apart), 1-4 (one home), 2-3 (2 apart), 5 alone; 1 and 2 are 3 apart
    due.is("how many", x.branches(-1), 3);
    int[] sets = {19, 19, 12, 12, 19, 32};
    for (int k = 0; k < 6; k++) due.is("branch of " + k, x.branches(k), sets[k]);
    due.is("6", x.branches(6), BAD);
    due.is("-2", x.branches(-2), BAD);
    x.change(1, 4, 1);
    int[] then = {1, 0, 12, 12, 16, 32};
    for (int k = 0; k < 6; k++) due.is("without 1, branch of " + k, x.branches(k), then[k]);
    due.is("how many", x.branches(-1), 4);
    for (int k = 0; k < 6; k++) x.change(k, 4, 1);
    due.is("all sit", x.branches(-1), 0);
    due.is("all sit", x.branches(5), 0);
    // a long chain, told against the order of numbers
    BridgeService y = quiet();
    int[] firsts = {10, 0, 8, 2, 6, 4};
    for (int k = 0; k < 6; k++) y.plate(1, firsts[k], 0, k);
    due.is("one chain", y.branches(0), 63);
    due.is("one chain", y.branches(-1), 1);
    branchesByTwoWays();
  }

  // a ring: 0-1 and 2-3 of one home, 0-2 and 1-3 2 apart, so that 3 hangs by two at once
  private static void branchesByTwoWays() {
    BridgeService x = quiet();
    x.plate(1, 0, 0, 0);
    x.plate(1, 10, 0, 0);
    x.plate(1, 2, 0, 1);
    x.plate(1, 12, 0, 1);
    for (int k = 0; k < 4; k++) due.is("ring, branch of " + k, x.branches(k), 15);
    due.is("ring", x.branches(-1), 1);
    x.change(0, 4, 1);
    due.is("the ring is open", x.branches(1), 14);
    x.change(3, 4, 1);
    due.is("the ring is apart", x.branches(1), 2);
    due.is("the ring is apart", x.branches(2), 4);
    due.is("the ring is apart", x.branches(-1), 2);
  }

  private static void fetch() {
    due.promise(23, "fetch");
    BridgeService x = quiet();
    due.is("none", x.fetch(0, 0), 0);
    due.is("none", x.fetch(40, 1), NONE);
    x.plate(1, 10, 0, 0);
    due.is("one", x.fetch(0, 0), 10);
    due.is("one", x.fetch(40, 0), 30);
    due.is("one", x.fetch(40, 1), 0);
    x.plate(1, 20, 0, 0);
    x.plate(1, 14, 0, 0);
    due.is("from below", x.fetch(5, 0), 15);
    due.is("the first of them", x.fetch(5, 1), 0);
    due.is("from above", x.fetch(25, 0), 15);
    due.is("the first of them", x.fetch(25, 1), 1);
    due.is("between", x.fetch(13, 0), 13);
    due.is("down first", x.fetch(13, 1), 0);
    due.is("between", x.fetch(17, 0), 13);
    // up first: 20, 14, 10
    due.is("up first", x.fetch(17, 1), 1);
    // from 15 down (14, 10) and up (20), or up and down: 15 each; 0 first costs 5 + 10 as well
    due.is("as far", x.fetch(15, 0), 15);
    due.is("the least first", x.fetch(15, 1), 0);
    due.is("at one", x.fetch(14, 0), 14);
    due.is("at one, the least first", x.fetch(14, 1), 0);
    due.is("41", x.fetch(41, 0), BAD);
    due.is("-1", x.fetch(-1, 0), BAD);
    due.is("what 2", x.fetch(0, 2), BAD);
    due.is("what -1", x.fetch(0, -1), BAD);
    x.change(0, 4, 1);
    due.is("without 0", x.fetch(0, 0), 20);
    due.is("without 0", x.fetch(0, 1), 2);
    x.change(1, 4, 1);
    x.change(2, 1, 0);
    due.is("one at 0", x.fetch(9, 0), 9);
    due.is("one at 0", x.fetch(0, 0), 0);
    due.is("one at 0", x.fetch(0, 1), 2);
    x.change(2, 4, 1);
    due.is("all sit", x.fetch(9, 0), 0);
    due.is("all sit", x.fetch(9, 1), NONE);
  }
}
