import java.util.ArrayList;
import java.util.List;

// Objects that are made alike, and all that one answers: two of them answer alike as long as
// no call has changed one of them alone. An object is used for at most 512 calls: about 110 make
// one, about 370 ask for all.
final class Twins {
  interface Making {
    BridgeService make();
  }

  interface Call {
    int on(BridgeService x);
  }

  private Twins() {}

  // as it is at first
  static BridgeService bare() {
    return new BridgeService();
  }

  // five PIECES, YEAR 2 of 9, two of them SEATED; RULES, REPORTS, ROWS, a TRACE, and something kept
  static BridgeService some() {
    BridgeService x = new BridgeService();
    pieces(x);
    Say.rules(x, "boat if mood > 7 leave; dish if year = 7 and width < 4 stand;");
    x.keep();
    x.year();
    x.year();
    x.ends(9);
    x.report(0, 0, 0, 0);
    x.report(2, 0, 3, 9);
    x.report(5, 1, 1, 8);
    x.prove(4);
    x.alterRow(2, 1, 77);
    Say.feed(x, "saucer stand;");
    sheets(x);
    x.shelf(0, 0, 4);
    x.shelf(1, 1, 1);
    x.shelf(2, 0, 0);
    x.act(0, 3, 11);
    x.seed(4711);
    return x;
  }

  // as much as may be: six PIECES, eight RULES, six REPORTS, 200 bytes of THE TAPE
  static BridgeService full() {
    BridgeService x = new BridgeService();
    pieces(x);
    x.plate(1, 39, 9, 5);
    Say.rules(x, "dish sit;dish sit;dish sit;dish sit;boat sit;boat sit;plate sit;plate leave;");
    x.year();
    for (int k = 10; k < 16; k++) x.report(k, k % 2, 0, 9);
    Say.feed(x, "dish stand;" + " ".repeat(189));
    x.prove(4);
    sheets(x);
    x.shelf(0, 0, 5);
    x.shelf(1, 1, 1);
    x.act(0, 1, 3);
    x.keep();
    return x;
  }

  // no YEAR is yet to come, and all PIECES are SEATED
  static BridgeService over() {
    BridgeService x = some();
    for (int k = 0; k < 5; k++) x.change(k, 4, 1);
    x.ends(2);
    return x;
  }

  // no LOST PIECE fits, and none would but for one REPORT
  static BridgeService lying() {
    BridgeService x = some();
    x.report(0, 0, 1, 1);
    x.report(0, 0, 2, 2);
    return x;
  }

  private static void pieces(BridgeService x) {
    x.home(0, 0, 2);
    x.home(1, 0, 7);
    x.home(2, 1, 6);
    x.plate(1, 0, 3, 0);
    x.plate(2, 4, 4, 1);
    x.plate(4, 3, 1, 2);
    x.plate(5, 10, 6, 0);
    x.plate(3, 8, 9, 1);
    x.news(3, 9);
    x.news(15, 14);
  }

  // 40 bytes that are ACTS, three ints, two booleans; the last SHEET is missing
  private static void sheets(BridgeService x) {
    x.sheet(0, 0, 40);
    for (int i = 0; i < 5; i++) x.write(0, i, i);
    x.write(0, 39, 1);
    x.sheet(1, 2, 3);
    x.write(1, 2, -70000);
    x.sheet(2, 4, 2);
    x.write(2, 1, 5);
  }

  // all that an object answers; it is used up by that
  static List<Integer> all(BridgeService x) {
    List<Integer> all = new ArrayList<>();
    for (int what = 0; what <= 6; what++) all.add(x.many(what));
    table(x, all);
    for (int k = 0; k < 4; k++) for (int what = 0; what < 3; what++) all.add(x.row(k, what));
    for (int i = 0; i < 12; i++) all.add(x.trace(i));
    host(x, all);
    wills(x, all);
    all.add(x.judge());
    for (int y = 0; y < 16; y++) all.add(x.news(y, 0));
    all.add(x.rules());
    all.add(x.many(1));
    all.add(x.again());
    table(x, all);
    for (int y = 14; y < 16; y++) all.add(x.news(y, 0));
    return all;
  }

  private static void table(BridgeService x, List<Integer> all) {
    for (int what = 0; what <= 7; what++) all.add(x.state(what));
    for (int k = 0; k < 6; k++) {
      for (int what = 0; what <= 3; what++) all.add(x.plateOf(k, what));
      all.add(x.plateOf(k, 8));
    }
    for (int f = 0; f < 6; f++) for (int what = 0; what < 2; what++) all.add(x.homeOf(f, what));
    all.add(x.on(16));
    all.add(x.lost(0));
    all.add(x.lost(2));
    all.add(x.liar());
    int z = x.seed(0);
    x.seed(z);
    all.add(z);
  }

  private static void host(BridgeService x, List<Integer> all) {
    int[] items = {0, 1, 2, 3, 4, 38, 39, 40};
    for (int s = 0; s < 4; s++) {
      for (int sort = 0; sort <= 4; sort++) {
        int first = x.item(s, sort, 0);
        all.add(first);
        if (first == -13 || first == -11) continue;
        for (int i : items) all.add(x.item(s, sort, i));
      }
    }
    for (int s = 0; s < 4; s++) {
      for (int as = 0; as <= 5; as++) all.add(x.taken(s, as));
      for (int as = 10; as <= 14; as++) all.add(x.taken(s, as));
    }
  }

  // what THE RULES tell by MOOD; MOOD is in the end as it was
  private static void wills(BridgeService x, List<Integer> all) {
    int mood = x.state(6);
    for (int m = 0; m <= 9; m += 3) {
      x.family(0, m);
      for (int k = 0; k < 6; k++) all.add(x.plateOf(k, 8));
    }
    x.family(0, mood);
  }
}
