import java.util.ArrayList;
import java.util.List;

// The document once more, told in another way: things of classes, states that are copied,
// every row of acts and of fetching tried one by one. Slow and plain, to compare with.
final class Oracle {
  static final class Refusal extends RuntimeException {
    final int code;
    Refusal(int code) {
      super(null, null, false, false);
      this.code = code;
    }
  }

  // ---- things of kinds

  static class Plate {
    int n, a, anger, width;
    List<Integer> bodies = new ArrayList<>();
    int spans(int year) { return 1 + width / 2; }
    int grudge() { return anger; }
    int lays(int x) { bodies.add(10); return x * 2 + n; }
    int tilts(int x) { bodies.add(11); return lays(x) - a; }
    int breaks(int x) {
      bodies.add(12);
      if (n + a - 3 == 0) throw new Refusal(-15);
      return x % (n + a - 3);
    }
    int shines(int x) { bodies.add(13); return tilts(x) ^ breaks(x); }
  }

  static class Dish extends Plate {
    @Override int spans(int year) { return 2 * super.spans(year); }
    @Override int grudge() { return super.grudge() + 2; }
    @Override int lays(int x) { bodies.add(20); return super.lays(x) * 3; }
  }

  static class Tureen extends Plate {
    @Override int spans(int year) { return super.spans(year) + 2; }
    @Override int grudge() { return super.grudge() + n; }
    @Override int tilts(int x) { bodies.add(30); return super.tilts(x + 1); }
  }

  static class Boat extends Tureen {
    @Override int spans(int year) { return year % 2 != 0 ? 1 : super.spans(year); }
    @Override int grudge() { return Math.max(super.grudge() - 3, 0); }
    @Override int lays(int x) { bodies.add(50); return super.lays(x) ^ 4; }
    @Override int shines(int x) { bodies.add(51); return super.shines(x) + tilts(n); }
  }

  static class Saucer extends Plate {
    @Override int spans(int year) { return Math.min(super.spans(year), 2); }
    @Override int grudge() { return super.grudge() / 2; }
    @Override int breaks(int x) { bodies.add(40); return 0 - super.breaks(x); }
  }

  static class Cracked extends Saucer {
    @Override int spans(int year) { return year % 3 == 0 ? 0 : super.spans(year); }
    @Override int grudge() { return super.grudge() * 2; }
    @Override int tilts(int x) { bodies.add(60); return super.tilts(x) - 60; }
    @Override int breaks(int x) { bodies.add(61); return super.breaks(x) ^ lays(a); }
  }

  static Plate blank(int kind) {
    switch (kind) {
      case 1: return new Dish();
      case 2: return new Tureen();
      case 3: return new Boat();
      case 4: return new Saucer();
      case 5: return new Cracked();
      default: return new Plate();
    }
  }

  static boolean isA(int kind, int above) {
    return blank(above).getClass().isInstance(blank(kind));
  }

  static final class Piece {
    int kind, first, width, home;
    boolean seated;
    Piece copy() {
      Piece p = new Piece();
      p.kind = kind;
      p.first = first;
      p.width = width;
      p.home = home;
      p.seated = seated;
      return p;
    }
  }

  // ---- rules

  interface Cond { boolean holds(int[] facts); }
  interface Value { int of(int[] facts); }

  static final class Rule {
    int kind, act;
    Cond cond = facts -> true;
  }

  static final class Text {
    static final List<String> KINDS = List.of("plate", "dish", "tureen", "boat", "saucer", "cracked");
    static final List<String> DOS = List.of("sit", "stand", "leave");
    static final List<String> FACTS = List.of("year", "width", "grudge", "mood", "number");
    final String text;
    int at = 0;
    String word = "";
    int wordAt = 0;

    Text(String text) {
      this.text = text;
      next();
    }

    static boolean in(char c, char from, char to) { return c >= from && c <= to; }

    void next() {
      while (at < text.length() && text.charAt(at) == 32) at++;
      wordAt = at;
      if (at == text.length()) { word = ""; return; }
      char c = text.charAt(at);
      at++;
      if (in(c, 'a', 'z')) while (at < text.length() && in(text.charAt(at), 'a', 'z')) at++;
      if (in(c, '0', '9')) while (at < text.length() && in(text.charAt(at), '0', '9')) at++;
      word = text.substring(wordAt, at);
    }

    Refusal fault() { return new Refusal(-100 - wordAt); }

    int oneOf(List<String> words) {
      int i = words.indexOf(word);
      if (i < 0) throw fault();
      next();
      return i;
    }

    boolean skip(String w) {
      if (!word.equals(w)) return false;
      next();
      return true;
    }

    List<Rule> rules() {
      List<Rule> rules = new ArrayList<>();
      while (!word.isEmpty()) {
        if (rules.size() == 8) throw fault();
        Rule r = new Rule();
        r.kind = oneOf(KINDS);
        if (skip("if")) r.cond = cond(0);
        r.act = oneOf(DOS);
        if (!skip(";")) throw fault();
        rules.add(r);
      }
      return rules;
    }

    Cond cond(int open) {
      Cond left = all(open);
      while (skip("or")) {
        Cond l = left, r = all(open);
        left = facts -> l.holds(facts) || r.holds(facts);
      }
      return left;
    }

    Cond all(int open) {
      Cond left = one(open);
      while (skip("and")) {
        Cond l = left, r = one(open);
        left = facts -> l.holds(facts) && r.holds(facts);
      }
      return left;
    }

    Cond one(int open) {
      if (skip("not")) {
        Cond c = one(open);
        return facts -> !c.holds(facts);
      }
      if (word.equals("(")) {
        if (open == 3) throw fault();
        next();
        Cond c = cond(open + 1);
        if (!skip(")")) throw fault();
        return c;
      }
      Value l = value();
      int sign = oneOf(List.of("<", "=", ">"));
      Value r = value();
      return facts -> sign == 0 ? l.of(facts) < r.of(facts) : sign == 1 ? l.of(facts) == r.of(facts) : l.of(facts) > r.of(facts);
    }

    Value value() {
      if (word.matches("[0-9]{1,4}")) {
        int n = Integer.parseInt(word);
        next();
        return facts -> n;
      }
      int f = oneOf(FACTS);
      return facts -> facts[f];
    }
  }

  // ---- the table

  static final class Table {
    List<Piece> pieces = new ArrayList<>();
    List<Rule> rules = List.of();
    List<int[]> reports = List.of();
    int[] anger = new int[6], welcome = {3, 3, 3, 3, 3, 3}, news = new int[16];
    int year = 0, end = 12, score = 0, mood = 5, she = 0, z = 1;

    Table() { java.util.Arrays.fill(news, 4); }

    Table copy() {
      Table t = new Table();
      for (Piece p : pieces) t.pieces.add(p.copy());
      t.rules = rules;
      t.reports = reports;
      t.anger = anger.clone();
      t.welcome = welcome.clone();
      t.news = news.clone();
      t.year = year;
      t.end = end;
      t.score = score;
      t.mood = mood;
      t.she = she;
      t.z = z;
      return t;
    }

    boolean over() { return year >= end; }

    Plate thing(int k) {
      Piece p = pieces.get(k);
      Plate t = blank(p.kind);
      t.n = k;
      t.a = p.home;
      t.anger = anger[p.home];
      t.width = p.width;
      return t;
    }

    boolean spans(int k, int place) {
      int first = pieces.get(k).first;
      return place >= first && place < first + thing(k).spans(year);
    }

    boolean there(int place) {
      for (int k = 0; k < pieces.size(); k++) if (pieces.get(k).seated && spans(k, place)) return true;
      return false;
    }

    boolean would(int k) {
      Piece p = pieces.get(k);
      return !p.seated && thing(k).grudge() <= mood + welcome[p.home];
    }

    int seated() {
      int set = 0;
      for (int k = 0; k < pieces.size(); k++) if (pieces.get(k).seated) set += 1 << k;
      return set;
    }

    int will(int k) {
      int[] facts = {year, pieces.get(k).width, thing(k).grudge(), mood, k};
      for (Rule r : rules) if (isA(pieces.get(k).kind, r.kind) && r.cond.holds(facts)) return r.act;
      return 0;
    }

    void hear() {
      int force = news[year] / 4, way = news[year] % 4;
      for (int i = 0; i < force; i++) {
        if (way == 0 && mood < 9) mood++;
        if (way == 1 && mood > 0) mood--;
        if (way == 2 && mood != 5) mood += mood < 5 ? 1 : -1;
      }
    }

    int told(int k) {
      Piece p = pieces.get(k);
      int will = will(k);
      if (will == 0 && !p.seated && would(k)) {
        p.seated = true;
        mood -= thing(k).grudge() / 3;
        if (mood < 0) mood = 0;
        return 1;
      }
      if (will == 0 && !p.seated && mood > 0) mood--;
      if (will == 2 && p.seated) {
        p.seated = false;
        if (mood < 9) mood++;
      }
      return 0;
    }

    int goOn() {
      int worth = 0;
      for (int i = 0; i < mood + 1; i++) {
        if (she == 40 || !there(she)) break;
        she++;
        worth += 2;
      }
      year++;
      return worth;
    }

    // act -1: as in THE REST
    int go(int act) {
      hear();
      int worth = 0;
      if (act > 0) worth += told(act - 1);
      if (act == -1) {
        for (int k = 0; k < pieces.size(); k++) if (would(k)) { worth += told(k); break; }
      }
      worth += goOn();
      return worth;
    }

    int goScore(int act) {
      int w = go(act);
      score += w;
      return w;
    }

    int rest(int n) {
      int w = 0;
      for (int i = 0; i < n && !over(); i++) w += go(-1);
      return w;
    }

    int lotAct() {
      z = z * 1103515245 + 12345;
      return (z >>> 16) % (pieces.size() + 1);
    }

    // ---- plans: each a row {acts .., }, with its end

    void plans(int n, List<Integer> acts, int worth, List<Plan> all) {
      if (n == 0 || over()) {
        Plan p = new Plan();
        p.acts = acts;
        p.worth = worth;
        p.seated = seated();
        all.add(p);
        return;
      }
      for (int act = 0; act <= pieces.size(); act++) {
        Table t = copy();
        List<Integer> more = new ArrayList<>(acts);
        more.add(act);
        int w = t.go(act);
        t.plans(n - 1, more, worth + w, all);
      }
    }

    int[] gameAndPlay(int n, boolean first) {
      if (n == 0 || over()) return new int[] {0, -3};
      int[] found = null;
      for (int act = 0; act <= pieces.size(); act++) {
        Table t = copy();
        int w = t.go(act);
        w += t.gameAndPlay(n - 1, !first)[0];
        if (found == null || (first ? w > found[0] : w < found[0])) found = new int[] {w, act};
      }
      return found;
    }

    // ---- lost

    boolean fits(int kind, int width, int m, int[] r) {
      Table t = new Table();
      t.news = news;
      t.mood = m;
      t.end = 16;
      Piece p = new Piece();
      p.kind = kind;
      p.width = width;
      p.seated = true;
      t.pieces.add(p);
      for (int i = 0; i < r[0]; i++) t.go(0);
      int is = r[1] == 0 ? t.she : t.mood;
      return r[2] <= is && is <= r[3];
    }

    List<int[]> fitting(int but) {
      List<int[]> found = new ArrayList<>();
      for (int kind = 1; kind < 6; kind++)
        for (int width = 0; width < 10; width++)
          for (int m = 0; m < 10; m++) {
            boolean all = true;
            for (int i = 0; i < reports.size() && all; i++) if (i != but) all = fits(kind, width, m, reports.get(i));
            if (all) found.add(new int[] {0, kind, width, m});
          }
      return found;
    }
  }

  static final class Plan {
    List<Integer> acts;
    int worth, seated;
  }

  static final class Shelved {
    int piece = -1;
    Object row = null;
  }

  Table t = new Table();
  Table kept = null;
  StringBuilder tape = new StringBuilder();
  List<int[]> rows = new ArrayList<>();
  Object[] sheets = new Object[4];
  Shelved[] shelves = {new Shelved(), new Shelved(), new Shelved(), new Shelved()};
  List<Integer> trace = new ArrayList<>();

  static void bad(boolean is) { refuse(is, -1); }
  static void refuse(boolean is, int code) { if (is) throw new Refusal(code); }
  static boolean in(int v, int from, int to) { return from <= v && v <= to; }
  boolean no(int k) { return !in(k, 0, t.pieces.size() - 1); }

  int plate(int kind, int first, int width, int home) {
    bad(!in(kind, 1, 5) || !in(first, 0, 39) || !in(width, 0, 9) || !in(home, 0, 5));
    refuse(t.pieces.size() == 6, -2);
    Piece p = new Piece();
    p.kind = kind;
    p.first = first;
    p.width = width;
    p.home = home;
    t.pieces.add(p);
    return t.pieces.size() - 1;
  }

  int plateOf(int k, int what) {
    bad(no(k) || !in(what, 0, 8));
    Piece p = t.pieces.get(k);
    int[] all = {p.kind, p.first, p.width, p.home, p.seated ? 1 : 0, t.thing(k).spans(t.year), t.thing(k).grudge(), t.would(k) ? 1 : 0, t.will(k)};
    return all[what];
  }

  int change(int k, int what, int v) {
    bad(no(k) || !in(what, 1, 4));
    int was = plateOf(k, what);
    bad(!in(v, 0, new int[] {0, 39, 9, 5, 1}[what]));
    Piece p = t.pieces.get(k);
    if (what == 1) p.first = v;
    if (what == 2) p.width = v;
    if (what == 3) p.home = v;
    if (what == 4) p.seated = v == 1;
    return was;
  }

  int remake(int k, int kind) {
    bad(no(k) || !in(kind, 1, 5));
    int was = t.pieces.get(k).kind;
    t.pieces.get(k).kind = kind;
    return was;
  }

  int news(int year, int v) {
    bad(!in(year, 0, 15) || !in(v, 0, 15));
    int was = t.news[year];
    t.news[year] = v;
    return was;
  }

  int home(int f, int what, int v) {
    int was = homeOf(f, what);
    bad(!in(v, 0, 9));
    (what == 0 ? t.anger : t.welcome)[f] = v;
    return was;
  }

  int homeOf(int f, int what) {
    bad(!in(f, 0, 5) || !in(what, 0, 1));
    return (what == 0 ? t.anger : t.welcome)[f];
  }

  int family(int what, int v) {
    bad(!in(what, 0, 1) || !in(v, 0, what == 0 ? 9 : 40));
    int was = what == 0 ? t.mood : t.she;
    if (what == 0) t.mood = v; else t.she = v;
    return was;
  }

  int ends(int v) {
    bad(!in(v, 1, 16));
    refuse(v < t.year, -4);
    int was = t.end;
    t.end = v;
    return was;
  }

  int anew() {
    int was = t.year;
    t.year = 0;
    t.score = 0;
    t.mood = 5;
    t.she = 0;
    for (Piece p : t.pieces) p.seated = false;
    return was;
  }

  int state(int what) {
    bad(!in(what, 0, 7));
    return new int[] {t.year, t.end, t.score, t.over() ? 1 : 0, t.seated(), t.year > 15 ? 0 : t.news[t.year], t.mood, t.she}[what];
  }

  int feed(long eight, int n) {
    bad(!in(n, 1, 8));
    refuse(tape.length() + n > 200, -2);
    for (int i = 0; i < n; i++) {
      tape.append((char) (eight & 255));
      eight >>= 8;
    }
    return tape.length();
  }

  int rules() {
    String text = tape.toString();
    tape.setLength(0);
    t.rules = new Text(text).rules();
    return t.rules.size();
  }

  int year() {
    refuse(t.over(), -4);
    return t.goScore(-1);
  }

  int on(int n) {
    bad(!in(n, 0, 16));
    return t.copy().rest(n);
  }

  int when(int k) {
    bad(no(k));
    Table c = t.copy();
    refuse(c.pieces.get(k).seated, -3);
    while (!c.over()) {
      c.go(-1);
      if (c.pieces.get(k).seated) return c.year - 1;
    }
    return -3;
  }

  int bestBy(int k, int what, int highest) {
    bad(no(k));
    int best = 0, most = -1;
    for (int v = 0; v <= highest; v++) {
      Table c = t.copy();
      if (what == 2) c.pieces.get(k).width = v; else c.pieces.get(k).first = v;
      int w = c.rest(99);
      if (w > most) { most = w; best = v; }
    }
    return best;
  }

  int widthFor(int k) { return bestBy(k, 2, 9); }

  int pieceFor(int k) { return bestBy(k, 1, 39); }

  int over(int place) {
    bad(!in(place, 0, 40));
    Table c = t.copy();
    while (!c.over()) {
      c.go(-1);
      if (c.she >= place) return c.year - 1;
    }
    return -3;
  }

  int gap(int what) {
    bad(!in(what, 0, 1));
    int away = 0;
    for (int place = 0; place < 40; place++) {
      if (!t.there(place)) away++;
      boolean any = false;
      for (int k = 0; k < t.pieces.size(); k++) any |= t.spans(k, place);
      if (what == 0 && place >= t.she && !any) return place;
    }
    return what == 0 ? -3 : away;
  }

  int branches(int what) {
    bad(what != -1 && no(what));
    int n = t.pieces.size();
    boolean[][] hang = new boolean[n][n];
    for (int i = 0; i < n; i++)
      for (int j = 0; j < n; j++) {
        Piece p = t.pieces.get(i), q = t.pieces.get(j);
        hang[i][j] = !p.seated && !q.seated && (p.home == q.home || Math.abs(p.first - q.first) < 3);
      }
    for (int m = 0; m < n; m++) for (int i = 0; i < n; i++) for (int j = 0; j < n; j++) hang[i][j] |= hang[i][m] && hang[m][j];
    List<Integer> sets = new ArrayList<>();
    for (int i = 0; i < n; i++) {
      int set = 0;
      for (int j = 0; j < n; j++) if (hang[i][j]) set |= 1 << j;
      if (i == what) return set;
      if (set != 0 && !sets.contains(set)) sets.add(set);
    }
    return sets.size();
  }

  void fetchRows(int at, List<Integer> row, int way, int[] best) {
    boolean all = true;
    for (int k = 0; k < t.pieces.size(); k++) {
      if (t.pieces.get(k).seated || row.contains(k)) continue;
      all = false;
      row.add(k);
      fetchRows(t.pieces.get(k).first, row, way + Math.abs(at - t.pieces.get(k).first), best);
      row.remove(row.size() - 1);
    }
    if (all && way < best[0]) {
      best[0] = way;
      best[1] = row.isEmpty() ? -3 : row.get(0);
    }
  }

  int fetch(int place, int what) {
    bad(!in(place, 0, 40) || !in(what, 0, 1));
    int[] best = {9999, 0};
    fetchRows(place, new ArrayList<>(), 0, best);
    return best[what];
  }

  List<Plan> allPlans(int n) {
    List<Plan> all = new ArrayList<>();
    t.copy().plans(n, new ArrayList<>(), 0, all);
    return all;
  }

  List<Plan> bestPlans(int n) {
    bad(!in(n, 0, 4));
    List<Plan> all = allPlans(n), best = new ArrayList<>();
    int most = 0;
    for (Plan p : all) most = Math.max(most, p.worth);
    for (Plan p : all) if (p.worth == most) best.add(p);
    return best;
  }

  int best(int n) { return bestPlans(n).get(0).worth; }

  int ith(int n, int i) {
    bad(!in(i, 0, 3));
    List<Integer> acts = bestPlans(n).get(0).acts;
    return i < acts.size() ? acts.get(i) : -3;
  }

  int ways(int n) { return bestPlans(n).size(); }

  int supper(int n, int plates) {
    bad(!in(n, 0, 4) || !in(plates, 0, (1 << t.pieces.size()) - 1));
    int fewest = 99;
    for (Plan p : allPlans(n)) {
      int acts = 0;
      for (int a : p.acts) if (a != 0) acts++;
      if ((p.seated & plates) == plates) fewest = Math.min(fewest, acts);
    }
    return fewest == 99 ? -3 : fewest;
  }

  int bars(int n, int plates) {
    bad(!in(n, 0, 4) || !in(plates, 0, (1 << t.pieces.size()) - 1));
    List<Plan> all = allPlans(n);
    for (int k = 0; k < 6; k++) {
      if ((plates >> k & 1) == 0) continue;
      boolean some = false;
      for (Plan p : all) some |= (p.seated >> k & 1) == 1;
      if (!some) return k;
    }
    return -3;
  }

  int game(int n) {
    bad(!in(n, 1, 4));
    return t.gameAndPlay(n, true)[0];
  }

  int play(int n) {
    bad(!in(n, 1, 4));
    return t.gameAndPlay(n, true)[1];
  }

  int report(int k, int asked, int least, int most) {
    bad(!in(k, 0, 15) || !in(asked, 0, 1));
    int high = asked == 0 ? 40 : 9;
    bad(!in(least, 0, high) || !in(most, 0, high) || most < least);
    refuse(t.reports.size() == 6, -2);
    t.reports = new ArrayList<>(t.reports);
    t.reports.add(new int[] {k, asked, least, most});
    return t.reports.size() - 1;
  }

  int forget() {
    int were = t.reports.size();
    t.reports = List.of();
    return were;
  }

  int lost(int what) {
    bad(!in(what, 0, 3));
    List<int[]> fit = t.fitting(-1);
    if (what == 0) return fit.size();
    return fit.isEmpty() ? -3 : fit.get(0)[what];
  }

  int liar() {
    refuse(!t.fitting(-1).isEmpty(), -3);
    for (int r = 0; r < t.reports.size(); r++) if (!t.fitting(r).isEmpty()) return r;
    return -3;
  }

  int seed(int v) {
    int was = t.z;
    t.z = v;
    return was;
  }

  int lot() {
    refuse(t.over(), -4);
    return t.goScore(t.lotAct());
  }

  int times(int n, int v) {
    bad(!in(n, 1, 40) || !in(v, 0, 999));
    int z = t.z, count = 0;
    for (int i = 0; i < n; i++) {
      Table c = t.copy();
      c.z = z;
      int w = 0;
      while (!c.over()) w += c.go(c.lotAct());
      z = c.z;
      if (w >= v) count++;
    }
    return count;
  }

  int prove(int n) {
    List<Integer> acts = bestPlans(n).get(0).acts;
    rows = new ArrayList<>();
    Table c = t.copy();
    for (int a : acts) {
      int w = c.go(a);
      rows.add(new int[] {a, w, c.seated()});
    }
    return rows.size();
  }

  int row(int k, int what) {
    refuse(!in(k, 0, rows.size() - 1) || !in(what, 0, 2), -9);
    return rows.get(k)[what];
  }

  int alterRow(int k, int what, int v) {
    int was = row(k, what);
    rows.get(k)[what] = v;
    return was;
  }

  int judge() {
    Table c = t.copy();
    for (int k = 0; k < rows.size(); k++) {
      int[] r = rows.get(k);
      if (c.over() || !in(r[0], 0, c.pieces.size())) return k + 1;
      int w = c.go(r[0]);
      if (r[1] != w || r[2] != c.seated()) return k + 1;
    }
    return 0;
  }

  static int sortOf(Object row) {
    if (row instanceof byte[]) return 0;
    if (row instanceof short[]) return 1;
    if (row instanceof int[]) return 2;
    return row instanceof long[] ? 3 : 4;
  }

  int sheet(int s, int sort, int n) {
    bad(!in(s, 0, 3) || !in(sort, -1, 4));
    if (sort == -1) {
      sheets[s] = null;
      return 1;
    }
    bad(n > 40);
    refuse(n < 0, -14);
    Class<?>[] sorts = {byte.class, short.class, int.class, long.class, boolean.class};
    sheets[s] = java.lang.reflect.Array.newInstance(sorts[sort], n);
    return 1;
  }

  int write(int s, int i, int v) {
    bad(!in(s, 0, 3));
    Object row = sheets[s];
    refuse(row == null, -11);
    refuse(!in(i, 0, java.lang.reflect.Array.getLength(row) - 1), -12);
    if (row instanceof byte[] b) b[i] = (byte) v;
    if (row instanceof short[] b) b[i] = (short) v;
    if (row instanceof int[] b) b[i] = v;
    if (row instanceof long[] b) b[i] = v;
    if (row instanceof boolean[] b) b[i] = v != 0;
    return 1;
  }

  Object rowFor(int s, int sort) {
    refuse(sheets[s] != null && sortOf(sheets[s]) != sort, -13);
    refuse(sheets[s] == null, -11);
    return sheets[s];
  }

  int item(int s, int sort, int i) {
    bad(!in(s, 0, 3) || !in(sort, 0, 4));
    Object row = rowFor(s, sort);
    refuse(!in(i, 0, java.lang.reflect.Array.getLength(row) - 1), -12);
    if (row instanceof long[] b) return (int) b[i];
    if (row instanceof boolean[] b) return b[i] ? 1 : 0;
    return java.lang.reflect.Array.getInt(row, i);
  }

  int goAll(int s, int i, int n) {
    bad(!in(s, 0, 3) || !in(n, 0, 20));
    byte[] acts = (byte[]) rowFor(s, 0);
    int worth = 0;
    for (int j = 0; j < n; j++) {
      long at = (long) i + j;
      refuse(at < 0 || at >= acts.length, -12);
      int a = acts[(int) at];
      if (in(a, 0, t.pieces.size()) && !t.over()) worth += t.goScore(a);
    }
    return worth;
  }

  int wouldBe(int s, int i, int n) {
    bad(!in(s, 0, 3) || !in(n, 0, 20));
    byte[] acts = (byte[]) rowFor(s, 0);
    Table c = t.copy();
    int worth = 0;
    for (int j = 0; j < n; j++) {
      long at = (long) i + j;
      refuse(at < 0 || at >= acts.length, -12);
      int a = acts[(int) at];
      refuse(!in(a, 0, c.pieces.size()) || c.over(), -4);
      worth += c.go(a);
    }
    return worth;
  }

  int shelf(int s, int what, int n) {
    bad(!in(s, 0, 3) || !in(what, 0, 2));
    bad(what == 0 && no(n));
    bad(what == 1 && !in(n, 0, 3));
    shelves[s] = new Shelved();
    if (what == 0) shelves[s].piece = n;
    if (what == 1) shelves[s].row = sheets[n];
    return 1;
  }

  Object held(int s) {
    if (shelves[s].row != null) return shelves[s].row;
    return no(shelves[s].piece) ? null : t.thing(shelves[s].piece);
  }

  int taken(int s, int as) {
    bad(!in(s, 0, 3) || !in(as, 0, 14) || in(as, 6, 9));
    Object h = held(s);
    refuse(h == null, -11);
    if (h instanceof Plate p) {
      refuse(as > 5 || !blank(as).getClass().isInstance(p), -13);
      return p.n;
    }
    refuse(as < 10 || sortOf(h) != as - 10, -13);
    return java.lang.reflect.Array.getLength(h);
  }

  int act(int s, int act, int x) {
    trace = new ArrayList<>();
    if (!in(s, 0, 3) || !in(act, 0, 3) || !(held(s) instanceof Plate)) return 0;
    Plate p = (Plate) held(s);
    trace = p.bodies;
    switch (act) {
      case 0: return p.lays(x);
      case 1: return p.tilts(x);
      case 2: return p.breaks(x);
      default: return p.shines(x);
    }
  }

  int trace(int i) { return in(i, 0, trace.size() - 1) ? trace.get(i) : -3; }

  int many(int what) {
    bad(!in(what, 0, 6));
    return new int[] {t.pieces.size(), t.rules.size(), Integer.bitCount(t.seated()), t.reports.size(), rows.size(), tape.length(), trace.size()}[what];
  }

  int keep() {
    kept = t.copy();
    return 1;
  }

  int again() {
    refuse(kept == null, -3);
    t = kept.copy();
    return t.pieces.size();
  }
}
