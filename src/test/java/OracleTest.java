import java.lang.reflect.InvocationTargetException;
import java.lang.reflect.Method;

// Long runs of calls, drawn by a fixed row of numbers, each answer compared with the oracle's.
public final class OracleTest {
  // name, how often, and from which range each int is drawn (rarely beyond it)
  private static final Object[][] CALLS = {
    {"plate", 9, 1, 5, 0, 39, 0, 9, 0, 5}, {"plateOf", 14, 0, 5, 0, 8}, {"change", 10, 0, 5, 1, 4, 0, 9},
    {"remake", 3, 0, 5, 1, 5}, {"news", 5, 0, 15, 0, 15}, {"home", 5, 0, 5, 0, 1, 0, 9}, {"homeOf", 2, 0, 5, 0, 1},
    {"family", 3, 0, 1, 0, 9}, {"ends", 2, 1, 16}, {"anew", 3}, {"state", 10, 0, 7}, {"text", 8},
    {"rules", 1}, {"feed", 1, 1, 8}, {"year", 9}, {"on", 4, 0, 16}, {"when", 4, 0, 5}, {"widthFor", 3, 0, 5},
    {"pieceFor", 2, 0, 5}, {"over", 5, 0, 40}, {"gap", 5, 0, 1}, {"branches", 6, -1, 5}, {"fetch", 5, 0, 40, 0, 1},
    {"best", 3, 0, 4}, {"ith", 3, 0, 4, 0, 3}, {"ways", 3, 0, 4}, {"supper", 4, 0, 4, 0, 63}, {"bars", 4, 0, 4, 0, 63},
    {"game", 3, 1, 4}, {"play", 3, 1, 4}, {"report", 3, 0, 15, 0, 1, 0, 9, 0, 12}, {"forget", 1},
    {"lost", 1, 0, 3}, {"liar", 1}, {"seed", 2, -999999, 999999}, {"lot", 3}, {"times", 2, 1, 40, 0, 60},
    {"prove", 3, 0, 4}, {"row", 4, 0, 4, 0, 2}, {"alterRow", 2, 0, 3, 0, 2, 0, 9}, {"judge", 4},
    {"sheet", 4, 0, 3, -1, 4, 0, 40}, {"write", 9, 0, 3, 0, 12, -3, 7}, {"item", 5, 0, 3, 0, 4, 0, 12},
    {"goAll", 2, 0, 3, 0, 8, 0, 5}, {"wouldBe", 5, 0, 3, 0, 8, 0, 5}, {"shelf", 6, 0, 3, 0, 2, 0, 5},
    {"taken", 7, 0, 3, 0, 14}, {"act", 9, 0, 3, 0, 3, -50, 50}, {"trace", 7, 0, 12}, {"many", 6, 0, 6},
    {"keep", 1}, {"again", 1},
  };
  private static final int[] EDGES = {Integer.MIN_VALUE, Integer.MAX_VALUE, -2, -1, 0, 1, 41, 255, 32768, 70000};
  private static final int RUNS = 60;

  private static long seed = 20261118L;
  private static int wrong = 0;
  private static final int[] answered = new int[CALLS.length];

  private static int draw(int least, int most) {
    seed = seed * 6364136223846793005L + 1442695040888963407L;
    return least + (int) ((seed >>> 33) % (most - least + 1L));
  }

  public static void main(String[] args) throws Exception {
    int runs = args.length > 0 ? Integer.parseInt(args[0]) : RUNS;
    if (args.length > 1) seed = Long.parseLong(args[1]);
    for (int run = 0; run < runs && wrong == 0; run++) run(run);
    for (int i = 0; i < CALLS.length; i++) {
      if (CALLS[i][0].equals("text") || CALLS[i][0].equals("feed") || wrong != 0 || answered[i] > 0) continue;
      wrong++;
      System.out.println(CALLS[i][0] + " never answered anything");
    }
    System.out.println(runs + " runs, " + wrong + " answers not as due");
    if (wrong != 0) System.exit(1);
  }

  private static void run(int run) throws Exception {
    BridgeService made = new BridgeService();
    Oracle due = new Oracle();
    StringBuilder log = new StringBuilder();
    int all = 0;
    for (Object[] c : CALLS) all += (Integer) c[1];
    int calls = 0;
    // the first calls set a table, so that there is something to ask about
    int pieces = draw(0, 6);
    while (calls < pieces) {
      calls++;
      compare(run, made, due, 0, log, new int[] {draw(1, 5), calls == 1 ? draw(0, 2) : draw(0, 20), draw(0, 9), draw(0, 5)});
    }
    while (calls < 500 && wrong == 0) {
      int at = draw(0, all - 1);
      int i = 0;
      while (at >= (Integer) CALLS[i][1]) at -= (Integer) CALLS[i++][1];
      Object[] c = CALLS[i];
      if (c[0].equals("text")) {
        String text = Texts.draw(OracleTest::draw);
        for (int from = 0; from < text.length(); from += 8) {
          long eight = 0;
          int n = Math.min(8, text.length() - from);
          for (int j = n - 1; j >= 0; j--) eight = eight << 8 | text.charAt(from + j);
          if (draw(0, 200) == 0 || calls > 505) break;
          calls++;
          compareFeed(made, due, log, eight, n);
        }
        calls++;
        compare(run, made, due, 12, log, new int[0]);
        continue;
      }
      calls++;
      if (c[0].equals("feed")) {
        compareFeed(made, due, log, ((long) draw(0, Integer.MAX_VALUE)) << 31 ^ draw(0, Integer.MAX_VALUE), drawArg(1, 8));
        continue;
      }
      int[] drawn = new int[(c.length - 2) / 2];
      for (int j = 0; j < drawn.length; j++) drawn[j] = drawArg((Integer) c[2 + 2 * j], (Integer) c[3 + 2 * j]);
      if (c[0].equals("report") && draw(0, 3) > 0) drawn[3] = Math.max(drawn[2], drawn[3]);
      compare(run, made, due, i, log, drawn);
    }
  }

  private static int drawArg(int least, int most) {
    int way = draw(0, 99);
    if (way == 0) return EDGES[draw(0, EDGES.length - 1)];
    if (way == 1) return least - 1;
    if (way == 2) return most == Integer.MAX_VALUE ? most : most + 1;
    if (way == 3) return draw(0, 1) == 0 ? least : most;
    return draw(least, most);
  }

  private static void compareFeed(BridgeService made, Oracle due, StringBuilder log, long eight, int n) {
    log.append("feed(").append(eight).append("L, ").append(n).append(")\n");
    int got = made.feed(eight, n);
    int want;
    try {
      want = due.feed(eight, n);
    } catch (Oracle.Refusal r) {
      want = r.code;
    }
    if (got != want) tell(log, got, want);
  }

  private static void compare(int run, BridgeService made, Oracle due, int i, StringBuilder log, int[] drawn) throws Exception {
    String name = (String) CALLS[i][0];
    Class<?>[] types = new Class<?>[drawn.length];
    Object[] values = new Object[drawn.length];
    for (int j = 0; j < drawn.length; j++) {
      types[j] = int.class;
      values[j] = drawn[j];
    }
    log.append(name).append(java.util.Arrays.toString(drawn)).append('\n');
    Method one = BridgeService.class.getMethod(name, types);
    Method other = Oracle.class.getDeclaredMethod(name, types);
    int got = (Integer) one.invoke(made, values);
    int want;
    try {
      want = (Integer) other.invoke(due, values);
    } catch (InvocationTargetException e) {
      if (!(e.getCause() instanceof Oracle.Refusal)) throw e;
      want = ((Oracle.Refusal) e.getCause()).code;
    }
    if (want >= 0) answered[i]++;
    if (got != want) {
      System.out.println("run " + run);
      tell(log, got, want);
    }
  }

  private static void tell(StringBuilder log, int got, int want) {
    wrong++;
    System.out.println(log);
    System.out.println("the last call answered " + got + ", due is " + want);
  }
}
