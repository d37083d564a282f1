// Feeds a text, byte by byte as calls allow, and has it read.
final class Say {
  private Say() {}

  static int feed(BridgeService x, String text) {
    int answer = 0;
    for (int from = 0; from < text.length(); from += 8) {
      int n = Math.min(8, text.length() - from);
      long eight = 0L;
      for (int j = n - 1; j >= 0; j--) eight = eight << 8 | text.charAt(from + j);
      answer = x.feed(eight, n);
    }
    return answer;
  }

  static int rules(BridgeService x, String text) {
    feed(x, text);
    return x.rules();
  }
}
