/** What tests share: which answer is due, texts that are typed, what the items of a sheet are. */
abstract class Kit {
  static final int BAD = -1, NOT = -2, FULL = -3, NONE = -4, NULL = -11, CAST = -12, INDEX = -13, SIZE = -14;
  static final int MAX = Integer.MAX_VALUE, MIN = Integer.MIN_VALUE;
  /** Of an item that is no set of eight parts. */
  static final int OTHER = -1;

  private static int asked = 0;
  private static int wrong = 0;

  static void due(String what, int got, int want) {
    asked++;
    if (got != want) {
      wrong++;
      System.out.println(what + " answered " + got + ", due is " + want);
    }
  }

  static void end() {
    System.out.println(asked + " answers, " + wrong + " not as due");
    if (wrong != 0) System.exit(1);
  }

  /** Types a text, eight bytes at a time: what the last call answered. */
  static int type(DownAsUp x, String text) {
    int last = 0;
    for (int at = 0; at < text.length(); at += 8) {
      int n = Math.min(8, text.length() - at);
      long w = 0;
      for (int i = 0; i < n; i++) w = w << 8 | text.charAt(at + i);
      last = x.type(w, n);
    }
    return last;
  }

  static DownAsUp townOf(String text) {
    DownAsUp x = new DownAsUp();
    type(x, text);
    if (x.town() < 0) due("a town of the tests, " + text, 0, 1);
    return x;
  }

  static int townAnswer(String text) {
    DownAsUp x = new DownAsUp();
    type(x, text);
    return x.town();
  }

  /** Eight houses of 99 yards, at place 99, of owner 3: as much as there may be. */
  static DownAsUp greatTown() {
    DownAsUp x = new DownAsUp();
    for (int i = 0; i < 8; i++) x.part(0, 99, 99, 3, 0);
    return x;
  }

  /**
   * The first n items of a sheet, each as a set of eight parts, or OTHER. No call tells an item, so each is taken as what
   * goes in a week of a town made for that: what does not stand can't go. Town and another sheet are lost by it.
   */
  static int[] held(DownAsUp x, int sheet, int lane, int n) {
    int aside = (sheet + 1) % 4;
    x.sheet(aside, lane, 2);
    x.type(' ', 1);
    x.town();
    type(x, "h1,h1,h1,h1,h1,h1,h1,h1");
    x.town();
    x.set(1, 999);
    int[] items = new int[n];
    x.stand(255);
    for (int i = 0; i < n; i++) items[i] = goes(x, sheet, lane, i, aside) ? 0 : OTHER;
    for (int part = 0; part < 8; part++) {
      x.stand(255 - (1 << part));
      for (int i = 0; i < n; i++)
        if (items[i] != OTHER && !goes(x, sheet, lane, i, aside)) items[i] |= 1 << part;
    }
    return items;
  }

  private static boolean goes(DownAsUp x, int sheet, int lane, int i, int aside) {
    x.copy(sheet, i, aside, 0, 1);
    return x.judged(aside, lane, 0, 1) == NONE;
  }

  static void dueItems(String what, DownAsUp x, int sheet, int lane, int... want) {
    int[] got = held(x, sheet, lane, want.length);
    for (int i = 0; i < want.length; i++) due(what + ", item " + i, got[i], want[i]);
  }
}
