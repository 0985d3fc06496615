/** The edges of block 4: sheets, books on them, films, copies; and which refusal comes first. */
public final class SheetEdgesTest extends Kit {
  private static final int[] NO_SHEETS = {MIN, MIN + 1, -256, -2, -1, 4, 5, 256, 65536, MAX - 1, MAX};
  private static final int[] NO_LANES = {MIN, MIN + 2, -256, -2, -1, 3, 4, 256, 65536, MAX - 1, MAX};

  public static void main(String[] args) {
    heldTellsItems();
    sheetsAndLanes();
    sizesOfSheets();
    newRowsAreOfNoughts();
    refusedSheetStays();
    drops();
    itemsOfARow();
    lowestBits();
    itemRefusals();
    judgedRefusals();
    judgedWhereFrom();
    judgedHowMany();
    judgedFirst();
    judgedBadLines();
    judgedTakesFreeAlong();
    wrongRefusals();
    wrongStood();
    wrongLines();
    wrongManyLines();
    filmRefusals();
    filmWhereFrom();
    filmOfNoWeeks();
    filmWritesItsSetsAlone();
    copyRefusals();
    copyWhereFromAndTo();
    copyOfNone();
    copyWithinOne();
    copyKeepsWhatItems();
    end();
  }

  // The way by which these tests look at items, looked at itself.
  private static void heldTellsItems() {
    for (int lane = 0; lane < 3; lane++) {
      DownAsUp x = new DownAsUp();
      x.sheet(2, lane, 24);
      long[] items = {0, 1, 2, 128, 254, 255, 256, -1, 257, 85};
      int[] want = {0, 1, 2, 128, 254, 255, OTHER, OTHER, OTHER, 85, 0, 0, 0, 0, 0, 0, 0, 0, 0, 0, 0, 0, 0, 0};
      for (int i = 0; i < items.length; i++) x.item(2, lane, i, items[i]);
      dueItems("held", x, 2, lane, want);
    }
  }

  // "sheets 0 .. 3: nothing (at first), or a row of a LANE: 0 shorts, 1 ints, 2 longs"
  private static void sheetsAndLanes() {
    DownAsUp x = new DownAsUp();
    for (int s : NO_SHEETS) {
      due("23 sheet(" + s + ", 0, 1)", x.sheet(s, 0, 1), BAD);
      due("24 drop(" + s + ")", x.drop(s), BAD);
      due("25 item(" + s + ", 0, 0, 1)", x.item(s, 0, 0, 1), BAD);
      due("21 judged(" + s + ", 0, 0, 1)", x.judged(s, 0, 0, 1), BAD);
      due("22 wrong(" + s + ", 0, 0, 1, 0)", x.wrong(s, 0, 0, 1, 0), BAD);
      due("26 film(" + s + ", 0, 0)", x.film(s, 0, 0), BAD);
      due("27 copy from " + s, x.copy(s, 0, 0, 0, 0), BAD);
      due("27 copy to " + s, x.copy(0, 0, s, 0, 0), BAD);
    }
    for (int s = 0; s < 4; s++) due("23 still nothing", x.drop(s), NULL);
    for (int s = 0; s < 4; s++)
      for (int lane = 0; lane < 3; lane++) {
        due("23 sheet(" + s + ", " + lane + ", 2)", x.sheet(s, lane, 2), 2);
        for (int other = 0; other < 3; other++) {
          due("25 as lane " + other, x.item(s, other, 0, 0), other == lane ? 1 : CAST);
          due("21 as lane " + other, x.judged(s, other, 0, 1), other == lane ? NONE : CAST);
          due("22 as lane " + other, x.wrong(s, other, 0, 1, 0), other == lane ? 1 : CAST);
          due("26 as lane " + other, x.film(s, other, 0), other == lane ? 0 : CAST);
        }
      }
    for (int lane : NO_LANES) {
      due("23 lane " + lane, x.sheet(0, lane, 1), BAD);
      due("25 lane " + lane, x.item(0, lane, 0, 1), BAD);
      due("21 lane " + lane, x.judged(0, lane, 0, 1), BAD);
      due("22 lane " + lane, x.wrong(0, lane, 0, 1, 0), BAD);
      due("26 lane " + lane, x.film(0, lane, 0), BAD);
    }
    for (int s = 0; s < 4; s++) due("24 two items each", x.drop(s), 2);
  }

  // "of 0 to 24 items", "BAD: also n above 24; SIZE: n below 0"
  private static void sizesOfSheets() {
    DownAsUp x = new DownAsUp();
    for (int lane = 0; lane < 3; lane++) {
      for (int n = 0; n <= 24; n++) {
        due("23 n " + n, x.sheet(lane, lane, n), n);
        due("24 n " + n, x.drop(lane), n);
      }
      for (int n : new int[] {25, 26, 48, 256, 65536, 1 << 30, MAX - 1, MAX}) due("23 n " + n, x.sheet(lane, lane, n), BAD);
      for (int n : new int[] {-1, -2, -24, -256, -65536, MIN + 1, MIN}) {
        due("23 n " + n, x.sheet(lane, lane, n), SIZE);
        due("23 BAD ahead of SIZE, sheet -1, n " + n, x.sheet(-1, lane, n), BAD);
        due("23 BAD ahead of SIZE, sheet 4, n " + n, x.sheet(4, lane, n), BAD);
        due("23 BAD ahead of SIZE, lane -1, n " + n, x.sheet(lane, -1, n), BAD);
        due("23 BAD ahead of SIZE, lane 3, n " + n, x.sheet(lane, 3, n), BAD);
      }
      due("23 still nothing", x.drop(lane), NULL);
    }
  }

  // "A SHEET holds a new row": of noughts, whatever it held, as long or as short as it was
  private static void newRowsAreOfNoughts() {
    for (int lane = 0; lane < 3; lane++) {
      DownAsUp x = new DownAsUp();
      x.sheet(1, lane, 4);
      for (int i = 0; i < 4; i++) x.item(1, lane, i, 9);
      due("23 anew", x.sheet(1, lane, 4), 4);
      for (int i = 0; i < 2; i++) x.item(1, lane, i, 9);
      due("23 shorter", x.sheet(1, lane, 1), 1);
      due("25 its second", x.item(1, lane, 1, 9), INDEX);
      due("23 longer", x.sheet(1, lane, 6), 6);
      dueItems("23 noughts", x, 1, lane, 0, 0, 0, 0, 0, 0);
      DownAsUp y = new DownAsUp();
      y.sheet(1, lane, 2);
      y.item(1, lane, 0, 9);
      due("23 of another lane", y.sheet(1, (lane + 1) % 3, 2), 2);
      due("25 as the old lane", y.item(1, lane, 0, 9), CAST);
      dueItems("23 noughts of another lane", y, 1, (lane + 1) % 3, 0, 0);
      DownAsUp z = new DownAsUp();
      z.sheet(1, lane, 3);
      z.item(1, lane, 2, 9);
      z.drop(1);
      z.sheet(1, lane, 3);
      dueItems("23 noughts behind drop()", z, 1, lane, 0, 0, 0);
    }
  }

  private static void refusedSheetStays() {
    DownAsUp x = new DownAsUp();
    x.sheet(0, 1, 3);
    for (int i = 0; i < 3; i++) x.item(0, 1, i, 5 + i);
    x.sheet(0, 1, 25);
    x.sheet(0, 1, -1);
    x.sheet(0, 2, -1);
    x.sheet(0, 3, 2);
    x.sheet(0, -1, 2);
    due("23 its lane stays", x.item(0, 2, 0, 0), CAST);
    due("23 its size stays", x.item(0, 1, 3, 0), INDEX);
    dueItems("23 its items stay", x, 0, 1, 5, 6, 7);
    due("23 its size stays", x.drop(0), 3);
  }

  // "A SHEET holds nothing: how many items it had. BAD; NULL."
  private static void drops() {
    DownAsUp x = new DownAsUp();
    for (int s = 0; s < 4; s++) {
      due("24 nothing", x.drop(s), NULL);
      x.sheet(s, 0, 0);
      due("24 none", x.drop(s), 0);
      due("24 nothing again", x.drop(s), NULL);
      x.sheet(s, 0, 24);
      due("24 all", x.drop(s), 24);
      due("24 nothing again", x.drop(s), NULL);
      due("24 nothing to name", x.item(s, 0, 0, 0), NULL);
      due("24 nothing to judge", x.judged(s, 0, 0, 1), NULL);
      due("24 nothing to look for", x.wrong(s, 0, 0, 1, 0), NULL);
      due("24 nothing to film on", x.film(s, 0, 0), NULL);
    }
    x.sheet(0, 0, 1);
    x.sheet(1, 0, 2);
    due("24 only that one", x.drop(0), 1);
    due("24 the other stays", x.drop(1), 2);
  }

  // "Item i ... becomes v"
  private static void itemsOfARow() {
    for (int lane = 0; lane < 3; lane++)
      for (int n : new int[] {0, 1, 2, 23, 24}) {
        DownAsUp x = new DownAsUp();
        x.sheet(3, lane, n);
        due("25 item -1 of " + n, x.item(3, lane, -1, 7), INDEX);
        due("25 item " + n + " of " + n, x.item(3, lane, n, 7), INDEX);
        due("25 item 24 of " + n, x.item(3, lane, 24, 7), INDEX);
        for (int i : new int[] {MIN, MIN + 1, -24, -2, 25, 96, 256, 65536, MAX - 1, MAX}) due("25 item " + i + " of " + n, x.item(3, lane, i, 7), INDEX);
        if (n == 0) continue;
        due("25 the first of " + n, x.item(3, lane, 0, 5), 1);
        due("25 the last of " + n, x.item(3, lane, n - 1, 6), 1);
        int[] want = new int[n];
        want[0] = 5;
        want[n - 1] = 6;
        dueItems("25 items of " + n, x, 3, lane, want);
      }
    // The sheets lie side by side: an item beyond one is not the next one's.
    DownAsUp x = new DownAsUp();
    for (int s = 0; s < 4; s++) x.sheet(s, 1, 24);
    x.item(0, 1, 24, 9);
    x.item(2, 1, -1, 9);
    dueItems("25 nothing came there", x, 1, 1, 0, 0, 0, 0, 0, 0, 0, 0, 0, 0, 0, 0, 0, 0, 0, 0, 0, 0, 0, 0, 0, 0, 0, 0);
  }

  // "becomes v, its lowest bits"
  private static void lowestBits() {
    long[] items = {65536 + 3, -65536 + 4, 32768, 65535, 32767, (1L << 32) + 5, (1L << 31) + 6, -(1L << 31) + 7, (1L << 63) + 8,
      Long.MAX_VALUE, Long.MIN_VALUE, (1L << 16) + (1L << 40) + 9, 255, 256};
    int[][] want = {
      {3, 4, OTHER, OTHER, OTHER, 5, 6, 7, 8, OTHER, 0, 9, 255, OTHER},
      {OTHER, OTHER, OTHER, OTHER, OTHER, 5, OTHER, OTHER, 8, OTHER, 0, OTHER, 255, OTHER},
      {OTHER, OTHER, OTHER, OTHER, OTHER, OTHER, OTHER, OTHER, OTHER, OTHER, OTHER, OTHER, 255, OTHER}
    };
    for (int lane = 0; lane < 3; lane++) {
      DownAsUp x = new DownAsUp();
      x.sheet(0, lane, 24);
      for (int i = 0; i < items.length; i++) due("25 v " + items[i], x.item(0, lane, i, items[i]), 1);
      dueItems("25 lowest bits of lane " + lane, x, 0, lane, want[lane]);
    }
  }

  // "BAD; NULL; CAST; INDEX."
  private static void itemRefusals() {
    DownAsUp x = new DownAsUp();
    x.sheet(0, 1, 3);
    due("25 BAD ahead of NULL and INDEX", x.item(1, 3, -1, 1), BAD);
    due("25 BAD ahead of CAST and INDEX", x.item(0, -1, 3, 1), BAD);
    due("25 BAD, the sheet", x.item(4, 1, 0, 1), BAD);
    due("25 NULL ahead of CAST and INDEX", x.item(1, 0, 3, 1), NULL);
    due("25 CAST ahead of INDEX", x.item(0, 0, 3, 1), CAST);
    due("25 INDEX", x.item(0, 1, 3, 1), INDEX);
    due("25 none of it came", x.item(0, 1, 2, 2), 1);
    dueItems("25 none of it came", x, 0, 1, 0, 0, 2);
  }

  /** Two houses stand, two of ten yards do not; a sheet of ints with a book on it, from an item on. */
  private static DownAsUp book(int size, int from, long... items) {
    DownAsUp x = townOf("h10*,h10*,h10,h10");
    x.sheet(0, 1, size);
    for (int i = 0; i < items.length; i++) x.item(0, 1, from + i, items[i]);
    return x;
  }

  // "BAD; NULL; CAST; INDEX; NONE: all are."
  private static void judgedRefusals() {
    DownAsUp x = book(4, 0);
    due("21 BAD ahead of NULL: n", x.judged(1, 1, 0, 0), BAD);
    due("21 BAD ahead of NULL: lane", x.judged(1, 3, 0, 1), BAD);
    due("21 BAD ahead of CAST: n", x.judged(0, 0, 0, 9), BAD);
    due("21 BAD ahead of INDEX: n", x.judged(0, 1, -1, 0), BAD);
    due("21 BAD ahead of INDEX: sheet", x.judged(4, 1, -1, 1), BAD);
    due("21 NULL ahead of CAST and INDEX", x.judged(1, 0, -1, 1), NULL);
    due("21 CAST ahead of INDEX", x.judged(0, 0, -1, 1), CAST);
    due("21 CAST ahead of INDEX", x.judged(0, 2, 0, 8), CAST);
    due("21 INDEX", x.judged(0, 1, -1, 1), INDEX);
    x.item(0, 1, 0, 4);
    due("21 INDEX ahead of a line that is not lawful", x.judged(0, 1, 0, 3), INDEX);
    due("21 that line", x.judged(0, 1, 0, 2), 0);
    due("21 NONE", x.judged(0, 1, 2, 1), NONE);
  }

  // "from one on": up to the last two items
  private static void judgedWhereFrom() {
    for (int size = 0; size <= 24; size++) {
      DownAsUp x = book(size, 0);
      for (int n = 1; n <= 8; n++) {
        int last = size - 2 * n;
        if (last >= 0) due("21 to the end of " + size, x.judged(0, 1, last, n), NONE);
        due("21 one beyond the end of " + size, x.judged(0, 1, Math.max(0, last + 1), n), INDEX);
        if (last >= 0) due("22 to the end of " + size, x.wrong(0, 1, last, n, 3), (1 << n) - 1);
        due("22 one beyond the end of " + size, x.wrong(0, 1, Math.max(0, last + 1), n, 3), INDEX);
      }
    }
    DownAsUp x = book(24, 0);
    for (int from : new int[] {MIN, MIN + 1, -2, -1, 23, 24, 25, 1 << 30, MAX - 15, MAX - 1, MAX}) {
      due("21 from " + from, x.judged(0, 1, from, 1), INDEX);
      due("21 eight from " + from, x.judged(0, 1, from, 8), INDEX);
      due("22 from " + from, x.wrong(0, 1, from, 1, 3), INDEX);
      due("22 eight from " + from, x.wrong(0, 1, from, 8, 3), INDEX);
    }
    DownAsUp odd = book(5, 1, 1, 4, 4, 1);
    due("21 from an odd one", odd.judged(0, 1, 1, 2), NONE);
    due("21 from the one ahead of it", odd.judged(0, 1, 0, 1), 0);
  }

  // "a BOOK of n WEEKS (1 .. 8)"
  private static void judgedHowMany() {
    DownAsUp x = book(24, 0);
    for (int n : new int[] {MIN, -8, -1, 0, 9, 10, 12, 256 + 1, MAX}) {
      due("21 n " + n, x.judged(0, 1, 0, n), BAD);
      due("22 n " + n, x.wrong(0, 1, 0, n, 3), BAD);
    }
    for (int n = 1; n <= 8; n++) due("21 n " + n, x.judged(0, 1, 0, n), NONE);
    // Lines behind the n-th are not looked at.
    x.item(0, 1, 14, 64);
    due("21 seven of eight", x.judged(0, 1, 0, 7), NONE);
    due("21 eight of eight", x.judged(0, 1, 0, 8), 7);
    due("21 the eighth is the seventh from there", x.judged(0, 1, 2, 8), 6);
  }

  // "the first that is not LAWFUL"
  private static void judgedFirst() {
    for (int first = 0; first < 8; first++) {
      DownAsUp x = book(24, 0);
      for (int line = first; line < 8; line += 2) x.item(0, 1, 2 * line + 1, 4);
      due("21 the first that is not lawful", x.judged(0, 1, 0, 8), first);
      due("21 what stands stays", x.count(1), 3);
      due("21 FREE stays", x.count(2), 0);
    }
    DownAsUp x = book(24, 0, 1, 4, 4, 1, 1, 4);
    due("21 each week from what stood behind the one before", x.judged(0, 1, 0, 3), NONE);
    due("21 it starts from now", x.judged(0, 1, 2, 1), 0);
    due("13 a week", x.week(1, 4), 0);
    due("21 it starts from now", x.judged(0, 1, 2, 1), NONE);
    due("21 it starts from now", x.judged(0, 1, 0, 1), 0);
    x.person(1 + 4);
    due("21 who is in the rain between", x.judged(0, 1, 2, 1), 0);
    DownAsUp work = book(24, 0, 1, 4);
    work.set(1, 20);
    due("21 work just enough", work.judged(0, 1, 0, 1), NONE);
    work.set(1, 19);
    due("21 work for one less", work.judged(0, 1, 0, 1), 0);
  }

  // "(or is BAD as by may())"
  private static void judgedBadLines() {
    long[][] lines = {{4, 0}, {0, 1}, {16, 0}, {0, 16}, {-1, 0}, {0, -1}, {1, 1}, {4, 4}, {256, 0}, {0, 256}, {32767, 0}, {-32768, 0}};
    for (long[] line : lines)
      for (int lane = 0; lane < 3; lane++) {
        DownAsUp x = townOf("h10*,h10*,h10,h10");
        x.sheet(0, lane, 4);
        x.item(0, lane, 2, line[0]);
        x.item(0, lane, 3, line[1]);
        due("21 a BAD line", x.judged(0, lane, 0, 2), 1);
        due("22 a BAD line left out", x.wrong(0, lane, 0, 2, 3), 2);
      }
    long[] wide = {(1L << 32) + 1, (1L << 16) + 1, Long.MIN_VALUE + 1, Long.MAX_VALUE, (1L << 31) + 1};
    for (long v : wide) {
      DownAsUp x = townOf("h10*,h10*,h10,h10");
      x.sheet(0, 2, 4);
      x.item(0, 2, 0, v);
      x.item(0, 2, 3, v);
      due("21 a long that goes is not cut", x.judged(0, 2, 0, 1), 0);
      due("21 a long that comes is not cut", x.judged(0, 2, 2, 1), 0);
    }
    DownAsUp none = new DownAsUp();
    none.sheet(0, 0, 2);
    due("21 no parts, nothing goes", none.judged(0, 0, 0, 1), NONE);
    none.item(0, 0, 0, 1);
    due("21 no parts, one goes", none.judged(0, 0, 0, 1), 0);
    DownAsUp eight = greatTown();
    eight.stand(255);
    eight.set(1, 999);
    eight.sheet(0, 0, 2);
    eight.item(0, 0, 0, 255);
    due("21 all eight go", eight.judged(0, 0, 0, 1), NONE);
    eight.item(0, 0, 0, 256);
    due("21 a ninth", eight.judged(0, 0, 0, 1), 0);
  }

  private static void judgedTakesFreeAlong() {
    DownAsUp x = townOf("h10*,h9,b11,r11");
    x.sheet(0, 1, 8);
    long[] items = {1, 2, 0, 0, 2, 1};
    for (int i = 0; i < 6; i++) x.item(0, 1, i, items[i]);
    due("21 the yard that was over serves", x.judged(0, 1, 0, 3), NONE);
    x.item(0, 1, 5, 4);
    due("21 eleven of ten", x.judged(0, 1, 0, 3), 2);
    x.set(0, 1);
    due("21 eleven of eleven", x.judged(0, 1, 0, 3), NONE);
    x.item(0, 1, 6, 4);
    x.item(0, 1, 7, 1);
    due("21 and a barn of 11 for ten", x.judged(0, 1, 0, 4), NONE);
    x.item(0, 1, 5, 8);
    x.item(0, 1, 6, 8);
    due("21 but not a ruin of 11", x.judged(0, 1, 0, 4), 3);
  }

  // "likewise, of what stood behind all (a set)", "BAD; NULL; CAST; INDEX."
  private static void wrongRefusals() {
    DownAsUp x = book(4, 0);
    due("22 BAD ahead of NULL: n", x.wrong(1, 1, 0, 0, 3), BAD);
    due("22 BAD ahead of NULL: stood", x.wrong(1, 1, 0, 1, 16), BAD);
    due("22 BAD ahead of NULL: lane", x.wrong(1, 3, 0, 1, 3), BAD);
    due("22 BAD ahead of CAST: stood", x.wrong(0, 0, 0, 1, -1), BAD);
    due("22 BAD ahead of INDEX: stood", x.wrong(0, 1, -1, 1, 16), BAD);
    due("22 BAD ahead of INDEX: n", x.wrong(0, 1, -1, 9, 3), BAD);
    due("22 NULL ahead of CAST and INDEX", x.wrong(1, 0, -1, 1, 3), NULL);
    due("22 CAST ahead of INDEX", x.wrong(0, 0, -1, 1, 3), CAST);
    due("22 INDEX", x.wrong(0, 1, -1, 1, 3), INDEX);
    due("22 INDEX", x.wrong(0, 1, 3, 1, 3), INDEX);
    due("22 the last two", x.wrong(0, 1, 2, 1, 3), 1);
  }

  private static void wrongStood() {
    DownAsUp x = book(4, 0);
    for (int stood : new int[] {MIN, MIN + 3, -256, -2, -1, 16, 17, 31, 256, 65536, 1 << 30, MAX}) due("22 stood " + stood, x.wrong(0, 1, 0, 1, stood), BAD);
    for (int stood = 0; stood < 16; stood++) due("22 stood " + stood, x.wrong(0, 1, 0, 2, stood), stood == 3 ? 3 : 0);
    DownAsUp none = new DownAsUp();
    none.sheet(0, 1, 2);
    due("22 no parts", none.wrong(0, 1, 0, 1, 0), 1);
    due("22 no parts, one stood", none.wrong(0, 1, 0, 1, 1), BAD);
    DownAsUp rests = townOf("h1,h1/0");
    rests.sheet(0, 1, 2);
    due("22 what could never stand: no line", rests.wrong(0, 1, 0, 1, 2), 0);
  }

  // "LINES each of which, left out, makes all others LAWFUL, and what stands behind them so"
  private static void wrongLines() {
    due("22 one line that is BAD", book(2, 0, 64, 0).wrong(0, 1, 0, 1, 3), 1);
    due("22 one line that is good, left out", book(2, 0, 1, 4).wrong(0, 1, 0, 1, 3), 1);
    due("22 one line that is good, what stands behind it", book(2, 0, 1, 4).wrong(0, 1, 0, 1, 6), 0);
    due("22 two that are BAD", book(4, 0, 64, 0, 64, 0).wrong(0, 1, 0, 2, 3), 0);
    due("22 the same twice: either", book(4, 0, 1, 4, 1, 4).wrong(0, 1, 0, 2, 6), 3);
    due("22 there and back: without the way back", book(4, 0, 1, 4, 4, 1).wrong(0, 1, 0, 2, 6), 2);
    due("22 there and back: without the way there it is BAD", book(4, 0, 1, 4, 4, 1).wrong(0, 1, 0, 2, 3), 0);
    // All are lawful, and without the first the second is not: the yards that it gives are missing.
    due("22 the second needs the first", book(4, 0, 1, 0, 0, 4).wrong(0, 1, 0, 2, 6), 0);
    due("22 without the second", book(4, 0, 1, 0, 0, 4).wrong(0, 1, 0, 2, 2), 2);
    DownAsUp x = book(4, 0, 1, 0, 0, 4);
    x.set(0, 10);
    due("22 with ten free also without the first", x.wrong(0, 1, 0, 2, 7), 1);
    due("22 nothing is changed: what stands", x.count(1), 3);
    due("22 nothing is changed: FREE", x.count(2), 10);
    due("22 from two on", x.wrong(0, 1, 2, 1, 3), 1);
  }

  private static void wrongManyLines() {
    for (int n = 1; n <= 8; n++) {
      due("22 empty lines, each of " + n, book(24, 0).wrong(0, 1, 0, n, 3), (1 << n) - 1);
      DownAsUp x = book(24, 0);
      x.item(0, 1, 2 * n - 2, 64);
      due("22 the last of " + n, x.wrong(0, 1, 0, n, 3), 1 << (n - 1));
      if (n < 8) due("22 it is not the last", x.wrong(0, 1, 0, n + 1, 3), 1 << (n - 1));
    }
    DownAsUp x = book(24, 8);
    x.item(0, 1, 8 + 14, 64);
    due("22 the last of eight, at the end", x.wrong(0, 1, 8, 8, 3), 128);
    due("22 the line is counted from there", x.wrong(0, 1, 10, 7, 3), 64);
  }

  /** Three weeks, by the sets 1, 8, 56. */
  private static DownAsUp threeWeeks() {
    DownAsUp x = townOf("h6*,h6*,h6*,h6,h6,h6");
    x.set(1, 12);
    x.want(56);
    return x;
  }

  // "BAD; NONE: it can't be had; NULL; CAST; INDEX."
  private static void filmRefusals() {
    DownAsUp x = threeWeeks();
    x.sheet(0, 1, 5);
    due("26 BAD ahead of NULL", x.film(1, 3, 0), BAD);
    due("26 BAD ahead of INDEX", x.film(0, 3, -1), BAD);
    due("26 BAD ahead of INDEX", x.film(4, 1, -1), BAD);
    due("26 NULL ahead of CAST and INDEX", x.film(1, 0, -1), NULL);
    due("26 CAST ahead of INDEX", x.film(0, 0, -1), CAST);
    due("26 CAST ahead of INDEX", x.film(0, 2, 99), CAST);
    due("26 INDEX", x.film(0, 1, -1), INDEX);
    x.set(1, 5);
    due("26 NONE", x.film(0, 1, 0), NONE);
    due("26 NONE ahead of NULL", x.film(1, 1, 0), NONE);
    due("26 NONE ahead of CAST", x.film(0, 0, 0), NONE);
    due("26 NONE ahead of INDEX", x.film(0, 1, -1), NONE);
    due("26 NONE ahead of INDEX", x.film(0, 1, 6), NONE);
    due("26 BAD ahead of NONE: sheet", x.film(4, 1, 0), BAD);
    due("26 BAD ahead of NONE: sheet", x.film(-1, 1, 0), BAD);
    due("26 BAD ahead of NONE: lane", x.film(0, 3, 0), BAD);
    due("26 BAD ahead of NONE: lane", x.film(0, -1, 0), BAD);
    dueItems("26 a refusal leaves the items", x, 0, 1, 0, 0, 0, 0, 0);
  }

  // "from one on": to the last item, and no farther
  private static void filmWhereFrom() {
    for (int size = 0; size <= 24; size++) {
      DownAsUp x = threeWeeks();
      x.sheet(0, 1, size);
      if (size >= 3) due("26 to the end of " + size, x.film(0, 1, size - 3), 3);
      due("26 one beyond the end of " + size, x.film(0, 1, Math.max(0, size - 2)), INDEX);
      due("26 from the end of " + size, x.film(0, 1, size), INDEX);
      for (int from : new int[] {MIN, MIN + 1, -3, -1, 22, 23, 24, 25, 1 << 30, MAX - 2, MAX - 1, MAX})
        due("26 from " + from + " of " + size, x.film(0, 1, from), INDEX);
    }
  }

  // "The sets of CAN, one for each WEEK": none, where it is so now
  private static void filmOfNoWeeks() {
    DownAsUp x = threeWeeks();
    x.want(7);
    due("26 nothing there", x.film(0, 1, 0), NULL);
    for (int size : new int[] {0, 1, 24}) {
      x.sheet(0, 1, size);
      due("26 another lane", x.film(0, 0, 0), CAST);
      due("26 none, from the first", x.film(0, 1, 0), 0);
      due("26 none, from the end", x.film(0, 1, size), 0);
      due("26 none, from one beyond the end", x.film(0, 1, size + 1), INDEX);
      due("26 none, from -1", x.film(0, 1, -1), INDEX);
      due("26 none, from MAX", x.film(0, 1, MAX), INDEX);
      due("26 none, from MIN", x.film(0, 1, MIN), INDEX);
    }
  }

  private static void filmWritesItsSetsAlone() {
    for (int lane = 0; lane < 3; lane++) {
      DownAsUp x = threeWeeks();
      x.sheet(2, lane, 6);
      for (int i = 0; i < 6; i++) x.item(2, lane, i, 7);
      due("26 too far", x.film(2, lane, 4), INDEX);
      due("26 three", x.film(2, lane, 1), 3);
      due("26 what stands stays", x.count(1), 7);
      due("26 FREE stays", x.count(2), 0);
      due("14 three weeks yet", x.can(-1), 3);
      dueItems("26 three sets", x, 2, lane, 7, 1, 8, 56, 7, 7);
      DownAsUp y = threeWeeks();
      y.sheet(2, lane, 6);
      for (int i = 0; i < 6; i++) y.item(2, lane, i, 7);
      y.film(2, lane, 4);
      y.film(2, lane, -1);
      y.film(2, (lane + 1) % 3, 0);
      dueItems("26 refusals write nothing, not even what would fit", y, 2, lane, 7, 7, 7, 7, 7, 7);
      DownAsUp all = greatTown();
      all.want(255);
      all.set(0, 792);
      all.set(1, 99);
      all.sheet(2, lane, 24);
      due("26 eight sets", all.film(2, lane, 16), 8);
      due("26 one beyond", all.film(2, lane, 17), INDEX);
      dueItems("26 eight sets", all, 2, lane, 0, 0, 0, 0, 0, 0, 0, 0, 0, 0, 0, 0, 0, 0, 0, 0, 1, 3, 7, 15, 31, 63, 127, 255);
    }
  }

  // "BAD; NULL (either); CAST: of unlike LANES; INDEX."
  private static void copyRefusals() {
    DownAsUp x = new DownAsUp();
    x.sheet(0, 1, 4);
    x.sheet(1, 2, 4);
    due("27 BAD ahead of NULL", x.copy(2, 0, 4, 0, 1), BAD);
    due("27 BAD ahead of NULL", x.copy(-1, 0, 2, 0, 1), BAD);
    due("27 BAD ahead of INDEX", x.copy(0, -1, 4, 0, 1), BAD);
    due("27 NULL, from", x.copy(2, 0, 0, 0, 1), NULL);
    due("27 NULL, to", x.copy(0, 0, 2, 0, 1), NULL);
    due("27 NULL, both", x.copy(2, 0, 3, 0, 1), NULL);
    due("27 NULL, the same", x.copy(2, 0, 2, 0, 0), NULL);
    due("27 NULL ahead of INDEX", x.copy(2, -1, 0, 9, -1), NULL);
    due("27 NULL ahead of INDEX", x.copy(0, -1, 2, 9, -1), NULL);
    due("27 CAST ahead of INDEX", x.copy(0, -1, 1, 9, -1), CAST);
    due("27 CAST", x.copy(1, 0, 0, 0, 1), CAST);
    due("27 CAST, of none", x.copy(1, 0, 0, 0, 0), CAST);
    due("27 INDEX", x.copy(0, 0, 0, 0, 5), INDEX);
    for (int a = 0; a < 3; a++)
      for (int b = 0; b < 3; b++) {
        x.sheet(2, a, 2);
        x.sheet(3, b, 2);
        due("27 lanes " + a + ", " + b, x.copy(2, 0, 3, 0, 2), a == b ? 2 : CAST);
      }
  }

  private static void copyWhereFromAndTo() {
    DownAsUp x = new DownAsUp();
    x.sheet(0, 0, 24);
    x.sheet(1, 0, 5);
    due("27 all of the shorter", x.copy(1, 0, 0, 0, 5), 5);
    due("27 to the end of the longer", x.copy(1, 0, 0, 19, 5), 5);
    due("27 one beyond the end of the longer", x.copy(1, 0, 0, 20, 5), INDEX);
    due("27 from the end of the longer", x.copy(0, 19, 1, 0, 5), 5);
    due("27 one beyond", x.copy(0, 20, 1, 0, 5), INDEX);
    due("27 more than the shorter has", x.copy(1, 0, 0, 0, 6), INDEX);
    due("27 more than the shorter takes", x.copy(0, 0, 1, 0, 6), INDEX);
    due("27 the last one to the last one", x.copy(0, 23, 1, 4, 1), 1);
    due("27 one beyond, from", x.copy(0, 24, 1, 4, 1), INDEX);
    due("27 one beyond, to", x.copy(0, 23, 1, 5, 1), INDEX);
    due("27 all onto itself", x.copy(0, 0, 0, 0, 24), 24);
    due("27 one more than all", x.copy(0, 0, 0, 0, 25), INDEX);
    for (int v : new int[] {MIN, MIN + 1, -24, -1, 1 << 30, MAX - 1, MAX}) {
      due("27 i " + v, x.copy(0, v, 0, 0, 1), INDEX);
      due("27 j " + v, x.copy(0, 0, 0, v, 1), INDEX);
      due("27 n " + v, x.copy(0, 0, 0, 0, v), INDEX);
      due("27 i and n " + v, x.copy(0, v, 0, 0, v), INDEX);
      due("27 i, of none " + v, x.copy(0, v, 0, 0, 0), INDEX);
      due("27 j, of none " + v, x.copy(0, 0, 0, v, 0), INDEX);
      due("27 j and n " + v, x.copy(0, 0, 0, v, v), INDEX);
    }
    due("27 i that n would bring back", x.copy(0, 5, 0, 5, -5), INDEX);
  }

  private static void copyOfNone() {
    DownAsUp x = new DownAsUp();
    x.sheet(0, 2, 3);
    x.sheet(1, 2, 0);
    due("27 none of none", x.copy(1, 0, 1, 0, 0), 0);
    due("27 none to a row of none", x.copy(0, 0, 1, 0, 0), 0);
    due("27 none from the end to the end", x.copy(0, 3, 0, 3, 0), 0);
    due("27 none from beyond", x.copy(0, 4, 0, 0, 0), INDEX);
    due("27 none to beyond", x.copy(0, 0, 0, 4, 0), INDEX);
    due("27 none to beyond a row of none", x.copy(0, 0, 1, 1, 0), INDEX);
    due("27 one of none", x.copy(1, 0, 0, 0, 1), INDEX);
    due("27 one to none", x.copy(0, 0, 1, 0, 1), INDEX);
  }

  // "(or the same) ... as if all were taken ahead"
  private static void copyWithinOne() {
    int[][] rows = {{0, 1, 5, 1, 1, 2, 3, 4, 5}, {1, 0, 5, 2, 3, 4, 5, 6, 6}, {0, 3, 3, 1, 2, 3, 1, 2, 3}, {3, 0, 3, 4, 5, 6, 4, 5, 6},
      {0, 0, 6, 1, 2, 3, 4, 5, 6}, {0, 5, 1, 1, 2, 3, 4, 5, 1}, {5, 0, 1, 6, 2, 3, 4, 5, 6}, {0, 2, 4, 1, 2, 1, 2, 3, 4}};
    for (int[] row : rows)
      for (int lane = 0; lane < 3; lane++) {
        DownAsUp x = new DownAsUp();
        x.sheet(0, lane, 6);
        for (int i = 0; i < 6; i++) x.item(0, lane, i, i + 1);
        String what = "27 within one, " + row[0] + " to " + row[1] + ", " + row[2];
        due(what, x.copy(0, row[0], 0, row[1], row[2]), row[2]);
        int[] want = new int[6];
        System.arraycopy(row, 3, want, 0, 6);
        dueItems(what, x, 0, lane, want);
      }
  }

  // What is copied is the whole item; what it is taken from stays; a refusal copies nothing.
  private static void copyKeepsWhatItems() {
    for (int lane = 0; lane < 3; lane++) {
      DownAsUp x = new DownAsUp();
      x.sheet(0, lane, 5);
      x.sheet(3, lane, 4);
      long[] items = {1, -1, (1L << 32) + 2, 255, 7};
      for (int i = 0; i < 5; i++) x.item(0, lane, i, items[i]);
      for (int i = 0; i < 4; i++) x.item(3, lane, i, 9);
      due("27 too many", x.copy(0, 0, 3, 0, 5), INDEX);
      due("27 too far", x.copy(0, 1, 3, 3, 2), INDEX);
      due("27 three", x.copy(0, 1, 3, 1, 3), 3);
      x.item(0, lane, 3, 8);
      int third = lane == 2 ? OTHER : 2;
      dueItems("27 what came", x, 3, lane, 9, OTHER, third, 255);
    }
    DownAsUp stays = new DownAsUp();
    stays.sheet(0, 1, 3);
    stays.sheet(3, 1, 3);
    for (int i = 0; i < 3; i++) stays.item(0, 1, i, i + 1);
    due("27 all", stays.copy(0, 0, 3, 0, 3), 3);
    stays.item(3, 1, 0, 77);
    dueItems("27 what it is taken from stays", stays, 0, 1, 1, 2, 3);
  }
}
