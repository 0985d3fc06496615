import java.util.ArrayList;
import java.util.List;
import java.util.Random;

/** Long runs of calls, drawn from fixed seeds, on the class and on the oracle: every answer must be the same. */
public final class OracleTest {
  private static final int[] EDGES = {
    -1, 0, 1, 2, 3, 4, 5, 7, 8, 9, 15, 16, 23, 24, 25, 60, 61, 99, 100, 127, 128, 255, 256, 999, 1000,
    Integer.MAX_VALUE, Integer.MIN_VALUE, Integer.MAX_VALUE - 1, -2, -3, -24, 1 << 30
  };

  private final long seed;
  private final Random random;
  private final int mostParts;
  private final DownAsUp x = new DownAsUp();
  private final Oracle o = new Oracle();
  private final List<String> calls = new ArrayList<>();
  private boolean failed = false;

  private OracleTest(long seed, int mostParts) {
    this.seed = seed;
    this.random = new Random(seed);
    this.mostParts = mostParts;
  }

  public static void main(String[] args) {
    int wrong = 0, asked = 0;
    int runs = args.length > 0 ? Integer.parseInt(args[0]) : 160;
    long from = args.length > 1 ? Long.parseLong(args[1]) : 0;
    for (int run = 0; run < runs; run++) {
      OracleTest test = new OracleTest(from + run, mostPartsOf(from + run));
      test.go();
      asked += test.calls.size();
      if (test.failed) {
        wrong++;
        System.out.println("run " + (from + run) + ": " + test.calls);
      }
    }
    System.out.println(runs + " runs, " + asked + " calls, " + wrong + " runs not as the oracle has them");
    if (wrong != 0) System.exit(1);
  }

  // Towns of 8 parts have so many states that the oracle is slow on them: few runs have one.
  private static int mostPartsOf(long seed) {
    return seed % 40 == 39 ? 8 : (int) (2 + seed % 5);
  }

  private void go() {
    while (calls.size() < 512 && !failed) {
      if (calls.isEmpty() && seed % 2 == 0) startTight();
      else if (random.nextInt(60) == 0) askAllWays();
      else if (random.nextInt(40) == 0) typeText();
      else if (random.nextInt(40) == 0) layOut();
      else one(random.nextInt(46));
    }
  }

  private void due(String call, int got, int want) {
    calls.add(call + "=" + got);
    if (got != want && !failed) {
      failed = true;
      calls.add("due is " + want);
    }
  }

  /** Mostly from low to high, now and then an edge. */
  private int num(int low, int high) {
    if (random.nextInt(25) == 0) return EDGES[random.nextInt(EDGES.length)];
    return low + random.nextInt(high - low + 1);
  }

  private int all() {
    return (1 << o.count(0)) - 1;
  }

  private int anySet() {
    if (random.nextInt(30) == 0) return EDGES[random.nextInt(EDGES.length)];
    return random.nextInt(256) & all();
  }

  private int few(int set) {
    int s = set;
    for (int i = random.nextInt(3); i >= 0; i--) s &= random.nextInt(256);
    return s;
  }

  private int goSet() {
    return random.nextInt(30) == 0 ? anySet() : few(o.count(1));
  }

  private int comeSet() {
    return random.nextInt(30) == 0 ? anySet() : few(all() & ~o.count(1));
  }

  /** A town with little work and few yards free, where the wanted one takes several weeks. */
  private void startTight() {
    for (int i = 0; i < mostParts; i++) {
      int kind = random.nextInt(3) == 0 ? random.nextInt(4) : 0, yards = 1 + random.nextInt(9), place = random.nextInt(100);
      int owner = random.nextInt(4), rests = random.nextInt(3) == 0 ? few((1 << i) - 1) : 0;
      due("part(" + kind + "," + yards + "," + place + "," + owner + "," + rests + ")",
          x.part(kind, yards, place, owner, rests), o.part(kind, yards, place, owner, rests));
    }
    int wanted = firmSet(), stood = firmSet(), work = 8 + random.nextInt(8), free = random.nextInt(6);
    due("stand(" + stood + ")", x.stand(stood), o.stand(stood));
    due("want(" + wanted + ")", x.want(wanted), o.want(wanted));
    due("set(1," + work + ")", x.set(1, work), o.set(1, work));
    due("set(0," + free + ")", x.set(0, free), o.set(0, free));
    int who = (stood | random.nextInt(256)) & all();
    due("person(" + who + ")", x.person(who), o.person(who));
    askAllWays();
  }

  private int firmSet() {
    int set = 0;
    for (int k = 0; k < 5; k++) {
      int s = random.nextInt(256) & all();
      if (o.stand(s) >= 0) { x.stand(s); set = s; }
    }
    return set;
  }

  private void askAllWays() {
    for (int i = -1; i < 7; i++) due("can(" + i + ")", x.can(i), o.can(i));
    int m = x.more();
    due("more()", m, o.isMore(m) ? m : o.more());
    for (int i = 0; i < 8 && o.count(0) < 7; i++)
      due("worth(" + i / 2 + "," + i % 2 + ")", x.worth(i / 2, i % 2), o.worth(i / 2, i % 2));
  }

  private void one(int kind) {
    if (kind < 14) parts(kind);
    else if (kind < 28) weeks(kind);
    else sheets(kind);
  }

  private void parts(int kind) {
    int a, b, c, d, e;
    switch (kind) {
      case 0: case 1: case 2:
        if (o.count(0) >= mostParts && mostParts < 8) return;
        a = num(0, 3); b = num(1, random.nextBoolean() ? 99 : 12); c = num(0, 99); d = num(0, 3); e = few(anySet());
        due("part(" + a + "," + b + "," + c + "," + d + "," + e + ")", x.part(a, b, c, d, e), o.part(a, b, c, d, e));
        break;
      case 3:
        a = num(0, 7); b = num(0, 5);
        due("told(" + a + "," + b + ")", x.told(a, b), o.told(a, b));
        break;
      case 4: case 5:
        a = anySet();
        due("stand(" + a + ")", x.stand(a), o.stand(a));
        break;
      case 6:
        a = anySet() | (random.nextInt(9) > 0 ? anySet() : 0);
        due("person(" + a + ")", x.person(a), o.person(a));
        break;
      case 7: case 8:
        a = num(0, 1); b = random.nextBoolean() ? num(0, 40) : num(1, 400);
        due("set(" + a + "," + b + ")", x.set(a, b), o.set(a, b));
        break;
      case 9: case 10: case 11:
        a = anySet();
        due("want(" + a + ")", x.want(a), o.want(a));
        break;
      default:
        a = num(0, 5);
        due("count(" + a + ")", x.count(a), o.count(a));
    }
  }

  private void weeks(int kind) {
    int a, b;
    switch (kind) {
      case 14: case 15:
        a = goSet(); b = comeSet();
        due("may(" + a + "," + b + ")", x.may(a, b), o.may(a, b));
        break;
      case 16: case 17:
        a = goSet(); b = comeSet();
        due("week(" + a + "," + b + ")", x.week(a, b), o.week(a, b));
        break;
      case 18: case 19: case 20:
        a = random.nextInt(4) - 1;
        if (random.nextInt(20) == 0) a = num(-1, 255);
        due("can(" + a + ")", x.can(a), o.can(a));
        break;
      case 21:
        a = x.more();
        due("more()", a, o.isMore(a) ? a : o.more());
        break;
      case 22: case 23:
        a = goSet(); b = comeSet();
        due("carry(" + a + "," + b + ")", x.carry(a, b), o.carry(a, b));
        break;
      case 24:
        a = num(0, 3); b = random.nextBoolean() ? 1 : num(1, 60);
        due("build(" + a + "," + b + ")", x.build(a, b), o.build(a, b));
        break;
      case 25: case 26:
        if (o.count(0) > 6) return;
        a = num(0, 3); b = num(0, 1);
        due("worth(" + a + "," + b + ")", x.worth(a, b), o.worth(a, b));
        break;
      default:
        if (random.nextInt(3) == 0) due("image()", x.image(), o.image());
        else if (random.nextInt(2) == 0) due("restore()", x.restore(), o.restore());
    }
  }

  private void sheets(int kind) {
    int a = num(0, 3), b = num(0, 2), c, d, e;
    long v;
    switch (kind) {
      case 28: case 29: case 30:
        c = num(0, 4); d = num(1, 8);
        due("judged(" + a + "," + b + "," + c + "," + d + ")", x.judged(a, b, c, d), o.judged(a, b, c, d));
        break;
      case 31: case 32: case 33:
        c = num(0, 4); d = num(1, 8); e = anySet();
        due("wrong(" + a + "," + b + "," + c + "," + d + "," + e + ")", x.wrong(a, b, c, d, e), o.wrong(a, b, c, d, e));
        break;
      case 34: case 35:
        c = random.nextInt(3) > 0 ? 24 : num(0, 24);
        due("sheet(" + a + "," + b + "," + c + ")", x.sheet(a, b, c), o.sheet(a, b, c));
        break;
      case 36:
        if (random.nextInt(3) > 0) return;
        due("drop(" + a + ")", x.drop(a), o.drop(a));
        break;
      case 37: case 38: case 39: case 40:
        c = num(0, 23);
        v = random.nextInt(8) == 0 ? random.nextLong() : random.nextInt(8) == 0 ? 65536L * num(0, 70000) + num(0, 255) : anySet();
        due("item(" + a + "," + b + "," + c + "," + v + ")", x.item(a, b, c, v), o.item(a, b, c, v));
        break;
      case 41: case 42:
        c = num(0, 24);
        due("film(" + a + "," + b + "," + c + ")", x.film(a, b, c), o.film(a, b, c));
        break;
      default:
        c = num(0, 3); d = num(0, 24); e = num(0, 12);
        int i = num(0, 12);
        due("copy(" + a + "," + i + "," + c + "," + d + "," + e + ")", x.copy(a, i, c, d, e), o.copy(a, i, c, d, e));
    }
  }

  /** A book on a sheet that is lawful for the most part, so that lines behind the first are looked at too. */
  private void layOut() {
    int sheet = random.nextInt(4), lane = random.nextInt(3), n = 1 + random.nextInt(8);
    due("sheet(" + sheet + "," + lane + ",24)", x.sheet(sheet, lane, 24), o.sheet(sheet, lane, 24));
    due("image()", x.image(), o.image());
    int[] items = new int[2 * n];
    int k = 0, turns = 0;
    while (k < n && turns++ < 60) {
      int go = goSet(), come = comeSet();
      boolean odd = random.nextInt(6) == 0;
      if (!odd && o.week(go, come) < 0) continue;
      if (!odd) x.week(go, come);
      items[2 * k] = go;
      items[2 * k + 1] = come;
      k++;
    }
    int stood = o.count(1);
    due("count(1)", x.count(1), stood);
    due("restore()", x.restore(), o.restore());
    for (int i = 0; i < 2 * k; i++)
      due("item(" + sheet + "," + lane + "," + i + "," + items[i] + ")", x.item(sheet, lane, i, items[i]), o.item(sheet, lane, i, items[i]));
    for (int m = 1; m <= k; m++) {
      due("judged(" + sheet + "," + lane + ",0," + m + ")", x.judged(sheet, lane, 0, m), o.judged(sheet, lane, 0, m));
      due("wrong(" + sheet + "," + lane + ",0," + m + "," + stood + ")", x.wrong(sheet, lane, 0, m, stood), o.wrong(sheet, lane, 0, m, stood));
    }
  }

  private void typeText() {
    boolean isTown = random.nextInt(3) > 0;
    String text = isTown ? townText() : peopleText();
    if (random.nextInt(2) == 0) text = spoil(text);
    for (int at = 0; at < text.length(); at += 8) {
      String piece = text.substring(at, Math.min(at + 8, text.length()));
      long w = random.nextInt(4) == 0 ? random.nextLong() : 0;
      for (int i = 0; i < piece.length(); i++) w = w << 8 | piece.charAt(i);
      int n = num(piece.length(), piece.length());
      due("type(" + w + "," + n + ")'" + piece + "'", x.type(w, n), o.type(w, n));
    }
    if (random.nextInt(12) == 0) return;
    if (isTown) due("town()", x.town(), o.town());
    else due("people()", x.people(), o.people());
  }

  private String townText() {
    StringBuilder s = new StringBuilder();
    int n = 1 + random.nextInt(mostParts), stood = 0;
    for (int i = 0; i < n; i++) {
      if (i > 0) s.append(',');
      s.append("hbcr".charAt(random.nextInt(4))).append(1 + random.nextInt(random.nextBoolean() ? 99 : 12));
      if (random.nextBoolean()) s.append('@').append(random.nextInt(100));
      if (random.nextBoolean()) s.append('o').append(random.nextInt(4));
      boolean stands = random.nextBoolean();
      StringBuilder rests = new StringBuilder();
      for (int j = i - 1; j >= 0; j--) if (random.nextInt(5) == 0 && (!stands || (stood >> j & 1) == 1)) rests.append(j);
      if (rests.length() > 0) s.append('/').append(rests);
      if (stands) { s.append('*'); stood |= 1 << i; }
    }
    return s.toString();
  }

  private String peopleText() {
    StringBuilder s = new StringBuilder();
    for (int i = random.nextInt(3); i >= 0; i--) {
      int set = random.nextInt(256) & all();
      for (int j = 0; j < 8; j++) if ((set >> j & 1) == 1) s.append(j);
      if (i > 0) s.append(',');
    }
    return s.toString();
  }

  private String spoil(String text) {
    StringBuilder s = new StringBuilder(text);
    for (int k = random.nextInt(4); k >= 0; k--) {
      int at = random.nextInt(s.length() + 1);
      int how = random.nextInt(6);
      if (how < 3) s.insert(at, ' ');
      else if (how == 3 && at < s.length()) s.deleteCharAt(at);
      else if (how == 4) s.insert(at, "hbcr@o/*,0123456789;~".charAt(random.nextInt(21)));
      else if (at < s.length()) s.setCharAt(at, "hbcr@o/*,0123456789 ".charAt(random.nextInt(20)));
    }
    return s.toString();
  }
}
