import java.util.ArrayList;
import java.util.List;

/**
 * "What is refused changes nothing, but as told.": each refusal of each call, in three states. An object that was refused
 * something is compared with a twin that was not asked, by all that can be seen of it: town, image, tape and each sheet.
 */
public final class RefusalsTest extends Kit {
  private interface Call {
    int on(DownAsUp x);
  }

  /** Whether it is looked at for what the tape holds: a fault empties it. */
  private record Refused(String text, Call call, int due, boolean tapeStays) {}

  private static final int STATES = 3;
  private static final int TOWN = 0, IMAGE = 1, TAPE = 2, SHEET = 3, VIEWS = 7;

  private static final List<Refused> ALL = new ArrayList<>();

  public static void main(String[] args) {
    for (int state = 0; state < STATES; state++) {
      ALL.clear();
      if (state == 0) refusedByNothing();
      if (state == 1) refusedByATown();
      if (state == 2) refusedByAFullOne();
      for (int view = 0; view < VIEWS; view++) {
        List<Integer> untouched = look(made(state), view);
        for (Refused r : ALL) compare(r, state, view, untouched);
      }
    }
    end();
  }

  private static void compare(Refused r, int state, int view, List<Integer> untouched) {
    DownAsUp x = made(state);
    String what = r.text + " in state " + state;
    due(what, r.call.on(x), r.due);
    if (view == TAPE && !r.tapeStays) return;
    due(what + " leaves view " + view + " as it was", look(x, view).equals(untouched) ? 1 : 0, 1);
  }

  private static void not(String text, int due, Call call) {
    ALL.add(new Refused(text, call, due, true));
  }

  private static void fault(String text, int due, Call call) {
    ALL.add(new Refused(text, call, due, false));
  }

  private static DownAsUp typed(DownAsUp x, String text) {
    type(x, text);
    return x;
  }

  private static DownAsUp made(int state) {
    return state == 0 ? new DownAsUp() : state == 1 ? someTown() : fullTown();
  }

  /** Four parts, two people, a wanted town that can't be had, an image of another one, sheets, a tape. */
  private static DownAsUp someTown() {
    DownAsUp x = townOf("c40@4o1*,r30@3o2");
    x.person(3);
    x.want(2);
    x.set(0, 33);
    x.set(1, 44);
    x.image();
    type(x, "h10@1o3*,b20@2o2*,h25@3o1,c9/0");
    x.town();
    x.person(1);
    x.person(6);
    x.want(6);
    x.set(0, 7);
    x.set(1, 35);
    type(x, "b8*,r7@6");
    x.sheet(0, 0, 3);
    for (int i = 0; i < 3; i++) x.item(0, 0, i, 10 + i);
    x.sheet(1, 2, 0);
    x.sheet(2, 1, 4);
    long[] book = {2, 4, 64, 1};
    for (int i = 0; i < 4; i++) x.item(2, 1, i, book[i]);
    return x;
  }

  /** As much of all as there may be. */
  private static DownAsUp fullTown() {
    DownAsUp x = greatTown();
    for (int i = 0; i < 4; i++) x.person(255 - (1 << i));
    x.stand(15);
    x.want(240);
    x.set(0, 999);
    x.set(1, 999);
    x.image();
    x.set(0, 99);
    x.set(1, 198);
    for (int s = 0; s < 4; s++) {
      x.sheet(s, s % 3, 24);
      for (int i = 0; i < 24; i++) x.item(s, s % 3, i, 1 + i + s);
    }
    StringBuilder tape = new StringBuilder("h1*,h1*,h1*,h1*,h1*,h1*,h1*,r98@97o3/0246*");
    while (tape.length() < 160) tape.append(' ');
    type(x, tape.toString());
    return x;
  }

  /** What can be seen of one side of it; the object is spent by it. */
  private static List<Integer> look(DownAsUp x, int view) {
    List<Integer> seen = new ArrayList<>();
    if (view == TOWN) lookAtTown(x, seen);
    if (view == IMAGE) {
      seen.add(x.restore());
      lookAtTown(x, seen);
    }
    if (view == TAPE) {
      seen.add(x.type(' ', 1));
      seen.add(x.town());
      lookAtTown(x, seen);
    }
    if (view >= SHEET) lookAtSheet(x, view - SHEET, seen);
    return seen;
  }

  private static void lookAtTown(DownAsUp x, List<Integer> seen) {
    for (int what = 0; what < 6; what++) seen.add(x.count(what));
    for (int p = 0; p < 8; p++) for (int what = 0; what < 6; what++) seen.add(x.told(p, what));
    for (int i = -1; i < 9; i++) seen.add(x.can(i));
    seen.add(x.more());
    for (int o = 0; o < 4; o++) seen.add(x.worth(o, 0));
    seen.add(x.want(0));
    seen.add(x.set(0, 999));
    seen.add(x.set(1, 999));
    for (int p = 0; p < 8; p++) {
      seen.add(x.stand(1 << p));
      seen.add(x.count(5));
    }
  }

  private static void lookAtSheet(DownAsUp x, int sheet, List<Integer> seen) {
    int lane = 0;
    while (lane < 2 && x.item(sheet, lane, -1, 0) == CAST) lane++;
    int size = 0;
    while (size < 24 && x.copy(sheet, size, sheet, size, 1) == 1) size++;
    seen.add(x.item(sheet, lane, -1, 0));
    seen.add(lane);
    seen.add(size);
    if (size == 0) {
      seen.add(x.drop(sheet));
      return;
    }
    for (int item : held(x, sheet, lane, size)) seen.add(item);
  }

  private static void refusedByNothing() {
    refusedEverywhere();
    not("told(0, 0)", BAD, x -> x.told(0, 0));
    not("stand(1)", BAD, x -> x.stand(1));
    not("person(1)", BAD, x -> x.person(1));
    not("want(1)", BAD, x -> x.want(1));
    fault("town()", -20, x -> x.town());
    fault("people()", -20, x -> x.people());
    not("may(1, 0)", BAD, x -> x.may(1, 0));
    not("week(0, 1)", BAD, x -> x.week(0, 1));
    not("carry(1, 0)", BAD, x -> x.carry(1, 0));
    not("can(0)", NONE, x -> x.can(0));
    not("restore()", NONE, x -> x.restore());
    not("part(0, 1, 0, 0, 1)", BAD, x -> x.part(0, 1, 0, 0, 1));
    for (int s = 0; s < 4; s++) {
      int sheet = s;
      not("drop(" + s + ")", NULL, x -> x.drop(sheet));
      not("item(" + s + ", 0, 0, 1)", NULL, x -> x.item(sheet, 0, 0, 1));
      not("judged(" + s + ", 0, 0, 1)", NULL, x -> x.judged(sheet, 0, 0, 1));
      not("wrong(" + s + ", 0, 0, 1, 0)", NULL, x -> x.wrong(sheet, 0, 0, 1, 0));
      not("film(" + s + ", 0, 0)", NULL, x -> x.film(sheet, 0, 0));
      not("copy(" + s + ", 0, 3, 0, 0)", NULL, x -> x.copy(sheet, 0, 3, 0, 0));
    }
  }

  /** What is BAD or of no SIZE whatever there is. */
  private static void refusedEverywhere() {
    not("part(4, ..)", BAD, x -> x.part(4, 1, 0, 0, 0));
    not("part(-1, ..)", BAD, x -> x.part(-1, 1, 0, 0, 0));
    not("part(0, 0, ..)", BAD, x -> x.part(0, 0, 0, 0, 0));
    not("part(0, 100, ..)", BAD, x -> x.part(0, 100, 0, 0, 0));
    not("part(0, 1, -1, ..)", BAD, x -> x.part(0, 1, -1, 0, 0));
    not("part(0, 1, 100, ..)", BAD, x -> x.part(0, 1, 100, 0, 0));
    not("part(0, 1, 0, -1, 0)", BAD, x -> x.part(0, 1, 0, -1, 0));
    not("part(0, 1, 0, 4, 0)", BAD, x -> x.part(0, 1, 0, 4, 0));
    not("part(0, 1, 0, 0, 256)", BAD, x -> x.part(0, 1, 0, 0, 256));
    not("part(0, 1, 0, 0, -1)", BAD, x -> x.part(0, 1, 0, 0, -1));
    not("told(8, 0)", BAD, x -> x.told(8, 0));
    not("told(0, 6)", BAD, x -> x.told(0, 6));
    not("stand(256)", BAD, x -> x.stand(256));
    not("stand(-1)", BAD, x -> x.stand(-1));
    not("person(0)", BAD, x -> x.person(0));
    not("person(256)", BAD, x -> x.person(256));
    not("person(-1)", BAD, x -> x.person(-1));
    not("set(0, -1)", BAD, x -> x.set(0, -1));
    not("set(0, 1000)", BAD, x -> x.set(0, 1000));
    not("set(1, 0)", BAD, x -> x.set(1, 0));
    not("set(1, 1000)", BAD, x -> x.set(1, 1000));
    not("set(2, 1)", BAD, x -> x.set(2, 1));
    not("set(-1, 1)", BAD, x -> x.set(-1, 1));
    not("want(256)", BAD, x -> x.want(256));
    not("want(-1)", BAD, x -> x.want(-1));
    not("type(.., 0)", BAD, x -> x.type('*', 0));
    not("type(.., 9)", BAD, x -> x.type(0x2a2a_2a2a_2a2a_2a2aL, 9));
    not("type of byte 31", BAD, x -> x.type(0x2a1fL, 2));
    not("type of byte 127", BAD, x -> x.type(0x7f2aL, 2));
    not("count(6)", BAD, x -> x.count(6));
    not("count(-1)", BAD, x -> x.count(-1));
    not("may(256, 0)", BAD, x -> x.may(256, 0));
    not("week(256, 0)", BAD, x -> x.week(256, 0));
    not("week(0, -1)", BAD, x -> x.week(0, -1));
    not("can(-2)", BAD, x -> x.can(-2));
    not("can(256)", BAD, x -> x.can(256));
    not("can(255)", NONE, x -> x.can(255));
    not("carry(0, 256)", BAD, x -> x.carry(0, 256));
    not("build(-1, 1)", BAD, x -> x.build(-1, 1));
    not("build(4, 1)", BAD, x -> x.build(4, 1));
    not("build(0, 0)", BAD, x -> x.build(0, 0));
    not("build(0, 61)", BAD, x -> x.build(0, 61));
    not("worth(4, 0)", BAD, x -> x.worth(4, 0));
    not("worth(0, 2)", BAD, x -> x.worth(0, 2));
    not("judged(4, ..)", BAD, x -> x.judged(4, 0, 0, 1));
    not("judged(.., 9)", BAD, x -> x.judged(0, 0, 0, 9));
    not("wrong(.., 256)", BAD, x -> x.wrong(0, 0, 0, 1, 256));
    not("wrong(.., 0, 0)", BAD, x -> x.wrong(0, 0, 0, 0, 0));
    not("film(0, 3, 0)", BAD, x -> x.film(0, 3, 0));
    not("film(4, 0, 0)", BAD, x -> x.film(4, 0, 0));
    not("copy(4, ..)", BAD, x -> x.copy(4, 0, 0, 0, 1));
    not("copy(0, 0, 4, ..)", BAD, x -> x.copy(0, 0, 4, 0, 1));
    not("drop(4)", BAD, x -> x.drop(4));
    not("drop(-1)", BAD, x -> x.drop(-1));
    for (int s = 0; s < 4; s++) {
      int sheet = s;
      not("sheet(" + s + ", 0, 25)", BAD, x -> x.sheet(sheet, 0, 25));
      not("sheet(" + s + ", 3, 1)", BAD, x -> x.sheet(sheet, 3, 1));
      not("sheet(" + s + ", 1, -1)", SIZE, x -> x.sheet(sheet, 1, -1));
      not("item(" + s + ", 3, 0, 9)", BAD, x -> x.item(sheet, 3, 0, 9));
    }
  }

  private static void refusedByATown() {
    refusedEverywhere();
    not("part on itself", BAD, x -> x.part(0, 1, 0, 0, 16));
    not("told(4, 0)", BAD, x -> x.told(4, 0));
    not("stand(16)", BAD, x -> x.stand(16));
    not("stand of what does not rest", NOT, x -> x.stand(8));
    not("person(16)", BAD, x -> x.person(16));
    not("want(16)", BAD, x -> x.want(16));
    fault("a fault at the end of a town", -29, x -> typed(x, ",").town());
    fault("a fault in a town", -29, x -> typed(x, "**").town());
    fault("people() of a town", -20, x -> x.people());
    not("one goes that does not stand", BAD, x -> x.week(4, 0));
    not("one comes that stands", BAD, x -> x.week(0, 1));
    not("week: in the rain", NOT, x -> x.week(1, 0));
    not("week: too many yards", NOT, x -> x.week(0, 4));
    not("week: too much work", NOT, x -> x.week(2, 4));
    not("week: does not rest", NOT, x -> x.week(1, 8));
    not("can(9)", NONE, x -> x.can(9));
    not("carry: not enough", NONE, x -> x.carry(0, 4));
    not("judged: NULL", NULL, x -> x.judged(3, 0, 0, 1));
    not("judged: CAST", CAST, x -> x.judged(0, 1, 0, 1));
    not("judged: INDEX", INDEX, x -> x.judged(0, 0, 0, 2));
    not("wrong: NULL", NULL, x -> x.wrong(3, 0, 0, 1, 0));
    not("wrong: CAST", CAST, x -> x.wrong(0, 1, 0, 1, 0));
    not("wrong: INDEX", INDEX, x -> x.wrong(0, 0, 2, 1, 0));
    not("drop: NULL", NULL, x -> x.drop(3));
    not("item: NULL", NULL, x -> x.item(3, 0, 0, 99));
    not("item: CAST", CAST, x -> x.item(0, 1, 0, 99));
    not("item: INDEX", INDEX, x -> x.item(0, 0, 3, 99));
    not("item: INDEX of none", INDEX, x -> x.item(1, 2, 0, 99));
    not("item: INDEX below 0", INDEX, x -> x.item(2, 1, -1, 99));
    not("film: NONE", NONE, x -> x.film(0, 0, 0));
    not("copy: NULL from", NULL, x -> x.copy(3, 0, 0, 0, 1));
    not("copy: NULL to", NULL, x -> x.copy(0, 0, 3, 0, 1));
    not("copy: CAST", CAST, x -> x.copy(0, 0, 2, 0, 1));
    not("copy: INDEX", INDEX, x -> x.copy(2, 0, 2, 1, 4));
    not("copy: INDEX below 0", INDEX, x -> x.copy(2, 0, 2, 1, -1));
    not("more: not by 999", NONE, x -> x.more());
  }

  private static void refusedByAFullOne() {
    refusedEverywhere();
    not("a ninth part", FULL, x -> x.part(0, 1, 0, 0, 0));
    not("a fifth person", FULL, x -> x.person(1));
    for (int n = 1; n <= 8; n++) {
      int bytes = n;
      not(n + " bytes more", FULL, x -> x.type(0x2a2a_2a2a_2a2a_2a2aL, bytes));
    }
    fault("people() of a town", -20, x -> x.people());
    not("week: too many yards", NOT, x -> x.week(0, 48));
    not("week: too much work", NOT, x -> x.week(3, 16));
    not("week: one that stands comes", BAD, x -> x.week(0, 1));
    not("film: INDEX", INDEX, x -> x.film(0, 0, 25 - x.can(-1)));
    not("film: CAST", CAST, x -> x.film(0, 1, 0));
    not("film: INDEX below 0", INDEX, x -> x.film(1, 1, -1));
    not("judged: INDEX", INDEX, x -> x.judged(0, 0, 23, 1));
    not("item: INDEX", INDEX, x -> x.item(0, 0, 24, 99));
    not("item: CAST", CAST, x -> x.item(2, 1, 0, 99));
    not("copy: INDEX", INDEX, x -> x.copy(0, 1, 0, 0, 24));
    not("copy: INDEX, of two", INDEX, x -> x.copy(0, 0, 3, 1, 24));
    not("copy: CAST", CAST, x -> x.copy(0, 0, 1, 0, 24));
  }
}
