import java.util.ArrayList;
import java.util.List;

/** Towns that were searched for because the wanted one takes very many weeks, against the oracle. */
public final class LongWaysTest {
  /** KIND, YARDS, what it rests on, OWNER of eight parts; four people; what stands, what is wanted; FREE, WORK. */
  private static final int[][] TOWNS = {
    {0, 5, 0, 0, 0, 9, 0, 2, 1, 10, 0, 1, 2, 10, 7, 1, 0, 10, 0, 1, 1, 6, 0, 2, 3, 11, 0, 0, 0, 11, 0, 3,
      208, 70, 49, 167, 166, 112, 0, 12},
    {0, 8, 0, 1, 3, 5, 0, 0, 0, 9, 1, 1, 2, 9, 7, 0, 0, 8, 0, 2, 1, 6, 12, 3, 1, 7, 0, 3, 0, 12, 0, 2,
      225, 211, 176, 102, 207, 146, 1, 12},
    {1, 8, 0, 3, 2, 7, 1, 1, 0, 5, 0, 1, 0, 5, 4, 3, 1, 7, 4, 0, 0, 6, 4, 2, 3, 7, 0, 1, 0, 6, 0, 2,
      154, 105, 189, 161, 116, 31, 3, 9},
    {0, 12, 0, 2, 0, 11, 0, 2, 0, 10, 0, 2, 3, 5, 4, 2, 1, 10, 0, 3, 1, 11, 0, 0, 0, 12, 0, 2, 2, 12, 65, 1,
      176, 37, 94, 74, 207, 22, 2, 12},
    {3, 10, 0, 1, 2, 11, 1, 2, 1, 10, 0, 1, 3, 9, 0, 3, 2, 8, 3, 2, 3, 5, 0, 2, 3, 11, 0, 1, 0, 8, 0, 0,
      142, 106, 46, 125, 196, 87, 0, 12},
    {1, 12, 0, 3, 1, 7, 0, 0, 1, 11, 0, 0, 3, 7, 0, 1, 2, 12, 7, 2, 1, 11, 0, 2, 3, 4, 0, 0, 3, 12, 0, 1,
      44, 112, 134, 177, 183, 196, 5, 13}
  };
  private static final int[] WEEKS = {15, 15, 15, 15, 14, 15};

  private static int wrong = 0;

  private static void due(String call, int got, int want) {
    if (got == want) return;
    wrong++;
    System.out.println(call + " answered " + got + ", due is " + want);
  }

  public static void main(String[] args) {
    for (int t = 0; t < TOWNS.length; t++) {
      DownAsUp x = new DownAsUp();
      Oracle o = new Oracle();
      settle(x, o, TOWNS[t]);
      due("town " + t + ": can(-1)", x.can(-1), WEEKS[t]);
      ask(x, o, "town " + t);
      x.sheet(0, 0, 24);
      due("town " + t + ": film", x.film(0, 0, 9), WEEKS[t]);
      due("town " + t + ": film too far", x.film(0, 0, 24 - WEEKS[t] + 1), -13);
      goAlong(x, o, "town " + t);
      // One yard of work less, and other yards free: mostly it can't be had, and MORE is asked.
      for (int free = 0; free < 5; free++) {
        settle(x, o, TOWNS[t]);
        due("set", x.set(0, free), o.set(0, free));
        due("set", x.set(1, 11), o.set(1, 11));
        ask(x, o, "town " + t + " with " + free + " free");
      }
    }
    System.out.println(TOWNS.length + " towns, " + wrong + " answers not as due");
    if (wrong != 0) System.exit(1);
  }

  private static void settle(DownAsUp x, Oracle o, int[] t) {
    for (int i = 0; i < 8; i++)
      due("part", x.part(t[4 * i], t[4 * i + 1], 0, t[4 * i + 3], t[4 * i + 2]),
          o.part(t[4 * i], t[4 * i + 1], 0, t[4 * i + 3], t[4 * i + 2]));
    due("stand", x.stand(t[36]), o.stand(t[36]));
    for (int i = 32; i < 36; i++) due("person", x.person(t[i]), o.person(t[i]));
    due("want", x.want(t[37]), o.want(t[37]));
    due("set", x.set(0, t[38]), o.set(0, t[38]));
    due("set", x.set(1, t[39]), o.set(1, t[39]));
  }

  private static void ask(DownAsUp x, Oracle o, String town) {
    for (int i = -1; i < 17; i++) due(town + ": can(" + i + ")", x.can(i), o.can(i));
    int m = x.more();
    due(town + ": more()", m, o.isMore(m) ? m : o.more());
    for (int i = 0; i < 8; i++) due(town + ": worth(" + i / 2 + "," + i % 2 + ")", x.worth(i / 2, i % 2), o.worth(i / 2, i % 2));
  }

  /** The weeks that can() tells are lawful one behind the other, and each leaves one less to do. */
  private static void goAlong(DownAsUp x, Oracle o, String town) {
    List<Integer> sets = new ArrayList<>();
    for (int i = 0; i < x.can(-1); i++) sets.add(x.can(i));
    for (int i = 0; i < sets.size(); i++) {
      int stood = x.count(1), to = sets.get(i);
      due(town + ": week " + i, x.week(stood & ~to, to & ~stood), o.week(stood & ~to, to & ~stood));
      due(town + ": what stands behind week " + i, x.count(1), to);
      due(town + ": weeks left behind week " + i, x.can(-1), sets.size() - 1 - i);
    }
  }
}
