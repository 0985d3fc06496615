import java.util.ArrayList;
import java.util.Arrays;
import java.util.Collections;
import java.util.HashMap;
import java.util.HashSet;
import java.util.List;
import java.util.Map;
import java.util.Set;

/**
 * The document told once more, slowly and by other ways than the class: every state of a town is walked through,
 * every order of owners is gone through, sheets are real arrays and the machine's own exceptions are its answers.
 */
final class Oracle {
  static final int BAD = -1, NOT = -2, FULL = -3, NONE = -4, NULL = -11, CAST = -12, INDEX = -13, SIZE = -14;

  record Part(int kind, int yards, int place, int owner, int rests) {}

  record State(int set, int free) {}

  record Kept(List<Part> parts, List<Integer> people, int stand, int free, int work, int want) {}

  private List<Part> parts = new ArrayList<>();
  private List<Integer> people = new ArrayList<>();
  private int stand = 0, free = 0, work = 200, want = 0;
  private final StringBuilder tape = new StringBuilder();
  private final Object[] sheets = new Object[4];
  private Kept kept = null;

  private boolean bad(long set) {
    return set < 0 || set >= (1L << parts.size());
  }

  int part(int kind, int yards, int place, int owner, int rests) {
    if (kind < 0 || kind > 3 || yards < 1 || yards > 99 || place < 0 || place > 99) return BAD;
    if (owner < 0 || owner > 3 || bad(rests)) return BAD;
    if (parts.size() == 8) return FULL;
    parts.add(new Part(kind, yards, place, owner, rests));
    return parts.size() - 1;
  }

  int told(int part, int what) {
    if (part < 0 || part >= parts.size() || what < 0 || what > 5) return BAD;
    Part p = parts.get(part);
    int[] all = {p.kind, p.yards, p.place, p.owner, p.rests, has(stand, part) ? 1 : 0};
    return all[what];
  }

  private static boolean has(long set, int i) {
    return (set & (1L << i)) != 0;
  }

  private boolean firm(int set) {
    for (int i = 0; i < parts.size(); i++)
      for (int j = 0; j < parts.size(); j++)
        if (has(set, i) && has(parts.get(i).rests, j) && !has(set, j)) return false;
    return true;
  }

  int stand(int set) {
    if (bad(set)) return BAD;
    if (!firm(set)) return NOT;
    int was = stand;
    stand = set;
    return was;
  }

  int person(int set) {
    if (bad(set) || set == 0) return BAD;
    if (people.size() == 4) return FULL;
    people.add(set);
    return people.size() - 1;
  }

  int set(int what, int v) {
    if (what < 0 || what > 1 || v < what || v > 999) return BAD;
    int was = what == 0 ? free : work;
    if (what == 0) free = v; else work = v;
    return was;
  }

  int want(int set) {
    if (bad(set)) return BAD;
    int was = want;
    want = set;
    return was;
  }

  int type(long w, int n) {
    if (n < 1 || n > 8) return BAD;
    String s = "";
    for (int i = 0; i < n; i++) {
      int b = (int) (w >> (8 * i)) & 0xff;
      if (b < 32 || b > 126) return BAD;
      s = (char) b + s;
    }
    if (tape.length() + n > 160) return FULL;
    tape.append(s);
    return tape.length();
  }

  /** A sign that is not blank, where it is, and whether it stands right behind the one before it. */
  private record Sign(char c, int place, boolean joined) {}

  private static final class Fault extends Exception {
    private static final long serialVersionUID = 1;
    final int place;

    Fault(int place) {
      this.place = place;
    }
  }

  private List<Sign> signs() {
    List<Sign> all = new ArrayList<>();
    for (int i = 0; i < tape.length(); i++)
      if (tape.charAt(i) != ' ') all.add(new Sign(tape.charAt(i), i, i > 0 && tape.charAt(i - 1) != ' '));
    all.add(new Sign('\0', tape.length(), false));
    tape.setLength(0);
    return all;
  }

  private static boolean digit(Sign s) {
    return s.c >= '0' && s.c <= '9';
  }

  /** A number from the i-th sign on: its value (or a fault), and how many signs it has. */
  private static int[] number(List<Sign> all, int i, int low, int high) throws Fault {
    String text = "";
    int k = i;
    while (digit(all.get(k)) && (k == i || all.get(k).joined)) text += all.get(k++).c;
    if (text.isEmpty()) throw new Fault(all.get(i).place);
    java.math.BigInteger v = new java.math.BigInteger(text);
    if (v.bitLength() > 20 || v.intValue() < low || v.intValue() > high) throw new Fault(all.get(i).place);
    return new int[] {v.intValue(), k - i};
  }

  private static int[] digits(List<Sign> all, int i, int limit) throws Fault {
    int set = 0, k = i;
    while (digit(all.get(k))) {
      int d = all.get(k).c - '0';
      if (d >= limit || has(set, d)) throw new Fault(all.get(k).place);
      set += 1 << d;
      k++;
    }
    if (k == i) throw new Fault(all.get(i).place);
    return new int[] {set, k - i};
  }

  int town() {
    List<Sign> all = signs();
    List<Part> read = new ArrayList<>();
    int stood = 0, i = 0;
    try {
      while (true) {
        int kind = "hbcr".indexOf(all.get(i).c);
        if (all.get(i).c == 0 || kind < 0) throw new Fault(all.get(i).place);
        int[] yards = number(all, ++i, 1, 99), place = {0, 0}, rests = {0, 0};
        i += yards[1];
        if (all.get(i).c == '@') { place = number(all, ++i, 0, 99); i += place[1]; }
        int owner = 0;
        if (all.get(i).c == 'o') {
          char c = all.get(++i).c;
          if (c < '0' || c > '3') throw new Fault(all.get(i).place);
          owner = c - '0';
          i++;
        }
        if (all.get(i).c == '/') { rests = digits(all, ++i, read.size()); i += rests[1]; }
        if (all.get(i).c == '*') {
          if ((rests[0] & stood) != rests[0]) throw new Fault(all.get(i).place);
          stood += 1 << read.size();
          i++;
        }
        read.add(new Part(kind, yards[0], place[0], owner, rests[0]));
        if (all.get(i).c == 0) break;
        if (all.get(i).c != ',' || read.size() == 8) throw new Fault(all.get(i).place);
        i++;
      }
    } catch (Fault f) {
      return -20 - f.place;
    }
    parts = read;
    people = new ArrayList<>();
    stand = stood;
    want = 0;
    return parts.size();
  }

  int people() {
    List<Sign> all = signs();
    List<Integer> read = new ArrayList<>();
    int i = 0;
    try {
      while (true) {
        int[] who = digits(all, i, parts.size());
        read.add(who[0]);
        i += who[1];
        if (all.get(i).c == 0) break;
        if (all.get(i).c != ',' || read.size() == 4) throw new Fault(all.get(i).place);
        i++;
      }
    } catch (Fault f) {
      return -20 - f.place;
    }
    people = read;
    return people.size();
  }

  int count(int what) {
    int yards = 0, dry = 0;
    for (int i = 0; i < parts.size(); i++) if (has(stand, i)) yards += parts.get(i).yards;
    for (int i = 0; i < people.size(); i++) if ((people.get(i) & stand) > 0) dry += 1 << i;
    int[] all = {parts.size(), stand, free, people.size(), yards, dry};
    return what < 0 || what > 5 ? BAD : all[what];
  }

  private boolean badWeek(int standing, long go, long come) {
    if (bad(go) || bad(come)) return true;
    for (int i = 0; i < 8; i++) if (has(go, i) && !has(standing, i) || has(come, i) && has(standing, i)) return true;
    return false;
  }

  private int gives(Part p) {
    return p.kind == 0 ? p.yards : p.kind == 1 ? p.yards - 1 : p.kind == 2 ? 0 : (int) Math.floor(p.yards / 2.0);
  }

  /** The state behind a week, or null if the week is not lawful; only some parts may be moved. */
  private State behind(State s, int go, int come, int movable) {
    int taken = 0, given = 0, yards = 0;
    for (int i = 0; i < parts.size(); i++) {
      Part p = parts.get(i);
      if ((has(go, i) || has(come, i)) && !has(movable, i)) return null;
      if (has(go, i) || has(come, i)) yards += p.yards;
      if (has(go, i)) { given += gives(p); taken += p.kind == 2 ? p.yards : 0; }
      if (has(come, i) && p.kind == 2) given += p.yards;
      if (has(come, i) && p.kind != 2) taken += p.yards;
    }
    int after = s.set - go + come;
    if (taken > s.free + given || yards > work || !firm(after)) return null;
    for (int who : people) {
      boolean dry = false;
      for (int i = 0; i < 8; i++) dry |= has(who, i) && has(s.set, i) && has(after, i);
      if (!dry) return null;
    }
    return new State(after, Math.min(999, s.free + given - taken));
  }

  int may(int go, int come) {
    if (badWeek(stand, go, come)) return BAD;
    return behind(new State(stand, free), go, come, 255) != null ? 1 : 0;
  }

  int week(int go, int come) {
    if (badWeek(stand, go, come)) return BAD;
    State s = behind(new State(stand, free), go, come, 255);
    if (s == null) return NOT;
    stand = s.set;
    free = s.free;
    return free;
  }

  private List<State> steps(State s, int movable, Map<State, List<State>> known) {
    List<State> old = known.get(s);
    if (old != null) return old;
    List<State> all = new ArrayList<>();
    for (int to = 0; to < 1 << parts.size(); to++) {
      State b = behind(s, s.set & ~to, to & ~s.set, movable);
      if (b != null) all.add(b);
    }
    known.put(s, all);
    return all;
  }

  private final Map<String, List<Integer>> ways = new HashMap<>();

  private List<Integer> way(int startFree, int movable) {
    String all = parts + " " + people + " " + stand + " " + work + " " + want + " " + startFree + " " + movable;
    if (!ways.containsKey(all)) ways.put(all, walk(startFree, movable));
    return ways.get(all);
  }

  /** The first of the shortest rows of sets, or null: level by level through all states, then back from the end. */
  private List<Integer> walk(int startFree, int movable) {
    Map<State, List<State>> known = new HashMap<>();
    List<Set<State>> levels = new ArrayList<>();
    Set<State> seen = new HashSet<>(), level = new HashSet<>();
    level.add(new State(stand, startFree));
    seen.addAll(level);
    boolean found = stand == want;
    while (!found && !level.isEmpty()) {
      levels.add(level);
      Set<State> next = new HashSet<>();
      for (State s : level) for (State b : steps(s, movable, known)) if (seen.add(b)) next.add(b);
      for (State s : next) found |= s.set == want;
      level = next;
    }
    if (!found) return null;
    List<Set<State>> good = new ArrayList<>();
    Set<State> ends = new HashSet<>();
    for (State s : level) if (s.set == want) ends.add(s);
    good.add(ends);
    for (int k = levels.size() - 1; k >= 0; k--) {
      Set<State> before = new HashSet<>();
      for (State s : levels.get(k)) for (State b : steps(s, movable, known)) if (good.get(0).contains(b)) before.add(s);
      good.add(0, before);
    }
    List<Integer> row = new ArrayList<>();
    State s = new State(stand, startFree);
    for (int k = 1; k < good.size(); k++) {
      State first = null;
      for (State b : steps(s, movable, known))
        if (good.get(k).contains(b) && (first == null || b.set < first.set)) first = b;
      s = first;
      row.add(s.set);
    }
    return row;
  }

  int can(int i) {
    if (i < -1 || i > 255) return BAD;
    List<Integer> row = way(free, 255);
    if (row == null || i >= row.size()) return NONE;
    return i == -1 ? row.size() : row.get(i);
  }

  int more() {
    for (int m = 0; free + m <= 999; m++) if (way(free + m, 255) != null) return m;
    return NONE;
  }

  /** Whether a number is MORE: with it the town can be had, with one less it can't. */
  boolean isMore(int m) {
    if (m == NONE) return way(999, 255) == null;
    return m >= 0 && free + m <= 999 && way(free + m, 255) != null && (m == 0 || way(free + m - 1, 255) == null);
  }

  /** Along the places: what is carried over from each to the next one (below 0: owed), by how much in all at least. */
  int carry(int go, int come) {
    if (badWeek(stand, go, come)) return BAD;
    int[] lie = new int[100], lack = new int[100];
    int need = 0;
    lie[0] = free;
    for (int i = 0; i < parts.size(); i++) {
      Part p = parts.get(i);
      if (has(go, i)) lie[p.place] += gives(p);
      if (has(come, i) && p.kind != 2) { lack[p.place] += p.yards; need += p.yards; }
    }
    if (Arrays.stream(lie).sum() < need) return NONE;
    long far = Long.MAX_VALUE / 2;
    long[] cost = new long[2 * need + 1];
    Arrays.fill(cost, far);
    cost[need] = 0;
    for (int place = 0; place < 100; place++) {
      long[] next = new long[2 * need + 1];
      Arrays.fill(next, far);
      for (int b = -need; b <= need; b++)
        for (int used = 0; used <= lie[place] && cost[b + need] < far; used++) {
          int c = b + used - lack[place];
          if (c > need || c < -need) continue;
          next[c + need] = Math.min(next[c + need], cost[b + need] + Math.abs(c));
        }
      cost = next;
    }
    return (int) cost[need];
  }

  int build(int builder, int n) {
    if (builder < 0 || builder > 3 || n < 1 || n > 60) return BAD;
    List<Integer> order = new ArrayList<>();
    for (int i = 0; i < parts.size(); i++) order.add(i);
    if (builder < 2) order.sort((a, b) -> Integer.compare(parts.get(a).yards * 10 + a, parts.get(b).yards * 10 + b));
    if (builder % 2 == 1) Collections.reverse(order);
    int done = 0;
    while (done < n) {
      List<int[]> tries = new ArrayList<>();
      List<Integer> down = new ArrayList<>(), up = new ArrayList<>();
      for (int i : order) if (has(stand, i) && !has(want, i)) down.add(i);
      for (int i : order) if (!has(stand, i) && has(want, i)) up.add(i);
      for (int a : down) for (int b : up) tries.add(new int[] {1 << a, 1 << b});
      for (int a : down) tries.add(new int[] {1 << a, 0});
      for (int b : up) tries.add(new int[] {0, 1 << b});
      boolean did = false;
      for (int[] t : tries) if (!did && week(t[0], t[1]) >= 0) did = true;
      if (!did) break;
      done++;
    }
    return done;
  }

  int worth(int owner, int part) {
    if (owner < 0 || owner > 3 || part < 0 || part > 1) return BAD;
    Map<Integer, Boolean> can = new HashMap<>();
    int turned = 0;
    for (int code = 0; code < 256; code++) {
      int[] order = {code & 3, code >> 2 & 3, code >> 4 & 3, code >> 6};
      if (Arrays.stream(order).distinct().count() < 4) continue;
      int come = 0;
      for (int o : order) {
        boolean ahead = can.computeIfAbsent(come, this::canBy);
        come |= 1 << o;
        boolean now = can.computeIfAbsent(come, this::canBy);
        if (o == owner && now && !ahead) turned++;
      }
    }
    int below = 24;
    for (int p : new int[] {2, 2, 2, 3}) if (turned % p == 0 && below % p == 0) { turned /= p; below /= p; }
    return part == 0 ? turned : below;
  }

  private boolean canBy(int owners) {
    int movable = 0;
    for (int i = 0; i < parts.size(); i++) if (has(owners, parts.get(i).owner)) movable |= 1 << i;
    return way(free, movable) != null;
  }

  int image() {
    kept = new Kept(new ArrayList<>(parts), new ArrayList<>(people), stand, free, work, want);
    return 1;
  }

  int restore() {
    if (kept == null) return NONE;
    parts = new ArrayList<>(kept.parts);
    people = new ArrayList<>(kept.people);
    stand = kept.stand;
    free = kept.free;
    work = kept.work;
    want = kept.want;
    return 1;
  }

  /** What the machine finds when a sheet is taken as a row of a lane and a run of items is looked at. */
  private static int found(Object sheet, int lane, int from, int n) {
    try {
      int size;
      if (sheet == null) throw new NullPointerException();
      if (lane == 0) size = ((short[]) sheet).length;
      else if (lane == 1) size = ((int[]) sheet).length;
      else size = ((long[]) sheet).length;
      java.util.Objects.checkFromIndexSize(from, n, size);
      return 0;
    } catch (NullPointerException e) {
      return NULL;
    } catch (ClassCastException e) {
      return CAST;
    } catch (IndexOutOfBoundsException e) {
      return INDEX;
    }
  }

  private static boolean named(int sheet, int lane) {
    return sheet >= 0 && sheet < 4 && lane >= 0 && lane < 3;
  }

  private int firstWrong(int sheet, int from, int n, int skip, int[] stood) {
    State s = new State(stand, free);
    for (int i = 0; i < n; i++) {
      if (i == skip) continue;
      long go = ((Number) java.lang.reflect.Array.get(sheets[sheet], from + 2 * i)).longValue();
      long come = ((Number) java.lang.reflect.Array.get(sheets[sheet], from + 2 * i + 1)).longValue();
      if (badWeek(s.set, go, come)) return i;
      s = behind(s, (int) go, (int) come, 255);
      if (s == null) return i;
    }
    stood[0] = s.set;
    return n;
  }

  int judged(int sheet, int lane, int from, int n) {
    if (!named(sheet, lane) || n < 1 || n > 8) return BAD;
    int f = found(sheets[sheet], lane, from, 2 * n);
    if (f != 0) return f;
    int first = firstWrong(sheet, from, n, -1, new int[1]);
    return first == n ? NONE : first;
  }

  int wrong(int sheet, int lane, int from, int n, int stood) {
    if (!named(sheet, lane) || n < 1 || n > 8 || bad(stood)) return BAD;
    int f = found(sheets[sheet], lane, from, 2 * n);
    if (f != 0) return f;
    int lines = 0;
    for (int i = 0; i < n; i++) {
      int[] end = new int[1];
      if (firstWrong(sheet, from, n, i, end) == n && end[0] == stood) lines += 1 << i;
    }
    return lines;
  }

  int sheet(int sheet, int lane, int n) {
    if (!named(sheet, lane) || n > 24) return BAD;
    try {
      sheets[sheet] = lane == 0 ? new short[n] : lane == 1 ? new int[n] : new long[n];
    } catch (NegativeArraySizeException e) {
      return SIZE;
    }
    return n;
  }

  int drop(int sheet) {
    if (!named(sheet, 0)) return BAD;
    if (sheets[sheet] == null) return NULL;
    int had = java.lang.reflect.Array.getLength(sheets[sheet]);
    sheets[sheet] = null;
    return had;
  }

  private void put(int sheet, int lane, int i, long v) {
    if (lane == 0) ((short[]) sheets[sheet])[i] = (short) v;
    if (lane == 1) ((int[]) sheets[sheet])[i] = (int) v;
    if (lane == 2) ((long[]) sheets[sheet])[i] = v;
  }

  int item(int sheet, int lane, int i, long v) {
    if (!named(sheet, lane)) return BAD;
    int f = found(sheets[sheet], lane, i, 1);
    if (f != 0) return f;
    put(sheet, lane, i, v);
    return 1;
  }

  int film(int sheet, int lane, int from) {
    if (!named(sheet, lane)) return BAD;
    List<Integer> row = way(free, 255);
    if (row == null) return NONE;
    int f = found(sheets[sheet], lane, from, row.size());
    if (f != 0) return f;
    for (int i = 0; i < row.size(); i++) put(sheet, lane, from + i, row.get(i));
    return row.size();
  }

  int copy(int from, int i, int to, int j, int n) {
    if (!named(from, 0) || !named(to, 0)) return BAD;
    try {
      System.arraycopy(sheets[from], i, sheets[to], j, n);
    } catch (NullPointerException e) {
      return NULL;
    } catch (ArrayStoreException e) {
      return CAST;
    } catch (IndexOutOfBoundsException e) {
      return INDEX;
    }
    return n;
  }
}
